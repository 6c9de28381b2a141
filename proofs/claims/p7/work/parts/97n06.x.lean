/-! calls of one state -/
theorem xs_x31 {M : nt_M} {p : Nat → Nat} (hp : xs_P M p) : xs_X p (fun i => p (31 + i)) := fun i j hi hj => hp.2.1 (31 + i) j (by omega) (by omega) (by omega)
theorem xs_x48 {M : nt_M} {p : Nat → Nat} (hp : xs_P M p) : xs_X p (fun i => p (48 + i)) := fun i j hi hj => hp.2.1 (48 + i) j (by omega) (by omega) (by omega)
/-! Model.in -/
def x145 (v0 : Int64) (v2 : Int64) (v4 : Int64) : Int32 := if (lg_cmp v0 v2) < 0 then (Int32.ofInt 0)
  else if 0 < (lg_cmp v0 v4) then (Int32.ofInt 0)
    else (Int32.ofInt 1)
theorem xt145 {X : nt_X} {d : Nat} {M : nt_M} {o : Option Value × nt_M} {v0 : Int64} {v2 : Int64} {v4 : Int64} {J : Nat → Nat → Int32}  (k : nt_ev X d 145 [.long v0, .long v2, .long v4] (me_w M J) o) : o = (some (.int (x145 v0 v2 v4)), me_w M J) := by
  have k : nt_rn X d 145 (0, [(0, .long v0), (2, .long v2), (4, .long v4)], [], me_w M J) o := k
  have k := ly_revb 4 (c' := (if (lg_cmp v0 v2) < 0 then 17 else 6, [(0, .long v0), (2, .long v2), (4, .long v4)], [], me_w M J)) rfl k
  by_cases h3 : (lg_cmp v0 v2) < 0
  · rw [if_pos h3] at k
    have k := ly_revb 1 (c' := (18, [(0, .long v0), (2, .long v2), (4, .long v4)], [.int (Int32.ofInt 0)], me_w M J)) rfl k
    have k := lz_ri rfl (by decide) k
    rw [k, x145, if_pos h3]
  · rw [if_neg h3] at k
    have k := ly_revb 4 (c' := (if 0 < (lg_cmp v0 v4) then 17 else 13, [(0, .long v0), (2, .long v2), (4, .long v4)], [], me_w M J)) rfl k
    by_cases h10 : 0 < (lg_cmp v0 v4)
    · rw [if_pos h10] at k
      have k := ly_revb 1 (c' := (18, [(0, .long v0), (2, .long v2), (4, .long v4)], [.int (Int32.ofInt 0)], me_w M J)) rfl k
      have k := lz_ri rfl (by decide) k
      rw [k, x145, if_neg h3, if_pos h10]
    · rw [if_neg h10] at k
      have k := ly_revb 2 (c' := (18, [(0, .long v0), (2, .long v2), (4, .long v4)], [.int (Int32.ofInt 1)], me_w M J)) rfl k
      have k := lz_ri rfl (by decide) k
      rw [k, x145, if_neg h3, if_neg h10]
/-! Model.isPlank -/
def x177 (p : Nat → Nat) (v1 : Int32) (J : Nat → Nat → Int32) : Int32 := if v1 < 0 then (Int32.ofInt 0)
  else if (J (p 4) 2) ≤ v1 then (Int32.ofInt 0)
    else (Int32.ofInt 1)
theorem xt177 {X : nt_X} {d : Nat} {M : nt_M} {o : Option Value × nt_M} {p : Nat → Nat} {v1 : Int32} {J : Nat → Nat → Int32} (hp : xs_P M p) (k : nt_ev X d 177 [.ref (p 0), .int v1] (me_w M J) o) : o = (some (.int (x177 p v1 J)), me_w M J) := by
  have k : nt_rn X d 177 (0, [(0, .ref (p 0)), (1, .int v1)], [], me_w M J) o := k
  have k := ly_revb 2 (c' := (if v1 < 0 then 18 else 4, [(0, .ref (p 0)), (1, .int v1)], [], me_w M J)) rfl k
  by_cases h1 : v1 < 0
  · rw [if_pos h1] at k
    have k := ly_revb 1 (c' := (19, [(0, .ref (p 0)), (1, .int v1)], [.int (Int32.ofInt 0)], me_w M J)) rfl k
    have k := lz_ri rfl (by decide) k
    rw [k, x177, if_pos h1]
  · rw [if_neg h1] at k
    have k := ly_revb 2 (c' := (6, [(0, .ref (p 0)), (1, .int v1)], [.ref (p 0), .int v1], me_w M J)) rfl k
    have k := lz_get (a := (p 0)) (g := 1127) (M := me_w M J) (v := .ref (p 4)) rfl (nt_gfR rfl (hp.1 (0, 27, 4) (by decide))) k
    have k := ly_revb 1 (c' := (10, [(0, .ref (p 0)), (1, .int v1)], [.int (Int32.ofInt 2), .ref (p 4), .int v1], me_w M J)) rfl k
    have k := mx_iald (v := J (p 4) 2) rfl (hp.2.2.1 4 (by omega)) ((congrArg (J (p 4)) (show (Int32.ofInt 2).toNatClampNeg = 2 from rfl)).trans (rfl)) k
    have k := ly_revb 1 (c' := (if (J (p 4) 2) ≤ v1 then 18 else 14, [(0, .ref (p 0)), (1, .int v1)], [], me_w M J)) rfl k
    by_cases h11 : (J (p 4) 2) ≤ v1
    · rw [if_pos h11] at k
      have k := ly_revb 1 (c' := (19, [(0, .ref (p 0)), (1, .int v1)], [.int (Int32.ofInt 0)], me_w M J)) rfl k
      have k := lz_ri rfl (by decide) k
      rw [k, x177, if_neg h1, if_pos h11]
    · rw [if_neg h11] at k
      have k := ly_revb 2 (c' := (19, [(0, .ref (p 0)), (1, .int v1)], [.int (Int32.ofInt 1)], me_w M J)) rfl k
      have k := lz_ri rfl (by decide) k
      rw [k, x177, if_neg h1, if_neg h11]
/-! Model.isVoyage -/
def x179 (p : Nat → Nat) (v1 : Int32) (J : Nat → Nat → Int32) : Int32 := if v1 < 0 then (Int32.ofInt 0)
  else if (J (p 4) 3) ≤ v1 then (Int32.ofInt 0)
    else (Int32.ofInt 1)
theorem xt179 {X : nt_X} {d : Nat} {M : nt_M} {o : Option Value × nt_M} {p : Nat → Nat} {v1 : Int32} {J : Nat → Nat → Int32} (hp : xs_P M p) (k : nt_ev X d 179 [.ref (p 0), .int v1] (me_w M J) o) : o = (some (.int (x179 p v1 J)), me_w M J) := by
  have k : nt_rn X d 179 (0, [(0, .ref (p 0)), (1, .int v1)], [], me_w M J) o := k
  have k := ly_revb 2 (c' := (if v1 < 0 then 18 else 4, [(0, .ref (p 0)), (1, .int v1)], [], me_w M J)) rfl k
  by_cases h1 : v1 < 0
  · rw [if_pos h1] at k
    have k := ly_revb 1 (c' := (19, [(0, .ref (p 0)), (1, .int v1)], [.int (Int32.ofInt 0)], me_w M J)) rfl k
    have k := lz_ri rfl (by decide) k
    rw [k, x179, if_pos h1]
  · rw [if_neg h1] at k
    have k := ly_revb 2 (c' := (6, [(0, .ref (p 0)), (1, .int v1)], [.ref (p 0), .int v1], me_w M J)) rfl k
    have k := lz_get (a := (p 0)) (g := 1127) (M := me_w M J) (v := .ref (p 4)) rfl (nt_gfR rfl (hp.1 (0, 27, 4) (by decide))) k
    have k := ly_revb 1 (c' := (10, [(0, .ref (p 0)), (1, .int v1)], [.int (Int32.ofInt 3), .ref (p 4), .int v1], me_w M J)) rfl k
    have k := mx_iald (v := J (p 4) 3) rfl (hp.2.2.1 4 (by omega)) ((congrArg (J (p 4)) (show (Int32.ofInt 3).toNatClampNeg = 3 from rfl)).trans (rfl)) k
    have k := ly_revb 1 (c' := (if (J (p 4) 3) ≤ v1 then 18 else 14, [(0, .ref (p 0)), (1, .int v1)], [], me_w M J)) rfl k
    by_cases h11 : (J (p 4) 3) ≤ v1
    · rw [if_pos h11] at k
      have k := ly_revb 1 (c' := (19, [(0, .ref (p 0)), (1, .int v1)], [.int (Int32.ofInt 0)], me_w M J)) rfl k
      have k := lz_ri rfl (by decide) k
      rw [k, x179, if_neg h1, if_pos h11]
    · rw [if_neg h11] at k
      have k := ly_revb 2 (c' := (19, [(0, .ref (p 0)), (1, .int v1)], [.int (Int32.ofInt 1)], me_w M J)) rfl k
      have k := lz_ri rfl (by decide) k
      rw [k, x179, if_neg h1, if_neg h11]
/-! Model.isShip -/
def x168 (p : Nat → Nat) (v1 : Int32) (J : Nat → Nat → Int32) : Int32 := if v1 < 0 then (Int32.ofInt 0)
  else if (J (p 4) 1) ≤ v1 then (Int32.ofInt 0)
    else (Int32.ofInt 1)
theorem xt168 {X : nt_X} {d : Nat} {M : nt_M} {o : Option Value × nt_M} {p : Nat → Nat} {v1 : Int32} {J : Nat → Nat → Int32} (hp : xs_P M p) (k : nt_ev X d 168 [.ref (p 0), .int v1] (me_w M J) o) : o = (some (.int (x168 p v1 J)), me_w M J) := by
  have k : nt_rn X d 168 (0, [(0, .ref (p 0)), (1, .int v1)], [], me_w M J) o := k
  have k := ly_revb 2 (c' := (if v1 < 0 then 18 else 4, [(0, .ref (p 0)), (1, .int v1)], [], me_w M J)) rfl k
  by_cases h1 : v1 < 0
  · rw [if_pos h1] at k
    have k := ly_revb 1 (c' := (19, [(0, .ref (p 0)), (1, .int v1)], [.int (Int32.ofInt 0)], me_w M J)) rfl k
    have k := lz_ri rfl (by decide) k
    rw [k, x168, if_pos h1]
  · rw [if_neg h1] at k
    have k := ly_revb 2 (c' := (6, [(0, .ref (p 0)), (1, .int v1)], [.ref (p 0), .int v1], me_w M J)) rfl k
    have k := lz_get (a := (p 0)) (g := 1127) (M := me_w M J) (v := .ref (p 4)) rfl (nt_gfR rfl (hp.1 (0, 27, 4) (by decide))) k
    have k := ly_revb 1 (c' := (10, [(0, .ref (p 0)), (1, .int v1)], [.int (Int32.ofInt 1), .ref (p 4), .int v1], me_w M J)) rfl k
    have k := mx_iald (v := J (p 4) 1) rfl (hp.2.2.1 4 (by omega)) ((congrArg (J (p 4)) (show (Int32.ofInt 1).toNatClampNeg = 1 from rfl)).trans (rfl)) k
    have k := ly_revb 1 (c' := (if (J (p 4) 1) ≤ v1 then 18 else 14, [(0, .ref (p 0)), (1, .int v1)], [], me_w M J)) rfl k
    by_cases h11 : (J (p 4) 1) ≤ v1
    · rw [if_pos h11] at k
      have k := ly_revb 1 (c' := (19, [(0, .ref (p 0)), (1, .int v1)], [.int (Int32.ofInt 0)], me_w M J)) rfl k
      have k := lz_ri rfl (by decide) k
      rw [k, x168, if_neg h1, if_pos h11]
    · rw [if_neg h11] at k
      have k := ly_revb 2 (c' := (19, [(0, .ref (p 0)), (1, .int v1)], [.int (Int32.ofInt 1)], me_w M J)) rfl k
      have k := lz_ri rfl (by decide) k
      rw [k, x168, if_neg h1, if_neg h11]
/-! Model.plank -/
def x176 (p : Nat → Nat) (v1 : Int32) (v2 : Int32) (J : Nat → Nat → Int32) : Int32 := if (x177 p v1 J) = 0 then (Int32.ofInt (-2))
  else if (x145 v2.toInt64 (Int64.ofNat 0) 4) = 0 then (Int32.ofInt (-2))
    else (x173 p v1 v2 J)
theorem xt176 {X : nt_X} {d : Nat} {M : nt_M} {o : Option Value × nt_M} {p : Nat → Nat} {v1 : Int32} {v2 : Int32} {J : Nat → Nat → Int32} (hp : xs_P M p) (k : nt_ev X d 176 [.ref (p 0), .int v1, .int v2] (me_w M J) o) : o = (some (.int (x176 p v1 v2 J)), me_w M J) := by
  have k : nt_rn X d 176 (0, [(0, .ref (p 0)), (1, .int v1), (2, .int v2)], [], me_w M J) o := k
  have k := ly_revb 2 (c' := (2, [(0, .ref (p 0)), (1, .int v1), (2, .int v2)], [.int v1, .ref (p 0)], me_w M J)) rfl k
  obtain ⟨d1, o1, ed, kc, k⟩ := lz_c (g := 177) (q := 1) (vs := [.ref (p 0), .int v1]) (rest := []) rfl rfl (by decide) (Or.inr (Or.inl ⟨_, rfl, rfl⟩)) rfl k
  have e1 := xt177 hp kc
  subst e1
  have k : nt_rn X _ 176 (5, [(0, .ref (p 0)), (1, .int v1), (2, .int v2)], [.int (x177 p v1 J)], me_w M J) _ := k
  have k := ly_revb 1 (c' := (if (x177 p v1 J) = 0 then 29 else 8, [(0, .ref (p 0)), (1, .int v1), (2, .int v2)], [], me_w M J)) rfl k
  by_cases h5 : (x177 p v1 J) = 0
  · rw [if_pos h5] at k
    have k := ly_revb 1 (c' := (31, [(0, .ref (p 0)), (1, .int v1), (2, .int v2)], [.int (Int32.ofInt (-2))], me_w M J)) rfl k
    have k := lz_ri rfl (by decide) k
    rw [k, x176, if_pos h5]
  · rw [if_neg h5] at k
    have k := ly_revb 4 (c' := (14, [(0, .ref (p 0)), (1, .int v1), (2, .int v2)], [.long 4, .long (Int64.ofNat 0), .long v2.toInt64], me_w M J)) rfl k
    obtain ⟨d1, o1, ed, kc, k⟩ := lz_c (g := 145) (q := 0) (vs := [.long v2.toInt64, .long (Int64.ofNat 0), .long 4]) (rest := []) rfl rfl (by decide) (Or.inl ⟨_, rfl, rfl⟩) rfl k
    have e1 := xt145  kc
    subst e1
    have k : nt_rn X _ 176 (17, [(0, .ref (p 0)), (1, .int v1), (2, .int v2)], [.int (x145 v2.toInt64 (Int64.ofNat 0) 4)], me_w M J) _ := k
    have k := ly_revb 1 (c' := (if (x145 v2.toInt64 (Int64.ofNat 0) 4) = 0 then 29 else 20, [(0, .ref (p 0)), (1, .int v1), (2, .int v2)], [], me_w M J)) rfl k
    by_cases h17 : (x145 v2.toInt64 (Int64.ofNat 0) 4) = 0
    · rw [if_pos h17] at k
      have k := ly_revb 1 (c' := (31, [(0, .ref (p 0)), (1, .int v1), (2, .int v2)], [.int (Int32.ofInt (-2))], me_w M J)) rfl k
      have k := lz_ri rfl (by decide) k
      rw [k, x176, if_neg h5, if_pos h17]
    · rw [if_neg h17] at k
      have k := ly_revb 3 (c' := (23, [(0, .ref (p 0)), (1, .int v1), (2, .int v2)], [.int v2, .int v1, .ref (p 0)], me_w M J)) rfl k
      obtain ⟨d1, o1, ed, kc, k⟩ := lz_c (g := 173) (q := 1) (vs := [.ref (p 0), .int v1, .int v2]) (rest := []) rfl rfl (by decide) (Or.inr (Or.inl ⟨_, rfl, rfl⟩)) rfl k
      have e1 := xt173 hp kc
      subst e1
      have k : nt_rn X _ 176 (26, [(0, .ref (p 0)), (1, .int v1), (2, .int v2)], [.int (x173 p v1 v2 J)], me_w M J) _ := k
      have k := ly_revb 1 (c' := (31, [(0, .ref (p 0)), (1, .int v1), (2, .int v2)], [.int (x173 p v1 v2 J)], me_w M J)) rfl k
      have k := lz_ri rfl (by decide) k
      rw [k, x176, if_neg h5, if_neg h17]
/-! Model.voyage -/
def x178 (p : Nat → Nat) (v1 : Int32) (v2 : Int32) (J : Nat → Nat → Int32) : Int32 := if (x179 p v1 J) = 0 then (Int32.ofInt (-1))
  else if (x145 v2.toInt64 (Int64.ofNat 0) 4) = 0 then (Int32.ofInt (-1))
    else (x180 p v1 v2 J)
theorem xt178 {X : nt_X} {d : Nat} {M : nt_M} {o : Option Value × nt_M} {p : Nat → Nat} {v1 : Int32} {v2 : Int32} {J : Nat → Nat → Int32} (hp : xs_P M p) (k : nt_ev X d 178 [.ref (p 0), .int v1, .int v2] (me_w M J) o) : o = (some (.int (x178 p v1 v2 J)), me_w M J) := by
  have k : nt_rn X d 178 (0, [(0, .ref (p 0)), (1, .int v1), (2, .int v2)], [], me_w M J) o := k
  have k := ly_revb 2 (c' := (2, [(0, .ref (p 0)), (1, .int v1), (2, .int v2)], [.int v1, .ref (p 0)], me_w M J)) rfl k
  obtain ⟨d1, o1, ed, kc, k⟩ := lz_c (g := 179) (q := 1) (vs := [.ref (p 0), .int v1]) (rest := []) rfl rfl (by decide) (Or.inr (Or.inl ⟨_, rfl, rfl⟩)) rfl k
  have e1 := xt179 hp kc
  subst e1
  have k : nt_rn X _ 178 (5, [(0, .ref (p 0)), (1, .int v1), (2, .int v2)], [.int (x179 p v1 J)], me_w M J) _ := k
  have k := ly_revb 1 (c' := (if (x179 p v1 J) = 0 then 29 else 8, [(0, .ref (p 0)), (1, .int v1), (2, .int v2)], [], me_w M J)) rfl k
  by_cases h5 : (x179 p v1 J) = 0
  · rw [if_pos h5] at k
    have k := ly_revb 1 (c' := (30, [(0, .ref (p 0)), (1, .int v1), (2, .int v2)], [.int (Int32.ofInt (-1))], me_w M J)) rfl k
    have k := lz_ri rfl (by decide) k
    rw [k, x178, if_pos h5]
  · rw [if_neg h5] at k
    have k := ly_revb 4 (c' := (14, [(0, .ref (p 0)), (1, .int v1), (2, .int v2)], [.long 4, .long (Int64.ofNat 0), .long v2.toInt64], me_w M J)) rfl k
    obtain ⟨d1, o1, ed, kc, k⟩ := lz_c (g := 145) (q := 0) (vs := [.long v2.toInt64, .long (Int64.ofNat 0), .long 4]) (rest := []) rfl rfl (by decide) (Or.inl ⟨_, rfl, rfl⟩) rfl k
    have e1 := xt145  kc
    subst e1
    have k : nt_rn X _ 178 (17, [(0, .ref (p 0)), (1, .int v1), (2, .int v2)], [.int (x145 v2.toInt64 (Int64.ofNat 0) 4)], me_w M J) _ := k
    have k := ly_revb 1 (c' := (if (x145 v2.toInt64 (Int64.ofNat 0) 4) = 0 then 29 else 20, [(0, .ref (p 0)), (1, .int v1), (2, .int v2)], [], me_w M J)) rfl k
    by_cases h17 : (x145 v2.toInt64 (Int64.ofNat 0) 4) = 0
    · rw [if_pos h17] at k
      have k := ly_revb 1 (c' := (30, [(0, .ref (p 0)), (1, .int v1), (2, .int v2)], [.int (Int32.ofInt (-1))], me_w M J)) rfl k
      have k := lz_ri rfl (by decide) k
      rw [k, x178, if_neg h5, if_pos h17]
    · rw [if_neg h17] at k
      have k := ly_revb 3 (c' := (23, [(0, .ref (p 0)), (1, .int v1), (2, .int v2)], [.int v2, .int v1, .ref (p 0)], me_w M J)) rfl k
      obtain ⟨d1, o1, ed, kc, k⟩ := lz_c (g := 180) (q := 1) (vs := [.ref (p 0), .int v1, .int v2]) (rest := []) rfl rfl (by decide) (Or.inr (Or.inl ⟨_, rfl, rfl⟩)) rfl k
      have e1 := xt180 hp kc
      subst e1
      have k : nt_rn X _ 178 (26, [(0, .ref (p 0)), (1, .int v1), (2, .int v2)], [.int (x180 p v1 v2 J)], me_w M J) _ := k
      have k := ly_revb 1 (c' := (30, [(0, .ref (p 0)), (1, .int v1), (2, .int v2)], [.int (x180 p v1 v2 J)], me_w M J)) rfl k
      have k := lz_ri rfl (by decide) k
      rw [k, x178, if_neg h5, if_neg h17]
/-! Model.move -/
def x181 (p : Nat → Nat) (v1 : Int32) (v2 : Int32) (J : Nat → Nat → Int32) : Int32 × (Nat → Nat → Int32) := if (x177 p v1 J) = 0 then (Int32.ofInt 0, J)
  else if v2 = (Int32.ofInt (-1)) then if (x183 p v1 J) = 0 then (Int32.ofInt 0, J)
      else if (x173 p v1 (Int32.ofInt 3) J) = v2 then (Int32.ofInt 0, J)
        else if (x184 p J) = 0 then (Int32.ofInt 0, J)
          else (Int32.ofInt 1, x185 p v1 v2 J)
    else if (x168 p v2 J) = 0 then (Int32.ofInt 0, J)
      else if (x182 p v2 J) = 0 then (Int32.ofInt 0, J)
        else if (x183 p v1 J) = 0 then (Int32.ofInt 0, J)
          else if (x173 p v1 (Int32.ofInt 3) J) = v2 then (Int32.ofInt 0, J)
            else if (x184 p J) = 0 then (Int32.ofInt 0, J)
              else (Int32.ofInt 1, x185 p v1 v2 J)
theorem xt181 {X : nt_X} {d : Nat} {M : nt_M} {o : Option Value × nt_M} {p : Nat → Nat} {v1 : Int32} {v2 : Int32} {J : Nat → Nat → Int32} (hp : xs_P M p) (k : nt_ev X d 181 [.ref (p 0), .int v1, .int v2] (me_w M J) o) : o = (some (.int ((x181 p v1 v2 J).1)), me_w M ((x181 p v1 v2 J).2)) := by
  have k : nt_rn X d 181 (0, [(0, .ref (p 0)), (1, .int v1), (2, .int v2)], [], me_w M J) o := k
  have k := ly_revb 2 (c' := (2, [(0, .ref (p 0)), (1, .int v1), (2, .int v2)], [.int v1, .ref (p 0)], me_w M J)) rfl k
  obtain ⟨d1, o1, ed, kc, k⟩ := lz_c (g := 177) (q := 1) (vs := [.ref (p 0), .int v1]) (rest := []) rfl rfl (by decide) (Or.inr (Or.inl ⟨_, rfl, rfl⟩)) rfl k
  have e1 := xt177 hp kc
  subst e1
  have k : nt_rn X _ 181 (5, [(0, .ref (p 0)), (1, .int v1), (2, .int v2)], [.int (x177 p v1 J)], me_w M J) _ := k
  have k := ly_revb 1 (c' := (if (x177 p v1 J) = 0 then 54 else 8, [(0, .ref (p 0)), (1, .int v1), (2, .int v2)], [], me_w M J)) rfl k
  by_cases h5 : (x177 p v1 J) = 0
  · rw [if_pos h5] at k
    have k := ly_revb 1 (c' := (55, [(0, .ref (p 0)), (1, .int v1), (2, .int v2)], [.int (Int32.ofInt 0)], me_w M J)) rfl k
    have k := lz_ri rfl (by decide) k
    rw [k, x181, if_pos h5]
  · rw [if_neg h5] at k
    have k := ly_revb 3 (c' := (if v2 = (Int32.ofInt (-1)) then 29 else 13, [(0, .ref (p 0)), (1, .int v1), (2, .int v2)], [], me_w M J)) rfl k
    by_cases h10 : v2 = (Int32.ofInt (-1))
    · rw [if_pos h10] at k
      have k := ly_revb 2 (c' := (31, [(0, .ref (p 0)), (1, .int v1), (2, .int v2)], [.int v1, .ref (p 0)], me_w M J)) rfl k
      obtain ⟨d1, o1, ed, kc, k⟩ := lz_c (g := 183) (q := 1) (vs := [.ref (p 0), .int v1]) (rest := []) rfl rfl (by decide) (Or.inr (Or.inl ⟨_, rfl, rfl⟩)) rfl k
      have e1 := xt183 hp kc
      subst e1
      have k : nt_rn X _ 181 (34, [(0, .ref (p 0)), (1, .int v1), (2, .int v2)], [.int (x183 p v1 J)], me_w M J) _ := k
      have k := ly_revb 1 (c' := (if (x183 p v1 J) = 0 then 54 else 37, [(0, .ref (p 0)), (1, .int v1), (2, .int v2)], [], me_w M J)) rfl k
      by_cases h34 : (x183 p v1 J) = 0
      · rw [if_pos h34] at k
        have k := ly_revb 1 (c' := (55, [(0, .ref (p 0)), (1, .int v1), (2, .int v2)], [.int (Int32.ofInt 0)], me_w M J)) rfl k
        have k := lz_ri rfl (by decide) k
        rw [k, x181, if_neg h5, if_pos h10, if_pos h34]
      · rw [if_neg h34] at k
        have k := ly_revb 3 (c' := (40, [(0, .ref (p 0)), (1, .int v1), (2, .int v2)], [.int (Int32.ofInt 3), .int v1, .ref (p 0)], me_w M J)) rfl k
        obtain ⟨d1, o1, ed, kc, k⟩ := lz_c (g := 173) (q := 1) (vs := [.ref (p 0), .int v1, .int (Int32.ofInt 3)]) (rest := []) rfl rfl (by decide) (Or.inr (Or.inl ⟨_, rfl, rfl⟩)) rfl k
        have e1 := xt173 hp kc
        subst e1
        have k : nt_rn X _ 181 (43, [(0, .ref (p 0)), (1, .int v1), (2, .int v2)], [.int (x173 p v1 (Int32.ofInt 3) J)], me_w M J) _ := k
        have k := ly_revb 2 (c' := (if (x173 p v1 (Int32.ofInt 3) J) = v2 then 54 else 47, [(0, .ref (p 0)), (1, .int v1), (2, .int v2)], [], me_w M J)) rfl k
        by_cases h44 : (x173 p v1 (Int32.ofInt 3) J) = v2
        · rw [if_pos h44] at k
          have k := ly_revb 1 (c' := (55, [(0, .ref (p 0)), (1, .int v1), (2, .int v2)], [.int (Int32.ofInt 0)], me_w M J)) rfl k
          have k := lz_ri rfl (by decide) k
          rw [k, x181, if_neg h5, if_pos h10, if_neg h34, if_pos h44]
        · rw [if_neg h44] at k
          have k := ly_revb 1 (c' := (48, [(0, .ref (p 0)), (1, .int v1), (2, .int v2)], [.ref (p 0)], me_w M J)) rfl k
          obtain ⟨d1, o1, ed, kc, k⟩ := lz_c (g := 184) (q := 1) (vs := [.ref (p 0)]) (rest := []) rfl rfl (by decide) (Or.inr (Or.inl ⟨_, rfl, rfl⟩)) rfl k
          have e1 := xt184 hp kc
          subst e1
          have k : nt_rn X _ 181 (51, [(0, .ref (p 0)), (1, .int v1), (2, .int v2)], [.int (x184 p J)], me_w M J) _ := k
          have k := ly_revb 1 (c' := (if (x184 p J) = 0 then 54 else 56, [(0, .ref (p 0)), (1, .int v1), (2, .int v2)], [], me_w M J)) rfl k
          by_cases h51 : (x184 p J) = 0
          · rw [if_pos h51] at k
            have k := ly_revb 1 (c' := (55, [(0, .ref (p 0)), (1, .int v1), (2, .int v2)], [.int (Int32.ofInt 0)], me_w M J)) rfl k
            have k := lz_ri rfl (by decide) k
            rw [k, x181, if_neg h5, if_pos h10, if_neg h34, if_neg h44, if_pos h51]
          · rw [if_neg h51] at k
            have k := ly_revb 3 (c' := (59, [(0, .ref (p 0)), (1, .int v1), (2, .int v2)], [.int v2, .int v1, .ref (p 0)], me_w M J)) rfl k
            obtain ⟨d1, o1, ed, kc, k⟩ := lz_c (g := 185) (q := 1) (vs := [.ref (p 0), .int v1, .int v2]) (rest := []) rfl rfl (by decide) (Or.inr (Or.inl ⟨_, rfl, rfl⟩)) rfl k
            have e1 := xt185 hp kc
            subst e1
            have k : nt_rn X _ 181 (62, [(0, .ref (p 0)), (1, .int v1), (2, .int v2)], [], me_w M (x185 p v1 v2 J)) _ := k
            have k := ly_revb 1 (c' := (63, [(0, .ref (p 0)), (1, .int v1), (2, .int v2)], [.int (Int32.ofInt 1)], me_w M (x185 p v1 v2 J))) rfl k
            have k := lz_ri rfl (by decide) k
            rw [k, x181, if_neg h5, if_pos h10, if_neg h34, if_neg h44, if_neg h51]
    · rw [if_neg h10] at k
      have k := ly_revb 2 (c' := (15, [(0, .ref (p 0)), (1, .int v1), (2, .int v2)], [.int v2, .ref (p 0)], me_w M J)) rfl k
      obtain ⟨d1, o1, ed, kc, k⟩ := lz_c (g := 168) (q := 1) (vs := [.ref (p 0), .int v2]) (rest := []) rfl rfl (by decide) (Or.inr (Or.inl ⟨_, rfl, rfl⟩)) rfl k
      have e1 := xt168 hp kc
      subst e1
      have k : nt_rn X _ 181 (18, [(0, .ref (p 0)), (1, .int v1), (2, .int v2)], [.int (x168 p v2 J)], me_w M J) _ := k
      have k := ly_revb 1 (c' := (if (x168 p v2 J) = 0 then 54 else 21, [(0, .ref (p 0)), (1, .int v1), (2, .int v2)], [], me_w M J)) rfl k
      by_cases h18 : (x168 p v2 J) = 0
      · rw [if_pos h18] at k
        have k := ly_revb 1 (c' := (55, [(0, .ref (p 0)), (1, .int v1), (2, .int v2)], [.int (Int32.ofInt 0)], me_w M J)) rfl k
        have k := lz_ri rfl (by decide) k
        rw [k, x181, if_neg h5, if_neg h10, if_pos h18]
      · rw [if_neg h18] at k
        have k := ly_revb 2 (c' := (23, [(0, .ref (p 0)), (1, .int v1), (2, .int v2)], [.int v2, .ref (p 0)], me_w M J)) rfl k
        obtain ⟨d1, o1, ed, kc, k⟩ := lz_c (g := 182) (q := 1) (vs := [.ref (p 0), .int v2]) (rest := []) rfl rfl (by decide) (Or.inr (Or.inl ⟨_, rfl, rfl⟩)) rfl k
        have e1 := xt182 hp kc
        subst e1
        have k : nt_rn X _ 181 (26, [(0, .ref (p 0)), (1, .int v1), (2, .int v2)], [.int (x182 p v2 J)], me_w M J) _ := k
        have k := ly_revb 1 (c' := (if (x182 p v2 J) = 0 then 54 else 29, [(0, .ref (p 0)), (1, .int v1), (2, .int v2)], [], me_w M J)) rfl k
        by_cases h26 : (x182 p v2 J) = 0
        · rw [if_pos h26] at k
          have k := ly_revb 1 (c' := (55, [(0, .ref (p 0)), (1, .int v1), (2, .int v2)], [.int (Int32.ofInt 0)], me_w M J)) rfl k
          have k := lz_ri rfl (by decide) k
          rw [k, x181, if_neg h5, if_neg h10, if_neg h18, if_pos h26]
        · rw [if_neg h26] at k
          have k := ly_revb 2 (c' := (31, [(0, .ref (p 0)), (1, .int v1), (2, .int v2)], [.int v1, .ref (p 0)], me_w M J)) rfl k
          obtain ⟨d1, o1, ed, kc, k⟩ := lz_c (g := 183) (q := 1) (vs := [.ref (p 0), .int v1]) (rest := []) rfl rfl (by decide) (Or.inr (Or.inl ⟨_, rfl, rfl⟩)) rfl k
          have e1 := xt183 hp kc
          subst e1
          have k : nt_rn X _ 181 (34, [(0, .ref (p 0)), (1, .int v1), (2, .int v2)], [.int (x183 p v1 J)], me_w M J) _ := k
          have k := ly_revb 1 (c' := (if (x183 p v1 J) = 0 then 54 else 37, [(0, .ref (p 0)), (1, .int v1), (2, .int v2)], [], me_w M J)) rfl k
          by_cases h34 : (x183 p v1 J) = 0
          · rw [if_pos h34] at k
            have k := ly_revb 1 (c' := (55, [(0, .ref (p 0)), (1, .int v1), (2, .int v2)], [.int (Int32.ofInt 0)], me_w M J)) rfl k
            have k := lz_ri rfl (by decide) k
            rw [k, x181, if_neg h5, if_neg h10, if_neg h18, if_neg h26, if_pos h34]
          · rw [if_neg h34] at k
            have k := ly_revb 3 (c' := (40, [(0, .ref (p 0)), (1, .int v1), (2, .int v2)], [.int (Int32.ofInt 3), .int v1, .ref (p 0)], me_w M J)) rfl k
            obtain ⟨d1, o1, ed, kc, k⟩ := lz_c (g := 173) (q := 1) (vs := [.ref (p 0), .int v1, .int (Int32.ofInt 3)]) (rest := []) rfl rfl (by decide) (Or.inr (Or.inl ⟨_, rfl, rfl⟩)) rfl k
            have e1 := xt173 hp kc
            subst e1
            have k : nt_rn X _ 181 (43, [(0, .ref (p 0)), (1, .int v1), (2, .int v2)], [.int (x173 p v1 (Int32.ofInt 3) J)], me_w M J) _ := k
            have k := ly_revb 2 (c' := (if (x173 p v1 (Int32.ofInt 3) J) = v2 then 54 else 47, [(0, .ref (p 0)), (1, .int v1), (2, .int v2)], [], me_w M J)) rfl k
            by_cases h44 : (x173 p v1 (Int32.ofInt 3) J) = v2
            · rw [if_pos h44] at k
              have k := ly_revb 1 (c' := (55, [(0, .ref (p 0)), (1, .int v1), (2, .int v2)], [.int (Int32.ofInt 0)], me_w M J)) rfl k
              have k := lz_ri rfl (by decide) k
              rw [k, x181, if_neg h5, if_neg h10, if_neg h18, if_neg h26, if_neg h34, if_pos h44]
            · rw [if_neg h44] at k
              have k := ly_revb 1 (c' := (48, [(0, .ref (p 0)), (1, .int v1), (2, .int v2)], [.ref (p 0)], me_w M J)) rfl k
              obtain ⟨d1, o1, ed, kc, k⟩ := lz_c (g := 184) (q := 1) (vs := [.ref (p 0)]) (rest := []) rfl rfl (by decide) (Or.inr (Or.inl ⟨_, rfl, rfl⟩)) rfl k
              have e1 := xt184 hp kc
              subst e1
              have k : nt_rn X _ 181 (51, [(0, .ref (p 0)), (1, .int v1), (2, .int v2)], [.int (x184 p J)], me_w M J) _ := k
              have k := ly_revb 1 (c' := (if (x184 p J) = 0 then 54 else 56, [(0, .ref (p 0)), (1, .int v1), (2, .int v2)], [], me_w M J)) rfl k
              by_cases h51 : (x184 p J) = 0
              · rw [if_pos h51] at k
                have k := ly_revb 1 (c' := (55, [(0, .ref (p 0)), (1, .int v1), (2, .int v2)], [.int (Int32.ofInt 0)], me_w M J)) rfl k
                have k := lz_ri rfl (by decide) k
                rw [k, x181, if_neg h5, if_neg h10, if_neg h18, if_neg h26, if_neg h34, if_neg h44, if_pos h51]
              · rw [if_neg h51] at k
                have k := ly_revb 3 (c' := (59, [(0, .ref (p 0)), (1, .int v1), (2, .int v2)], [.int v2, .int v1, .ref (p 0)], me_w M J)) rfl k
                obtain ⟨d1, o1, ed, kc, k⟩ := lz_c (g := 185) (q := 1) (vs := [.ref (p 0), .int v1, .int v2]) (rest := []) rfl rfl (by decide) (Or.inr (Or.inl ⟨_, rfl, rfl⟩)) rfl k
                have e1 := xt185 hp kc
                subst e1
                have k : nt_rn X _ 181 (62, [(0, .ref (p 0)), (1, .int v1), (2, .int v2)], [], me_w M (x185 p v1 v2 J)) _ := k
                have k := ly_revb 1 (c' := (63, [(0, .ref (p 0)), (1, .int v1), (2, .int v2)], [.int (Int32.ofInt 1)], me_w M (x185 p v1 v2 J))) rfl k
                have k := lz_ri rfl (by decide) k
                rw [k, x181, if_neg h5, if_neg h10, if_neg h18, if_neg h26, if_neg h34, if_neg h44, if_neg h51]
theorem x181_frJ {p : Nat → Nat} {v1 : Int32} {v2 : Int32} {J : Nat → Nat → Int32} {b : Nat} (n0 : b ≠ p 4) : (x181 p v1 v2 J).2 b = J b := by
  unfold x181
  by_cases h : (x177 p v1 J) = 0
  · rw [if_pos h]
    all_goals first | (dsimp only; exact (show J b = J b from rfl)) | exact (show J b = J b from rfl)
  · rw [if_neg h]
    by_cases h : v2 = (Int32.ofInt (-1))
    · rw [if_pos h]
      by_cases h : (x183 p v1 J) = 0
      · rw [if_pos h]
        all_goals first | (dsimp only; exact (show J b = J b from rfl)) | exact (show J b = J b from rfl)
      · rw [if_neg h]
        by_cases h : (x173 p v1 (Int32.ofInt 3) J) = v2
        · rw [if_pos h]
          all_goals first | (dsimp only; exact (show J b = J b from rfl)) | exact (show J b = J b from rfl)
        · rw [if_neg h]
          by_cases h : (x184 p J) = 0
          · rw [if_pos h]
            all_goals first | (dsimp only; exact (show J b = J b from rfl)) | exact (show J b = J b from rfl)
          · rw [if_neg h]
            all_goals first | (dsimp only; exact (show (x185 p v1 v2 J) b = J b from x185_frJ  n0)) | exact (show (x185 p v1 v2 J) b = J b from x185_frJ  n0)
    · rw [if_neg h]
      by_cases h : (x168 p v2 J) = 0
      · rw [if_pos h]
        all_goals first | (dsimp only; exact (show J b = J b from rfl)) | exact (show J b = J b from rfl)
      · rw [if_neg h]
        by_cases h : (x182 p v2 J) = 0
        · rw [if_pos h]
          all_goals first | (dsimp only; exact (show J b = J b from rfl)) | exact (show J b = J b from rfl)
        · rw [if_neg h]
          by_cases h : (x183 p v1 J) = 0
          · rw [if_pos h]
            all_goals first | (dsimp only; exact (show J b = J b from rfl)) | exact (show J b = J b from rfl)
          · rw [if_neg h]
            by_cases h : (x173 p v1 (Int32.ofInt 3) J) = v2
            · rw [if_pos h]
              all_goals first | (dsimp only; exact (show J b = J b from rfl)) | exact (show J b = J b from rfl)
            · rw [if_neg h]
              by_cases h : (x184 p J) = 0
              · rw [if_pos h]
                all_goals first | (dsimp only; exact (show J b = J b from rfl)) | exact (show J b = J b from rfl)
              · rw [if_neg h]
                all_goals first | (dsimp only; exact (show (x185 p v1 v2 J) b = J b from x185_frJ  n0)) | exact (show (x185 p v1 v2 J) b = J b from x185_frJ  n0)
/-! Model.isYard -/
def x188 (p : Nat → Nat) (J : Nat → Nat → Int32) : Int32 := if (J (p 4) 0) ≤ 0 then (Int32.ofInt 0)
  else (Int32.ofInt 1)
theorem xt188 {X : nt_X} {d : Nat} {M : nt_M} {o : Option Value × nt_M} {p : Nat → Nat} {J : Nat → Nat → Int32} (hp : xs_P M p) (k : nt_ev X d 188 [.ref (p 0)] (me_w M J) o) : o = (some (.int (x188 p J)), me_w M J) := by
  have k : nt_rn X d 188 (0, [(0, .ref (p 0))], [], me_w M J) o := k
  have k := ly_revb 1 (c' := (1, [(0, .ref (p 0))], [.ref (p 0)], me_w M J)) rfl k
  have k := lz_get (a := (p 0)) (g := 1127) (M := me_w M J) (v := .ref (p 4)) rfl (nt_gfR rfl (hp.1 (0, 27, 4) (by decide))) k
  have k := ly_revb 1 (c' := (5, [(0, .ref (p 0))], [.int (Int32.ofInt 0), .ref (p 4)], me_w M J)) rfl k
  have k := mx_iald (v := J (p 4) 0) rfl (hp.2.2.1 4 (by omega)) ((congrArg (J (p 4)) (show (Int32.ofInt 0).toNatClampNeg = 0 from rfl)).trans (rfl)) k
  have k := ly_revb 1 (c' := (if (J (p 4) 0) ≤ 0 then 13 else 9, [(0, .ref (p 0))], [], me_w M J)) rfl k
  by_cases h6 : (J (p 4) 0) ≤ 0
  · rw [if_pos h6] at k
    have k := ly_revb 1 (c' := (14, [(0, .ref (p 0))], [.int (Int32.ofInt 0)], me_w M J)) rfl k
    have k := lz_ri rfl (by decide) k
    rw [k, x188, if_pos h6]
  · rw [if_neg h6] at k
    have k := ly_revb 2 (c' := (14, [(0, .ref (p 0))], [.int (Int32.ofInt 1)], me_w M J)) rfl k
    have k := lz_ri rfl (by decide) k
    rw [k, x188, if_neg h6]
/-! Model.isRule -/
def x189 (p : Nat → Nat) (v1 : Int32) (J : Nat → Nat → Int32) : Int32 := if v1 < 0 then (Int32.ofInt 0)
  else if (J (p 0) 2) ≤ v1 then (Int32.ofInt 0)
    else (Int32.ofInt 1)
theorem xt189 {X : nt_X} {d : Nat} {M : nt_M} {o : Option Value × nt_M} {p : Nat → Nat} {v1 : Int32} {J : Nat → Nat → Int32} (hp : xs_P M p) (k : nt_ev X d 189 [.ref (p 0), .int v1] (me_w M J) o) : o = (some (.int (x189 p v1 J)), me_w M J) := by
  have k : nt_rn X d 189 (0, [(0, .ref (p 0)), (1, .int v1)], [], me_w M J) o := k
  have k := ly_revb 2 (c' := (if v1 < 0 then 16 else 4, [(0, .ref (p 0)), (1, .int v1)], [], me_w M J)) rfl k
  by_cases h1 : v1 < 0
  · rw [if_pos h1] at k
    have k := ly_revb 1 (c' := (17, [(0, .ref (p 0)), (1, .int v1)], [.int (Int32.ofInt 0)], me_w M J)) rfl k
    have k := lz_ri rfl (by decide) k
    rw [k, x189, if_pos h1]
  · rw [if_neg h1] at k
    have k := ly_revb 2 (c' := (6, [(0, .ref (p 0)), (1, .int v1)], [.ref (p 0), .int v1], me_w M J)) rfl k
    have k := lz_get (a := (p 0)) (g := 1102) (M := me_w M J) (v := .int (J (p 0) 2)) rfl (congrArg Value.int (rfl)) k
    have k := ly_revb 1 (c' := (if (J (p 0) 2) ≤ v1 then 16 else 12, [(0, .ref (p 0)), (1, .int v1)], [], me_w M J)) rfl k
    by_cases h9 : (J (p 0) 2) ≤ v1
    · rw [if_pos h9] at k
      have k := ly_revb 1 (c' := (17, [(0, .ref (p 0)), (1, .int v1)], [.int (Int32.ofInt 0)], me_w M J)) rfl k
      have k := lz_ri rfl (by decide) k
      rw [k, x189, if_neg h1, if_pos h9]
    · rw [if_neg h9] at k
      have k := ly_revb 2 (c' := (17, [(0, .ref (p 0)), (1, .int v1)], [.int (Int32.ofInt 1)], me_w M J)) rfl k
      have k := lz_ri rfl (by decide) k
      rw [k, x189, if_neg h1, if_neg h9]
/-! Model.mayBe -/
def x187 (p : Nat → Nat) (v1 : Int32) (J : Nat → Nat → Int32) : Int32 := if (x188 p J) = 0 then (Int32.ofInt 0)
  else if v1 = (Int32.ofInt (-1)) then (Int32.ofInt 1)
    else if (x189 p v1 J) = 0 then (Int32.ofInt 0)
      else (Int32.ofInt 1)
theorem xt187 {X : nt_X} {d : Nat} {M : nt_M} {o : Option Value × nt_M} {p : Nat → Nat} {v1 : Int32} {J : Nat → Nat → Int32} (hp : xs_P M p) (k : nt_ev X d 187 [.ref (p 0), .int v1] (me_w M J) o) : o = (some (.int (x187 p v1 J)), me_w M J) := by
  have k : nt_rn X d 187 (0, [(0, .ref (p 0)), (1, .int v1)], [], me_w M J) o := k
  have k := ly_revb 1 (c' := (1, [(0, .ref (p 0)), (1, .int v1)], [.ref (p 0)], me_w M J)) rfl k
  obtain ⟨d1, o1, ed, kc, k⟩ := lz_c (g := 188) (q := 1) (vs := [.ref (p 0)]) (rest := []) rfl rfl (by decide) (Or.inr (Or.inl ⟨_, rfl, rfl⟩)) rfl k
  have e1 := xt188 hp kc
  subst e1
  have k : nt_rn X _ 187 (4, [(0, .ref (p 0)), (1, .int v1)], [.int (x188 p J)], me_w M J) _ := k
  have k := ly_revb 1 (c' := (if (x188 p J) = 0 then 24 else 7, [(0, .ref (p 0)), (1, .int v1)], [], me_w M J)) rfl k
  by_cases h4 : (x188 p J) = 0
  · rw [if_pos h4] at k
    have k := ly_revb 1 (c' := (25, [(0, .ref (p 0)), (1, .int v1)], [.int (Int32.ofInt 0)], me_w M J)) rfl k
    have k := lz_ri rfl (by decide) k
    rw [k, x187, if_pos h4]
  · rw [if_neg h4] at k
    have k := ly_revb 3 (c' := (if v1 = (Int32.ofInt (-1)) then 20 else 12, [(0, .ref (p 0)), (1, .int v1)], [], me_w M J)) rfl k
    by_cases h9 : v1 = (Int32.ofInt (-1))
    · rw [if_pos h9] at k
      have k := ly_revb 2 (c' := (25, [(0, .ref (p 0)), (1, .int v1)], [.int (Int32.ofInt 1)], me_w M J)) rfl k
      have k := lz_ri rfl (by decide) k
      rw [k, x187, if_neg h4, if_pos h9]
    · rw [if_neg h9] at k
      have k := ly_revb 2 (c' := (14, [(0, .ref (p 0)), (1, .int v1)], [.int v1, .ref (p 0)], me_w M J)) rfl k
      obtain ⟨d1, o1, ed, kc, k⟩ := lz_c (g := 189) (q := 1) (vs := [.ref (p 0), .int v1]) (rest := []) rfl rfl (by decide) (Or.inr (Or.inl ⟨_, rfl, rfl⟩)) rfl k
      have e1 := xt189 hp kc
      subst e1
      have k : nt_rn X _ 187 (17, [(0, .ref (p 0)), (1, .int v1)], [.int (x189 p v1 J)], me_w M J) _ := k
      have k := ly_revb 1 (c' := (if (x189 p v1 J) = 0 then 24 else 20, [(0, .ref (p 0)), (1, .int v1)], [], me_w M J)) rfl k
      by_cases h17 : (x189 p v1 J) = 0
      · rw [if_pos h17] at k
        have k := ly_revb 1 (c' := (25, [(0, .ref (p 0)), (1, .int v1)], [.int (Int32.ofInt 0)], me_w M J)) rfl k
        have k := lz_ri rfl (by decide) k
        rw [k, x187, if_neg h4, if_neg h9, if_pos h17]
      · rw [if_neg h17] at k
        have k := ly_revb 2 (c' := (25, [(0, .ref (p 0)), (1, .int v1)], [.int (Int32.ofInt 1)], me_w M J)) rfl k
        have k := lz_ri rfl (by decide) k
        rw [k, x187, if_neg h4, if_neg h9, if_neg h17]
/-! Model.seed -/
def x230 (p : Nat → Nat) (v1 : Int32) (J : Nat → Nat → Int32) : Int32 × (Nat → Nat → Int32) := if 0 ≤ v1 then (J (p 4) 9, nt_u J (p 4) 9 v1)
  else (Int32.ofInt (-1), J)
theorem xt230 {X : nt_X} {d : Nat} {M : nt_M} {o : Option Value × nt_M} {p : Nat → Nat} {v1 : Int32} {J : Nat → Nat → Int32} (hp : xs_P M p) (k : nt_ev X d 230 [.ref (p 0), .int v1] (me_w M J) o) : o = (some (.int ((x230 p v1 J).1)), me_w M ((x230 p v1 J).2)) := by
  have k : nt_rn X d 230 (0, [(0, .ref (p 0)), (1, .int v1)], [], me_w M J) o := k
  have k := ly_revb 2 (c' := (if 0 ≤ v1 then 6 else 4, [(0, .ref (p 0)), (1, .int v1)], [], me_w M J)) rfl k
  by_cases h1 : 0 ≤ v1
  · rw [if_pos h1] at k
    have k := ly_revb 1 (c' := (7, [(0, .ref (p 0)), (1, .int v1)], [.ref (p 0)], me_w M J)) rfl k
    have k := lz_get (a := (p 0)) (g := 1127) (M := me_w M J) (v := .ref (p 4)) rfl (nt_gfR rfl (hp.1 (0, 27, 4) (by decide))) k
    have k := ly_revb 1 (c' := (12, [(0, .ref (p 0)), (1, .int v1)], [.int (Int32.ofInt 9), .ref (p 4)], me_w M J)) rfl k
    have k := mx_iald (v := J (p 4) 9) rfl (hp.2.2.1 4 (by omega)) ((congrArg (J (p 4)) (show (Int32.ofInt 9).toNatClampNeg = 9 from rfl)).trans (rfl)) k
    have k := ly_revb 2 (c' := (15, [(2, .int (J (p 4) 9)), (0, .ref (p 0)), (1, .int v1)], [.ref (p 0)], me_w M J)) rfl k
    have k := lz_get (a := (p 0)) (g := 1127) (M := me_w M J) (v := .ref (p 4)) rfl (nt_gfR rfl (hp.1 (0, 27, 4) (by decide))) k
    have k := ly_revb 2 (c' := (21, [(2, .int (J (p 4) 9)), (0, .ref (p 0)), (1, .int v1)], [.int v1, .int (Int32.ofInt 9), .ref (p 4)], me_w M J)) rfl k
    have k := mx_iast (q := 9) rfl (show (Int32.ofInt 9).toNatClampNeg = 9 from rfl) k
    have k : nt_rn X _ 230 (22, [(2, .int (J (p 4) 9)), (0, .ref (p 0)), (1, .int v1)], [], me_w M (nt_u J (p 4) 9 v1)) _ := k
    have k := ly_revb 1 (c' := (23, [(2, .int (J (p 4) 9)), (0, .ref (p 0)), (1, .int v1)], [.int (J (p 4) 9)], me_w M (nt_u J (p 4) 9 v1))) rfl k
    have k := lz_ri rfl (by decide) k
    rw [k, x230, if_pos h1]
  · rw [if_neg h1] at k
    have k := ly_revb 1 (c' := (5, [(0, .ref (p 0)), (1, .int v1)], [.int (Int32.ofInt (-1))], me_w M J)) rfl k
    have k := lz_ri rfl (by decide) k
    rw [k, x230, if_neg h1]
theorem x230_frJ {p : Nat → Nat} {v1 : Int32} {J : Nat → Nat → Int32} {b : Nat} (n0 : b ≠ p 4) : (x230 p v1 J).2 b = J b := by
  unfold x230
  by_cases h : 0 ≤ v1
  · rw [if_pos h]
    all_goals first | (dsimp only; exact (show (nt_u J (p 4) 9 v1) b = J b from mu_o n0)) | exact (show (nt_u J (p 4) 9 v1) b = J b from mu_o n0)
  · rw [if_neg h]
    all_goals first | (dsimp only; exact (show J b = J b from rfl)) | exact (show J b = J b from rfl)
/-! Model.count -/
def x233_108 (p : Nat → Nat) (J : Nat → Nat → Int32) : Nat → Int32 → Int32 → Int32
  | 0, v2, v3 => v2
  | c + 1, v2, v3 => if (J (p 4) 2) ≤ v3 then v2
    else if (x171 p v3 (Int32.ofInt (-1)) J) = 0 then (x233_108 p J c (v2 + (Int32.ofInt 0)) (v3 + (Int32.ofInt 1)))
      else (x233_108 p J c (v2 + (Int32.ofInt 1)) (v3 + (Int32.ofInt 1)))
theorem xt233_108 {X : nt_X} {d : Nat} {M : nt_M} {o : Option Value × nt_M} {p : Nat → Nat} {v1 : Int32} {J : Nat → Nat → Int32} (hp : xs_P M p) : ∀ (c : Nat) (v2 : Int32) (v3 : Int32), (J (p 4) 2).toInt - v3.toInt ≤ c → nt_rn X d 233 (108, [(0, .ref (p 0)), (1, .int v1), (2, .int v2), (3, .int v3)], [], me_w M J) o → o = (some (.int (x233_108 p J c v2 v3)), me_w M J) := by
  intro c
  induction c with
  | zero =>
    intro v2 v3 hc k
    have k := ly_revb 2 (c' := (110, [(0, .ref (p 0)), (1, .int v1), (2, .int v2), (3, .int v3)], [.ref (p 0), .int v3], me_w M J)) rfl k
    have k := lz_get (a := (p 0)) (g := 1127) (M := me_w M J) (v := .ref (p 4)) rfl (nt_gfR rfl (hp.1 (0, 27, 4) (by decide))) k
    have k := ly_revb 1 (c' := (114, [(0, .ref (p 0)), (1, .int v1), (2, .int v2), (3, .int v3)], [.int (Int32.ofInt 2), .ref (p 4), .int v3], me_w M J)) rfl k
    have k := mx_iald (v := J (p 4) 2) rfl (hp.2.2.1 4 (by omega)) ((congrArg (J (p 4)) (show (Int32.ofInt 2).toNatClampNeg = 2 from rfl)).trans (rfl)) k
    have k := ly_revb 1 (c' := (if (J (p 4) 2) ≤ v3 then 141 else 118, [(0, .ref (p 0)), (1, .int v1), (2, .int v2), (3, .int v3)], [], me_w M J)) rfl k
    have h115 : (J (p 4) 2) ≤ v3 := lx_end hc
    rw [if_pos h115] at k
    have k := ly_revb 1 (c' := (142, [(0, .ref (p 0)), (1, .int v1), (2, .int v2), (3, .int v3)], [.int v2], me_w M J)) rfl k
    have k := lz_ri rfl (by decide) k
    rw [k, x233_108]
  | succ c ih =>
    intro v2 v3 hc k
    have k := ly_revb 2 (c' := (110, [(0, .ref (p 0)), (1, .int v1), (2, .int v2), (3, .int v3)], [.ref (p 0), .int v3], me_w M J)) rfl k
    have k := lz_get (a := (p 0)) (g := 1127) (M := me_w M J) (v := .ref (p 4)) rfl (nt_gfR rfl (hp.1 (0, 27, 4) (by decide))) k
    have k := ly_revb 1 (c' := (114, [(0, .ref (p 0)), (1, .int v1), (2, .int v2), (3, .int v3)], [.int (Int32.ofInt 2), .ref (p 4), .int v3], me_w M J)) rfl k
    have k := mx_iald (v := J (p 4) 2) rfl (hp.2.2.1 4 (by omega)) ((congrArg (J (p 4)) (show (Int32.ofInt 2).toNatClampNeg = 2 from rfl)).trans (rfl)) k
    have k := ly_revb 1 (c' := (if (J (p 4) 2) ≤ v3 then 141 else 118, [(0, .ref (p 0)), (1, .int v1), (2, .int v2), (3, .int v3)], [], me_w M J)) rfl k
    by_cases h115 : (J (p 4) 2) ≤ v3
    · rw [if_pos h115] at k
      have k := ly_revb 1 (c' := (142, [(0, .ref (p 0)), (1, .int v1), (2, .int v2), (3, .int v3)], [.int v2], me_w M J)) rfl k
      have k := lz_ri rfl (by decide) k
      rw [k, x233_108, if_pos h115]
    · rw [if_neg h115] at k
      have k := ly_revb 4 (c' := (122, [(0, .ref (p 0)), (1, .int v1), (2, .int v2), (3, .int v3)], [.int (Int32.ofInt (-1)), .int v3, .ref (p 0), .int v2], me_w M J)) rfl k
      obtain ⟨d1, o1, ed, kc, k⟩ := lz_c (g := 171) (q := 1) (vs := [.ref (p 0), .int v3, .int (Int32.ofInt (-1))]) (rest := [.int v2]) rfl rfl (by decide) (Or.inr (Or.inl ⟨_, rfl, rfl⟩)) rfl k
      have e1 := xt171 hp kc
      subst e1
      have k : nt_rn X _ 233 (125, [(0, .ref (p 0)), (1, .int v1), (2, .int v2), (3, .int v3)], [.int (x171 p v3 (Int32.ofInt (-1)) J), .int v2], me_w M J) _ := k
      have k := ly_revb 1 (c' := (if (x171 p v3 (Int32.ofInt (-1)) J) = 0 then 132 else 128, [(0, .ref (p 0)), (1, .int v1), (2, .int v2), (3, .int v3)], [.int v2], me_w M J)) rfl k
      by_cases h125 : (x171 p v3 (Int32.ofInt (-1)) J) = 0
      · rw [if_pos h125] at k
        have k := ly_revb 5 (c' := (108, [(3, .int (v3 + (Int32.ofInt 1))), (2, .int (v2 + (Int32.ofInt 0))), (0, .ref (p 0)), (1, .int v1)], [], me_w M J)) rfl k
        have k := nt_rn_w (a := [(3, .int (v3 + (Int32.ofInt 1))), (2, .int (v2 + (Int32.ofInt 0))), (0, .ref (p 0)), (1, .int v1)]) (b := [(0, .ref (p 0)), (1, .int v1), (2, .int (v2 + (Int32.ofInt 0))), (3, .int (v3 + (Int32.ofInt 1)))]) ⟨rfl, rfl, rfl, rfl, trivial⟩ rfl k
        have k := ih (v2 + (Int32.ofInt 0)) (v3 + (Int32.ofInt 1)) (lx_dec h115 hc) k
        rw [k, x233_108, if_neg h115, if_pos h125]
      · rw [if_neg h125] at k
        have k := ly_revb 6 (c' := (108, [(3, .int (v3 + (Int32.ofInt 1))), (2, .int (v2 + (Int32.ofInt 1))), (0, .ref (p 0)), (1, .int v1)], [], me_w M J)) rfl k
        have k := nt_rn_w (a := [(3, .int (v3 + (Int32.ofInt 1))), (2, .int (v2 + (Int32.ofInt 1))), (0, .ref (p 0)), (1, .int v1)]) (b := [(0, .ref (p 0)), (1, .int v1), (2, .int (v2 + (Int32.ofInt 1))), (3, .int (v3 + (Int32.ofInt 1)))]) ⟨rfl, rfl, rfl, rfl, trivial⟩ rfl k
        have k := ih (v2 + (Int32.ofInt 1)) (v3 + (Int32.ofInt 1)) (lx_dec h115 hc) k
        rw [k, x233_108, if_neg h115, if_neg h125]
theorem x233_108_rule {p : Nat → Nat} {J : Nat → Nat → Int32} {I : Nat → Int32 → Int32 → Prop} {Q : Int32 → Prop} (h0 : ∀ (v2 : Int32) (v3 : Int32), I 0 v2 v3 → Q v2) (h1 : ∀ (c : Nat) (v2 : Int32) (v3 : Int32), I (c + 1) v2 v3 →
    if (J (p 4) 2) ≤ v3 then (Q v2)
    else if (x171 p v3 (Int32.ofInt (-1)) J) = 0 then (I c (v2 + (Int32.ofInt 0)) (v3 + (Int32.ofInt 1)))
      else (I c (v2 + (Int32.ofInt 1)) (v3 + (Int32.ofInt 1)))) : ∀ (c : Nat) (v2 : Int32) (v3 : Int32), I c v2 v3 → Q (x233_108 p J c v2 v3) := by
  intro c
  induction c with
  | zero =>
    intro v2 v3 hi
    rw [x233_108]
    exact h0 v2 v3 hi
  | succ c ih =>
    intro v2 v3 hi
    have hi := h1 c v2 v3 hi
    rw [x233_108]
    by_cases h : (J (p 4) 2) ≤ v3
    · rw [if_pos h] at hi ⊢
      exact hi
    · rw [if_neg h] at hi ⊢
      by_cases h : (x171 p v3 (Int32.ofInt (-1)) J) = 0
      · rw [if_pos h] at hi ⊢
        exact ih _ _ hi
      · rw [if_neg h] at hi ⊢
        exact ih _ _ hi
def x233 (p : Nat → Nat) (v1 : Int32) (J : Nat → Nat → Int32) : Int32 := if v1.toInt < 0 ∨ 11 < v1.toInt then (Int32.ofInt (-1))
  else if v1 = Int32.ofInt 0 then (J (p 4) v1.toNatClampNeg)
    else if v1 = Int32.ofInt 1 then (J (p 4) v1.toNatClampNeg)
      else if v1 = Int32.ofInt 2 then (J (p 4) v1.toNatClampNeg)
        else if v1 = Int32.ofInt 3 then (J (p 4) v1.toNatClampNeg)
          else if v1 = Int32.ofInt 4 then (J (p 0) 2)
            else if v1 = Int32.ofInt 5 then (J (p 4) 4)
              else if v1 = Int32.ofInt 6 then ((J (p 4) 5) - (J (p 4) 6))
                else if v1 = Int32.ofInt 7 then (J (p 4) 7)
                  else if v1 = Int32.ofInt 8 then (x233_108 p J ((J (p 4) 2).toNatClampNeg) (Int32.ofInt 0) (Int32.ofInt 0))
                    else if v1 = Int32.ofInt 9 then (J (p 4) 8)
                      else if v1 = Int32.ofInt 10 then (J (p 4) 9)
                        else (J (p 0) 1)
theorem xt233 {X : nt_X} {d : Nat} {M : nt_M} {o : Option Value × nt_M} {p : Nat → Nat} {v1 : Int32} {J : Nat → Nat → Int32} (hp : xs_P M p) (k : nt_ev X d 233 [.ref (p 0), .int v1] (me_w M J) o) : o = (some (.int (x233 p v1 J)), me_w M J) := by
  have k : nt_rn X d 233 (0, [(0, .ref (p 0)), (1, .int v1)], [], me_w M J) o := k
  have k := ly_revb 3 (c' := (3, [(2, .int (Int32.ofInt 0)), (0, .ref (p 0)), (1, .int v1)], [.int v1], me_w M J)) rfl k
  by_cases h3 : v1.toInt < 0 ∨ 11 < v1.toInt
  · have k := mx_tsd (q := 164) rfl h3 (by decide) k
    have k : nt_rn X _ 233 (164, [(2, .int (Int32.ofInt 0)), (0, .ref (p 0)), (1, .int v1)], [], me_w M J) _ := k
    have k := ly_revb 1 (c' := (165, [(2, .int (Int32.ofInt 0)), (0, .ref (p 0)), (1, .int v1)], [.int (Int32.ofInt (-1))], me_w M J)) rfl k
    have k := lz_ri rfl (by decide) k
    rw [k, x233, if_pos h3]
  · by_cases h3_0 : v1 = Int32.ofInt 0
    · have k := mx_tsc (q := 64) (off := 61) rfl h3 (by rw [h3_0]; rfl) (by decide) k
      have k : nt_rn X _ 233 (64, [(2, .int (Int32.ofInt 0)), (0, .ref (p 0)), (1, .int v1)], [], me_w M J) _ := k
      have k := ly_revb 1 (c' := (65, [(2, .int (Int32.ofInt 0)), (0, .ref (p 0)), (1, .int v1)], [.ref (p 0)], me_w M J)) rfl k
      have k := lz_get (a := (p 0)) (g := 1127) (M := me_w M J) (v := .ref (p 4)) rfl (nt_gfR rfl (hp.1 (0, 27, 4) (by decide))) k
      have k := ly_revb 1 (c' := (69, [(2, .int (Int32.ofInt 0)), (0, .ref (p 0)), (1, .int v1)], [.int v1, .ref (p 4)], me_w M J)) rfl k
      have k := mx_iald (v := J (p 4) v1.toNatClampNeg) rfl (hp.2.2.1 4 (by omega)) (rfl) k
      have k := lz_ri rfl (by decide) k
      rw [k, x233, if_neg h3, if_pos h3_0]
    · by_cases h3_1 : v1 = Int32.ofInt 1
      · have k := mx_tsc (q := 64) (off := 61) rfl h3 (by rw [h3_1]; rfl) (by decide) k
        have k : nt_rn X _ 233 (64, [(2, .int (Int32.ofInt 0)), (0, .ref (p 0)), (1, .int v1)], [], me_w M J) _ := k
        have k := ly_revb 1 (c' := (65, [(2, .int (Int32.ofInt 0)), (0, .ref (p 0)), (1, .int v1)], [.ref (p 0)], me_w M J)) rfl k
        have k := lz_get (a := (p 0)) (g := 1127) (M := me_w M J) (v := .ref (p 4)) rfl (nt_gfR rfl (hp.1 (0, 27, 4) (by decide))) k
        have k := ly_revb 1 (c' := (69, [(2, .int (Int32.ofInt 0)), (0, .ref (p 0)), (1, .int v1)], [.int v1, .ref (p 4)], me_w M J)) rfl k
        have k := mx_iald (v := J (p 4) v1.toNatClampNeg) rfl (hp.2.2.1 4 (by omega)) (rfl) k
        have k := lz_ri rfl (by decide) k
        rw [k, x233, if_neg h3, if_neg h3_0, if_pos h3_1]
      · by_cases h3_2 : v1 = Int32.ofInt 2
        · have k := mx_tsc (q := 64) (off := 61) rfl h3 (by rw [h3_2]; rfl) (by decide) k
          have k : nt_rn X _ 233 (64, [(2, .int (Int32.ofInt 0)), (0, .ref (p 0)), (1, .int v1)], [], me_w M J) _ := k
          have k := ly_revb 1 (c' := (65, [(2, .int (Int32.ofInt 0)), (0, .ref (p 0)), (1, .int v1)], [.ref (p 0)], me_w M J)) rfl k
          have k := lz_get (a := (p 0)) (g := 1127) (M := me_w M J) (v := .ref (p 4)) rfl (nt_gfR rfl (hp.1 (0, 27, 4) (by decide))) k
          have k := ly_revb 1 (c' := (69, [(2, .int (Int32.ofInt 0)), (0, .ref (p 0)), (1, .int v1)], [.int v1, .ref (p 4)], me_w M J)) rfl k
          have k := mx_iald (v := J (p 4) v1.toNatClampNeg) rfl (hp.2.2.1 4 (by omega)) (rfl) k
          have k := lz_ri rfl (by decide) k
          rw [k, x233, if_neg h3, if_neg h3_0, if_neg h3_1, if_pos h3_2]
        · by_cases h3_3 : v1 = Int32.ofInt 3
          · have k := mx_tsc (q := 64) (off := 61) rfl h3 (by rw [h3_3]; rfl) (by decide) k
            have k : nt_rn X _ 233 (64, [(2, .int (Int32.ofInt 0)), (0, .ref (p 0)), (1, .int v1)], [], me_w M J) _ := k
            have k := ly_revb 1 (c' := (65, [(2, .int (Int32.ofInt 0)), (0, .ref (p 0)), (1, .int v1)], [.ref (p 0)], me_w M J)) rfl k
            have k := lz_get (a := (p 0)) (g := 1127) (M := me_w M J) (v := .ref (p 4)) rfl (nt_gfR rfl (hp.1 (0, 27, 4) (by decide))) k
            have k := ly_revb 1 (c' := (69, [(2, .int (Int32.ofInt 0)), (0, .ref (p 0)), (1, .int v1)], [.int v1, .ref (p 4)], me_w M J)) rfl k
            have k := mx_iald (v := J (p 4) v1.toNatClampNeg) rfl (hp.2.2.1 4 (by omega)) (rfl) k
            have k := lz_ri rfl (by decide) k
            rw [k, x233, if_neg h3, if_neg h3_0, if_neg h3_1, if_neg h3_2, if_pos h3_3]
          · by_cases h3_4 : v1 = Int32.ofInt 4
            · have k := mx_tsc (q := 71) (off := 68) rfl h3 (by rw [h3_4]; rfl) (by decide) k
              have k : nt_rn X _ 233 (71, [(2, .int (Int32.ofInt 0)), (0, .ref (p 0)), (1, .int v1)], [], me_w M J) _ := k
              have k := ly_revb 1 (c' := (72, [(2, .int (Int32.ofInt 0)), (0, .ref (p 0)), (1, .int v1)], [.ref (p 0)], me_w M J)) rfl k
              have k := lz_get (a := (p 0)) (g := 1102) (M := me_w M J) (v := .int (J (p 0) 2)) rfl (congrArg Value.int (rfl)) k
              have k := lz_ri rfl (by decide) k
              rw [k, x233, if_neg h3, if_neg h3_0, if_neg h3_1, if_neg h3_2, if_neg h3_3, if_pos h3_4]
            · by_cases h3_5 : v1 = Int32.ofInt 5
              · have k := mx_tsc (q := 76) (off := 73) rfl h3 (by rw [h3_5]; rfl) (by decide) k
                have k : nt_rn X _ 233 (76, [(2, .int (Int32.ofInt 0)), (0, .ref (p 0)), (1, .int v1)], [], me_w M J) _ := k
                have k := ly_revb 1 (c' := (77, [(2, .int (Int32.ofInt 0)), (0, .ref (p 0)), (1, .int v1)], [.ref (p 0)], me_w M J)) rfl k
                have k := lz_get (a := (p 0)) (g := 1127) (M := me_w M J) (v := .ref (p 4)) rfl (nt_gfR rfl (hp.1 (0, 27, 4) (by decide))) k
                have k := ly_revb 1 (c' := (81, [(2, .int (Int32.ofInt 0)), (0, .ref (p 0)), (1, .int v1)], [.int (Int32.ofInt 4), .ref (p 4)], me_w M J)) rfl k
                have k := mx_iald (v := J (p 4) 4) rfl (hp.2.2.1 4 (by omega)) ((congrArg (J (p 4)) (show (Int32.ofInt 4).toNatClampNeg = 4 from rfl)).trans (rfl)) k
                have k := lz_ri rfl (by decide) k
                rw [k, x233, if_neg h3, if_neg h3_0, if_neg h3_1, if_neg h3_2, if_neg h3_3, if_neg h3_4, if_pos h3_5]
              · by_cases h3_6 : v1 = Int32.ofInt 6
                · have k := mx_tsc (q := 83) (off := 80) rfl h3 (by rw [h3_6]; rfl) (by decide) k
                  have k : nt_rn X _ 233 (83, [(2, .int (Int32.ofInt 0)), (0, .ref (p 0)), (1, .int v1)], [], me_w M J) _ := k
                  have k := ly_revb 1 (c' := (84, [(2, .int (Int32.ofInt 0)), (0, .ref (p 0)), (1, .int v1)], [.ref (p 0)], me_w M J)) rfl k
                  have k := lz_get (a := (p 0)) (g := 1127) (M := me_w M J) (v := .ref (p 4)) rfl (nt_gfR rfl (hp.1 (0, 27, 4) (by decide))) k
                  have k := ly_revb 1 (c' := (88, [(2, .int (Int32.ofInt 0)), (0, .ref (p 0)), (1, .int v1)], [.int (Int32.ofInt 5), .ref (p 4)], me_w M J)) rfl k
                  have k := mx_iald (v := J (p 4) 5) rfl (hp.2.2.1 4 (by omega)) ((congrArg (J (p 4)) (show (Int32.ofInt 5).toNatClampNeg = 5 from rfl)).trans (rfl)) k
                  have k := ly_revb 1 (c' := (90, [(2, .int (Int32.ofInt 0)), (0, .ref (p 0)), (1, .int v1)], [.ref (p 0), .int (J (p 4) 5)], me_w M J)) rfl k
                  have k := lz_get (a := (p 0)) (g := 1127) (M := me_w M J) (v := .ref (p 4)) rfl (nt_gfR rfl (hp.1 (0, 27, 4) (by decide))) k
                  have k := ly_revb 1 (c' := (95, [(2, .int (Int32.ofInt 0)), (0, .ref (p 0)), (1, .int v1)], [.int (Int32.ofInt 6), .ref (p 4), .int (J (p 4) 5)], me_w M J)) rfl k
                  have k := mx_iald (v := J (p 4) 6) rfl (hp.2.2.1 4 (by omega)) ((congrArg (J (p 4)) (show (Int32.ofInt 6).toNatClampNeg = 6 from rfl)).trans (rfl)) k
                  have k := ly_revb 1 (c' := (97, [(2, .int (Int32.ofInt 0)), (0, .ref (p 0)), (1, .int v1)], [.int ((J (p 4) 5) - (J (p 4) 6))], me_w M J)) rfl k
                  have k := lz_ri rfl (by decide) k
                  rw [k, x233, if_neg h3, if_neg h3_0, if_neg h3_1, if_neg h3_2, if_neg h3_3, if_neg h3_4, if_neg h3_5, if_pos h3_6]
                · by_cases h3_7 : v1 = Int32.ofInt 7
                  · have k := mx_tsc (q := 98) (off := 95) rfl h3 (by rw [h3_7]; rfl) (by decide) k
                    have k : nt_rn X _ 233 (98, [(2, .int (Int32.ofInt 0)), (0, .ref (p 0)), (1, .int v1)], [], me_w M J) _ := k
                    have k := ly_revb 1 (c' := (99, [(2, .int (Int32.ofInt 0)), (0, .ref (p 0)), (1, .int v1)], [.ref (p 0)], me_w M J)) rfl k
                    have k := lz_get (a := (p 0)) (g := 1127) (M := me_w M J) (v := .ref (p 4)) rfl (nt_gfR rfl (hp.1 (0, 27, 4) (by decide))) k
                    have k := ly_revb 1 (c' := (104, [(2, .int (Int32.ofInt 0)), (0, .ref (p 0)), (1, .int v1)], [.int (Int32.ofInt 7), .ref (p 4)], me_w M J)) rfl k
                    have k := mx_iald (v := J (p 4) 7) rfl (hp.2.2.1 4 (by omega)) ((congrArg (J (p 4)) (show (Int32.ofInt 7).toNatClampNeg = 7 from rfl)).trans (rfl)) k
                    have k := lz_ri rfl (by decide) k
                    rw [k, x233, if_neg h3, if_neg h3_0, if_neg h3_1, if_neg h3_2, if_neg h3_3, if_neg h3_4, if_neg h3_5, if_neg h3_6, if_pos h3_7]
                  · by_cases h3_8 : v1 = Int32.ofInt 8
                    · have k := mx_tsc (q := 106) (off := 103) rfl h3 (by rw [h3_8]; rfl) (by decide) k
                      have k : nt_rn X _ 233 (106, [(2, .int (Int32.ofInt 0)), (0, .ref (p 0)), (1, .int v1)], [], me_w M J) _ := k
                      have k := ly_revb 2 (c' := (108, [(3, .int (Int32.ofInt 0)), (2, .int (Int32.ofInt 0)), (0, .ref (p 0)), (1, .int v1)], [], me_w M J)) rfl k
                      have k := nt_rn_w (a := [(3, .int (Int32.ofInt 0)), (2, .int (Int32.ofInt 0)), (0, .ref (p 0)), (1, .int v1)]) (b := [(0, .ref (p 0)), (1, .int v1), (2, .int (Int32.ofInt 0)), (3, .int (Int32.ofInt 0))]) ⟨rfl, rfl, rfl, rfl, trivial⟩ rfl k
                      have k := xt233_108 hp  ((J (p 4) 2).toNatClampNeg) (Int32.ofInt 0) (Int32.ofInt 0) (lx_beg (by decide)) k
                      rw [k, x233, if_neg h3, if_neg h3_0, if_neg h3_1, if_neg h3_2, if_neg h3_3, if_neg h3_4, if_neg h3_5, if_neg h3_6, if_neg h3_7, if_pos h3_8]
                    · by_cases h3_9 : v1 = Int32.ofInt 9
                      · have k := mx_tsc (q := 143) (off := 140) rfl h3 (by rw [h3_9]; rfl) (by decide) k
                        have k : nt_rn X _ 233 (143, [(2, .int (Int32.ofInt 0)), (0, .ref (p 0)), (1, .int v1)], [], me_w M J) _ := k
                        have k := ly_revb 1 (c' := (144, [(2, .int (Int32.ofInt 0)), (0, .ref (p 0)), (1, .int v1)], [.ref (p 0)], me_w M J)) rfl k
                        have k := lz_get (a := (p 0)) (g := 1127) (M := me_w M J) (v := .ref (p 4)) rfl (nt_gfR rfl (hp.1 (0, 27, 4) (by decide))) k
                        have k := ly_revb 1 (c' := (149, [(2, .int (Int32.ofInt 0)), (0, .ref (p 0)), (1, .int v1)], [.int (Int32.ofInt 8), .ref (p 4)], me_w M J)) rfl k
                        have k := mx_iald (v := J (p 4) 8) rfl (hp.2.2.1 4 (by omega)) ((congrArg (J (p 4)) (show (Int32.ofInt 8).toNatClampNeg = 8 from rfl)).trans (rfl)) k
                        have k := lz_ri rfl (by decide) k
                        rw [k, x233, if_neg h3, if_neg h3_0, if_neg h3_1, if_neg h3_2, if_neg h3_3, if_neg h3_4, if_neg h3_5, if_neg h3_6, if_neg h3_7, if_neg h3_8, if_pos h3_9]
                      · by_cases h3_10 : v1 = Int32.ofInt 10
                        · have k := mx_tsc (q := 151) (off := 148) rfl h3 (by rw [h3_10]; rfl) (by decide) k
                          have k : nt_rn X _ 233 (151, [(2, .int (Int32.ofInt 0)), (0, .ref (p 0)), (1, .int v1)], [], me_w M J) _ := k
                          have k := ly_revb 1 (c' := (152, [(2, .int (Int32.ofInt 0)), (0, .ref (p 0)), (1, .int v1)], [.ref (p 0)], me_w M J)) rfl k
                          have k := lz_get (a := (p 0)) (g := 1127) (M := me_w M J) (v := .ref (p 4)) rfl (nt_gfR rfl (hp.1 (0, 27, 4) (by decide))) k
                          have k := ly_revb 1 (c' := (157, [(2, .int (Int32.ofInt 0)), (0, .ref (p 0)), (1, .int v1)], [.int (Int32.ofInt 9), .ref (p 4)], me_w M J)) rfl k
                          have k := mx_iald (v := J (p 4) 9) rfl (hp.2.2.1 4 (by omega)) ((congrArg (J (p 4)) (show (Int32.ofInt 9).toNatClampNeg = 9 from rfl)).trans (rfl)) k
                          have k := lz_ri rfl (by decide) k
                          rw [k, x233, if_neg h3, if_neg h3_0, if_neg h3_1, if_neg h3_2, if_neg h3_3, if_neg h3_4, if_neg h3_5, if_neg h3_6, if_neg h3_7, if_neg h3_8, if_neg h3_9, if_pos h3_10]
                        · have hz : v1 = Int32.ofInt 11 := by
                            have z1 := h3
                            have y0 : v1.toInt ≠ 0 := fun e => h3_0 (Int32.toInt_inj.mp (e.trans (by decide)))
                            have y1 : v1.toInt ≠ 1 := fun e => h3_1 (Int32.toInt_inj.mp (e.trans (by decide)))
                            have y2 : v1.toInt ≠ 2 := fun e => h3_2 (Int32.toInt_inj.mp (e.trans (by decide)))
                            have y3 : v1.toInt ≠ 3 := fun e => h3_3 (Int32.toInt_inj.mp (e.trans (by decide)))
                            have y4 : v1.toInt ≠ 4 := fun e => h3_4 (Int32.toInt_inj.mp (e.trans (by decide)))
                            have y5 : v1.toInt ≠ 5 := fun e => h3_5 (Int32.toInt_inj.mp (e.trans (by decide)))
                            have y6 : v1.toInt ≠ 6 := fun e => h3_6 (Int32.toInt_inj.mp (e.trans (by decide)))
                            have y7 : v1.toInt ≠ 7 := fun e => h3_7 (Int32.toInt_inj.mp (e.trans (by decide)))
                            have y8 : v1.toInt ≠ 8 := fun e => h3_8 (Int32.toInt_inj.mp (e.trans (by decide)))
                            have y9 : v1.toInt ≠ 9 := fun e => h3_9 (Int32.toInt_inj.mp (e.trans (by decide)))
                            have y10 : v1.toInt ≠ 10 := fun e => h3_10 (Int32.toInt_inj.mp (e.trans (by decide)))
                            exact Int32.toInt_inj.mp ((show v1.toInt = 11 by omega).trans (by decide))
                          have k := mx_tsc (q := 159) (off := 156) rfl h3 (by rw [hz]; rfl) (by decide) k
                          have k : nt_rn X _ 233 (159, [(2, .int (Int32.ofInt 0)), (0, .ref (p 0)), (1, .int v1)], [], me_w M J) _ := k
                          have k := ly_revb 1 (c' := (160, [(2, .int (Int32.ofInt 0)), (0, .ref (p 0)), (1, .int v1)], [.ref (p 0)], me_w M J)) rfl k
                          have k := lz_get (a := (p 0)) (g := 1101) (M := me_w M J) (v := .int (J (p 0) 1)) rfl (congrArg Value.int (rfl)) k
                          have k := lz_ri rfl (by decide) k
                          rw [k, x233, if_neg h3, if_neg h3_0, if_neg h3_1, if_neg h3_2, if_neg h3_3, if_neg h3_4, if_neg h3_5, if_neg h3_6, if_neg h3_7, if_neg h3_8, if_neg h3_9, if_neg h3_10]
/-! .plank -/
def x107 (p : Nat → Nat) (v1 : Int32) (v2 : Int32) (J : Nat → Nat → Int32) : Int32 := if (x70 (fun i => p (31 + i)) v1 J) = 0 then (Int32.ofInt (-2))
  else if v2.toInt < 0 ∨ 4 < v2.toInt then (Int32.ofInt (-2))
    else if v2 = Int32.ofInt 0 then (J (p 34) v1.toNatClampNeg)
      else if v2 = Int32.ofInt 1 then (J (p 44) v1.toNatClampNeg)
        else if v2 = Int32.ofInt 2 then (J (p 36) v1.toNatClampNeg)
          else if v2 = Int32.ofInt 3 then (J (p 45) v1.toNatClampNeg)
            else if (J (p 46) v1.toNatClampNeg) = 0 then (Int32.ofInt 0)
              else (Int32.ofInt 1)
theorem xt107 {X : nt_X} {d : Nat} {M : nt_M} {o : Option Value × nt_M} {p : Nat → Nat} {v1 : Int32} {v2 : Int32} {J : Nat → Nat → Int32} (hp : xs_P M p) (hn : xs_Q M (fun i => p (31 + i))) (k : nt_ev X d 107 [.ref (p 16), .int v1, .int v2] (me_w M J) o) : o = (some (.int (x107 p v1 v2 J)), me_w M J) := by
  have k : nt_rn X d 107 (0, [(0, .ref (p 16)), (1, .int v1), (2, .int v2)], [], me_w M J) o := k
  have k := ly_revb 1 (c' := (1, [(0, .ref (p 16)), (1, .int v1), (2, .int v2)], [.ref (p 16)], me_w M J)) rfl k
  have k := lz_get (a := (p 16)) (g := 1007) (M := me_w M J) (v := .ref (p 31)) rfl (nt_gfR rfl (hp.1 (16, 7, 31) (by decide))) k
  have k := ly_revb 1 (c' := (5, [(0, .ref (p 16)), (1, .int v1), (2, .int v2)], [.int v1, .ref (p 31)], me_w M J)) rfl k
  obtain ⟨d1, o1, ed, kc, k⟩ := lz_c (g := 70) (q := 1) (vs := [.ref (p 31), .int v1]) (rest := []) rfl rfl (by decide) (Or.inr (Or.inl ⟨_, rfl, rfl⟩)) rfl k
  have e1 := xt70 hn kc
  subst e1
  have k : nt_rn X _ 107 (8, [(0, .ref (p 16)), (1, .int v1), (2, .int v2)], [.int (x70 (fun i => p (31 + i)) v1 J)], me_w M J) _ := k
  have k := ly_revb 1 (c' := (if (x70 (fun i => p (31 + i)) v1 J) = 0 then 11 else 14, [(0, .ref (p 16)), (1, .int v1), (2, .int v2)], [], me_w M J)) rfl k
  by_cases h8 : (x70 (fun i => p (31 + i)) v1 J) = 0
  · rw [if_pos h8] at k
    have k := ly_revb 1 (c' := (13, [(0, .ref (p 16)), (1, .int v1), (2, .int v2)], [.int (Int32.ofInt (-2))], me_w M J)) rfl k
    have k := lz_ri rfl (by decide) k
    rw [k, x107, if_pos h8]
  · rw [if_neg h8] at k
    have k := ly_revb 1 (c' := (15, [(0, .ref (p 16)), (1, .int v1), (2, .int v2)], [.int v2], me_w M J)) rfl k
    by_cases h15 : v2.toInt < 0 ∨ 4 < v2.toInt
    · have k := mx_tsd (q := 112) rfl h15 (by decide) k
      have k : nt_rn X _ 107 (112, [(0, .ref (p 16)), (1, .int v1), (2, .int v2)], [], me_w M J) _ := k
      have k := ly_revb 1 (c' := (114, [(0, .ref (p 16)), (1, .int v1), (2, .int v2)], [.int (Int32.ofInt (-2))], me_w M J)) rfl k
      have k := lz_ri rfl (by decide) k
      rw [k, x107, if_neg h8, if_pos h15]
    · by_cases h15_0 : v2 = Int32.ofInt 0
      · have k := mx_tsc (q := 48) (off := 33) rfl h15 (by rw [h15_0]; rfl) (by decide) k
        have k : nt_rn X _ 107 (48, [(0, .ref (p 16)), (1, .int v1), (2, .int v2)], [], me_w M J) _ := k
        have k := ly_revb 1 (c' := (49, [(0, .ref (p 16)), (1, .int v1), (2, .int v2)], [.ref (p 16)], me_w M J)) rfl k
        have k := lz_get (a := (p 16)) (g := 1007) (M := me_w M J) (v := .ref (p 31)) rfl (nt_gfR rfl (hp.1 (16, 7, 31) (by decide))) k
        have k := lz_get (a := (p 31)) (g := 600) (M := me_w M J) (v := .ref (p 32)) rfl (nt_gfR rfl (hn.1 (0, 0, 1) (by decide))) k
        have k := lz_get (a := (p 32)) (g := 806) (M := me_w M J) (v := .ref (p 34)) rfl (nt_gfR rfl (hn.1 (1, 6, 3) (by decide))) k
        have k := ly_revb 1 (c' := (59, [(0, .ref (p 16)), (1, .int v1), (2, .int v2)], [.int v1, .ref (p 34)], me_w M J)) rfl k
        have k := mx_iald (v := J (p 34) v1.toNatClampNeg) rfl (hp.2.2.1 34 (by omega)) (rfl) k
        have k := lz_ri rfl (by decide) k
        rw [k, x107, if_neg h8, if_neg h15, if_pos h15_0]
      · by_cases h15_1 : v2 = Int32.ofInt 1
        · have k := mx_tsc (q := 61) (off := 46) rfl h15 (by rw [h15_1]; rfl) (by decide) k
          have k : nt_rn X _ 107 (61, [(0, .ref (p 16)), (1, .int v1), (2, .int v2)], [], me_w M J) _ := k
          have k := ly_revb 1 (c' := (62, [(0, .ref (p 16)), (1, .int v1), (2, .int v2)], [.ref (p 16)], me_w M J)) rfl k
          have k := lz_get (a := (p 16)) (g := 1007) (M := me_w M J) (v := .ref (p 31)) rfl (nt_gfR rfl (hp.1 (16, 7, 31) (by decide))) k
          have k := lz_get (a := (p 31)) (g := 610) (M := me_w M J) (v := .ref (p 44)) rfl (nt_gfR rfl (hn.1 (0, 10, 13) (by decide))) k
          have k := ly_revb 1 (c' := (69, [(0, .ref (p 16)), (1, .int v1), (2, .int v2)], [.int v1, .ref (p 44)], me_w M J)) rfl k
          have k := mx_iald (v := J (p 44) v1.toNatClampNeg) rfl (hp.2.2.1 44 (by omega)) (rfl) k
          have k := lz_ri rfl (by decide) k
          rw [k, x107, if_neg h8, if_neg h15, if_neg h15_0, if_pos h15_1]
        · by_cases h15_2 : v2 = Int32.ofInt 2
          · have k := mx_tsc (q := 71) (off := 56) rfl h15 (by rw [h15_2]; rfl) (by decide) k
            have k : nt_rn X _ 107 (71, [(0, .ref (p 16)), (1, .int v1), (2, .int v2)], [], me_w M J) _ := k
            have k := ly_revb 1 (c' := (72, [(0, .ref (p 16)), (1, .int v1), (2, .int v2)], [.ref (p 16)], me_w M J)) rfl k
            have k := lz_get (a := (p 16)) (g := 1007) (M := me_w M J) (v := .ref (p 31)) rfl (nt_gfR rfl (hp.1 (16, 7, 31) (by decide))) k
            have k := lz_get (a := (p 31)) (g := 600) (M := me_w M J) (v := .ref (p 32)) rfl (nt_gfR rfl (hn.1 (0, 0, 1) (by decide))) k
            have k := lz_get (a := (p 32)) (g := 808) (M := me_w M J) (v := .ref (p 36)) rfl (nt_gfR rfl (hn.1 (1, 8, 5) (by decide))) k
            have k := ly_revb 1 (c' := (82, [(0, .ref (p 16)), (1, .int v1), (2, .int v2)], [.int v1, .ref (p 36)], me_w M J)) rfl k
            have k := mx_iald (v := J (p 36) v1.toNatClampNeg) rfl (hp.2.2.1 36 (by omega)) (rfl) k
            have k := lz_ri rfl (by decide) k
            rw [k, x107, if_neg h8, if_neg h15, if_neg h15_0, if_neg h15_1, if_pos h15_2]
          · by_cases h15_3 : v2 = Int32.ofInt 3
            · have k := mx_tsc (q := 84) (off := 69) rfl h15 (by rw [h15_3]; rfl) (by decide) k
              have k : nt_rn X _ 107 (84, [(0, .ref (p 16)), (1, .int v1), (2, .int v2)], [], me_w M J) _ := k
              have k := ly_revb 1 (c' := (85, [(0, .ref (p 16)), (1, .int v1), (2, .int v2)], [.ref (p 16)], me_w M J)) rfl k
              have k := lz_get (a := (p 16)) (g := 1007) (M := me_w M J) (v := .ref (p 31)) rfl (nt_gfR rfl (hp.1 (16, 7, 31) (by decide))) k
              have k := lz_get (a := (p 31)) (g := 611) (M := me_w M J) (v := .ref (p 45)) rfl (nt_gfR rfl (hn.1 (0, 11, 14) (by decide))) k
              have k := ly_revb 1 (c' := (92, [(0, .ref (p 16)), (1, .int v1), (2, .int v2)], [.int v1, .ref (p 45)], me_w M J)) rfl k
              have k := mx_iald (v := J (p 45) v1.toNatClampNeg) rfl (hp.2.2.1 45 (by omega)) (rfl) k
              have k := lz_ri rfl (by decide) k
              rw [k, x107, if_neg h8, if_neg h15, if_neg h15_0, if_neg h15_1, if_neg h15_2, if_pos h15_3]
            · have hz : v2 = Int32.ofInt 4 := by
                have z1 := h15
                have y0 : v2.toInt ≠ 0 := fun e => h15_0 (Int32.toInt_inj.mp (e.trans (by decide)))
                have y1 : v2.toInt ≠ 1 := fun e => h15_1 (Int32.toInt_inj.mp (e.trans (by decide)))
                have y2 : v2.toInt ≠ 2 := fun e => h15_2 (Int32.toInt_inj.mp (e.trans (by decide)))
                have y3 : v2.toInt ≠ 3 := fun e => h15_3 (Int32.toInt_inj.mp (e.trans (by decide)))
                exact Int32.toInt_inj.mp ((show v2.toInt = 4 by omega).trans (by decide))
              have k := mx_tsc (q := 94) (off := 79) rfl h15 (by rw [hz]; rfl) (by decide) k
              have k : nt_rn X _ 107 (94, [(0, .ref (p 16)), (1, .int v1), (2, .int v2)], [], me_w M J) _ := k
              have k := ly_revb 1 (c' := (95, [(0, .ref (p 16)), (1, .int v1), (2, .int v2)], [.ref (p 16)], me_w M J)) rfl k
              have k := lz_get (a := (p 16)) (g := 1007) (M := me_w M J) (v := .ref (p 31)) rfl (nt_gfR rfl (hp.1 (16, 7, 31) (by decide))) k
              have k := lz_get (a := (p 31)) (g := 612) (M := me_w M J) (v := .ref (p 46)) rfl (nt_gfR rfl (hn.1 (0, 12, 15) (by decide))) k
              have k := ly_revb 1 (c' := (102, [(0, .ref (p 16)), (1, .int v1), (2, .int v2)], [.int v1, .ref (p 46)], me_w M J)) rfl k
              have k := mx_bald (v := J (p 46) v1.toNatClampNeg) rfl (rfl) k
              have k := ly_revb 1 (c' := (if (J (p 46) v1.toNatClampNeg) = 0 then 110 else 106, [(0, .ref (p 16)), (1, .int v1), (2, .int v2)], [], me_w M J)) rfl k
              by_cases h103 : (J (p 46) v1.toNatClampNeg) = 0
              · rw [if_pos h103] at k
                have k := ly_revb 1 (c' := (111, [(0, .ref (p 16)), (1, .int v1), (2, .int v2)], [.int (Int32.ofInt 0)], me_w M J)) rfl k
                have k := lz_ri rfl (by decide) k
                rw [k, x107, if_neg h8, if_neg h15, if_neg h15_0, if_neg h15_1, if_neg h15_2, if_neg h15_3, if_pos h103]
              · rw [if_neg h103] at k
                have k := ly_revb 2 (c' := (111, [(0, .ref (p 16)), (1, .int v1), (2, .int v2)], [.int (Int32.ofInt 1)], me_w M J)) rfl k
                have k := lz_ri rfl (by decide) k
                rw [k, x107, if_neg h8, if_neg h15, if_neg h15_0, if_neg h15_1, if_neg h15_2, if_neg h15_3, if_neg h103]
/-! .voyage -/
def x108 (p : Nat → Nat) (v1 : Int32) (v2 : Int32) (J : Nat → Nat → Int32) : Int32 := if (x71 (fun i => p (31 + i)) v1 J) = 0 then (Int32.ofInt (-1))
  else if v2.toInt < 0 ∨ 4 < v2.toInt then (Int32.ofInt (-1))
    else if v2 = Int32.ofInt 0 then (J (p 37) v1.toNatClampNeg)
      else if v2 = Int32.ofInt 1 then (J (p 38) v1.toNatClampNeg)
        else if v2 = Int32.ofInt 2 then (J (p 39) v1.toNatClampNeg)
          else if v2 = Int32.ofInt 3 then (J (p 40) v1.toNatClampNeg)
            else (J (p 47) v1.toNatClampNeg)
theorem xt108 {X : nt_X} {d : Nat} {M : nt_M} {o : Option Value × nt_M} {p : Nat → Nat} {v1 : Int32} {v2 : Int32} {J : Nat → Nat → Int32} (hp : xs_P M p) (hn : xs_Q M (fun i => p (31 + i))) (k : nt_ev X d 108 [.ref (p 16), .int v1, .int v2] (me_w M J) o) : o = (some (.int (x108 p v1 v2 J)), me_w M J) := by
  have k : nt_rn X d 108 (0, [(0, .ref (p 16)), (1, .int v1), (2, .int v2)], [], me_w M J) o := k
  have k := ly_revb 1 (c' := (1, [(0, .ref (p 16)), (1, .int v1), (2, .int v2)], [.ref (p 16)], me_w M J)) rfl k
  have k := lz_get (a := (p 16)) (g := 1007) (M := me_w M J) (v := .ref (p 31)) rfl (nt_gfR rfl (hp.1 (16, 7, 31) (by decide))) k
  have k := ly_revb 1 (c' := (5, [(0, .ref (p 16)), (1, .int v1), (2, .int v2)], [.int v1, .ref (p 31)], me_w M J)) rfl k
  obtain ⟨d1, o1, ed, kc, k⟩ := lz_c (g := 71) (q := 1) (vs := [.ref (p 31), .int v1]) (rest := []) rfl rfl (by decide) (Or.inr (Or.inl ⟨_, rfl, rfl⟩)) rfl k
  have e1 := xt71 hn kc
  subst e1
  have k : nt_rn X _ 108 (8, [(0, .ref (p 16)), (1, .int v1), (2, .int v2)], [.int (x71 (fun i => p (31 + i)) v1 J)], me_w M J) _ := k
  have k := ly_revb 1 (c' := (if (x71 (fun i => p (31 + i)) v1 J) = 0 then 11 else 13, [(0, .ref (p 16)), (1, .int v1), (2, .int v2)], [], me_w M J)) rfl k
  by_cases h8 : (x71 (fun i => p (31 + i)) v1 J) = 0
  · rw [if_pos h8] at k
    have k := ly_revb 1 (c' := (12, [(0, .ref (p 16)), (1, .int v1), (2, .int v2)], [.int (Int32.ofInt (-1))], me_w M J)) rfl k
    have k := lz_ri rfl (by decide) k
    rw [k, x108, if_pos h8]
  · rw [if_neg h8] at k
    have k := ly_revb 1 (c' := (14, [(0, .ref (p 16)), (1, .int v1), (2, .int v2)], [.int v2], me_w M J)) rfl k
    by_cases h14 : v2.toInt < 0 ∨ 4 < v2.toInt
    · have k := mx_tsd (q := 110) rfl h14 (by decide) k
      have k : nt_rn X _ 108 (110, [(0, .ref (p 16)), (1, .int v1), (2, .int v2)], [], me_w M J) _ := k
      have k := ly_revb 1 (c' := (111, [(0, .ref (p 16)), (1, .int v1), (2, .int v2)], [.int (Int32.ofInt (-1))], me_w M J)) rfl k
      have k := lz_ri rfl (by decide) k
      rw [k, x108, if_neg h8, if_pos h14]
    · by_cases h14_0 : v2 = Int32.ofInt 0
      · have k := mx_tsc (q := 48) (off := 34) rfl h14 (by rw [h14_0]; rfl) (by decide) k
        have k : nt_rn X _ 108 (48, [(0, .ref (p 16)), (1, .int v1), (2, .int v2)], [], me_w M J) _ := k
        have k := ly_revb 1 (c' := (49, [(0, .ref (p 16)), (1, .int v1), (2, .int v2)], [.ref (p 16)], me_w M J)) rfl k
        have k := lz_get (a := (p 16)) (g := 1007) (M := me_w M J) (v := .ref (p 31)) rfl (nt_gfR rfl (hp.1 (16, 7, 31) (by decide))) k
        have k := lz_get (a := (p 31)) (g := 600) (M := me_w M J) (v := .ref (p 32)) rfl (nt_gfR rfl (hn.1 (0, 0, 1) (by decide))) k
        have k := lz_get (a := (p 32)) (g := 809) (M := me_w M J) (v := .ref (p 37)) rfl (nt_gfR rfl (hn.1 (1, 9, 6) (by decide))) k
        have k := ly_revb 1 (c' := (59, [(0, .ref (p 16)), (1, .int v1), (2, .int v2)], [.int v1, .ref (p 37)], me_w M J)) rfl k
        have k := mx_iald (v := J (p 37) v1.toNatClampNeg) rfl (hp.2.2.1 37 (by omega)) (rfl) k
        have k := lz_ri rfl (by decide) k
        rw [k, x108, if_neg h8, if_neg h14, if_pos h14_0]
      · by_cases h14_1 : v2 = Int32.ofInt 1
        · have k := mx_tsc (q := 61) (off := 47) rfl h14 (by rw [h14_1]; rfl) (by decide) k
          have k : nt_rn X _ 108 (61, [(0, .ref (p 16)), (1, .int v1), (2, .int v2)], [], me_w M J) _ := k
          have k := ly_revb 1 (c' := (62, [(0, .ref (p 16)), (1, .int v1), (2, .int v2)], [.ref (p 16)], me_w M J)) rfl k
          have k := lz_get (a := (p 16)) (g := 1007) (M := me_w M J) (v := .ref (p 31)) rfl (nt_gfR rfl (hp.1 (16, 7, 31) (by decide))) k
          have k := lz_get (a := (p 31)) (g := 600) (M := me_w M J) (v := .ref (p 32)) rfl (nt_gfR rfl (hn.1 (0, 0, 1) (by decide))) k
          have k := lz_get (a := (p 32)) (g := 810) (M := me_w M J) (v := .ref (p 38)) rfl (nt_gfR rfl (hn.1 (1, 10, 7) (by decide))) k
          have k := ly_revb 1 (c' := (72, [(0, .ref (p 16)), (1, .int v1), (2, .int v2)], [.int v1, .ref (p 38)], me_w M J)) rfl k
          have k := mx_iald (v := J (p 38) v1.toNatClampNeg) rfl (hp.2.2.1 38 (by omega)) (rfl) k
          have k := lz_ri rfl (by decide) k
          rw [k, x108, if_neg h8, if_neg h14, if_neg h14_0, if_pos h14_1]
        · by_cases h14_2 : v2 = Int32.ofInt 2
          · have k := mx_tsc (q := 74) (off := 60) rfl h14 (by rw [h14_2]; rfl) (by decide) k
            have k : nt_rn X _ 108 (74, [(0, .ref (p 16)), (1, .int v1), (2, .int v2)], [], me_w M J) _ := k
            have k := ly_revb 1 (c' := (75, [(0, .ref (p 16)), (1, .int v1), (2, .int v2)], [.ref (p 16)], me_w M J)) rfl k
            have k := lz_get (a := (p 16)) (g := 1007) (M := me_w M J) (v := .ref (p 31)) rfl (nt_gfR rfl (hp.1 (16, 7, 31) (by decide))) k
            have k := lz_get (a := (p 31)) (g := 600) (M := me_w M J) (v := .ref (p 32)) rfl (nt_gfR rfl (hn.1 (0, 0, 1) (by decide))) k
            have k := lz_get (a := (p 32)) (g := 811) (M := me_w M J) (v := .ref (p 39)) rfl (nt_gfR rfl (hn.1 (1, 11, 8) (by decide))) k
            have k := ly_revb 1 (c' := (85, [(0, .ref (p 16)), (1, .int v1), (2, .int v2)], [.int v1, .ref (p 39)], me_w M J)) rfl k
            have k := mx_iald (v := J (p 39) v1.toNatClampNeg) rfl (hp.2.2.1 39 (by omega)) (rfl) k
            have k := lz_ri rfl (by decide) k
            rw [k, x108, if_neg h8, if_neg h14, if_neg h14_0, if_neg h14_1, if_pos h14_2]
          · by_cases h14_3 : v2 = Int32.ofInt 3
            · have k := mx_tsc (q := 87) (off := 73) rfl h14 (by rw [h14_3]; rfl) (by decide) k
              have k : nt_rn X _ 108 (87, [(0, .ref (p 16)), (1, .int v1), (2, .int v2)], [], me_w M J) _ := k
              have k := ly_revb 1 (c' := (88, [(0, .ref (p 16)), (1, .int v1), (2, .int v2)], [.ref (p 16)], me_w M J)) rfl k
              have k := lz_get (a := (p 16)) (g := 1007) (M := me_w M J) (v := .ref (p 31)) rfl (nt_gfR rfl (hp.1 (16, 7, 31) (by decide))) k
              have k := lz_get (a := (p 31)) (g := 600) (M := me_w M J) (v := .ref (p 32)) rfl (nt_gfR rfl (hn.1 (0, 0, 1) (by decide))) k
              have k := lz_get (a := (p 32)) (g := 812) (M := me_w M J) (v := .ref (p 40)) rfl (nt_gfR rfl (hn.1 (1, 12, 9) (by decide))) k
              have k := ly_revb 1 (c' := (98, [(0, .ref (p 16)), (1, .int v1), (2, .int v2)], [.int v1, .ref (p 40)], me_w M J)) rfl k
              have k := mx_iald (v := J (p 40) v1.toNatClampNeg) rfl (hp.2.2.1 40 (by omega)) (rfl) k
              have k := lz_ri rfl (by decide) k
              rw [k, x108, if_neg h8, if_neg h14, if_neg h14_0, if_neg h14_1, if_neg h14_2, if_pos h14_3]
            · have hz : v2 = Int32.ofInt 4 := by
                have z1 := h14
                have y0 : v2.toInt ≠ 0 := fun e => h14_0 (Int32.toInt_inj.mp (e.trans (by decide)))
                have y1 : v2.toInt ≠ 1 := fun e => h14_1 (Int32.toInt_inj.mp (e.trans (by decide)))
                have y2 : v2.toInt ≠ 2 := fun e => h14_2 (Int32.toInt_inj.mp (e.trans (by decide)))
                have y3 : v2.toInt ≠ 3 := fun e => h14_3 (Int32.toInt_inj.mp (e.trans (by decide)))
                exact Int32.toInt_inj.mp ((show v2.toInt = 4 by omega).trans (by decide))
              have k := mx_tsc (q := 100) (off := 86) rfl h14 (by rw [hz]; rfl) (by decide) k
              have k : nt_rn X _ 108 (100, [(0, .ref (p 16)), (1, .int v1), (2, .int v2)], [], me_w M J) _ := k
              have k := ly_revb 1 (c' := (101, [(0, .ref (p 16)), (1, .int v1), (2, .int v2)], [.ref (p 16)], me_w M J)) rfl k
              have k := lz_get (a := (p 16)) (g := 1007) (M := me_w M J) (v := .ref (p 31)) rfl (nt_gfR rfl (hp.1 (16, 7, 31) (by decide))) k
              have k := lz_get (a := (p 31)) (g := 613) (M := me_w M J) (v := .ref (p 47)) rfl (nt_gfR rfl (hn.1 (0, 13, 16) (by decide))) k
              have k := ly_revb 1 (c' := (108, [(0, .ref (p 16)), (1, .int v1), (2, .int v2)], [.int v1, .ref (p 47)], me_w M J)) rfl k
              have k := mx_iald (v := J (p 47) v1.toNatClampNeg) rfl (hp.2.2.1 47 (by omega)) (rfl) k
              have k := lz_ri rfl (by decide) k
              rw [k, x108, if_neg h8, if_neg h14, if_neg h14_0, if_neg h14_1, if_neg h14_2, if_neg h14_3]
/-! .move -/
def x109 (p : Nat → Nat) (v1 : Int32) (v2 : Int32) (J : Nat → Nat → Int32) : Int32 × (Nat → Nat → Int32) := if (x70 (fun i => p (31 + i)) v1 J) = 0 then (Int32.ofInt 0, J)
  else if v2 = (Int32.ofInt (-1)) then if (x72 (fun i => p (31 + i)) J) ≤ 0 then (Int32.ofInt 0, J)
      else if (J (p 45) v1.toNatClampNeg) = v2 then (Int32.ofInt 0, J)
        else if (x73 (fun i => p (31 + i)) v1 J) = 0 then (Int32.ofInt 0, J)
          else if v2 = (Int32.ofInt (-1)) then (Int32.ofInt 1, x74 (fun i => p (31 + i)) v1 v2 J)
            else if (J (p 41) v2.toNatClampNeg) = 0 then (Int32.ofInt 1, x74 (fun i => p (31 + i)) v1 v2 J)
              else (Int32.ofInt 0, J)
    else if (x65 (fun i => p (31 + i)) v2 J) = 0 then (Int32.ofInt 0, J)
      else if (x72 (fun i => p (31 + i)) J) ≤ 0 then (Int32.ofInt 0, J)
        else if (J (p 45) v1.toNatClampNeg) = v2 then (Int32.ofInt 0, J)
          else if (x73 (fun i => p (31 + i)) v1 J) = 0 then (Int32.ofInt 0, J)
            else if v2 = (Int32.ofInt (-1)) then (Int32.ofInt 1, x74 (fun i => p (31 + i)) v1 v2 J)
              else if (J (p 41) v2.toNatClampNeg) = 0 then (Int32.ofInt 1, x74 (fun i => p (31 + i)) v1 v2 J)
                else (Int32.ofInt 0, J)
theorem xt109 {X : nt_X} {d : Nat} {M : nt_M} {o : Option Value × nt_M} {p : Nat → Nat} {v1 : Int32} {v2 : Int32} {J : Nat → Nat → Int32} (hp : xs_P M p) (hn : xs_Q M (fun i => p (31 + i))) (k : nt_ev X d 109 [.ref (p 16), .int v1, .int v2] (me_w M J) o) : o = (some (.int ((x109 p v1 v2 J).1)), me_w M ((x109 p v1 v2 J).2)) := by
  have k : nt_rn X d 109 (0, [(0, .ref (p 16)), (1, .int v1), (2, .int v2)], [], me_w M J) o := k
  have k := ly_revb 1 (c' := (1, [(0, .ref (p 16)), (1, .int v1), (2, .int v2)], [.ref (p 16)], me_w M J)) rfl k
  have k := lz_get (a := (p 16)) (g := 1007) (M := me_w M J) (v := .ref (p 31)) rfl (nt_gfR rfl (hp.1 (16, 7, 31) (by decide))) k
  have k := ly_revb 1 (c' := (5, [(0, .ref (p 16)), (1, .int v1), (2, .int v2)], [.int v1, .ref (p 31)], me_w M J)) rfl k
  obtain ⟨d1, o1, ed, kc, k⟩ := lz_c (g := 70) (q := 1) (vs := [.ref (p 31), .int v1]) (rest := []) rfl rfl (by decide) (Or.inr (Or.inl ⟨_, rfl, rfl⟩)) rfl k
  have e1 := xt70 hn kc
  subst e1
  have k : nt_rn X _ 109 (8, [(0, .ref (p 16)), (1, .int v1), (2, .int v2)], [.int (x70 (fun i => p (31 + i)) v1 J)], me_w M J) _ := k
  have k := ly_revb 1 (c' := (if (x70 (fun i => p (31 + i)) v1 J) = 0 then 31 else 11, [(0, .ref (p 16)), (1, .int v1), (2, .int v2)], [], me_w M J)) rfl k
  by_cases h8 : (x70 (fun i => p (31 + i)) v1 J) = 0
  · rw [if_pos h8] at k
    have k := ly_revb 4 (c' := (if (Int32.ofInt 0) = 0 then 71 else 37, [(3, .int (Int32.ofInt 0)), (0, .ref (p 16)), (1, .int v1), (2, .int v2)], [], me_w M J)) rfl k
    rw [if_pos (show (Int32.ofInt 0) = 0 from by decide)] at k
    have k := ly_revb 1 (c' := (72, [(3, .int (Int32.ofInt 0)), (0, .ref (p 16)), (1, .int v1), (2, .int v2)], [.int (Int32.ofInt 0)], me_w M J)) rfl k
    have k := lz_ri rfl (by decide) k
    rw [k, x109, if_pos h8]
  · rw [if_neg h8] at k
    have k := ly_revb 3 (c' := (if v2 = (Int32.ofInt (-1)) then 27 else 16, [(0, .ref (p 16)), (1, .int v1), (2, .int v2)], [], me_w M J)) rfl k
    by_cases h13 : v2 = (Int32.ofInt (-1))
    · rw [if_pos h13] at k
      have k := ly_revb 5 (c' := (if (Int32.ofInt 1) = 0 then 71 else 37, [(3, .int (Int32.ofInt 1)), (0, .ref (p 16)), (1, .int v1), (2, .int v2)], [], me_w M J)) rfl k
      rw [if_neg (show ¬ ((Int32.ofInt 1) = 0) from by decide)] at k
      have k := ly_revb 1 (c' := (38, [(3, .int (Int32.ofInt 1)), (0, .ref (p 16)), (1, .int v1), (2, .int v2)], [.ref (p 16)], me_w M J)) rfl k
      have k := lz_get (a := (p 16)) (g := 1007) (M := me_w M J) (v := .ref (p 31)) rfl (nt_gfR rfl (hp.1 (16, 7, 31) (by decide))) k
      obtain ⟨d1, o1, ed, kc, k⟩ := lz_c (g := 72) (q := 1) (vs := [.ref (p 31)]) (rest := []) rfl rfl (by decide) (Or.inr (Or.inl ⟨_, rfl, rfl⟩)) rfl k
      have e1 := xt72 hn kc
      subst e1
      have k : nt_rn X _ 109 (44, [(3, .int (Int32.ofInt 1)), (0, .ref (p 16)), (1, .int v1), (2, .int v2)], [.int (x72 (fun i => p (31 + i)) J)], me_w M J) _ := k
      have k := ly_revb 1 (c' := (if (x72 (fun i => p (31 + i)) J) ≤ 0 then 71 else 47, [(3, .int (Int32.ofInt 1)), (0, .ref (p 16)), (1, .int v1), (2, .int v2)], [], me_w M J)) rfl k
      by_cases h44 : (x72 (fun i => p (31 + i)) J) ≤ 0
      · rw [if_pos h44] at k
        have k := ly_revb 1 (c' := (72, [(3, .int (Int32.ofInt 1)), (0, .ref (p 16)), (1, .int v1), (2, .int v2)], [.int (Int32.ofInt 0)], me_w M J)) rfl k
        have k := lz_ri rfl (by decide) k
        rw [k, x109, if_neg h8, if_pos h13, if_pos h44]
      · rw [if_neg h44] at k
        have k := ly_revb 1 (c' := (48, [(3, .int (Int32.ofInt 1)), (0, .ref (p 16)), (1, .int v1), (2, .int v2)], [.ref (p 16)], me_w M J)) rfl k
        have k := lz_get (a := (p 16)) (g := 1007) (M := me_w M J) (v := .ref (p 31)) rfl (nt_gfR rfl (hp.1 (16, 7, 31) (by decide))) k
        have k := lz_get (a := (p 31)) (g := 611) (M := me_w M J) (v := .ref (p 45)) rfl (nt_gfR rfl (hn.1 (0, 11, 14) (by decide))) k
        have k := ly_revb 1 (c' := (55, [(3, .int (Int32.ofInt 1)), (0, .ref (p 16)), (1, .int v1), (2, .int v2)], [.int v1, .ref (p 45)], me_w M J)) rfl k
        have k := mx_iald (v := J (p 45) v1.toNatClampNeg) rfl (hp.2.2.1 45 (by omega)) (rfl) k
        have k := ly_revb 2 (c' := (if (J (p 45) v1.toNatClampNeg) = v2 then 71 else 60, [(3, .int (Int32.ofInt 1)), (0, .ref (p 16)), (1, .int v1), (2, .int v2)], [], me_w M J)) rfl k
        by_cases h57 : (J (p 45) v1.toNatClampNeg) = v2
        · rw [if_pos h57] at k
          have k := ly_revb 1 (c' := (72, [(3, .int (Int32.ofInt 1)), (0, .ref (p 16)), (1, .int v1), (2, .int v2)], [.int (Int32.ofInt 0)], me_w M J)) rfl k
          have k := lz_ri rfl (by decide) k
          rw [k, x109, if_neg h8, if_pos h13, if_neg h44, if_pos h57]
        · rw [if_neg h57] at k
          have k := ly_revb 1 (c' := (61, [(3, .int (Int32.ofInt 1)), (0, .ref (p 16)), (1, .int v1), (2, .int v2)], [.ref (p 16)], me_w M J)) rfl k
          have k := lz_get (a := (p 16)) (g := 1007) (M := me_w M J) (v := .ref (p 31)) rfl (nt_gfR rfl (hp.1 (16, 7, 31) (by decide))) k
          have k := ly_revb 1 (c' := (65, [(3, .int (Int32.ofInt 1)), (0, .ref (p 16)), (1, .int v1), (2, .int v2)], [.int v1, .ref (p 31)], me_w M J)) rfl k
          obtain ⟨d1, o1, ed, kc, k⟩ := lz_c (g := 73) (q := 1) (vs := [.ref (p 31), .int v1]) (rest := []) rfl rfl (by decide) (Or.inr (Or.inl ⟨_, rfl, rfl⟩)) rfl k
          have e1 := xt73 hn kc
          subst e1
          have k : nt_rn X _ 109 (68, [(3, .int (Int32.ofInt 1)), (0, .ref (p 16)), (1, .int v1), (2, .int v2)], [.int (x73 (fun i => p (31 + i)) v1 J)], me_w M J) _ := k
          have k := ly_revb 1 (c' := (if (x73 (fun i => p (31 + i)) v1 J) = 0 then 71 else 73, [(3, .int (Int32.ofInt 1)), (0, .ref (p 16)), (1, .int v1), (2, .int v2)], [], me_w M J)) rfl k
          by_cases h68 : (x73 (fun i => p (31 + i)) v1 J) = 0
          · rw [if_pos h68] at k
            have k := ly_revb 1 (c' := (72, [(3, .int (Int32.ofInt 1)), (0, .ref (p 16)), (1, .int v1), (2, .int v2)], [.int (Int32.ofInt 0)], me_w M J)) rfl k
            have k := lz_ri rfl (by decide) k
            rw [k, x109, if_neg h8, if_pos h13, if_neg h44, if_neg h57, if_pos h68]
          · rw [if_neg h68] at k
            have k := ly_revb 3 (c' := (if v2 = (Int32.ofInt (-1)) then 92 else 78, [(3, .int (Int32.ofInt 1)), (0, .ref (p 16)), (1, .int v1), (2, .int v2)], [], me_w M J)) rfl k
            by_cases h75 : v2 = (Int32.ofInt (-1))
            · rw [if_pos h75] at k
              have k := ly_revb 1 (c' := (93, [(3, .int (Int32.ofInt 1)), (0, .ref (p 16)), (1, .int v1), (2, .int v2)], [.ref (p 16)], me_w M J)) rfl k
              have k := lz_get (a := (p 16)) (g := 1007) (M := me_w M J) (v := .ref (p 31)) rfl (nt_gfR rfl (hp.1 (16, 7, 31) (by decide))) k
              have k := ly_revb 2 (c' := (98, [(3, .int (Int32.ofInt 1)), (0, .ref (p 16)), (1, .int v1), (2, .int v2)], [.int v2, .int v1, .ref (p 31)], me_w M J)) rfl k
              obtain ⟨d1, o1, ed, kc, k⟩ := lz_c (g := 74) (q := 1) (vs := [.ref (p 31), .int v1, .int v2]) (rest := []) rfl rfl (by decide) (Or.inr (Or.inl ⟨_, rfl, rfl⟩)) rfl k
              have e1 := xt74 hn kc
              subst e1
              have k : nt_rn X _ 109 (101, [(3, .int (Int32.ofInt 1)), (0, .ref (p 16)), (1, .int v1), (2, .int v2)], [], me_w M (x74 (fun i => p (31 + i)) v1 v2 J)) _ := k
              have k := ly_revb 1 (c' := (102, [(3, .int (Int32.ofInt 1)), (0, .ref (p 16)), (1, .int v1), (2, .int v2)], [.int (Int32.ofInt 1)], me_w M (x74 (fun i => p (31 + i)) v1 v2 J))) rfl k
              have k := lz_ri rfl (by decide) k
              rw [k, x109, if_neg h8, if_pos h13, if_neg h44, if_neg h57, if_neg h68, if_pos h75]
            · rw [if_neg h75] at k
              have k := ly_revb 1 (c' := (79, [(3, .int (Int32.ofInt 1)), (0, .ref (p 16)), (1, .int v1), (2, .int v2)], [.ref (p 16)], me_w M J)) rfl k
              have k := lz_get (a := (p 16)) (g := 1007) (M := me_w M J) (v := .ref (p 31)) rfl (nt_gfR rfl (hp.1 (16, 7, 31) (by decide))) k
              have k := lz_get (a := (p 31)) (g := 607) (M := me_w M J) (v := .ref (p 41)) rfl (nt_gfR rfl (hn.1 (0, 7, 10) (by decide))) k
              have k := ly_revb 1 (c' := (86, [(3, .int (Int32.ofInt 1)), (0, .ref (p 16)), (1, .int v1), (2, .int v2)], [.int v2, .ref (p 41)], me_w M J)) rfl k
              have k := mx_iald (v := J (p 41) v2.toNatClampNeg) rfl (hp.2.2.1 41 (by omega)) (rfl) k
              have k := ly_revb 1 (c' := (if (J (p 41) v2.toNatClampNeg) = 0 then 92 else 90, [(3, .int (Int32.ofInt 1)), (0, .ref (p 16)), (1, .int v1), (2, .int v2)], [], me_w M J)) rfl k
              by_cases h87 : (J (p 41) v2.toNatClampNeg) = 0
              · rw [if_pos h87] at k
                have k := ly_revb 1 (c' := (93, [(3, .int (Int32.ofInt 1)), (0, .ref (p 16)), (1, .int v1), (2, .int v2)], [.ref (p 16)], me_w M J)) rfl k
                have k := lz_get (a := (p 16)) (g := 1007) (M := me_w M J) (v := .ref (p 31)) rfl (nt_gfR rfl (hp.1 (16, 7, 31) (by decide))) k
                have k := ly_revb 2 (c' := (98, [(3, .int (Int32.ofInt 1)), (0, .ref (p 16)), (1, .int v1), (2, .int v2)], [.int v2, .int v1, .ref (p 31)], me_w M J)) rfl k
                obtain ⟨d1, o1, ed, kc, k⟩ := lz_c (g := 74) (q := 1) (vs := [.ref (p 31), .int v1, .int v2]) (rest := []) rfl rfl (by decide) (Or.inr (Or.inl ⟨_, rfl, rfl⟩)) rfl k
                have e1 := xt74 hn kc
                subst e1
                have k : nt_rn X _ 109 (101, [(3, .int (Int32.ofInt 1)), (0, .ref (p 16)), (1, .int v1), (2, .int v2)], [], me_w M (x74 (fun i => p (31 + i)) v1 v2 J)) _ := k
                have k := ly_revb 1 (c' := (102, [(3, .int (Int32.ofInt 1)), (0, .ref (p 16)), (1, .int v1), (2, .int v2)], [.int (Int32.ofInt 1)], me_w M (x74 (fun i => p (31 + i)) v1 v2 J))) rfl k
                have k := lz_ri rfl (by decide) k
                rw [k, x109, if_neg h8, if_pos h13, if_neg h44, if_neg h57, if_neg h68, if_neg h75, if_pos h87]
              · rw [if_neg h87] at k
                have k := ly_revb 1 (c' := (91, [(3, .int (Int32.ofInt 1)), (0, .ref (p 16)), (1, .int v1), (2, .int v2)], [.int (Int32.ofInt 0)], me_w M J)) rfl k
                have k := lz_ri rfl (by decide) k
                rw [k, x109, if_neg h8, if_pos h13, if_neg h44, if_neg h57, if_neg h68, if_neg h75, if_neg h87]
    · rw [if_neg h13] at k
      have k := ly_revb 1 (c' := (17, [(0, .ref (p 16)), (1, .int v1), (2, .int v2)], [.ref (p 16)], me_w M J)) rfl k
      have k := lz_get (a := (p 16)) (g := 1007) (M := me_w M J) (v := .ref (p 31)) rfl (nt_gfR rfl (hp.1 (16, 7, 31) (by decide))) k
      have k := ly_revb 1 (c' := (21, [(0, .ref (p 16)), (1, .int v1), (2, .int v2)], [.int v2, .ref (p 31)], me_w M J)) rfl k
      obtain ⟨d1, o1, ed, kc, k⟩ := lz_c (g := 65) (q := 1) (vs := [.ref (p 31), .int v2]) (rest := []) rfl rfl (by decide) (Or.inr (Or.inl ⟨_, rfl, rfl⟩)) rfl k
      have e1 := xt65 hn kc
      subst e1
      have k : nt_rn X _ 109 (24, [(0, .ref (p 16)), (1, .int v1), (2, .int v2)], [.int (x65 (fun i => p (31 + i)) v2 J)], me_w M J) _ := k
      have k := ly_revb 1 (c' := (if (x65 (fun i => p (31 + i)) v2 J) = 0 then 31 else 27, [(0, .ref (p 16)), (1, .int v1), (2, .int v2)], [], me_w M J)) rfl k
      by_cases h24 : (x65 (fun i => p (31 + i)) v2 J) = 0
      · rw [if_pos h24] at k
        have k := ly_revb 4 (c' := (if (Int32.ofInt 0) = 0 then 71 else 37, [(3, .int (Int32.ofInt 0)), (0, .ref (p 16)), (1, .int v1), (2, .int v2)], [], me_w M J)) rfl k
        rw [if_pos (show (Int32.ofInt 0) = 0 from by decide)] at k
        have k := ly_revb 1 (c' := (72, [(3, .int (Int32.ofInt 0)), (0, .ref (p 16)), (1, .int v1), (2, .int v2)], [.int (Int32.ofInt 0)], me_w M J)) rfl k
        have k := lz_ri rfl (by decide) k
        rw [k, x109, if_neg h8, if_neg h13, if_pos h24]
      · rw [if_neg h24] at k
        have k := ly_revb 5 (c' := (if (Int32.ofInt 1) = 0 then 71 else 37, [(3, .int (Int32.ofInt 1)), (0, .ref (p 16)), (1, .int v1), (2, .int v2)], [], me_w M J)) rfl k
        rw [if_neg (show ¬ ((Int32.ofInt 1) = 0) from by decide)] at k
        have k := ly_revb 1 (c' := (38, [(3, .int (Int32.ofInt 1)), (0, .ref (p 16)), (1, .int v1), (2, .int v2)], [.ref (p 16)], me_w M J)) rfl k
        have k := lz_get (a := (p 16)) (g := 1007) (M := me_w M J) (v := .ref (p 31)) rfl (nt_gfR rfl (hp.1 (16, 7, 31) (by decide))) k
        obtain ⟨d1, o1, ed, kc, k⟩ := lz_c (g := 72) (q := 1) (vs := [.ref (p 31)]) (rest := []) rfl rfl (by decide) (Or.inr (Or.inl ⟨_, rfl, rfl⟩)) rfl k
        have e1 := xt72 hn kc
        subst e1
        have k : nt_rn X _ 109 (44, [(3, .int (Int32.ofInt 1)), (0, .ref (p 16)), (1, .int v1), (2, .int v2)], [.int (x72 (fun i => p (31 + i)) J)], me_w M J) _ := k
        have k := ly_revb 1 (c' := (if (x72 (fun i => p (31 + i)) J) ≤ 0 then 71 else 47, [(3, .int (Int32.ofInt 1)), (0, .ref (p 16)), (1, .int v1), (2, .int v2)], [], me_w M J)) rfl k
        by_cases h44 : (x72 (fun i => p (31 + i)) J) ≤ 0
        · rw [if_pos h44] at k
          have k := ly_revb 1 (c' := (72, [(3, .int (Int32.ofInt 1)), (0, .ref (p 16)), (1, .int v1), (2, .int v2)], [.int (Int32.ofInt 0)], me_w M J)) rfl k
          have k := lz_ri rfl (by decide) k
          rw [k, x109, if_neg h8, if_neg h13, if_neg h24, if_pos h44]
        · rw [if_neg h44] at k
          have k := ly_revb 1 (c' := (48, [(3, .int (Int32.ofInt 1)), (0, .ref (p 16)), (1, .int v1), (2, .int v2)], [.ref (p 16)], me_w M J)) rfl k
          have k := lz_get (a := (p 16)) (g := 1007) (M := me_w M J) (v := .ref (p 31)) rfl (nt_gfR rfl (hp.1 (16, 7, 31) (by decide))) k
          have k := lz_get (a := (p 31)) (g := 611) (M := me_w M J) (v := .ref (p 45)) rfl (nt_gfR rfl (hn.1 (0, 11, 14) (by decide))) k
          have k := ly_revb 1 (c' := (55, [(3, .int (Int32.ofInt 1)), (0, .ref (p 16)), (1, .int v1), (2, .int v2)], [.int v1, .ref (p 45)], me_w M J)) rfl k
          have k := mx_iald (v := J (p 45) v1.toNatClampNeg) rfl (hp.2.2.1 45 (by omega)) (rfl) k
          have k := ly_revb 2 (c' := (if (J (p 45) v1.toNatClampNeg) = v2 then 71 else 60, [(3, .int (Int32.ofInt 1)), (0, .ref (p 16)), (1, .int v1), (2, .int v2)], [], me_w M J)) rfl k
          by_cases h57 : (J (p 45) v1.toNatClampNeg) = v2
          · rw [if_pos h57] at k
            have k := ly_revb 1 (c' := (72, [(3, .int (Int32.ofInt 1)), (0, .ref (p 16)), (1, .int v1), (2, .int v2)], [.int (Int32.ofInt 0)], me_w M J)) rfl k
            have k := lz_ri rfl (by decide) k
            rw [k, x109, if_neg h8, if_neg h13, if_neg h24, if_neg h44, if_pos h57]
          · rw [if_neg h57] at k
            have k := ly_revb 1 (c' := (61, [(3, .int (Int32.ofInt 1)), (0, .ref (p 16)), (1, .int v1), (2, .int v2)], [.ref (p 16)], me_w M J)) rfl k
            have k := lz_get (a := (p 16)) (g := 1007) (M := me_w M J) (v := .ref (p 31)) rfl (nt_gfR rfl (hp.1 (16, 7, 31) (by decide))) k
            have k := ly_revb 1 (c' := (65, [(3, .int (Int32.ofInt 1)), (0, .ref (p 16)), (1, .int v1), (2, .int v2)], [.int v1, .ref (p 31)], me_w M J)) rfl k
            obtain ⟨d1, o1, ed, kc, k⟩ := lz_c (g := 73) (q := 1) (vs := [.ref (p 31), .int v1]) (rest := []) rfl rfl (by decide) (Or.inr (Or.inl ⟨_, rfl, rfl⟩)) rfl k
            have e1 := xt73 hn kc
            subst e1
            have k : nt_rn X _ 109 (68, [(3, .int (Int32.ofInt 1)), (0, .ref (p 16)), (1, .int v1), (2, .int v2)], [.int (x73 (fun i => p (31 + i)) v1 J)], me_w M J) _ := k
            have k := ly_revb 1 (c' := (if (x73 (fun i => p (31 + i)) v1 J) = 0 then 71 else 73, [(3, .int (Int32.ofInt 1)), (0, .ref (p 16)), (1, .int v1), (2, .int v2)], [], me_w M J)) rfl k
            by_cases h68 : (x73 (fun i => p (31 + i)) v1 J) = 0
            · rw [if_pos h68] at k
              have k := ly_revb 1 (c' := (72, [(3, .int (Int32.ofInt 1)), (0, .ref (p 16)), (1, .int v1), (2, .int v2)], [.int (Int32.ofInt 0)], me_w M J)) rfl k
              have k := lz_ri rfl (by decide) k
              rw [k, x109, if_neg h8, if_neg h13, if_neg h24, if_neg h44, if_neg h57, if_pos h68]
            · rw [if_neg h68] at k
              have k := ly_revb 3 (c' := (if v2 = (Int32.ofInt (-1)) then 92 else 78, [(3, .int (Int32.ofInt 1)), (0, .ref (p 16)), (1, .int v1), (2, .int v2)], [], me_w M J)) rfl k
              by_cases h75 : v2 = (Int32.ofInt (-1))
              · rw [if_pos h75] at k
                have k := ly_revb 1 (c' := (93, [(3, .int (Int32.ofInt 1)), (0, .ref (p 16)), (1, .int v1), (2, .int v2)], [.ref (p 16)], me_w M J)) rfl k
                have k := lz_get (a := (p 16)) (g := 1007) (M := me_w M J) (v := .ref (p 31)) rfl (nt_gfR rfl (hp.1 (16, 7, 31) (by decide))) k
                have k := ly_revb 2 (c' := (98, [(3, .int (Int32.ofInt 1)), (0, .ref (p 16)), (1, .int v1), (2, .int v2)], [.int v2, .int v1, .ref (p 31)], me_w M J)) rfl k
                obtain ⟨d1, o1, ed, kc, k⟩ := lz_c (g := 74) (q := 1) (vs := [.ref (p 31), .int v1, .int v2]) (rest := []) rfl rfl (by decide) (Or.inr (Or.inl ⟨_, rfl, rfl⟩)) rfl k
                have e1 := xt74 hn kc
                subst e1
                have k : nt_rn X _ 109 (101, [(3, .int (Int32.ofInt 1)), (0, .ref (p 16)), (1, .int v1), (2, .int v2)], [], me_w M (x74 (fun i => p (31 + i)) v1 v2 J)) _ := k
                have k := ly_revb 1 (c' := (102, [(3, .int (Int32.ofInt 1)), (0, .ref (p 16)), (1, .int v1), (2, .int v2)], [.int (Int32.ofInt 1)], me_w M (x74 (fun i => p (31 + i)) v1 v2 J))) rfl k
                have k := lz_ri rfl (by decide) k
                rw [k, x109, if_neg h8, if_neg h13, if_neg h24, if_neg h44, if_neg h57, if_neg h68, if_pos h75]
              · rw [if_neg h75] at k
                have k := ly_revb 1 (c' := (79, [(3, .int (Int32.ofInt 1)), (0, .ref (p 16)), (1, .int v1), (2, .int v2)], [.ref (p 16)], me_w M J)) rfl k
                have k := lz_get (a := (p 16)) (g := 1007) (M := me_w M J) (v := .ref (p 31)) rfl (nt_gfR rfl (hp.1 (16, 7, 31) (by decide))) k
                have k := lz_get (a := (p 31)) (g := 607) (M := me_w M J) (v := .ref (p 41)) rfl (nt_gfR rfl (hn.1 (0, 7, 10) (by decide))) k
                have k := ly_revb 1 (c' := (86, [(3, .int (Int32.ofInt 1)), (0, .ref (p 16)), (1, .int v1), (2, .int v2)], [.int v2, .ref (p 41)], me_w M J)) rfl k
                have k := mx_iald (v := J (p 41) v2.toNatClampNeg) rfl (hp.2.2.1 41 (by omega)) (rfl) k
                have k := ly_revb 1 (c' := (if (J (p 41) v2.toNatClampNeg) = 0 then 92 else 90, [(3, .int (Int32.ofInt 1)), (0, .ref (p 16)), (1, .int v1), (2, .int v2)], [], me_w M J)) rfl k
                by_cases h87 : (J (p 41) v2.toNatClampNeg) = 0
                · rw [if_pos h87] at k
                  have k := ly_revb 1 (c' := (93, [(3, .int (Int32.ofInt 1)), (0, .ref (p 16)), (1, .int v1), (2, .int v2)], [.ref (p 16)], me_w M J)) rfl k
                  have k := lz_get (a := (p 16)) (g := 1007) (M := me_w M J) (v := .ref (p 31)) rfl (nt_gfR rfl (hp.1 (16, 7, 31) (by decide))) k
                  have k := ly_revb 2 (c' := (98, [(3, .int (Int32.ofInt 1)), (0, .ref (p 16)), (1, .int v1), (2, .int v2)], [.int v2, .int v1, .ref (p 31)], me_w M J)) rfl k
                  obtain ⟨d1, o1, ed, kc, k⟩ := lz_c (g := 74) (q := 1) (vs := [.ref (p 31), .int v1, .int v2]) (rest := []) rfl rfl (by decide) (Or.inr (Or.inl ⟨_, rfl, rfl⟩)) rfl k
                  have e1 := xt74 hn kc
                  subst e1
                  have k : nt_rn X _ 109 (101, [(3, .int (Int32.ofInt 1)), (0, .ref (p 16)), (1, .int v1), (2, .int v2)], [], me_w M (x74 (fun i => p (31 + i)) v1 v2 J)) _ := k
                  have k := ly_revb 1 (c' := (102, [(3, .int (Int32.ofInt 1)), (0, .ref (p 16)), (1, .int v1), (2, .int v2)], [.int (Int32.ofInt 1)], me_w M (x74 (fun i => p (31 + i)) v1 v2 J))) rfl k
                  have k := lz_ri rfl (by decide) k
                  rw [k, x109, if_neg h8, if_neg h13, if_neg h24, if_neg h44, if_neg h57, if_neg h68, if_neg h75, if_pos h87]
                · rw [if_neg h87] at k
                  have k := ly_revb 1 (c' := (91, [(3, .int (Int32.ofInt 1)), (0, .ref (p 16)), (1, .int v1), (2, .int v2)], [.int (Int32.ofInt 0)], me_w M J)) rfl k
                  have k := lz_ri rfl (by decide) k
                  rw [k, x109, if_neg h8, if_neg h13, if_neg h24, if_neg h44, if_neg h57, if_neg h68, if_neg h75, if_neg h87]
theorem x109_frJ {p : Nat → Nat} {v1 : Int32} {v2 : Int32} {J : Nat → Nat → Int32} {b : Nat} (n0 : b ≠ p 31) (n1 : b ≠ p 45) : (x109 p v1 v2 J).2 b = J b := by
  unfold x109
  by_cases h : (x70 (fun i => p (31 + i)) v1 J) = 0
  · rw [if_pos h]
    all_goals first | (dsimp only; exact (show J b = J b from rfl)) | exact (show J b = J b from rfl)
  · rw [if_neg h]
    by_cases h : v2 = (Int32.ofInt (-1))
    · rw [if_pos h]
      by_cases h : (x72 (fun i => p (31 + i)) J) ≤ 0
      · rw [if_pos h]
        all_goals first | (dsimp only; exact (show J b = J b from rfl)) | exact (show J b = J b from rfl)
      · rw [if_neg h]
        by_cases h : (J (p 45) v1.toNatClampNeg) = v2
        · rw [if_pos h]
          all_goals first | (dsimp only; exact (show J b = J b from rfl)) | exact (show J b = J b from rfl)
        · rw [if_neg h]
          by_cases h : (x73 (fun i => p (31 + i)) v1 J) = 0
          · rw [if_pos h]
            all_goals first | (dsimp only; exact (show J b = J b from rfl)) | exact (show J b = J b from rfl)
          · rw [if_neg h]
            by_cases h : v2 = (Int32.ofInt (-1))
            · rw [if_pos h]
              all_goals first | (dsimp only; exact (show (x74 (fun i => p (31 + i)) v1 v2 J) b = J b from x74_frJ  n0 n1)) | exact (show (x74 (fun i => p (31 + i)) v1 v2 J) b = J b from x74_frJ  n0 n1)
            · rw [if_neg h]
              by_cases h : (J (p 41) v2.toNatClampNeg) = 0
              · rw [if_pos h]
                all_goals first | (dsimp only; exact (show (x74 (fun i => p (31 + i)) v1 v2 J) b = J b from x74_frJ  n0 n1)) | exact (show (x74 (fun i => p (31 + i)) v1 v2 J) b = J b from x74_frJ  n0 n1)
              · rw [if_neg h]
                all_goals first | (dsimp only; exact (show J b = J b from rfl)) | exact (show J b = J b from rfl)
    · rw [if_neg h]
      by_cases h : (x65 (fun i => p (31 + i)) v2 J) = 0
      · rw [if_pos h]
        all_goals first | (dsimp only; exact (show J b = J b from rfl)) | exact (show J b = J b from rfl)
      · rw [if_neg h]
        by_cases h : (x72 (fun i => p (31 + i)) J) ≤ 0
        · rw [if_pos h]
          all_goals first | (dsimp only; exact (show J b = J b from rfl)) | exact (show J b = J b from rfl)
        · rw [if_neg h]
          by_cases h : (J (p 45) v1.toNatClampNeg) = v2
          · rw [if_pos h]
            all_goals first | (dsimp only; exact (show J b = J b from rfl)) | exact (show J b = J b from rfl)
          · rw [if_neg h]
            by_cases h : (x73 (fun i => p (31 + i)) v1 J) = 0
            · rw [if_pos h]
              all_goals first | (dsimp only; exact (show J b = J b from rfl)) | exact (show J b = J b from rfl)
            · rw [if_neg h]
              by_cases h : v2 = (Int32.ofInt (-1))
              · rw [if_pos h]
                all_goals first | (dsimp only; exact (show (x74 (fun i => p (31 + i)) v1 v2 J) b = J b from x74_frJ  n0 n1)) | exact (show (x74 (fun i => p (31 + i)) v1 v2 J) b = J b from x74_frJ  n0 n1)
              · rw [if_neg h]
                by_cases h : (J (p 41) v2.toNatClampNeg) = 0
                · rw [if_pos h]
                  all_goals first | (dsimp only; exact (show (x74 (fun i => p (31 + i)) v1 v2 J) b = J b from x74_frJ  n0 n1)) | exact (show (x74 (fun i => p (31 + i)) v1 v2 J) b = J b from x74_frJ  n0 n1)
                · rw [if_neg h]
                  all_goals first | (dsimp only; exact (show J b = J b from rfl)) | exact (show J b = J b from rfl)
/-! .seed -/
def x124 (p : Nat → Nat) (v1 : Int32) (J : Nat → Nat → Int32) : Int32 × (Nat → Nat → Int32) := if 0 ≤ v1 then (J (p 31) 6, nt_u J (p 31) 6 v1)
  else (Int32.ofInt (-1), J)
theorem xt124 {X : nt_X} {d : Nat} {M : nt_M} {o : Option Value × nt_M} {p : Nat → Nat} {v1 : Int32} {J : Nat → Nat → Int32} (hp : xs_P M p) (hn : xs_Q M (fun i => p (31 + i))) (k : nt_ev X d 124 [.ref (p 16), .int v1] (me_w M J) o) : o = (some (.int ((x124 p v1 J).1)), me_w M ((x124 p v1 J).2)) := by
  have k : nt_rn X d 124 (0, [(0, .ref (p 16)), (1, .int v1)], [], me_w M J) o := k
  have k := ly_revb 2 (c' := (if 0 ≤ v1 then 6 else 4, [(0, .ref (p 16)), (1, .int v1)], [], me_w M J)) rfl k
  by_cases h1 : 0 ≤ v1
  · rw [if_pos h1] at k
    have k := ly_revb 1 (c' := (7, [(0, .ref (p 16)), (1, .int v1)], [.ref (p 16)], me_w M J)) rfl k
    have k := lz_get (a := (p 16)) (g := 1007) (M := me_w M J) (v := .ref (p 31)) rfl (nt_gfR rfl (hp.1 (16, 7, 31) (by decide))) k
    have k := lz_get (a := (p 31)) (g := 606) (M := me_w M J) (v := .int (J (p 31) 6)) rfl (congrArg Value.int (rfl)) k
    have k := ly_revb 2 (c' := (15, [(2, .int (J (p 31) 6)), (0, .ref (p 16)), (1, .int v1)], [.ref (p 16)], me_w M J)) rfl k
    have k := lz_get (a := (p 16)) (g := 1007) (M := me_w M J) (v := .ref (p 31)) rfl (nt_gfR rfl (hp.1 (16, 7, 31) (by decide))) k
    have k := ly_revb 1 (c' := (19, [(2, .int (J (p 31) 6)), (0, .ref (p 16)), (1, .int v1)], [.int v1, .ref (p 31)], me_w M J)) rfl k
    have k := me_put rfl (by decide) k
    have k : nt_rn X _ 124 (22, [(2, .int (J (p 31) 6)), (0, .ref (p 16)), (1, .int v1)], [], me_w M (nt_u J (p 31) 6 v1)) _ := k
    have k := ly_revb 1 (c' := (23, [(2, .int (J (p 31) 6)), (0, .ref (p 16)), (1, .int v1)], [.int (J (p 31) 6)], me_w M (nt_u J (p 31) 6 v1))) rfl k
    have k := lz_ri rfl (by decide) k
    rw [k, x124, if_pos h1]
  · rw [if_neg h1] at k
    have k := ly_revb 1 (c' := (5, [(0, .ref (p 16)), (1, .int v1)], [.int (Int32.ofInt (-1))], me_w M J)) rfl k
    have k := lz_ri rfl (by decide) k
    rw [k, x124, if_neg h1]
theorem x124_frJ {p : Nat → Nat} {v1 : Int32} {J : Nat → Nat → Int32} {b : Nat} (n0 : b ≠ p 31) : (x124 p v1 J).2 b = J b := by
  unfold x124
  by_cases h : 0 ≤ v1
  · rw [if_pos h]
    all_goals first | (dsimp only; exact (show (nt_u J (p 31) 6 v1) b = J b from mu_o n0)) | exact (show (nt_u J (p 31) 6 v1) b = J b from mu_o n0)
  · rw [if_neg h]
    all_goals first | (dsimp only; exact (show J b = J b from rfl)) | exact (show J b = J b from rfl)
/-! .hasRule -/
def x111 (p : Nat → Nat) (v1 : Int32) (J : Nat → Nat → Int32) : Int32 := if v1 < (Int32.ofInt (-1)) then (Int32.ofInt 0)
  else if (J (p 16) 4) ≤ v1 then (Int32.ofInt 0)
    else (Int32.ofInt 1)
theorem xt111 {X : nt_X} {d : Nat} {M : nt_M} {o : Option Value × nt_M} {p : Nat → Nat} {v1 : Int32} {J : Nat → Nat → Int32} (hp : xs_P M p) (k : nt_ev X d 111 [.ref (p 16), .int v1] (me_w M J) o) : o = (some (.int (x111 p v1 J)), me_w M J) := by
  have k : nt_rn X d 111 (0, [(0, .ref (p 16)), (1, .int v1)], [], me_w M J) o := k
  have k := ly_revb 3 (c' := (if v1 < (Int32.ofInt (-1)) then 17 else 5, [(0, .ref (p 16)), (1, .int v1)], [], me_w M J)) rfl k
  by_cases h2 : v1 < (Int32.ofInt (-1))
  · rw [if_pos h2] at k
    have k := ly_revb 1 (c' := (18, [(0, .ref (p 16)), (1, .int v1)], [.int (Int32.ofInt 0)], me_w M J)) rfl k
    have k := lz_ri rfl (by decide) k
    rw [k, x111, if_pos h2]
  · rw [if_neg h2] at k
    have k := ly_revb 2 (c' := (7, [(0, .ref (p 16)), (1, .int v1)], [.ref (p 16), .int v1], me_w M J)) rfl k
    have k := lz_get (a := (p 16)) (g := 1004) (M := me_w M J) (v := .int (J (p 16) 4)) rfl (congrArg Value.int (rfl)) k
    have k := ly_revb 1 (c' := (if (J (p 16) 4) ≤ v1 then 17 else 13, [(0, .ref (p 16)), (1, .int v1)], [], me_w M J)) rfl k
    by_cases h10 : (J (p 16) 4) ≤ v1
    · rw [if_pos h10] at k
      have k := ly_revb 1 (c' := (18, [(0, .ref (p 16)), (1, .int v1)], [.int (Int32.ofInt 0)], me_w M J)) rfl k
      have k := lz_ri rfl (by decide) k
      rw [k, x111, if_neg h2, if_pos h10]
    · rw [if_neg h10] at k
      have k := ly_revb 2 (c' := (18, [(0, .ref (p 16)), (1, .int v1)], [.int (Int32.ofInt 1)], me_w M J)) rfl k
      have k := lz_ri rfl (by decide) k
      rw [k, x111, if_neg h2, if_neg h10]
/-! .count -/
def x126 (p : Nat → Nat) (v1 : Int32) (J : Nat → Nat → Int32) : Int32 := if v1.toInt < 0 ∨ 11 < v1.toInt then (Int32.ofInt (-1))
  else if v1 = Int32.ofInt 0 then (J (p 32) 0)
    else if v1 = Int32.ofInt 1 then (J (p 32) 1)
      else if v1 = Int32.ofInt 2 then (J (p 32) 2)
        else if v1 = Int32.ofInt 3 then (J (p 32) 3)
          else if v1 = Int32.ofInt 4 then (J (p 16) 4)
            else if v1 = Int32.ofInt 5 then (J (p 31) 2)
              else if v1 = Int32.ofInt 6 then (x72 (fun i => p (31 + i)) J)
                else if v1 = Int32.ofInt 7 then (J (p 31) 5)
                  else if v1 = Int32.ofInt 8 then (x66 (fun i => p (31 + i)) (Int32.ofInt (-1)) J)
                    else if v1 = Int32.ofInt 9 then (J (p 31) 4)
                      else if v1 = Int32.ofInt 10 then (J (p 31) 6)
                        else (J (p 17) 1)
theorem xt126 {X : nt_X} {d : Nat} {M : nt_M} {o : Option Value × nt_M} {p : Nat → Nat} {v1 : Int32} {J : Nat → Nat → Int32} (hp : xs_P M p) (hn : xs_Q M (fun i => p (31 + i))) (k : nt_ev X d 126 [.ref (p 16), .int v1] (me_w M J) o) : o = (some (.int (x126 p v1 J)), me_w M J) := by
  have k : nt_rn X d 126 (0, [(0, .ref (p 16)), (1, .int v1)], [], me_w M J) o := k
  have k := ly_revb 1 (c' := (1, [(0, .ref (p 16)), (1, .int v1)], [.int v1], me_w M J)) rfl k
  by_cases h1 : v1.toInt < 0 ∨ 11 < v1.toInt
  · have k := mx_tsd (q := 170) rfl h1 (by decide) k
    have k : nt_rn X _ 126 (170, [(0, .ref (p 16)), (1, .int v1)], [], me_w M J) _ := k
    have k := ly_revb 1 (c' := (171, [(0, .ref (p 16)), (1, .int v1)], [.int (Int32.ofInt (-1))], me_w M J)) rfl k
    have k := lz_ri rfl (by decide) k
    rw [k, x126, if_pos h1]
  · by_cases h1_0 : v1 = Int32.ofInt 0
    · have k := mx_tsc (q := 64) (off := 63) rfl h1 (by rw [h1_0]; rfl) (by decide) k
      have k : nt_rn X _ 126 (64, [(0, .ref (p 16)), (1, .int v1)], [], me_w M J) _ := k
      have k := ly_revb 1 (c' := (65, [(0, .ref (p 16)), (1, .int v1)], [.ref (p 16)], me_w M J)) rfl k
      have k := lz_get (a := (p 16)) (g := 1007) (M := me_w M J) (v := .ref (p 31)) rfl (nt_gfR rfl (hp.1 (16, 7, 31) (by decide))) k
      have k := lz_get (a := (p 31)) (g := 600) (M := me_w M J) (v := .ref (p 32)) rfl (nt_gfR rfl (hn.1 (0, 0, 1) (by decide))) k
      have k := lz_get (a := (p 32)) (g := 800) (M := me_w M J) (v := .int (J (p 32) 0)) rfl (congrArg Value.int (rfl)) k
      have k := lz_ri rfl (by decide) k
      rw [k, x126, if_neg h1, if_pos h1_0]
    · by_cases h1_1 : v1 = Int32.ofInt 1
      · have k := mx_tsc (q := 75) (off := 74) rfl h1 (by rw [h1_1]; rfl) (by decide) k
        have k : nt_rn X _ 126 (75, [(0, .ref (p 16)), (1, .int v1)], [], me_w M J) _ := k
        have k := ly_revb 1 (c' := (76, [(0, .ref (p 16)), (1, .int v1)], [.ref (p 16)], me_w M J)) rfl k
        have k := lz_get (a := (p 16)) (g := 1007) (M := me_w M J) (v := .ref (p 31)) rfl (nt_gfR rfl (hp.1 (16, 7, 31) (by decide))) k
        have k := lz_get (a := (p 31)) (g := 600) (M := me_w M J) (v := .ref (p 32)) rfl (nt_gfR rfl (hn.1 (0, 0, 1) (by decide))) k
        have k := lz_get (a := (p 32)) (g := 801) (M := me_w M J) (v := .int (J (p 32) 1)) rfl (congrArg Value.int (rfl)) k
        have k := lz_ri rfl (by decide) k
        rw [k, x126, if_neg h1, if_neg h1_0, if_pos h1_1]
      · by_cases h1_2 : v1 = Int32.ofInt 2
        · have k := mx_tsc (q := 86) (off := 85) rfl h1 (by rw [h1_2]; rfl) (by decide) k
          have k : nt_rn X _ 126 (86, [(0, .ref (p 16)), (1, .int v1)], [], me_w M J) _ := k
          have k := ly_revb 1 (c' := (87, [(0, .ref (p 16)), (1, .int v1)], [.ref (p 16)], me_w M J)) rfl k
          have k := lz_get (a := (p 16)) (g := 1007) (M := me_w M J) (v := .ref (p 31)) rfl (nt_gfR rfl (hp.1 (16, 7, 31) (by decide))) k
          have k := lz_get (a := (p 31)) (g := 600) (M := me_w M J) (v := .ref (p 32)) rfl (nt_gfR rfl (hn.1 (0, 0, 1) (by decide))) k
          have k := lz_get (a := (p 32)) (g := 802) (M := me_w M J) (v := .int (J (p 32) 2)) rfl (congrArg Value.int (rfl)) k
          have k := lz_ri rfl (by decide) k
          rw [k, x126, if_neg h1, if_neg h1_0, if_neg h1_1, if_pos h1_2]
        · by_cases h1_3 : v1 = Int32.ofInt 3
          · have k := mx_tsc (q := 97) (off := 96) rfl h1 (by rw [h1_3]; rfl) (by decide) k
            have k : nt_rn X _ 126 (97, [(0, .ref (p 16)), (1, .int v1)], [], me_w M J) _ := k
            have k := ly_revb 1 (c' := (98, [(0, .ref (p 16)), (1, .int v1)], [.ref (p 16)], me_w M J)) rfl k
            have k := lz_get (a := (p 16)) (g := 1007) (M := me_w M J) (v := .ref (p 31)) rfl (nt_gfR rfl (hp.1 (16, 7, 31) (by decide))) k
            have k := lz_get (a := (p 31)) (g := 600) (M := me_w M J) (v := .ref (p 32)) rfl (nt_gfR rfl (hn.1 (0, 0, 1) (by decide))) k
            have k := lz_get (a := (p 32)) (g := 803) (M := me_w M J) (v := .int (J (p 32) 3)) rfl (congrArg Value.int (rfl)) k
            have k := lz_ri rfl (by decide) k
            rw [k, x126, if_neg h1, if_neg h1_0, if_neg h1_1, if_neg h1_2, if_pos h1_3]
          · by_cases h1_4 : v1 = Int32.ofInt 4
            · have k := mx_tsc (q := 108) (off := 107) rfl h1 (by rw [h1_4]; rfl) (by decide) k
              have k : nt_rn X _ 126 (108, [(0, .ref (p 16)), (1, .int v1)], [], me_w M J) _ := k
              have k := ly_revb 1 (c' := (109, [(0, .ref (p 16)), (1, .int v1)], [.ref (p 16)], me_w M J)) rfl k
              have k := lz_get (a := (p 16)) (g := 1004) (M := me_w M J) (v := .int (J (p 16) 4)) rfl (congrArg Value.int (rfl)) k
              have k := lz_ri rfl (by decide) k
              rw [k, x126, if_neg h1, if_neg h1_0, if_neg h1_1, if_neg h1_2, if_neg h1_3, if_pos h1_4]
            · by_cases h1_5 : v1 = Int32.ofInt 5
              · have k := mx_tsc (q := 113) (off := 112) rfl h1 (by rw [h1_5]; rfl) (by decide) k
                have k : nt_rn X _ 126 (113, [(0, .ref (p 16)), (1, .int v1)], [], me_w M J) _ := k
                have k := ly_revb 1 (c' := (114, [(0, .ref (p 16)), (1, .int v1)], [.ref (p 16)], me_w M J)) rfl k
                have k := lz_get (a := (p 16)) (g := 1007) (M := me_w M J) (v := .ref (p 31)) rfl (nt_gfR rfl (hp.1 (16, 7, 31) (by decide))) k
                have k := lz_get (a := (p 31)) (g := 602) (M := me_w M J) (v := .int (J (p 31) 2)) rfl (congrArg Value.int (rfl)) k
                have k := lz_ri rfl (by decide) k
                rw [k, x126, if_neg h1, if_neg h1_0, if_neg h1_1, if_neg h1_2, if_neg h1_3, if_neg h1_4, if_pos h1_5]
              · by_cases h1_6 : v1 = Int32.ofInt 6
                · have k := mx_tsc (q := 121) (off := 120) rfl h1 (by rw [h1_6]; rfl) (by decide) k
                  have k : nt_rn X _ 126 (121, [(0, .ref (p 16)), (1, .int v1)], [], me_w M J) _ := k
                  have k := ly_revb 1 (c' := (122, [(0, .ref (p 16)), (1, .int v1)], [.ref (p 16)], me_w M J)) rfl k
                  have k := lz_get (a := (p 16)) (g := 1007) (M := me_w M J) (v := .ref (p 31)) rfl (nt_gfR rfl (hp.1 (16, 7, 31) (by decide))) k
                  obtain ⟨d1, o1, ed, kc, k⟩ := lz_c (g := 72) (q := 1) (vs := [.ref (p 31)]) (rest := []) rfl rfl (by decide) (Or.inr (Or.inl ⟨_, rfl, rfl⟩)) rfl k
                  have e1 := xt72 hn kc
                  subst e1
                  have k : nt_rn X _ 126 (128, [(0, .ref (p 16)), (1, .int v1)], [.int (x72 (fun i => p (31 + i)) J)], me_w M J) _ := k
                  have k := lz_ri rfl (by decide) k
                  rw [k, x126, if_neg h1, if_neg h1_0, if_neg h1_1, if_neg h1_2, if_neg h1_3, if_neg h1_4, if_neg h1_5, if_pos h1_6]
                · by_cases h1_7 : v1 = Int32.ofInt 7
                  · have k := mx_tsc (q := 129) (off := 128) rfl h1 (by rw [h1_7]; rfl) (by decide) k
                    have k : nt_rn X _ 126 (129, [(0, .ref (p 16)), (1, .int v1)], [], me_w M J) _ := k
                    have k := ly_revb 1 (c' := (130, [(0, .ref (p 16)), (1, .int v1)], [.ref (p 16)], me_w M J)) rfl k
                    have k := lz_get (a := (p 16)) (g := 1007) (M := me_w M J) (v := .ref (p 31)) rfl (nt_gfR rfl (hp.1 (16, 7, 31) (by decide))) k
                    have k := lz_get (a := (p 31)) (g := 605) (M := me_w M J) (v := .int (J (p 31) 5)) rfl (congrArg Value.int (rfl)) k
                    have k := lz_ri rfl (by decide) k
                    rw [k, x126, if_neg h1, if_neg h1_0, if_neg h1_1, if_neg h1_2, if_neg h1_3, if_neg h1_4, if_neg h1_5, if_neg h1_6, if_pos h1_7]
                  · by_cases h1_8 : v1 = Int32.ofInt 8
                    · have k := mx_tsc (q := 137) (off := 136) rfl h1 (by rw [h1_8]; rfl) (by decide) k
                      have k : nt_rn X _ 126 (137, [(0, .ref (p 16)), (1, .int v1)], [], me_w M J) _ := k
                      have k := ly_revb 1 (c' := (138, [(0, .ref (p 16)), (1, .int v1)], [.ref (p 16)], me_w M J)) rfl k
                      have k := lz_get (a := (p 16)) (g := 1007) (M := me_w M J) (v := .ref (p 31)) rfl (nt_gfR rfl (hp.1 (16, 7, 31) (by decide))) k
                      have k := ly_revb 1 (c' := (142, [(0, .ref (p 16)), (1, .int v1)], [.int (Int32.ofInt (-1)), .ref (p 31)], me_w M J)) rfl k
                      obtain ⟨d1, o1, ed, kc, k⟩ := lz_c (g := 66) (q := 1) (vs := [.ref (p 31), .int (Int32.ofInt (-1))]) (rest := []) rfl rfl (by decide) (Or.inr (Or.inl ⟨_, rfl, rfl⟩)) rfl k
                      have e1 := xt66 hn kc
                      subst e1
                      have k : nt_rn X _ 126 (145, [(0, .ref (p 16)), (1, .int v1)], [.int (x66 (fun i => p (31 + i)) (Int32.ofInt (-1)) J)], me_w M J) _ := k
                      have k := lz_ri rfl (by decide) k
                      rw [k, x126, if_neg h1, if_neg h1_0, if_neg h1_1, if_neg h1_2, if_neg h1_3, if_neg h1_4, if_neg h1_5, if_neg h1_6, if_neg h1_7, if_pos h1_8]
                    · by_cases h1_9 : v1 = Int32.ofInt 9
                      · have k := mx_tsc (q := 146) (off := 145) rfl h1 (by rw [h1_9]; rfl) (by decide) k
                        have k : nt_rn X _ 126 (146, [(0, .ref (p 16)), (1, .int v1)], [], me_w M J) _ := k
                        have k := ly_revb 1 (c' := (147, [(0, .ref (p 16)), (1, .int v1)], [.ref (p 16)], me_w M J)) rfl k
                        have k := lz_get (a := (p 16)) (g := 1007) (M := me_w M J) (v := .ref (p 31)) rfl (nt_gfR rfl (hp.1 (16, 7, 31) (by decide))) k
                        have k := lz_get (a := (p 31)) (g := 604) (M := me_w M J) (v := .int (J (p 31) 4)) rfl (congrArg Value.int (rfl)) k
                        have k := lz_ri rfl (by decide) k
                        rw [k, x126, if_neg h1, if_neg h1_0, if_neg h1_1, if_neg h1_2, if_neg h1_3, if_neg h1_4, if_neg h1_5, if_neg h1_6, if_neg h1_7, if_neg h1_8, if_pos h1_9]
                      · by_cases h1_10 : v1 = Int32.ofInt 10
                        · have k := mx_tsc (q := 154) (off := 153) rfl h1 (by rw [h1_10]; rfl) (by decide) k
                          have k : nt_rn X _ 126 (154, [(0, .ref (p 16)), (1, .int v1)], [], me_w M J) _ := k
                          have k := ly_revb 1 (c' := (155, [(0, .ref (p 16)), (1, .int v1)], [.ref (p 16)], me_w M J)) rfl k
                          have k := lz_get (a := (p 16)) (g := 1007) (M := me_w M J) (v := .ref (p 31)) rfl (nt_gfR rfl (hp.1 (16, 7, 31) (by decide))) k
                          have k := lz_get (a := (p 31)) (g := 606) (M := me_w M J) (v := .int (J (p 31) 6)) rfl (congrArg Value.int (rfl)) k
                          have k := lz_ri rfl (by decide) k
                          rw [k, x126, if_neg h1, if_neg h1_0, if_neg h1_1, if_neg h1_2, if_neg h1_3, if_neg h1_4, if_neg h1_5, if_neg h1_6, if_neg h1_7, if_neg h1_8, if_neg h1_9, if_pos h1_10]
                        · have hz : v1 = Int32.ofInt 11 := by
                            have z1 := h1
                            have y0 : v1.toInt ≠ 0 := fun e => h1_0 (Int32.toInt_inj.mp (e.trans (by decide)))
                            have y1 : v1.toInt ≠ 1 := fun e => h1_1 (Int32.toInt_inj.mp (e.trans (by decide)))
                            have y2 : v1.toInt ≠ 2 := fun e => h1_2 (Int32.toInt_inj.mp (e.trans (by decide)))
                            have y3 : v1.toInt ≠ 3 := fun e => h1_3 (Int32.toInt_inj.mp (e.trans (by decide)))
                            have y4 : v1.toInt ≠ 4 := fun e => h1_4 (Int32.toInt_inj.mp (e.trans (by decide)))
                            have y5 : v1.toInt ≠ 5 := fun e => h1_5 (Int32.toInt_inj.mp (e.trans (by decide)))
                            have y6 : v1.toInt ≠ 6 := fun e => h1_6 (Int32.toInt_inj.mp (e.trans (by decide)))
                            have y7 : v1.toInt ≠ 7 := fun e => h1_7 (Int32.toInt_inj.mp (e.trans (by decide)))
                            have y8 : v1.toInt ≠ 8 := fun e => h1_8 (Int32.toInt_inj.mp (e.trans (by decide)))
                            have y9 : v1.toInt ≠ 9 := fun e => h1_9 (Int32.toInt_inj.mp (e.trans (by decide)))
                            have y10 : v1.toInt ≠ 10 := fun e => h1_10 (Int32.toInt_inj.mp (e.trans (by decide)))
                            exact Int32.toInt_inj.mp ((show v1.toInt = 11 by omega).trans (by decide))
                          have k := mx_tsc (q := 162) (off := 161) rfl h1 (by rw [hz]; rfl) (by decide) k
                          have k : nt_rn X _ 126 (162, [(0, .ref (p 16)), (1, .int v1)], [], me_w M J) _ := k
                          have k := ly_revb 1 (c' := (163, [(0, .ref (p 16)), (1, .int v1)], [.ref (p 16)], me_w M J)) rfl k
                          have k := lz_get (a := (p 16)) (g := 1000) (M := me_w M J) (v := .ref (p 17)) rfl (nt_gfR rfl (hp.1 (16, 0, 17) (by decide))) k
                          have k := lz_get (a := (p 17)) (g := 701) (M := me_w M J) (v := .int (J (p 17) 1)) rfl (congrArg Value.int (rfl)) k
                          have k := lz_ri rfl (by decide) k
                          rw [k, x126, if_neg h1, if_neg h1_0, if_neg h1_1, if_neg h1_2, if_neg h1_3, if_neg h1_4, if_neg h1_5, if_neg h1_6, if_neg h1_7, if_neg h1_8, if_neg h1_9, if_neg h1_10]
