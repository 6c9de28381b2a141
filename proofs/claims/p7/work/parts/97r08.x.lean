/-! a rule that is not there; images, the other side -/
/-! .days -/
def x110H (p : Nat → Nat) (v1 : Int32) (v2 : Int32) (J : Nat → Nat → Int32) : Int32 := if (J (p 31) 1) = 0 then (Int32.ofInt (-1))
  else (Int32.ofInt (-1))
theorem xt110H {X : nt_X} {d : Nat} {M : nt_M} {o : Option Value × nt_M} {p : Nat → Nat} {v1 : Int32} {v2 : Int32} {J : Nat → Nat → Int32} (hp : xs_P M p) (hn : xs_Q M (fun i => p (31 + i))) (hx : x111 p v1 J = Int32.ofInt 0) (k : nt_ev X d 110 [.ref (p 16), .int v1, .int v2] (me_w M J) o) : o = (some (.int (x110H p v1 v2 J)), me_w M J) := by
  have k : nt_rn X d 110 (0, [(0, .ref (p 16)), (1, .int v1), (2, .int v2)], [], me_w M J) o := k
  have k := ly_revb 1 (c' := (1, [(0, .ref (p 16)), (1, .int v1), (2, .int v2)], [.ref (p 16)], me_w M J)) rfl k
  have k := lz_get (a := (p 16)) (g := 1007) (M := me_w M J) (v := .ref (p 31)) rfl (nt_gfR rfl (hp.1 (16, 7, 31) (by decide))) k
  have k := lz_get (a := (p 31)) (g := 601) (M := me_w M J) (v := .int (J (p 31) 1)) rfl (congrArg Value.int (rfl)) k
  have k := ly_revb 1 (c' := (if (J (p 31) 1) = 0 then 44 else 10, [(0, .ref (p 16)), (1, .int v1), (2, .int v2)], [], me_w M J)) rfl k
  by_cases h7 : (J (p 31) 1) = 0
  · rw [if_pos h7] at k
    have k := ly_revb 1 (c' := (45, [(0, .ref (p 16)), (1, .int v1), (2, .int v2)], [.int (Int32.ofInt (-1))], me_w M J)) rfl k
    have k := lz_ri rfl (by decide) k
    rw [k, x110H, if_pos h7]
  · rw [if_neg h7] at k
    have k := ly_revb 2 (c' := (12, [(0, .ref (p 16)), (1, .int v1), (2, .int v2)], [.int v1, .ref (p 16)], me_w M J)) rfl k
    obtain ⟨d1, o1, ed, kc, k⟩ := lz_c (g := 111) (q := 1) (vs := [.ref (p 16), .int v1]) (rest := []) rfl rfl (by decide) (Or.inr (Or.inl ⟨_, rfl, rfl⟩)) rfl k
    have e1 := xt111 hp kc
    rw [hx] at e1
    subst e1
    have k : nt_rn X _ 110 (15, [(0, .ref (p 16)), (1, .int v1), (2, .int v2)], [.int (Int32.ofInt 0)], me_w M J) _ := k
    have k := ly_revb 1 (c' := (if (Int32.ofInt 0) = 0 then 44 else 18, [(0, .ref (p 16)), (1, .int v1), (2, .int v2)], [], me_w M J)) rfl k
    rw [if_pos (show (Int32.ofInt 0) = 0 from by decide)] at k
    have k := ly_revb 1 (c' := (45, [(0, .ref (p 16)), (1, .int v1), (2, .int v2)], [.int (Int32.ofInt (-1))], me_w M J)) rfl k
    have k := lz_ri rfl (by decide) k
    rw [k, x110H, if_neg h7]
/-! .ahead -/
def x123H (p : Nat → Nat) (v1 : Int32) (v2 : Int32) (v3 : Int32) (J : Nat → Nat → Int32) : Int32 := if (J (p 31) 1) = 0 then (Int32.ofInt (-1))
  else (Int32.ofInt (-1))
theorem xt123H {X : nt_X} {d : Nat} {M : nt_M} {o : Option Value × nt_M} {p : Nat → Nat} {v1 : Int32} {v2 : Int32} {v3 : Int32} {J : Nat → Nat → Int32} (hp : xs_P M p) (hn : xs_Q M (fun i => p (31 + i))) (hx : x111 p v1 J = Int32.ofInt 0) (k : nt_ev X d 123 [.ref (p 16), .int v1, .int v2, .int v3] (me_w M J) o) : o = (some (.int (x123H p v1 v2 v3 J)), me_w M J) := by
  have k : nt_rn X d 123 (0, [(0, .ref (p 16)), (1, .int v1), (2, .int v2), (3, .int v3)], [], me_w M J) o := k
  have k := ly_revb 1 (c' := (1, [(0, .ref (p 16)), (1, .int v1), (2, .int v2), (3, .int v3)], [.ref (p 16)], me_w M J)) rfl k
  have k := lz_get (a := (p 16)) (g := 1007) (M := me_w M J) (v := .ref (p 31)) rfl (nt_gfR rfl (hp.1 (16, 7, 31) (by decide))) k
  have k := lz_get (a := (p 31)) (g := 601) (M := me_w M J) (v := .int (J (p 31) 1)) rfl (congrArg Value.int (rfl)) k
  have k := ly_revb 1 (c' := (if (J (p 31) 1) = 0 then 37 else 10, [(0, .ref (p 16)), (1, .int v1), (2, .int v2), (3, .int v3)], [], me_w M J)) rfl k
  by_cases h7 : (J (p 31) 1) = 0
  · rw [if_pos h7] at k
    have k := ly_revb 1 (c' := (38, [(0, .ref (p 16)), (1, .int v1), (2, .int v2), (3, .int v3)], [.int (Int32.ofInt (-1))], me_w M J)) rfl k
    have k := lz_ri rfl (by decide) k
    rw [k, x123H, if_pos h7]
  · rw [if_neg h7] at k
    have k := ly_revb 2 (c' := (12, [(0, .ref (p 16)), (1, .int v1), (2, .int v2), (3, .int v3)], [.int v1, .ref (p 16)], me_w M J)) rfl k
    obtain ⟨d1, o1, ed, kc, k⟩ := lz_c (g := 111) (q := 1) (vs := [.ref (p 16), .int v1]) (rest := []) rfl rfl (by decide) (Or.inr (Or.inl ⟨_, rfl, rfl⟩)) rfl k
    have e1 := xt111 hp kc
    rw [hx] at e1
    subst e1
    have k : nt_rn X _ 123 (15, [(0, .ref (p 16)), (1, .int v1), (2, .int v2), (3, .int v3)], [.int (Int32.ofInt 0)], me_w M J) _ := k
    have k := ly_revb 1 (c' := (if (Int32.ofInt 0) = 0 then 37 else 18, [(0, .ref (p 16)), (1, .int v1), (2, .int v2), (3, .int v3)], [], me_w M J)) rfl k
    rw [if_pos (show (Int32.ofInt 0) = 0 from by decide)] at k
    have k := ly_revb 1 (c' := (38, [(0, .ref (p 16)), (1, .int v1), (2, .int v2), (3, .int v3)], [.int (Int32.ofInt (-1))], me_w M J)) rfl k
    have k := lz_ri rfl (by decide) k
    rw [k, x123H, if_neg h7]
/-! .years -/
def x125H (p : Nat → Nat) (v1 : Int32) (v2 : Int32) (v3 : Int32) (v4 : Int32) (v5 : Int32) (J : Nat → Nat → Int32) : Int32 := if (J (p 31) 1) = 0 then (Int32.ofInt (-1))
  else (Int32.ofInt (-1))
theorem xt125H {X : nt_X} {d : Nat} {M : nt_M} {o : Option Value × nt_M} {p : Nat → Nat} {v1 : Int32} {v2 : Int32} {v3 : Int32} {v4 : Int32} {v5 : Int32} {J : Nat → Nat → Int32} (hp : xs_P M p) (hn : xs_Q M (fun i => p (31 + i))) (hx : x111 p v1 J = Int32.ofInt 0) (k : nt_ev X d 125 [.ref (p 16), .int v1, .int v2, .int v3, .int v4, .int v5] (me_w M J) o) : o = (some (.int (x125H p v1 v2 v3 v4 v5 J)), me_w M J) := by
  have k : nt_rn X d 125 (0, [(0, .ref (p 16)), (1, .int v1), (2, .int v2), (3, .int v3), (4, .int v4), (5, .int v5)], [], me_w M J) o := k
  have k := ly_revb 1 (c' := (1, [(0, .ref (p 16)), (1, .int v1), (2, .int v2), (3, .int v3), (4, .int v4), (5, .int v5)], [.ref (p 16)], me_w M J)) rfl k
  have k := lz_get (a := (p 16)) (g := 1007) (M := me_w M J) (v := .ref (p 31)) rfl (nt_gfR rfl (hp.1 (16, 7, 31) (by decide))) k
  have k := lz_get (a := (p 31)) (g := 601) (M := me_w M J) (v := .int (J (p 31) 1)) rfl (congrArg Value.int (rfl)) k
  have k := ly_revb 1 (c' := (if (J (p 31) 1) = 0 then 40 else 10, [(0, .ref (p 16)), (1, .int v1), (2, .int v2), (3, .int v3), (4, .int v4), (5, .int v5)], [], me_w M J)) rfl k
  by_cases h7 : (J (p 31) 1) = 0
  · rw [if_pos h7] at k
    have k := ly_revb 1 (c' := (41, [(0, .ref (p 16)), (1, .int v1), (2, .int v2), (3, .int v3), (4, .int v4), (5, .int v5)], [.int (Int32.ofInt (-1))], me_w M J)) rfl k
    have k := lz_ri rfl (by decide) k
    rw [k, x125H, if_pos h7]
  · rw [if_neg h7] at k
    have k := ly_revb 2 (c' := (12, [(0, .ref (p 16)), (1, .int v1), (2, .int v2), (3, .int v3), (4, .int v4), (5, .int v5)], [.int v1, .ref (p 16)], me_w M J)) rfl k
    obtain ⟨d1, o1, ed, kc, k⟩ := lz_c (g := 111) (q := 1) (vs := [.ref (p 16), .int v1]) (rest := []) rfl rfl (by decide) (Or.inr (Or.inl ⟨_, rfl, rfl⟩)) rfl k
    have e1 := xt111 hp kc
    rw [hx] at e1
    subst e1
    have k : nt_rn X _ 125 (15, [(0, .ref (p 16)), (1, .int v1), (2, .int v2), (3, .int v3), (4, .int v4), (5, .int v5)], [.int (Int32.ofInt 0)], me_w M J) _ := k
    have k := ly_revb 1 (c' := (if (Int32.ofInt 0) = 0 then 40 else 18, [(0, .ref (p 16)), (1, .int v1), (2, .int v2), (3, .int v3), (4, .int v4), (5, .int v5)], [], me_w M J)) rfl k
    rw [if_pos (show (Int32.ofInt 0) = 0 from by decide)] at k
    have k := ly_revb 1 (c' := (41, [(0, .ref (p 16)), (1, .int v1), (2, .int v2), (3, .int v3), (4, .int v4), (5, .int v5)], [.int (Int32.ofInt (-1))], me_w M J)) rfl k
    have k := lz_ri rfl (by decide) k
    rw [k, x125H, if_neg h7]
/-! Model.image -/
def x234_23 (p : Nat → Nat) (v1 : Int32) : Nat → Int32 → (Nat → Nat → Int32) → Int32 × (Nat → Nat → Int32)
  | 0, v2, J => (J (p 4) 4, J)
  | c + 1, v2, J => if (Int32.ofInt 212) ≤ v2 then (J (p 4) 4, J)
    else (x234_23 p v1 c (v2 + (Int32.ofInt 1)) (nt_u J (p 14) ((((Int32.ofInt 212) * v1) + v2).toNatClampNeg) (J (p 4) v2.toNatClampNeg)))
theorem xt234_23 {X : nt_X} {d : Nat} {M : nt_M} {o : Option Value × nt_M} {p : Nat → Nat} {v1 : Int32} (hp : xs_P M p) : ∀ (c : Nat) (v2 : Int32) (J : Nat → Nat → Int32), (Int32.ofInt 212).toInt - v2.toInt ≤ c → nt_rn X d 234 (23, [(0, .ref (p 0)), (1, .int v1), (2, .int v2)], [], me_w M J) o → o = (some (.int ((x234_23 p v1 c v2 J).1)), me_w M ((x234_23 p v1 c v2 J).2)) := by
  intro c
  induction c with
  | zero =>
    intro v2 J hc k
    have k := ly_revb 3 (c' := (if (Int32.ofInt 212) ≤ v2 then 54 else 30, [(0, .ref (p 0)), (1, .int v1), (2, .int v2)], [], me_w M J)) rfl k
    have h27 : (Int32.ofInt 212) ≤ v2 := lx_end hc
    rw [if_pos h27] at k
    have k := ly_revb 1 (c' := (55, [(0, .ref (p 0)), (1, .int v1), (2, .int v2)], [.ref (p 0)], me_w M J)) rfl k
    have k := lz_get (a := (p 0)) (g := 1127) (M := me_w M J) (v := .ref (p 4)) rfl (nt_gfR rfl (hp.1 (0, 27, 4) (by decide))) k
    have k := ly_revb 1 (c' := (59, [(0, .ref (p 0)), (1, .int v1), (2, .int v2)], [.int (Int32.ofInt 4), .ref (p 4)], me_w M J)) rfl k
    have k := mx_iald (v := J (p 4) 4) rfl (hp.2.2.1 4 (by omega)) ((congrArg (J (p 4)) (show (Int32.ofInt 4).toNatClampNeg = 4 from rfl)).trans (rfl)) k
    have k := lz_ri rfl (by decide) k
    rw [k, x234_23]
  | succ c ih =>
    intro v2 J hc k
    have k := ly_revb 3 (c' := (if (Int32.ofInt 212) ≤ v2 then 54 else 30, [(0, .ref (p 0)), (1, .int v1), (2, .int v2)], [], me_w M J)) rfl k
    by_cases h27 : (Int32.ofInt 212) ≤ v2
    · rw [if_pos h27] at k
      have k := ly_revb 1 (c' := (55, [(0, .ref (p 0)), (1, .int v1), (2, .int v2)], [.ref (p 0)], me_w M J)) rfl k
      have k := lz_get (a := (p 0)) (g := 1127) (M := me_w M J) (v := .ref (p 4)) rfl (nt_gfR rfl (hp.1 (0, 27, 4) (by decide))) k
      have k := ly_revb 1 (c' := (59, [(0, .ref (p 0)), (1, .int v1), (2, .int v2)], [.int (Int32.ofInt 4), .ref (p 4)], me_w M J)) rfl k
      have k := mx_iald (v := J (p 4) 4) rfl (hp.2.2.1 4 (by omega)) ((congrArg (J (p 4)) (show (Int32.ofInt 4).toNatClampNeg = 4 from rfl)).trans (rfl)) k
      have k := lz_ri rfl (by decide) k
      rw [k, x234_23, if_pos h27]
    · rw [if_neg h27] at k
      have k := ly_revb 1 (c' := (31, [(0, .ref (p 0)), (1, .int v1), (2, .int v2)], [.ref (p 0)], me_w M J)) rfl k
      have k := lz_get (a := (p 0)) (g := 1129) (M := me_w M J) (v := .ref (p 14)) rfl (nt_gfR rfl (hp.1 (0, 29, 14) (by decide))) k
      have k := ly_revb 6 (c' := (42, [(0, .ref (p 0)), (1, .int v1), (2, .int v2)], [.ref (p 0), .int (((Int32.ofInt 212) * v1) + v2), .ref (p 14)], me_w M J)) rfl k
      have k := lz_get (a := (p 0)) (g := 1127) (M := me_w M J) (v := .ref (p 4)) rfl (nt_gfR rfl (hp.1 (0, 27, 4) (by decide))) k
      have k := ly_revb 1 (c' := (46, [(0, .ref (p 0)), (1, .int v1), (2, .int v2)], [.int v2, .ref (p 4), .int (((Int32.ofInt 212) * v1) + v2), .ref (p 14)], me_w M J)) rfl k
      have k := mx_iald (v := J (p 4) v2.toNatClampNeg) rfl (hp.2.2.1 4 (by omega)) (rfl) k
      have k := mx_iast (q := (((Int32.ofInt 212) * v1) + v2).toNatClampNeg) rfl rfl k
      have k : nt_rn X _ 234 (48, [(0, .ref (p 0)), (1, .int v1), (2, .int v2)], [], me_w M (nt_u J (p 14) ((((Int32.ofInt 212) * v1) + v2).toNatClampNeg) (J (p 4) v2.toNatClampNeg))) _ := k
      have k := ly_revb 2 (c' := (23, [(2, .int (v2 + (Int32.ofInt 1))), (0, .ref (p 0)), (1, .int v1)], [], me_w M (nt_u J (p 14) ((((Int32.ofInt 212) * v1) + v2).toNatClampNeg) (J (p 4) v2.toNatClampNeg)))) rfl k
      have k := nt_rn_w (a := [(2, .int (v2 + (Int32.ofInt 1))), (0, .ref (p 0)), (1, .int v1)]) (b := [(0, .ref (p 0)), (1, .int v1), (2, .int (v2 + (Int32.ofInt 1)))]) ⟨rfl, rfl, rfl, trivial⟩ rfl k
      have k := ih (v2 + (Int32.ofInt 1)) (nt_u J (p 14) ((((Int32.ofInt 212) * v1) + v2).toNatClampNeg) (J (p 4) v2.toNatClampNeg)) (lx_dec h27 hc) k
      rw [k, x234_23, if_neg h27]
theorem x234_23_rule {p : Nat → Nat} {v1 : Int32} {I : Nat → Int32 → (Nat → Nat → Int32) → Prop} {Q : Int32 × (Nat → Nat → Int32) → Prop} (h0 : ∀ (v2 : Int32) (J : Nat → Nat → Int32), I 0 v2 J → Q (J (p 4) 4, J)) (h1 : ∀ (c : Nat) (v2 : Int32) (J : Nat → Nat → Int32), I (c + 1) v2 J →
    if (Int32.ofInt 212) ≤ v2 then (Q (J (p 4) 4, J))
    else (I c (v2 + (Int32.ofInt 1)) (nt_u J (p 14) ((((Int32.ofInt 212) * v1) + v2).toNatClampNeg) (J (p 4) v2.toNatClampNeg)))) : ∀ (c : Nat) (v2 : Int32) (J : Nat → Nat → Int32), I c v2 J → Q (x234_23 p v1 c v2 J) := by
  intro c
  induction c with
  | zero =>
    intro v2 J hi
    rw [x234_23]
    exact h0 v2 J hi
  | succ c ih =>
    intro v2 J hi
    have hi := h1 c v2 J hi
    rw [x234_23]
    by_cases h : (Int32.ofInt 212) ≤ v2
    · rw [if_pos h] at hi ⊢
      exact hi
    · rw [if_neg h] at hi ⊢
      exact ih _ _ hi
def x234 (p : Nat → Nat) (v1 : Int32) (J : Nat → Nat → Int32) : Int32 × (Nat → Nat → Int32) := if (x145 v1.toInt64 (Int64.ofNat 0) 3) = 0 then (Int32.ofInt (-1), J)
  else (x234_23 p v1 ((Int32.ofInt 212).toNatClampNeg) (Int32.ofInt 0) (nt_u J (p 15) v1.toNatClampNeg (vp_nar .boolean (Int32.ofInt 1))))
theorem xt234 {X : nt_X} {d : Nat} {M : nt_M} {o : Option Value × nt_M} {p : Nat → Nat} {v1 : Int32} {J : Nat → Nat → Int32} (hp : xs_P M p) (hk15 : nt_k M (p 15) = 15) (k : nt_ev X d 234 [.ref (p 0), .int v1] (me_w M J) o) : o = (some (.int ((x234 p v1 J).1)), me_w M ((x234 p v1 J).2)) := by
  have k : nt_rn X d 234 (0, [(0, .ref (p 0)), (1, .int v1)], [], me_w M J) o := k
  have k := ly_revb 4 (c' := (6, [(0, .ref (p 0)), (1, .int v1)], [.long 3, .long (Int64.ofNat 0), .long v1.toInt64], me_w M J)) rfl k
  obtain ⟨d1, o1, ed, kc, k⟩ := lz_c (g := 145) (q := 0) (vs := [.long v1.toInt64, .long (Int64.ofNat 0), .long 3]) (rest := []) rfl rfl (by decide) (Or.inl ⟨_, rfl, rfl⟩) rfl k
  have e1 := xt145  kc
  subst e1
  have k : nt_rn X _ 234 (9, [(0, .ref (p 0)), (1, .int v1)], [.int (x145 v1.toInt64 (Int64.ofNat 0) 3)], me_w M J) _ := k
  have k := ly_revb 1 (c' := (if (x145 v1.toInt64 (Int64.ofNat 0) 3) = 0 then 12 else 14, [(0, .ref (p 0)), (1, .int v1)], [], me_w M J)) rfl k
  by_cases h9 : (x145 v1.toInt64 (Int64.ofNat 0) 3) = 0
  · rw [if_pos h9] at k
    have k := ly_revb 1 (c' := (13, [(0, .ref (p 0)), (1, .int v1)], [.int (Int32.ofInt (-1))], me_w M J)) rfl k
    have k := lz_ri rfl (by decide) k
    rw [k, x234, if_pos h9]
  · rw [if_neg h9] at k
    have k := ly_revb 1 (c' := (15, [(0, .ref (p 0)), (1, .int v1)], [.ref (p 0)], me_w M J)) rfl k
    have k := lz_get (a := (p 0)) (g := 1130) (M := me_w M J) (v := .ref (p 15)) rfl (nt_gfR rfl (hp.1 (0, 30, 15) (by decide))) k
    have k := ly_revb 2 (c' := (20, [(0, .ref (p 0)), (1, .int v1)], [.int (Int32.ofInt 1), .int v1, .ref (p 15)], me_w M J)) rfl k
    have k := mx_bast (q := v1.toNatClampNeg) rfl hk15 rfl k
    have k : nt_rn X _ 234 (21, [(0, .ref (p 0)), (1, .int v1)], [], me_w M (nt_u J (p 15) v1.toNatClampNeg (vp_nar .boolean (Int32.ofInt 1)))) _ := k
    have k := ly_revb 2 (c' := (23, [(2, .int (Int32.ofInt 0)), (0, .ref (p 0)), (1, .int v1)], [], me_w M (nt_u J (p 15) v1.toNatClampNeg (vp_nar .boolean (Int32.ofInt 1))))) rfl k
    have k := nt_rn_w (a := [(2, .int (Int32.ofInt 0)), (0, .ref (p 0)), (1, .int v1)]) (b := [(0, .ref (p 0)), (1, .int v1), (2, .int (Int32.ofInt 0))]) ⟨rfl, rfl, rfl, trivial⟩ rfl k
    have k := xt234_23 hp  ((Int32.ofInt 212).toNatClampNeg) (Int32.ofInt 0) (nt_u J (p 15) v1.toNatClampNeg (vp_nar .boolean (Int32.ofInt 1))) (lx_beg (by decide)) k
    rw [k, x234, if_neg h9]
theorem x234_23_frJ {p : Nat → Nat} {v1 : Int32} {b : Nat} : ∀ (c : Nat) (v2 : Int32) (J : Nat → Nat → Int32), b ≠ p 14 → b ≠ p 15 → (x234_23 p v1 c v2 J).2 b = J b := by
  intro c
  induction c with
  | zero =>
    intro v2 J n0 n1
    rw [x234_23]
    all_goals first | (dsimp only; exact (show J b = J b from rfl)) | exact (show J b = J b from rfl)
  | succ c ih =>
    intro v2 J n0 n1
    rw [x234_23]
    by_cases h : (Int32.ofInt 212) ≤ v2
    · rw [if_pos h]
      all_goals first | (dsimp only; exact (show J b = J b from rfl)) | exact (show J b = J b from rfl)
    · rw [if_neg h]
      exact (ih _ _ n0 n1).trans (mu_o n0)
theorem x234_frJ {p : Nat → Nat} {v1 : Int32} {J : Nat → Nat → Int32} {b : Nat} (n0 : b ≠ p 14) (n1 : b ≠ p 15) : (x234 p v1 J).2 b = J b := by
  unfold x234
  by_cases h : (x145 v1.toInt64 (Int64.ofNat 0) 3) = 0
  · rw [if_pos h]
    all_goals first | (dsimp only; exact (show J b = J b from rfl)) | exact (show J b = J b from rfl)
  · rw [if_neg h]
    exact (x234_23_frJ _ _ _ n0 n1).trans (mu_o n1)
/-! Model.back -/
def x235_25 (p : Nat → Nat) (v1 : Int32) : Nat → Int32 → (Nat → Nat → Int32) → Int32 × (Nat → Nat → Int32)
  | 0, v2, J => (J (p 4) 4, J)
  | c + 1, v2, J => if (Int32.ofInt 212) ≤ v2 then (J (p 4) 4, J)
    else (x235_25 p v1 c (v2 + (Int32.ofInt 1)) (nt_u J (p 4) v2.toNatClampNeg (J (p 14) ((((Int32.ofInt 212) * v1) + v2).toNatClampNeg))))
theorem xt235_25 {X : nt_X} {d : Nat} {M : nt_M} {o : Option Value × nt_M} {p : Nat → Nat} {v1 : Int32} (hp : xs_P M p) : ∀ (c : Nat) (v2 : Int32) (J : Nat → Nat → Int32), (Int32.ofInt 212).toInt - v2.toInt ≤ c → nt_rn X d 235 (25, [(0, .ref (p 0)), (1, .int v1), (2, .int v2)], [], me_w M J) o → o = (some (.int ((x235_25 p v1 c v2 J).1)), me_w M ((x235_25 p v1 c v2 J).2)) := by
  intro c
  induction c with
  | zero =>
    intro v2 J hc k
    have k := ly_revb 3 (c' := (if (Int32.ofInt 212) ≤ v2 then 56 else 32, [(0, .ref (p 0)), (1, .int v1), (2, .int v2)], [], me_w M J)) rfl k
    have h29 : (Int32.ofInt 212) ≤ v2 := lx_end hc
    rw [if_pos h29] at k
    have k := ly_revb 1 (c' := (57, [(0, .ref (p 0)), (1, .int v1), (2, .int v2)], [.ref (p 0)], me_w M J)) rfl k
    have k := lz_get (a := (p 0)) (g := 1127) (M := me_w M J) (v := .ref (p 4)) rfl (nt_gfR rfl (hp.1 (0, 27, 4) (by decide))) k
    have k := ly_revb 1 (c' := (61, [(0, .ref (p 0)), (1, .int v1), (2, .int v2)], [.int (Int32.ofInt 4), .ref (p 4)], me_w M J)) rfl k
    have k := mx_iald (v := J (p 4) 4) rfl (hp.2.2.1 4 (by omega)) ((congrArg (J (p 4)) (show (Int32.ofInt 4).toNatClampNeg = 4 from rfl)).trans (rfl)) k
    have k := lz_ri rfl (by decide) k
    rw [k, x235_25]
  | succ c ih =>
    intro v2 J hc k
    have k := ly_revb 3 (c' := (if (Int32.ofInt 212) ≤ v2 then 56 else 32, [(0, .ref (p 0)), (1, .int v1), (2, .int v2)], [], me_w M J)) rfl k
    by_cases h29 : (Int32.ofInt 212) ≤ v2
    · rw [if_pos h29] at k
      have k := ly_revb 1 (c' := (57, [(0, .ref (p 0)), (1, .int v1), (2, .int v2)], [.ref (p 0)], me_w M J)) rfl k
      have k := lz_get (a := (p 0)) (g := 1127) (M := me_w M J) (v := .ref (p 4)) rfl (nt_gfR rfl (hp.1 (0, 27, 4) (by decide))) k
      have k := ly_revb 1 (c' := (61, [(0, .ref (p 0)), (1, .int v1), (2, .int v2)], [.int (Int32.ofInt 4), .ref (p 4)], me_w M J)) rfl k
      have k := mx_iald (v := J (p 4) 4) rfl (hp.2.2.1 4 (by omega)) ((congrArg (J (p 4)) (show (Int32.ofInt 4).toNatClampNeg = 4 from rfl)).trans (rfl)) k
      have k := lz_ri rfl (by decide) k
      rw [k, x235_25, if_pos h29]
    · rw [if_neg h29] at k
      have k := ly_revb 1 (c' := (33, [(0, .ref (p 0)), (1, .int v1), (2, .int v2)], [.ref (p 0)], me_w M J)) rfl k
      have k := lz_get (a := (p 0)) (g := 1127) (M := me_w M J) (v := .ref (p 4)) rfl (nt_gfR rfl (hp.1 (0, 27, 4) (by decide))) k
      have k := ly_revb 2 (c' := (38, [(0, .ref (p 0)), (1, .int v1), (2, .int v2)], [.ref (p 0), .int v2, .ref (p 4)], me_w M J)) rfl k
      have k := lz_get (a := (p 0)) (g := 1129) (M := me_w M J) (v := .ref (p 14)) rfl (nt_gfR rfl (hp.1 (0, 29, 14) (by decide))) k
      have k := ly_revb 5 (c' := (48, [(0, .ref (p 0)), (1, .int v1), (2, .int v2)], [.int (((Int32.ofInt 212) * v1) + v2), .ref (p 14), .int v2, .ref (p 4)], me_w M J)) rfl k
      have k := mx_iald (v := J (p 14) ((((Int32.ofInt 212) * v1) + v2).toNatClampNeg)) rfl (hp.2.2.1 14 (by omega)) (rfl) k
      have k := mx_iast (q := v2.toNatClampNeg) rfl rfl k
      have k : nt_rn X _ 235 (50, [(0, .ref (p 0)), (1, .int v1), (2, .int v2)], [], me_w M (nt_u J (p 4) v2.toNatClampNeg (J (p 14) ((((Int32.ofInt 212) * v1) + v2).toNatClampNeg)))) _ := k
      have k := ly_revb 2 (c' := (25, [(2, .int (v2 + (Int32.ofInt 1))), (0, .ref (p 0)), (1, .int v1)], [], me_w M (nt_u J (p 4) v2.toNatClampNeg (J (p 14) ((((Int32.ofInt 212) * v1) + v2).toNatClampNeg))))) rfl k
      have k := nt_rn_w (a := [(2, .int (v2 + (Int32.ofInt 1))), (0, .ref (p 0)), (1, .int v1)]) (b := [(0, .ref (p 0)), (1, .int v1), (2, .int (v2 + (Int32.ofInt 1)))]) ⟨rfl, rfl, rfl, trivial⟩ rfl k
      have k := ih (v2 + (Int32.ofInt 1)) (nt_u J (p 4) v2.toNatClampNeg (J (p 14) ((((Int32.ofInt 212) * v1) + v2).toNatClampNeg))) (lx_dec h29 hc) k
      rw [k, x235_25, if_neg h29]
theorem x235_25_rule {p : Nat → Nat} {v1 : Int32} {I : Nat → Int32 → (Nat → Nat → Int32) → Prop} {Q : Int32 × (Nat → Nat → Int32) → Prop} (h0 : ∀ (v2 : Int32) (J : Nat → Nat → Int32), I 0 v2 J → Q (J (p 4) 4, J)) (h1 : ∀ (c : Nat) (v2 : Int32) (J : Nat → Nat → Int32), I (c + 1) v2 J →
    if (Int32.ofInt 212) ≤ v2 then (Q (J (p 4) 4, J))
    else (I c (v2 + (Int32.ofInt 1)) (nt_u J (p 4) v2.toNatClampNeg (J (p 14) ((((Int32.ofInt 212) * v1) + v2).toNatClampNeg))))) : ∀ (c : Nat) (v2 : Int32) (J : Nat → Nat → Int32), I c v2 J → Q (x235_25 p v1 c v2 J) := by
  intro c
  induction c with
  | zero =>
    intro v2 J hi
    rw [x235_25]
    exact h0 v2 J hi
  | succ c ih =>
    intro v2 J hi
    have hi := h1 c v2 J hi
    rw [x235_25]
    by_cases h : (Int32.ofInt 212) ≤ v2
    · rw [if_pos h] at hi ⊢
      exact hi
    · rw [if_neg h] at hi ⊢
      exact ih _ _ hi
def x235 (p : Nat → Nat) (v1 : Int32) (J : Nat → Nat → Int32) : Int32 × (Nat → Nat → Int32) := if (x145 v1.toInt64 (Int64.ofNat 0) 3) = 0 then (Int32.ofInt (-1), J)
  else if (J (p 15) v1.toNatClampNeg) = 0 then (Int32.ofInt (-1), J)
    else (x235_25 p v1 ((Int32.ofInt 212).toNatClampNeg) (Int32.ofInt 0) J)
theorem xt235 {X : nt_X} {d : Nat} {M : nt_M} {o : Option Value × nt_M} {p : Nat → Nat} {v1 : Int32} {J : Nat → Nat → Int32} (hp : xs_P M p) (k : nt_ev X d 235 [.ref (p 0), .int v1] (me_w M J) o) : o = (some (.int ((x235 p v1 J).1)), me_w M ((x235 p v1 J).2)) := by
  have k : nt_rn X d 235 (0, [(0, .ref (p 0)), (1, .int v1)], [], me_w M J) o := k
  have k := ly_revb 4 (c' := (6, [(0, .ref (p 0)), (1, .int v1)], [.long 3, .long (Int64.ofNat 0), .long v1.toInt64], me_w M J)) rfl k
  obtain ⟨d1, o1, ed, kc, k⟩ := lz_c (g := 145) (q := 0) (vs := [.long v1.toInt64, .long (Int64.ofNat 0), .long 3]) (rest := []) rfl rfl (by decide) (Or.inl ⟨_, rfl, rfl⟩) rfl k
  have e1 := xt145  kc
  subst e1
  have k : nt_rn X _ 235 (9, [(0, .ref (p 0)), (1, .int v1)], [.int (x145 v1.toInt64 (Int64.ofNat 0) 3)], me_w M J) _ := k
  have k := ly_revb 1 (c' := (if (x145 v1.toInt64 (Int64.ofNat 0) 3) = 0 then 21 else 12, [(0, .ref (p 0)), (1, .int v1)], [], me_w M J)) rfl k
  by_cases h9 : (x145 v1.toInt64 (Int64.ofNat 0) 3) = 0
  · rw [if_pos h9] at k
    have k := ly_revb 1 (c' := (22, [(0, .ref (p 0)), (1, .int v1)], [.int (Int32.ofInt (-1))], me_w M J)) rfl k
    have k := lz_ri rfl (by decide) k
    rw [k, x235, if_pos h9]
  · rw [if_neg h9] at k
    have k := ly_revb 1 (c' := (13, [(0, .ref (p 0)), (1, .int v1)], [.ref (p 0)], me_w M J)) rfl k
    have k := lz_get (a := (p 0)) (g := 1130) (M := me_w M J) (v := .ref (p 15)) rfl (nt_gfR rfl (hp.1 (0, 30, 15) (by decide))) k
    have k := ly_revb 1 (c' := (17, [(0, .ref (p 0)), (1, .int v1)], [.int v1, .ref (p 15)], me_w M J)) rfl k
    have k := mx_bald (v := J (p 15) v1.toNatClampNeg) rfl (rfl) k
    have k := ly_revb 1 (c' := (if (J (p 15) v1.toNatClampNeg) = 0 then 21 else 23, [(0, .ref (p 0)), (1, .int v1)], [], me_w M J)) rfl k
    by_cases h18 : (J (p 15) v1.toNatClampNeg) = 0
    · rw [if_pos h18] at k
      have k := ly_revb 1 (c' := (22, [(0, .ref (p 0)), (1, .int v1)], [.int (Int32.ofInt (-1))], me_w M J)) rfl k
      have k := lz_ri rfl (by decide) k
      rw [k, x235, if_neg h9, if_pos h18]
    · rw [if_neg h18] at k
      have k := ly_revb 2 (c' := (25, [(2, .int (Int32.ofInt 0)), (0, .ref (p 0)), (1, .int v1)], [], me_w M J)) rfl k
      have k := nt_rn_w (a := [(2, .int (Int32.ofInt 0)), (0, .ref (p 0)), (1, .int v1)]) (b := [(0, .ref (p 0)), (1, .int v1), (2, .int (Int32.ofInt 0))]) ⟨rfl, rfl, rfl, trivial⟩ rfl k
      have k := xt235_25 hp  ((Int32.ofInt 212).toNatClampNeg) (Int32.ofInt 0) J (lx_beg (by decide)) k
      rw [k, x235, if_neg h9, if_neg h18]
theorem x235_25_frJ {p : Nat → Nat} {v1 : Int32} {b : Nat} : ∀ (c : Nat) (v2 : Int32) (J : Nat → Nat → Int32), b ≠ p 4 → (x235_25 p v1 c v2 J).2 b = J b := by
  intro c
  induction c with
  | zero =>
    intro v2 J n0
    rw [x235_25]
    all_goals first | (dsimp only; exact (show J b = J b from rfl)) | exact (show J b = J b from rfl)
  | succ c ih =>
    intro v2 J n0
    rw [x235_25]
    by_cases h : (Int32.ofInt 212) ≤ v2
    · rw [if_pos h]
      all_goals first | (dsimp only; exact (show J b = J b from rfl)) | exact (show J b = J b from rfl)
    · rw [if_neg h]
      exact (ih _ _ n0).trans (mu_o n0)
theorem x235_frJ {p : Nat → Nat} {v1 : Int32} {J : Nat → Nat → Int32} {b : Nat} (n0 : b ≠ p 4) : (x235 p v1 J).2 b = J b := by
  unfold x235
  by_cases h : (x145 v1.toInt64 (Int64.ofNat 0) 3) = 0
  · rw [if_pos h]
    all_goals first | (dsimp only; exact (show J b = J b from rfl)) | exact (show J b = J b from rfl)
  · rw [if_neg h]
    by_cases h : (J (p 15) v1.toNatClampNeg) = 0
    · rw [if_pos h]
      all_goals first | (dsimp only; exact (show J b = J b from rfl)) | exact (show J b = J b from rfl)
    · rw [if_neg h]
      exact (x235_25_frJ _ _ _ n0).trans (rfl)
