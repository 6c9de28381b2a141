/-! a new yard begins -/
theorem mw_R {M : nt_M} {J : Nat → Nat → Int32} {a k b : Nat} (h : nt_R M a k = some b) : nt_R (me_w M J) a k = some b := h
theorem mw_gI {M : nt_M} {J : Nat → Nat → Int32} {a c j : Nat} {x : Int32} (ht : nt_tg c j = 0) (h : J a j = x) : nt_gf (me_w M J) a c j = .int x := by
  unfold nt_gf
  rw [ht]
  exact congrArg Value.int h
theorem mw_RL {M : nt_M} {J : Nat → Nat → Int32} {L : Nat → Nat → Int64} {a k b : Nat} (h : nt_R M a k = some b) : nt_R (me_w (lw M L) J) a k = some b := h
/-! $State.begin -/
def x64_32 (q : Nat → Nat) : Nat → Int32 → (Nat → Nat → Int32) → (Nat → Nat → Int32)
  | 0, v2, J => J
  | c + 1, v2, J => if (Int32.ofInt 6) ≤ v2 then J
    else (x64_32 q c (v2 + (Int32.ofInt 1)) (nt_u (nt_u (nt_u J (q 10) v2.toNatClampNeg (Int32.ofInt 0)) (q 11) v2.toNatClampNeg (Int32.ofInt 0)) (q 12) v2.toNatClampNeg (Int32.ofInt (-1))))
theorem xt64_32 {X : nt_X} {d : Nat} {M : nt_M} {o : Option Value × nt_M} {q : Nat → Nat} {v1 : Int32} (hq : xs_Q M q) : ∀ (c : Nat) (v2 : Int32) (J : Nat → Nat → Int32), (Int32.ofInt 6).toInt - v2.toInt ≤ c → nt_rn X d 64 (32, [(0, .ref (q 0)), (1, .int v1), (2, .int v2)], [], me_w M J) o → ∃ (w2 : Int32), nt_rn X d 64 (65, [(0, .ref (q 0)), (1, .int v1), (2, .int w2)], [], me_w M (x64_32 q c v2 J)) o := by
  intro c
  induction c with
  | zero =>
    intro v2 J hc k
    have k := ly_revb 3 (c' := (if (Int32.ofInt 6) ≤ v2 then 65 else 38, [(0, .ref (q 0)), (1, .int v1), (2, .int v2)], [], me_w M J)) rfl k
    have h35 : (Int32.ofInt 6) ≤ v2 := lx_end hc
    rw [if_pos h35] at k
    have k := nt_rn_w (a := [(0, .ref (q 0)), (1, .int v1), (2, .int v2)]) (b := [(0, .ref (q 0)), (1, .int v1), (2, .int v2)]) ⟨rfl, rfl, rfl, trivial⟩ rfl k
    rw [x64_32]
    exact ⟨_, k⟩
  | succ c ih =>
    intro v2 J hc k
    have k := ly_revb 3 (c' := (if (Int32.ofInt 6) ≤ v2 then 65 else 38, [(0, .ref (q 0)), (1, .int v1), (2, .int v2)], [], me_w M J)) rfl k
    by_cases h35 : (Int32.ofInt 6) ≤ v2
    · rw [if_pos h35] at k
      have k := nt_rn_w (a := [(0, .ref (q 0)), (1, .int v1), (2, .int v2)]) (b := [(0, .ref (q 0)), (1, .int v1), (2, .int v2)]) ⟨rfl, rfl, rfl, trivial⟩ rfl k
      rw [x64_32, if_pos h35]
      exact ⟨_, k⟩
    · rw [if_neg h35] at k
      have k := ly_revb 1 (c' := (39, [(0, .ref (q 0)), (1, .int v1), (2, .int v2)], [.ref (q 0)], me_w M J)) rfl k
      have k := lz_get (a := (q 0)) (g := 607) (M := me_w M J) (v := .ref (q 10)) rfl (nt_gfR rfl (hq.1 (0, 7, 10) (by decide))) k
      have k := ly_revb 2 (c' := (44, [(0, .ref (q 0)), (1, .int v1), (2, .int v2)], [.int (Int32.ofInt 0), .int v2, .ref (q 10)], me_w M J)) rfl k
      have k := mx_iast (q := v2.toNatClampNeg) rfl rfl k
      have k : nt_rn X _ 64 (45, [(0, .ref (q 0)), (1, .int v1), (2, .int v2)], [], me_w M (nt_u J (q 10) v2.toNatClampNeg (Int32.ofInt 0))) _ := k
      have k := ly_revb 1 (c' := (46, [(0, .ref (q 0)), (1, .int v1), (2, .int v2)], [.ref (q 0)], me_w M (nt_u J (q 10) v2.toNatClampNeg (Int32.ofInt 0)))) rfl k
      have k := lz_get (a := (q 0)) (g := 608) (M := me_w M (nt_u J (q 10) v2.toNatClampNeg (Int32.ofInt 0))) (v := .ref (q 11)) rfl (nt_gfR rfl (hq.1 (0, 8, 11) (by decide))) k
      have k := ly_revb 2 (c' := (51, [(0, .ref (q 0)), (1, .int v1), (2, .int v2)], [.int (Int32.ofInt 0), .int v2, .ref (q 11)], me_w M (nt_u J (q 10) v2.toNatClampNeg (Int32.ofInt 0)))) rfl k
      have k := mx_iast (q := v2.toNatClampNeg) rfl rfl k
      have k : nt_rn X _ 64 (52, [(0, .ref (q 0)), (1, .int v1), (2, .int v2)], [], me_w M (nt_u (nt_u J (q 10) v2.toNatClampNeg (Int32.ofInt 0)) (q 11) v2.toNatClampNeg (Int32.ofInt 0))) _ := k
      have k := ly_revb 1 (c' := (53, [(0, .ref (q 0)), (1, .int v1), (2, .int v2)], [.ref (q 0)], me_w M (nt_u (nt_u J (q 10) v2.toNatClampNeg (Int32.ofInt 0)) (q 11) v2.toNatClampNeg (Int32.ofInt 0)))) rfl k
      have k := lz_get (a := (q 0)) (g := 609) (M := me_w M (nt_u (nt_u J (q 10) v2.toNatClampNeg (Int32.ofInt 0)) (q 11) v2.toNatClampNeg (Int32.ofInt 0))) (v := .ref (q 12)) rfl (nt_gfR rfl (hq.1 (0, 9, 12) (by decide))) k
      have k := ly_revb 2 (c' := (58, [(0, .ref (q 0)), (1, .int v1), (2, .int v2)], [.int (Int32.ofInt (-1)), .int v2, .ref (q 12)], me_w M (nt_u (nt_u J (q 10) v2.toNatClampNeg (Int32.ofInt 0)) (q 11) v2.toNatClampNeg (Int32.ofInt 0)))) rfl k
      have k := mx_iast (q := v2.toNatClampNeg) rfl rfl k
      have k : nt_rn X _ 64 (59, [(0, .ref (q 0)), (1, .int v1), (2, .int v2)], [], me_w M (nt_u (nt_u (nt_u J (q 10) v2.toNatClampNeg (Int32.ofInt 0)) (q 11) v2.toNatClampNeg (Int32.ofInt 0)) (q 12) v2.toNatClampNeg (Int32.ofInt (-1)))) _ := k
      have k := ly_revb 2 (c' := (32, [(2, .int (v2 + (Int32.ofInt 1))), (0, .ref (q 0)), (1, .int v1)], [], me_w M (nt_u (nt_u (nt_u J (q 10) v2.toNatClampNeg (Int32.ofInt 0)) (q 11) v2.toNatClampNeg (Int32.ofInt 0)) (q 12) v2.toNatClampNeg (Int32.ofInt (-1))))) rfl k
      have k := nt_rn_w (a := [(2, .int (v2 + (Int32.ofInt 1))), (0, .ref (q 0)), (1, .int v1)]) (b := [(0, .ref (q 0)), (1, .int v1), (2, .int (v2 + (Int32.ofInt 1)))]) ⟨rfl, rfl, rfl, trivial⟩ rfl k
      have k := ih (v2 + (Int32.ofInt 1)) (nt_u (nt_u (nt_u J (q 10) v2.toNatClampNeg (Int32.ofInt 0)) (q 11) v2.toNatClampNeg (Int32.ofInt 0)) (q 12) v2.toNatClampNeg (Int32.ofInt (-1))) (lx_dec h35 hc) k
      rw [x64_32, if_neg h35]
      exact k
theorem x64_32_rule {q : Nat → Nat} {I : Nat → Int32 → (Nat → Nat → Int32) → Prop} {Q : (Nat → Nat → Int32) → Prop} (h0 : ∀ (v2 : Int32) (J : Nat → Nat → Int32), I 0 v2 J → Q J) (h1 : ∀ (c : Nat) (v2 : Int32) (J : Nat → Nat → Int32), I (c + 1) v2 J →
    if (Int32.ofInt 6) ≤ v2 then (Q J)
    else (I c (v2 + (Int32.ofInt 1)) (nt_u (nt_u (nt_u J (q 10) v2.toNatClampNeg (Int32.ofInt 0)) (q 11) v2.toNatClampNeg (Int32.ofInt 0)) (q 12) v2.toNatClampNeg (Int32.ofInt (-1))))) : ∀ (c : Nat) (v2 : Int32) (J : Nat → Nat → Int32), I c v2 J → Q (x64_32 q c v2 J) := by
  intro c
  induction c with
  | zero =>
    intro v2 J hi
    rw [x64_32]
    exact h0 v2 J hi
  | succ c ih =>
    intro v2 J hi
    have hi := h1 c v2 J hi
    rw [x64_32]
    by_cases h : (Int32.ofInt 6) ≤ v2
    · rw [if_pos h] at hi ⊢
      exact hi
    · rw [if_neg h] at hi ⊢
      exact ih _ _ hi
theorem x64_32_frJ {q : Nat → Nat} {b : Nat} : ∀ (c : Nat) (v2 : Int32) (J : Nat → Nat → Int32), b ≠ q 10 → b ≠ q 11 → b ≠ q 12 → x64_32 q c v2 J b = J b := by
  intro c
  induction c with
  | zero =>
    intro v2 J n0 n1 n2
    rw [x64_32]
    all_goals first | (dsimp only; exact (show J b = J b from rfl)) | exact (show J b = J b from rfl)
  | succ c ih =>
    intro v2 J n0 n1 n2
    rw [x64_32]
    by_cases h : (Int32.ofInt 6) ≤ v2
    · rw [if_pos h]
      all_goals first | (dsimp only; exact (show J b = J b from rfl)) | exact (show J b = J b from rfl)
    · rw [if_neg h]
      exact (ih _ _ n0 n1 n2).trans ((mu_o n2).trans ((mu_o n1).trans (mu_o n0)))
def x64_67 (q : Nat → Nat) : Nat → Int32 → (Nat → Nat → Int32) → (Nat → Nat → Int32)
  | 0, v2, J => J
  | c + 1, v2, J => if (Int32.ofInt 24) ≤ v2 then J
    else (x64_67 q c (v2 + (Int32.ofInt 1)) (nt_u (nt_u (nt_u J (q 13) v2.toNatClampNeg (J (q 4) v2.toNatClampNeg)) (q 14) v2.toNatClampNeg (Int32.ofInt (-1))) (q 15) v2.toNatClampNeg (vp_nar .boolean (Int32.ofInt 0))))
theorem xt64_67 {X : nt_X} {d : Nat} {M : nt_M} {o : Option Value × nt_M} {q : Nat → Nat} {v1 : Int32} (hq : xs_Q M q) : ∀ (c : Nat) (v2 : Int32) (J : Nat → Nat → Int32), (Int32.ofInt 24).toInt - v2.toInt ≤ c → nt_rn X d 64 (67, [(0, .ref (q 0)), (1, .int v1), (2, .int v2)], [], me_w M J) o → ∃ (w2 : Int32), nt_rn X d 64 (108, [(0, .ref (q 0)), (1, .int v1), (2, .int w2)], [], me_w M (x64_67 q c v2 J)) o := by
  intro c
  induction c with
  | zero =>
    intro v2 J hc k
    have k := ly_revb 3 (c' := (if (Int32.ofInt 24) ≤ v2 then 108 else 73, [(0, .ref (q 0)), (1, .int v1), (2, .int v2)], [], me_w M J)) rfl k
    have h70 : (Int32.ofInt 24) ≤ v2 := lx_end hc
    rw [if_pos h70] at k
    have k := nt_rn_w (a := [(0, .ref (q 0)), (1, .int v1), (2, .int v2)]) (b := [(0, .ref (q 0)), (1, .int v1), (2, .int v2)]) ⟨rfl, rfl, rfl, trivial⟩ rfl k
    rw [x64_67]
    exact ⟨_, k⟩
  | succ c ih =>
    intro v2 J hc k
    have k := ly_revb 3 (c' := (if (Int32.ofInt 24) ≤ v2 then 108 else 73, [(0, .ref (q 0)), (1, .int v1), (2, .int v2)], [], me_w M J)) rfl k
    by_cases h70 : (Int32.ofInt 24) ≤ v2
    · rw [if_pos h70] at k
      have k := nt_rn_w (a := [(0, .ref (q 0)), (1, .int v1), (2, .int v2)]) (b := [(0, .ref (q 0)), (1, .int v1), (2, .int v2)]) ⟨rfl, rfl, rfl, trivial⟩ rfl k
      rw [x64_67, if_pos h70]
      exact ⟨_, k⟩
    · rw [if_neg h70] at k
      have k := ly_revb 1 (c' := (74, [(0, .ref (q 0)), (1, .int v1), (2, .int v2)], [.ref (q 0)], me_w M J)) rfl k
      have k := lz_get (a := (q 0)) (g := 610) (M := me_w M J) (v := .ref (q 13)) rfl (nt_gfR rfl (hq.1 (0, 10, 13) (by decide))) k
      have k := ly_revb 2 (c' := (79, [(0, .ref (q 0)), (1, .int v1), (2, .int v2)], [.ref (q 0), .int v2, .ref (q 13)], me_w M J)) rfl k
      have k := lz_get (a := (q 0)) (g := 600) (M := me_w M J) (v := .ref (q 1)) rfl (nt_gfR rfl (hq.1 (0, 0, 1) (by decide))) k
      have k := lz_get (a := (q 1)) (g := 807) (M := me_w M J) (v := .ref (q 4)) rfl (nt_gfR rfl (hq.1 (1, 7, 4) (by decide))) k
      have k := ly_revb 1 (c' := (86, [(0, .ref (q 0)), (1, .int v1), (2, .int v2)], [.int v2, .ref (q 4), .int v2, .ref (q 13)], me_w M J)) rfl k
      have k := mx_iald (v := J (q 4) v2.toNatClampNeg) rfl (hq.2.2.1 4 (by omega)) (rfl) k
      have k := mx_iast (q := v2.toNatClampNeg) rfl rfl k
      have k : nt_rn X _ 64 (88, [(0, .ref (q 0)), (1, .int v1), (2, .int v2)], [], me_w M (nt_u J (q 13) v2.toNatClampNeg (J (q 4) v2.toNatClampNeg))) _ := k
      have k := ly_revb 1 (c' := (89, [(0, .ref (q 0)), (1, .int v1), (2, .int v2)], [.ref (q 0)], me_w M (nt_u J (q 13) v2.toNatClampNeg (J (q 4) v2.toNatClampNeg)))) rfl k
      have k := lz_get (a := (q 0)) (g := 611) (M := me_w M (nt_u J (q 13) v2.toNatClampNeg (J (q 4) v2.toNatClampNeg))) (v := .ref (q 14)) rfl (nt_gfR rfl (hq.1 (0, 11, 14) (by decide))) k
      have k := ly_revb 2 (c' := (94, [(0, .ref (q 0)), (1, .int v1), (2, .int v2)], [.int (Int32.ofInt (-1)), .int v2, .ref (q 14)], me_w M (nt_u J (q 13) v2.toNatClampNeg (J (q 4) v2.toNatClampNeg)))) rfl k
      have k := mx_iast (q := v2.toNatClampNeg) rfl rfl k
      have k : nt_rn X _ 64 (95, [(0, .ref (q 0)), (1, .int v1), (2, .int v2)], [], me_w M (nt_u (nt_u J (q 13) v2.toNatClampNeg (J (q 4) v2.toNatClampNeg)) (q 14) v2.toNatClampNeg (Int32.ofInt (-1)))) _ := k
      have k := ly_revb 1 (c' := (96, [(0, .ref (q 0)), (1, .int v1), (2, .int v2)], [.ref (q 0)], me_w M (nt_u (nt_u J (q 13) v2.toNatClampNeg (J (q 4) v2.toNatClampNeg)) (q 14) v2.toNatClampNeg (Int32.ofInt (-1))))) rfl k
      have k := lz_get (a := (q 0)) (g := 612) (M := me_w M (nt_u (nt_u J (q 13) v2.toNatClampNeg (J (q 4) v2.toNatClampNeg)) (q 14) v2.toNatClampNeg (Int32.ofInt (-1)))) (v := .ref (q 15)) rfl (nt_gfR rfl (hq.1 (0, 12, 15) (by decide))) k
      have k := ly_revb 2 (c' := (101, [(0, .ref (q 0)), (1, .int v1), (2, .int v2)], [.int (Int32.ofInt 0), .int v2, .ref (q 15)], me_w M (nt_u (nt_u J (q 13) v2.toNatClampNeg (J (q 4) v2.toNatClampNeg)) (q 14) v2.toNatClampNeg (Int32.ofInt (-1))))) rfl k
      have k := mx_bast (q := v2.toNatClampNeg) rfl hq.2.2.2 rfl k
      have k : nt_rn X _ 64 (102, [(0, .ref (q 0)), (1, .int v1), (2, .int v2)], [], me_w M (nt_u (nt_u (nt_u J (q 13) v2.toNatClampNeg (J (q 4) v2.toNatClampNeg)) (q 14) v2.toNatClampNeg (Int32.ofInt (-1))) (q 15) v2.toNatClampNeg (vp_nar .boolean (Int32.ofInt 0)))) _ := k
      have k := ly_revb 2 (c' := (67, [(2, .int (v2 + (Int32.ofInt 1))), (0, .ref (q 0)), (1, .int v1)], [], me_w M (nt_u (nt_u (nt_u J (q 13) v2.toNatClampNeg (J (q 4) v2.toNatClampNeg)) (q 14) v2.toNatClampNeg (Int32.ofInt (-1))) (q 15) v2.toNatClampNeg (vp_nar .boolean (Int32.ofInt 0))))) rfl k
      have k := nt_rn_w (a := [(2, .int (v2 + (Int32.ofInt 1))), (0, .ref (q 0)), (1, .int v1)]) (b := [(0, .ref (q 0)), (1, .int v1), (2, .int (v2 + (Int32.ofInt 1)))]) ⟨rfl, rfl, rfl, trivial⟩ rfl k
      have k := ih (v2 + (Int32.ofInt 1)) (nt_u (nt_u (nt_u J (q 13) v2.toNatClampNeg (J (q 4) v2.toNatClampNeg)) (q 14) v2.toNatClampNeg (Int32.ofInt (-1))) (q 15) v2.toNatClampNeg (vp_nar .boolean (Int32.ofInt 0))) (lx_dec h70 hc) k
      rw [x64_67, if_neg h70]
      exact k
theorem x64_67_rule {q : Nat → Nat} {I : Nat → Int32 → (Nat → Nat → Int32) → Prop} {Q : (Nat → Nat → Int32) → Prop} (h0 : ∀ (v2 : Int32) (J : Nat → Nat → Int32), I 0 v2 J → Q J) (h1 : ∀ (c : Nat) (v2 : Int32) (J : Nat → Nat → Int32), I (c + 1) v2 J →
    if (Int32.ofInt 24) ≤ v2 then (Q J)
    else (I c (v2 + (Int32.ofInt 1)) (nt_u (nt_u (nt_u J (q 13) v2.toNatClampNeg (J (q 4) v2.toNatClampNeg)) (q 14) v2.toNatClampNeg (Int32.ofInt (-1))) (q 15) v2.toNatClampNeg (vp_nar .boolean (Int32.ofInt 0))))) : ∀ (c : Nat) (v2 : Int32) (J : Nat → Nat → Int32), I c v2 J → Q (x64_67 q c v2 J) := by
  intro c
  induction c with
  | zero =>
    intro v2 J hi
    rw [x64_67]
    exact h0 v2 J hi
  | succ c ih =>
    intro v2 J hi
    have hi := h1 c v2 J hi
    rw [x64_67]
    by_cases h : (Int32.ofInt 24) ≤ v2
    · rw [if_pos h] at hi ⊢
      exact hi
    · rw [if_neg h] at hi ⊢
      exact ih _ _ hi
theorem x64_67_frJ {q : Nat → Nat} {b : Nat} : ∀ (c : Nat) (v2 : Int32) (J : Nat → Nat → Int32), b ≠ q 13 → b ≠ q 14 → b ≠ q 15 → x64_67 q c v2 J b = J b := by
  intro c
  induction c with
  | zero =>
    intro v2 J n0 n1 n2
    rw [x64_67]
    all_goals first | (dsimp only; exact (show J b = J b from rfl)) | exact (show J b = J b from rfl)
  | succ c ih =>
    intro v2 J n0 n1 n2
    rw [x64_67]
    by_cases h : (Int32.ofInt 24) ≤ v2
    · rw [if_pos h]
      all_goals first | (dsimp only; exact (show J b = J b from rfl)) | exact (show J b = J b from rfl)
    · rw [if_neg h]
      exact (ih _ _ n0 n1 n2).trans ((mu_o n2).trans ((mu_o n1).trans (mu_o n0)))
def x64_110 (q : Nat → Nat) : Nat → Int32 → (Nat → Nat → Int32) → (Nat → Nat → Int32)
  | 0, v2, J => J
  | c + 1, v2, J => if (Int32.ofInt 8) ≤ v2 then J
    else (x64_110 q c (v2 + (Int32.ofInt 1)) (nt_u J (q 16) v2.toNatClampNeg (Int32.ofInt 0)))
theorem xt64_110 {X : nt_X} {d : Nat} {M : nt_M} {o : Option Value × nt_M} {q : Nat → Nat} {v1 : Int32} (hq : xs_Q M q) : ∀ (c : Nat) (v2 : Int32) (J : Nat → Nat → Int32), (Int32.ofInt 8).toInt - v2.toInt ≤ c → nt_rn X d 64 (110, [(0, .ref (q 0)), (1, .int v1), (2, .int v2)], [], me_w M J) o → ∃ (w2 : Int32), nt_rn X d 64 (129, [(0, .ref (q 0)), (1, .int v1), (2, .int w2)], [], me_w M (x64_110 q c v2 J)) o := by
  intro c
  induction c with
  | zero =>
    intro v2 J hc k
    have k := ly_revb 3 (c' := (if (Int32.ofInt 8) ≤ v2 then 129 else 116, [(0, .ref (q 0)), (1, .int v1), (2, .int v2)], [], me_w M J)) rfl k
    have h113 : (Int32.ofInt 8) ≤ v2 := lx_end hc
    rw [if_pos h113] at k
    have k := nt_rn_w (a := [(0, .ref (q 0)), (1, .int v1), (2, .int v2)]) (b := [(0, .ref (q 0)), (1, .int v1), (2, .int v2)]) ⟨rfl, rfl, rfl, trivial⟩ rfl k
    rw [x64_110]
    exact ⟨_, k⟩
  | succ c ih =>
    intro v2 J hc k
    have k := ly_revb 3 (c' := (if (Int32.ofInt 8) ≤ v2 then 129 else 116, [(0, .ref (q 0)), (1, .int v1), (2, .int v2)], [], me_w M J)) rfl k
    by_cases h113 : (Int32.ofInt 8) ≤ v2
    · rw [if_pos h113] at k
      have k := nt_rn_w (a := [(0, .ref (q 0)), (1, .int v1), (2, .int v2)]) (b := [(0, .ref (q 0)), (1, .int v1), (2, .int v2)]) ⟨rfl, rfl, rfl, trivial⟩ rfl k
      rw [x64_110, if_pos h113]
      exact ⟨_, k⟩
    · rw [if_neg h113] at k
      have k := ly_revb 1 (c' := (117, [(0, .ref (q 0)), (1, .int v1), (2, .int v2)], [.ref (q 0)], me_w M J)) rfl k
      have k := lz_get (a := (q 0)) (g := 613) (M := me_w M J) (v := .ref (q 16)) rfl (nt_gfR rfl (hq.1 (0, 13, 16) (by decide))) k
      have k := ly_revb 2 (c' := (122, [(0, .ref (q 0)), (1, .int v1), (2, .int v2)], [.int (Int32.ofInt 0), .int v2, .ref (q 16)], me_w M J)) rfl k
      have k := mx_iast (q := v2.toNatClampNeg) rfl rfl k
      have k : nt_rn X _ 64 (123, [(0, .ref (q 0)), (1, .int v1), (2, .int v2)], [], me_w M (nt_u J (q 16) v2.toNatClampNeg (Int32.ofInt 0))) _ := k
      have k := ly_revb 2 (c' := (110, [(2, .int (v2 + (Int32.ofInt 1))), (0, .ref (q 0)), (1, .int v1)], [], me_w M (nt_u J (q 16) v2.toNatClampNeg (Int32.ofInt 0)))) rfl k
      have k := nt_rn_w (a := [(2, .int (v2 + (Int32.ofInt 1))), (0, .ref (q 0)), (1, .int v1)]) (b := [(0, .ref (q 0)), (1, .int v1), (2, .int (v2 + (Int32.ofInt 1)))]) ⟨rfl, rfl, rfl, trivial⟩ rfl k
      have k := ih (v2 + (Int32.ofInt 1)) (nt_u J (q 16) v2.toNatClampNeg (Int32.ofInt 0)) (lx_dec h113 hc) k
      rw [x64_110, if_neg h113]
      exact k
theorem x64_110_rule {q : Nat → Nat} {I : Nat → Int32 → (Nat → Nat → Int32) → Prop} {Q : (Nat → Nat → Int32) → Prop} (h0 : ∀ (v2 : Int32) (J : Nat → Nat → Int32), I 0 v2 J → Q J) (h1 : ∀ (c : Nat) (v2 : Int32) (J : Nat → Nat → Int32), I (c + 1) v2 J →
    if (Int32.ofInt 8) ≤ v2 then (Q J)
    else (I c (v2 + (Int32.ofInt 1)) (nt_u J (q 16) v2.toNatClampNeg (Int32.ofInt 0)))) : ∀ (c : Nat) (v2 : Int32) (J : Nat → Nat → Int32), I c v2 J → Q (x64_110 q c v2 J) := by
  intro c
  induction c with
  | zero =>
    intro v2 J hi
    rw [x64_110]
    exact h0 v2 J hi
  | succ c ih =>
    intro v2 J hi
    have hi := h1 c v2 J hi
    rw [x64_110]
    by_cases h : (Int32.ofInt 8) ≤ v2
    · rw [if_pos h] at hi ⊢
      exact hi
    · rw [if_neg h] at hi ⊢
      exact ih _ _ hi
theorem x64_110_frJ {q : Nat → Nat} {b : Nat} : ∀ (c : Nat) (v2 : Int32) (J : Nat → Nat → Int32), b ≠ q 16 → x64_110 q c v2 J b = J b := by
  intro c
  induction c with
  | zero =>
    intro v2 J n0
    rw [x64_110]
    all_goals first | (dsimp only; exact (show J b = J b from rfl)) | exact (show J b = J b from rfl)
  | succ c ih =>
    intro v2 J n0
    rw [x64_110]
    by_cases h : (Int32.ofInt 8) ≤ v2
    · rw [if_pos h]
      all_goals first | (dsimp only; exact (show J b = J b from rfl)) | exact (show J b = J b from rfl)
    · rw [if_neg h]
      exact (ih _ _ n0).trans (mu_o n0)
def x64 (q : Nat → Nat) (v1 : Int32) (J : Nat → Nat → Int32) : (Nat → Nat → Int32) := (x64_110 q ((Int32.ofInt 8).toNatClampNeg) (Int32.ofInt 0) (x64_67 q ((Int32.ofInt 24).toNatClampNeg) (Int32.ofInt 0) (x64_32 q ((Int32.ofInt 6).toNatClampNeg) (Int32.ofInt 0) (nt_u (nt_u (nt_u (nt_u (nt_u (nt_u J (q 0) 1 (Int32.ofInt 1)) (q 0) 2 (Int32.ofInt 0)) (q 0) 3 (Int32.ofInt 0)) (q 0) 4 (Int32.ofInt 0)) (q 0) 5 (Int32.ofInt 0)) (q 0) 6 v1))))
theorem xt64 {X : nt_X} {d : Nat} {M : nt_M} {o : Option Value × nt_M} {q : Nat → Nat} {v1 : Int32} {J : Nat → Nat → Int32} (hq : xs_Q M q) (k : nt_ev X d 64 [.ref (q 0), .int v1] (me_w M J) o) : o = (none, me_w M (x64 q v1 J)) := by
  have k : nt_rn X d 64 (0, [(0, .ref (q 0)), (1, .int v1)], [], me_w M J) o := k
  have k := ly_revb 2 (c' := (2, [(0, .ref (q 0)), (1, .int v1)], [.int (Int32.ofInt 1), .ref (q 0)], me_w M J)) rfl k
  have k := me_put rfl (by decide) k
  have k : nt_rn X _ 64 (5, [(0, .ref (q 0)), (1, .int v1)], [], me_w M (nt_u J (q 0) 1 (Int32.ofInt 1))) _ := k
  have k := ly_revb 2 (c' := (7, [(0, .ref (q 0)), (1, .int v1)], [.int (Int32.ofInt 0), .ref (q 0)], me_w M (nt_u J (q 0) 1 (Int32.ofInt 1)))) rfl k
  have k := me_put rfl (by decide) k
  have k : nt_rn X _ 64 (10, [(0, .ref (q 0)), (1, .int v1)], [], me_w M (nt_u (nt_u J (q 0) 1 (Int32.ofInt 1)) (q 0) 2 (Int32.ofInt 0))) _ := k
  have k := ly_revb 2 (c' := (12, [(0, .ref (q 0)), (1, .int v1)], [.int (Int32.ofInt 0), .ref (q 0)], me_w M (nt_u (nt_u J (q 0) 1 (Int32.ofInt 1)) (q 0) 2 (Int32.ofInt 0)))) rfl k
  have k := me_put rfl (by decide) k
  have k : nt_rn X _ 64 (15, [(0, .ref (q 0)), (1, .int v1)], [], me_w M (nt_u (nt_u (nt_u J (q 0) 1 (Int32.ofInt 1)) (q 0) 2 (Int32.ofInt 0)) (q 0) 3 (Int32.ofInt 0))) _ := k
  have k := ly_revb 2 (c' := (17, [(0, .ref (q 0)), (1, .int v1)], [.int (Int32.ofInt 0), .ref (q 0)], me_w M (nt_u (nt_u (nt_u J (q 0) 1 (Int32.ofInt 1)) (q 0) 2 (Int32.ofInt 0)) (q 0) 3 (Int32.ofInt 0)))) rfl k
  have k := me_put rfl (by decide) k
  have k : nt_rn X _ 64 (20, [(0, .ref (q 0)), (1, .int v1)], [], me_w M (nt_u (nt_u (nt_u (nt_u J (q 0) 1 (Int32.ofInt 1)) (q 0) 2 (Int32.ofInt 0)) (q 0) 3 (Int32.ofInt 0)) (q 0) 4 (Int32.ofInt 0))) _ := k
  have k := ly_revb 2 (c' := (22, [(0, .ref (q 0)), (1, .int v1)], [.int (Int32.ofInt 0), .ref (q 0)], me_w M (nt_u (nt_u (nt_u (nt_u J (q 0) 1 (Int32.ofInt 1)) (q 0) 2 (Int32.ofInt 0)) (q 0) 3 (Int32.ofInt 0)) (q 0) 4 (Int32.ofInt 0)))) rfl k
  have k := me_put rfl (by decide) k
  have k : nt_rn X _ 64 (25, [(0, .ref (q 0)), (1, .int v1)], [], me_w M (nt_u (nt_u (nt_u (nt_u (nt_u J (q 0) 1 (Int32.ofInt 1)) (q 0) 2 (Int32.ofInt 0)) (q 0) 3 (Int32.ofInt 0)) (q 0) 4 (Int32.ofInt 0)) (q 0) 5 (Int32.ofInt 0))) _ := k
  have k := ly_revb 2 (c' := (27, [(0, .ref (q 0)), (1, .int v1)], [.int v1, .ref (q 0)], me_w M (nt_u (nt_u (nt_u (nt_u (nt_u J (q 0) 1 (Int32.ofInt 1)) (q 0) 2 (Int32.ofInt 0)) (q 0) 3 (Int32.ofInt 0)) (q 0) 4 (Int32.ofInt 0)) (q 0) 5 (Int32.ofInt 0)))) rfl k
  have k := me_put rfl (by decide) k
  have k : nt_rn X _ 64 (30, [(0, .ref (q 0)), (1, .int v1)], [], me_w M (nt_u (nt_u (nt_u (nt_u (nt_u (nt_u J (q 0) 1 (Int32.ofInt 1)) (q 0) 2 (Int32.ofInt 0)) (q 0) 3 (Int32.ofInt 0)) (q 0) 4 (Int32.ofInt 0)) (q 0) 5 (Int32.ofInt 0)) (q 0) 6 v1)) _ := k
  have k := ly_revb 2 (c' := (32, [(2, .int (Int32.ofInt 0)), (0, .ref (q 0)), (1, .int v1)], [], me_w M (nt_u (nt_u (nt_u (nt_u (nt_u (nt_u J (q 0) 1 (Int32.ofInt 1)) (q 0) 2 (Int32.ofInt 0)) (q 0) 3 (Int32.ofInt 0)) (q 0) 4 (Int32.ofInt 0)) (q 0) 5 (Int32.ofInt 0)) (q 0) 6 v1))) rfl k
  have k := nt_rn_w (a := [(2, .int (Int32.ofInt 0)), (0, .ref (q 0)), (1, .int v1)]) (b := [(0, .ref (q 0)), (1, .int v1), (2, .int (Int32.ofInt 0))]) ⟨rfl, rfl, rfl, trivial⟩ rfl k
  have k := xt64_32 hq  ((Int32.ofInt 6).toNatClampNeg) (Int32.ofInt 0) (nt_u (nt_u (nt_u (nt_u (nt_u (nt_u J (q 0) 1 (Int32.ofInt 1)) (q 0) 2 (Int32.ofInt 0)) (q 0) 3 (Int32.ofInt 0)) (q 0) 4 (Int32.ofInt 0)) (q 0) 5 (Int32.ofInt 0)) (q 0) 6 v1) (lx_beg (by decide)) k
  obtain ⟨w2, k⟩ := k
  have k : nt_rn X _ 64 (65, [(0, .ref (q 0)), (1, .int v1), (2, .int w2)], [], me_w M (x64_32 q ((Int32.ofInt 6).toNatClampNeg) (Int32.ofInt 0) (nt_u (nt_u (nt_u (nt_u (nt_u (nt_u J (q 0) 1 (Int32.ofInt 1)) (q 0) 2 (Int32.ofInt 0)) (q 0) 3 (Int32.ofInt 0)) (q 0) 4 (Int32.ofInt 0)) (q 0) 5 (Int32.ofInt 0)) (q 0) 6 v1))) _ := k
  have k := ly_revb 2 (c' := (67, [(2, .int (Int32.ofInt 0)), (0, .ref (q 0)), (1, .int v1)], [], me_w M (x64_32 q ((Int32.ofInt 6).toNatClampNeg) (Int32.ofInt 0) (nt_u (nt_u (nt_u (nt_u (nt_u (nt_u J (q 0) 1 (Int32.ofInt 1)) (q 0) 2 (Int32.ofInt 0)) (q 0) 3 (Int32.ofInt 0)) (q 0) 4 (Int32.ofInt 0)) (q 0) 5 (Int32.ofInt 0)) (q 0) 6 v1)))) rfl k
  have k := nt_rn_w (a := [(2, .int (Int32.ofInt 0)), (0, .ref (q 0)), (1, .int v1)]) (b := [(0, .ref (q 0)), (1, .int v1), (2, .int (Int32.ofInt 0))]) ⟨rfl, rfl, rfl, trivial⟩ rfl k
  have k := xt64_67 hq  ((Int32.ofInt 24).toNatClampNeg) (Int32.ofInt 0) (x64_32 q ((Int32.ofInt 6).toNatClampNeg) (Int32.ofInt 0) (nt_u (nt_u (nt_u (nt_u (nt_u (nt_u J (q 0) 1 (Int32.ofInt 1)) (q 0) 2 (Int32.ofInt 0)) (q 0) 3 (Int32.ofInt 0)) (q 0) 4 (Int32.ofInt 0)) (q 0) 5 (Int32.ofInt 0)) (q 0) 6 v1)) (lx_beg (by decide)) k
  obtain ⟨w2, k⟩ := k
  have k : nt_rn X _ 64 (108, [(0, .ref (q 0)), (1, .int v1), (2, .int w2)], [], me_w M (x64_67 q ((Int32.ofInt 24).toNatClampNeg) (Int32.ofInt 0) (x64_32 q ((Int32.ofInt 6).toNatClampNeg) (Int32.ofInt 0) (nt_u (nt_u (nt_u (nt_u (nt_u (nt_u J (q 0) 1 (Int32.ofInt 1)) (q 0) 2 (Int32.ofInt 0)) (q 0) 3 (Int32.ofInt 0)) (q 0) 4 (Int32.ofInt 0)) (q 0) 5 (Int32.ofInt 0)) (q 0) 6 v1)))) _ := k
  have k := ly_revb 2 (c' := (110, [(2, .int (Int32.ofInt 0)), (0, .ref (q 0)), (1, .int v1)], [], me_w M (x64_67 q ((Int32.ofInt 24).toNatClampNeg) (Int32.ofInt 0) (x64_32 q ((Int32.ofInt 6).toNatClampNeg) (Int32.ofInt 0) (nt_u (nt_u (nt_u (nt_u (nt_u (nt_u J (q 0) 1 (Int32.ofInt 1)) (q 0) 2 (Int32.ofInt 0)) (q 0) 3 (Int32.ofInt 0)) (q 0) 4 (Int32.ofInt 0)) (q 0) 5 (Int32.ofInt 0)) (q 0) 6 v1))))) rfl k
  have k := nt_rn_w (a := [(2, .int (Int32.ofInt 0)), (0, .ref (q 0)), (1, .int v1)]) (b := [(0, .ref (q 0)), (1, .int v1), (2, .int (Int32.ofInt 0))]) ⟨rfl, rfl, rfl, trivial⟩ rfl k
  have k := xt64_110 hq  ((Int32.ofInt 8).toNatClampNeg) (Int32.ofInt 0) (x64_67 q ((Int32.ofInt 24).toNatClampNeg) (Int32.ofInt 0) (x64_32 q ((Int32.ofInt 6).toNatClampNeg) (Int32.ofInt 0) (nt_u (nt_u (nt_u (nt_u (nt_u (nt_u J (q 0) 1 (Int32.ofInt 1)) (q 0) 2 (Int32.ofInt 0)) (q 0) 3 (Int32.ofInt 0)) (q 0) 4 (Int32.ofInt 0)) (q 0) 5 (Int32.ofInt 0)) (q 0) 6 v1))) (lx_beg (by decide)) k
  obtain ⟨w2, k⟩ := k
  have k : nt_rn X _ 64 (129, [(0, .ref (q 0)), (1, .int v1), (2, .int w2)], [], me_w M (x64_110 q ((Int32.ofInt 8).toNatClampNeg) (Int32.ofInt 0) (x64_67 q ((Int32.ofInt 24).toNatClampNeg) (Int32.ofInt 0) (x64_32 q ((Int32.ofInt 6).toNatClampNeg) (Int32.ofInt 0) (nt_u (nt_u (nt_u (nt_u (nt_u (nt_u J (q 0) 1 (Int32.ofInt 1)) (q 0) 2 (Int32.ofInt 0)) (q 0) 3 (Int32.ofInt 0)) (q 0) 4 (Int32.ofInt 0)) (q 0) 5 (Int32.ofInt 0)) (q 0) 6 v1))))) _ := k
  have k := lz_rv rfl rfl k
  rw [k, x64]
theorem x64_frJ {q : Nat → Nat} {v1 : Int32} {J : Nat → Nat → Int32} {b : Nat} (n0 : b ≠ q 0) (n1 : b ≠ q 10) (n2 : b ≠ q 11) (n3 : b ≠ q 12) (n4 : b ≠ q 13) (n5 : b ≠ q 14) (n6 : b ≠ q 15) (n7 : b ≠ q 16) : x64 q v1 J b = J b := by
  unfold x64
  all_goals first | (dsimp only; exact (show (x64_110 q ((Int32.ofInt 8).toNatClampNeg) (Int32.ofInt 0) (x64_67 q ((Int32.ofInt 24).toNatClampNeg) (Int32.ofInt 0) (x64_32 q ((Int32.ofInt 6).toNatClampNeg) (Int32.ofInt 0) (nt_u (nt_u (nt_u (nt_u (nt_u (nt_u J (q 0) 1 (Int32.ofInt 1)) (q 0) 2 (Int32.ofInt 0)) (q 0) 3 (Int32.ofInt 0)) (q 0) 4 (Int32.ofInt 0)) (q 0) 5 (Int32.ofInt 0)) (q 0) 6 v1)))) b = J b from (x64_110_frJ _ _ _ n7).trans ((x64_67_frJ _ _ _ n4 n5 n6).trans ((x64_32_frJ _ _ _ n1 n2 n3).trans ((mu_o n0).trans ((mu_o n0).trans ((mu_o n0).trans ((mu_o n0).trans ((mu_o n0).trans (mu_o n0)))))))))) | exact (show (x64_110 q ((Int32.ofInt 8).toNatClampNeg) (Int32.ofInt 0) (x64_67 q ((Int32.ofInt 24).toNatClampNeg) (Int32.ofInt 0) (x64_32 q ((Int32.ofInt 6).toNatClampNeg) (Int32.ofInt 0) (nt_u (nt_u (nt_u (nt_u (nt_u (nt_u J (q 0) 1 (Int32.ofInt 1)) (q 0) 2 (Int32.ofInt 0)) (q 0) 3 (Int32.ofInt 0)) (q 0) 4 (Int32.ofInt 0)) (q 0) 5 (Int32.ofInt 0)) (q 0) 6 v1)))) b = J b from (x64_110_frJ _ _ _ n7).trans ((x64_67_frJ _ _ _ n4 n5 n6).trans ((x64_32_frJ _ _ _ n1 n2 n3).trans ((mu_o n0).trans ((mu_o n0).trans ((mu_o n0).trans ((mu_o n0).trans ((mu_o n0).trans (mu_o n0)))))))))
/-! Model.yard -/
def x166F_56 (p : Nat → Nat) (v1 : Int32) : Nat → Int32 → (Nat → Nat → Int32) → (Nat → Nat → Int32)
  | 0, v2, J => J
  | c + 1, v2, J => if (Int32.ofInt 212) ≤ v2 then J
    else (x166F_56 p v1 c (v2 + (Int32.ofInt 1)) (nt_u J (p 4) v2.toNatClampNeg (Int32.ofInt 0)))
theorem xt166F_56 {X : nt_X} {d : Nat} {M : nt_M} {o : Option Value × nt_M} {p : Nat → Nat} {v1 : Int32} (hp : xs_P M p) : ∀ (c : Nat) (v2 : Int32) (J : Nat → Nat → Int32), (Int32.ofInt 212).toInt - v2.toInt ≤ c → nt_rn X d 166 (56, [(0, .ref (p 0)), (1, .int v1), (2, .int v2)], [], me_w M J) o → ∃ (w2 : Int32), nt_rn X d 166 (76, [(0, .ref (p 0)), (1, .int v1), (2, .int w2)], [], me_w M (x166F_56 p v1 c v2 J)) o := by
  intro c
  induction c with
  | zero =>
    intro v2 J hc k
    have k := ly_revb 3 (c' := (if (Int32.ofInt 212) ≤ v2 then 76 else 63, [(0, .ref (p 0)), (1, .int v1), (2, .int v2)], [], me_w M J)) rfl k
    have h60 : (Int32.ofInt 212) ≤ v2 := lx_end hc
    rw [if_pos h60] at k
    have k := nt_rn_w (a := [(0, .ref (p 0)), (1, .int v1), (2, .int v2)]) (b := [(0, .ref (p 0)), (1, .int v1), (2, .int v2)]) ⟨rfl, rfl, rfl, trivial⟩ rfl k
    rw [x166F_56]
    exact ⟨_, k⟩
  | succ c ih =>
    intro v2 J hc k
    have k := ly_revb 3 (c' := (if (Int32.ofInt 212) ≤ v2 then 76 else 63, [(0, .ref (p 0)), (1, .int v1), (2, .int v2)], [], me_w M J)) rfl k
    by_cases h60 : (Int32.ofInt 212) ≤ v2
    · rw [if_pos h60] at k
      have k := nt_rn_w (a := [(0, .ref (p 0)), (1, .int v1), (2, .int v2)]) (b := [(0, .ref (p 0)), (1, .int v1), (2, .int v2)]) ⟨rfl, rfl, rfl, trivial⟩ rfl k
      rw [x166F_56, if_pos h60]
      exact ⟨_, k⟩
    · rw [if_neg h60] at k
      have k := ly_revb 1 (c' := (64, [(0, .ref (p 0)), (1, .int v1), (2, .int v2)], [.ref (p 0)], me_w M J)) rfl k
      have k := lz_get (a := (p 0)) (g := 1127) (M := me_w M J) (v := .ref (p 4)) rfl (nt_gfR rfl (mw_R (hp.1 (0, 27, 4) (by decide)))) k
      have k := ly_revb 2 (c' := (69, [(0, .ref (p 0)), (1, .int v1), (2, .int v2)], [.int (Int32.ofInt 0), .int v2, .ref (p 4)], me_w M J)) rfl k
      have k := mx_iast (q := v2.toNatClampNeg) rfl rfl k
      have k : nt_rn X _ 166 (70, [(0, .ref (p 0)), (1, .int v1), (2, .int v2)], [], me_w M (nt_u J (p 4) v2.toNatClampNeg (Int32.ofInt 0))) _ := k
      have k := ly_revb 2 (c' := (56, [(2, .int (v2 + (Int32.ofInt 1))), (0, .ref (p 0)), (1, .int v1)], [], me_w M (nt_u J (p 4) v2.toNatClampNeg (Int32.ofInt 0)))) rfl k
      have k := nt_rn_w (a := [(2, .int (v2 + (Int32.ofInt 1))), (0, .ref (p 0)), (1, .int v1)]) (b := [(0, .ref (p 0)), (1, .int v1), (2, .int (v2 + (Int32.ofInt 1)))]) ⟨rfl, rfl, rfl, trivial⟩ rfl k
      have k := ih (v2 + (Int32.ofInt 1)) (nt_u J (p 4) v2.toNatClampNeg (Int32.ofInt 0)) (lx_dec h60 hc) k
      rw [x166F_56, if_neg h60]
      exact k
theorem x166F_56_rule {p : Nat → Nat} {v1 : Int32} {I : Nat → Int32 → (Nat → Nat → Int32) → Prop} {Q : (Nat → Nat → Int32) → Prop} (h0 : ∀ (v2 : Int32) (J : Nat → Nat → Int32), I 0 v2 J → Q J) (h1 : ∀ (c : Nat) (v2 : Int32) (J : Nat → Nat → Int32), I (c + 1) v2 J →
    if (Int32.ofInt 212) ≤ v2 then (Q J)
    else (I c (v2 + (Int32.ofInt 1)) (nt_u J (p 4) v2.toNatClampNeg (Int32.ofInt 0)))) : ∀ (c : Nat) (v2 : Int32) (J : Nat → Nat → Int32), I c v2 J → Q (x166F_56 p v1 c v2 J) := by
  intro c
  induction c with
  | zero =>
    intro v2 J hi
    rw [x166F_56]
    exact h0 v2 J hi
  | succ c ih =>
    intro v2 J hi
    have hi := h1 c v2 J hi
    rw [x166F_56]
    by_cases h : (Int32.ofInt 212) ≤ v2
    · rw [if_pos h] at hi ⊢
      exact hi
    · rw [if_neg h] at hi ⊢
      exact ih _ _ hi
theorem x166F_56_frJ {p : Nat → Nat} {v1 : Int32} {b : Nat} : ∀ (c : Nat) (v2 : Int32) (J : Nat → Nat → Int32), b ≠ p 4 → x166F_56 p v1 c v2 J b = J b := by
  intro c
  induction c with
  | zero =>
    intro v2 J n0
    rw [x166F_56]
    all_goals first | (dsimp only; exact (show J b = J b from rfl)) | exact (show J b = J b from rfl)
  | succ c ih =>
    intro v2 J n0
    rw [x166F_56]
    by_cases h : (Int32.ofInt 212) ≤ v2
    · rw [if_pos h]
      all_goals first | (dsimp only; exact (show J b = J b from rfl)) | exact (show J b = J b from rfl)
    · rw [if_neg h]
      exact (ih _ _ n0).trans (mu_o n0)
def x166F_158 (p : Nat → Nat) (v2 : Int32) : Nat → Int32 → (Nat → Nat → Int32) → (Nat → Nat → Int32)
  | 0, v3, J => J
  | c + 1, v3, J => if (J (p 0) 7) ≤ v3 then J
    else (x166F_158 p v2 c (v3 + (Int32.ofInt 1)) (nt_u J (p 4) ((((Int32.ofInt 10) + ((Int32.ofInt 7) * v2)) + v3).toNatClampNeg) (J (p 11) ((((Int32.ofInt 4) * v2) + v3).toNatClampNeg))))
theorem xt166F_158 {X : nt_X} {d : Nat} {M : nt_M} {o : Option Value × nt_M} {p : Nat → Nat} {v1 : Int32} {v2 : Int32} (hp : xs_P M p) : ∀ (c : Nat) (v3 : Int32) (J : Nat → Nat → Int32), (J (p 0) 7).toInt - v3.toInt ≤ c → nt_rn X d 166 (158, [(0, .ref (p 0)), (1, .int v1), (2, .int v2), (3, .int v3)], [], me_w M J) o → ∃ (w3 : Int32), nt_rn X d 166 (196, [(0, .ref (p 0)), (1, .int v1), (2, .int v2), (3, .int w3)], [], me_w M (x166F_158 p v2 c v3 J)) o := by
  intro c
  induction c with
  | zero =>
    intro v3 J hc k
    have k := ly_revb 2 (c' := (160, [(0, .ref (p 0)), (1, .int v1), (2, .int v2), (3, .int v3)], [.ref (p 0), .int v3], me_w M J)) rfl k
    have k := lz_get (a := (p 0)) (g := 1107) (M := me_w M J) (v := .int (J (p 0) 7)) rfl (mw_gI (by decide) (rfl)) k
    have k := ly_revb 1 (c' := (if (J (p 0) 7) ≤ v3 then 196 else 166, [(0, .ref (p 0)), (1, .int v1), (2, .int v2), (3, .int v3)], [], me_w M J)) rfl k
    have h163 : (J (p 0) 7) ≤ v3 := lx_end hc
    rw [if_pos h163] at k
    have k := nt_rn_w (a := [(0, .ref (p 0)), (1, .int v1), (2, .int v2), (3, .int v3)]) (b := [(0, .ref (p 0)), (1, .int v1), (2, .int v2), (3, .int v3)]) ⟨rfl, rfl, rfl, rfl, trivial⟩ rfl k
    rw [x166F_158]
    exact ⟨_, k⟩
  | succ c ih =>
    intro v3 J hc k
    have k := ly_revb 2 (c' := (160, [(0, .ref (p 0)), (1, .int v1), (2, .int v2), (3, .int v3)], [.ref (p 0), .int v3], me_w M J)) rfl k
    have k := lz_get (a := (p 0)) (g := 1107) (M := me_w M J) (v := .int (J (p 0) 7)) rfl (mw_gI (by decide) (rfl)) k
    have k := ly_revb 1 (c' := (if (J (p 0) 7) ≤ v3 then 196 else 166, [(0, .ref (p 0)), (1, .int v1), (2, .int v2), (3, .int v3)], [], me_w M J)) rfl k
    by_cases h163 : (J (p 0) 7) ≤ v3
    · rw [if_pos h163] at k
      have k := nt_rn_w (a := [(0, .ref (p 0)), (1, .int v1), (2, .int v2), (3, .int v3)]) (b := [(0, .ref (p 0)), (1, .int v1), (2, .int v2), (3, .int v3)]) ⟨rfl, rfl, rfl, rfl, trivial⟩ rfl k
      rw [x166F_158, if_pos h163]
      exact ⟨_, k⟩
    · rw [if_neg h163] at k
      have k := ly_revb 1 (c' := (167, [(0, .ref (p 0)), (1, .int v1), (2, .int v2), (3, .int v3)], [.ref (p 0)], me_w M J)) rfl k
      have k := lz_get (a := (p 0)) (g := 1127) (M := me_w M J) (v := .ref (p 4)) rfl (nt_gfR rfl (mw_R (hp.1 (0, 27, 4) (by decide)))) k
      have k := ly_revb 8 (c' := (180, [(0, .ref (p 0)), (1, .int v1), (2, .int v2), (3, .int v3)], [.ref (p 0), .int (((Int32.ofInt 10) + ((Int32.ofInt 7) * v2)) + v3), .ref (p 4)], me_w M J)) rfl k
      have k := lz_get (a := (p 0)) (g := 1112) (M := me_w M J) (v := .ref (p 11)) rfl (nt_gfR rfl (mw_R (hp.1 (0, 12, 11) (by decide)))) k
      have k := ly_revb 5 (c' := (188, [(0, .ref (p 0)), (1, .int v1), (2, .int v2), (3, .int v3)], [.int (((Int32.ofInt 4) * v2) + v3), .ref (p 11), .int (((Int32.ofInt 10) + ((Int32.ofInt 7) * v2)) + v3), .ref (p 4)], me_w M J)) rfl k
      have k := mx_iald (v := J (p 11) ((((Int32.ofInt 4) * v2) + v3).toNatClampNeg)) rfl (hp.2.2.1 11 (by omega)) (rfl) k
      have k := mx_iast (q := (((Int32.ofInt 10) + ((Int32.ofInt 7) * v2)) + v3).toNatClampNeg) rfl rfl k
      have k : nt_rn X _ 166 (190, [(0, .ref (p 0)), (1, .int v1), (2, .int v2), (3, .int v3)], [], me_w M (nt_u J (p 4) ((((Int32.ofInt 10) + ((Int32.ofInt 7) * v2)) + v3).toNatClampNeg) (J (p 11) ((((Int32.ofInt 4) * v2) + v3).toNatClampNeg)))) _ := k
      have k := ly_revb 2 (c' := (158, [(3, .int (v3 + (Int32.ofInt 1))), (0, .ref (p 0)), (1, .int v1), (2, .int v2)], [], me_w M (nt_u J (p 4) ((((Int32.ofInt 10) + ((Int32.ofInt 7) * v2)) + v3).toNatClampNeg) (J (p 11) ((((Int32.ofInt 4) * v2) + v3).toNatClampNeg))))) rfl k
      have k := nt_rn_w (a := [(3, .int (v3 + (Int32.ofInt 1))), (0, .ref (p 0)), (1, .int v1), (2, .int v2)]) (b := [(0, .ref (p 0)), (1, .int v1), (2, .int v2), (3, .int (v3 + (Int32.ofInt 1)))]) ⟨rfl, rfl, rfl, rfl, trivial⟩ rfl k
      have k := ih (v3 + (Int32.ofInt 1)) (nt_u J (p 4) ((((Int32.ofInt 10) + ((Int32.ofInt 7) * v2)) + v3).toNatClampNeg) (J (p 11) ((((Int32.ofInt 4) * v2) + v3).toNatClampNeg))) (by rw [show (nt_u J (p 4) ((((Int32.ofInt 10) + ((Int32.ofInt 7) * v2)) + v3).toNatClampNeg) (J (p 11) ((((Int32.ofInt 4) * v2) + v3).toNatClampNeg))) (p 0) 7 = J (p 0) 7 from mu_j (hp.2.1 0 4 (by omega) (by omega) (by decide))]; exact lx_dec h163 hc) k
      rw [x166F_158, if_neg h163]
      exact k
theorem x166F_158_rule {p : Nat → Nat} {v2 : Int32} {I : Nat → Int32 → (Nat → Nat → Int32) → Prop} {Q : (Nat → Nat → Int32) → Prop} (h0 : ∀ (v3 : Int32) (J : Nat → Nat → Int32), I 0 v3 J → Q J) (h1 : ∀ (c : Nat) (v3 : Int32) (J : Nat → Nat → Int32), I (c + 1) v3 J →
    if (J (p 0) 7) ≤ v3 then (Q J)
    else (I c (v3 + (Int32.ofInt 1)) (nt_u J (p 4) ((((Int32.ofInt 10) + ((Int32.ofInt 7) * v2)) + v3).toNatClampNeg) (J (p 11) ((((Int32.ofInt 4) * v2) + v3).toNatClampNeg))))) : ∀ (c : Nat) (v3 : Int32) (J : Nat → Nat → Int32), I c v3 J → Q (x166F_158 p v2 c v3 J) := by
  intro c
  induction c with
  | zero =>
    intro v3 J hi
    rw [x166F_158]
    exact h0 v3 J hi
  | succ c ih =>
    intro v3 J hi
    have hi := h1 c v3 J hi
    rw [x166F_158]
    by_cases h : (J (p 0) 7) ≤ v3
    · rw [if_pos h] at hi ⊢
      exact hi
    · rw [if_neg h] at hi ⊢
      exact ih _ _ hi
theorem x166F_158_frJ {p : Nat → Nat} {v2 : Int32} {b : Nat} : ∀ (c : Nat) (v3 : Int32) (J : Nat → Nat → Int32), b ≠ p 4 → x166F_158 p v2 c v3 J b = J b := by
  intro c
  induction c with
  | zero =>
    intro v3 J n0
    rw [x166F_158]
    all_goals first | (dsimp only; exact (show J b = J b from rfl)) | exact (show J b = J b from rfl)
  | succ c ih =>
    intro v3 J n0
    rw [x166F_158]
    by_cases h : (J (p 0) 7) ≤ v3
    · rw [if_pos h]
      all_goals first | (dsimp only; exact (show J b = J b from rfl)) | exact (show J b = J b from rfl)
    · rw [if_neg h]
      exact (ih _ _ n0).trans (mu_o n0)
def x166F_148 (p : Nat → Nat) : Nat → Int32 → (Nat → Nat → Int32) → (Nat → Nat → Int32)
  | 0, v2, J => J
  | c + 1, v2, J => if (J (p 0) 8) ≤ v2 then J
    else (x166F_148 p c (v2 + (Int32.ofInt 1)) (nt_u (x166F_158 p v2 ((J (p 0) 7).toNatClampNeg) (Int32.ofInt 0) J) (p 4) ((((Int32.ofInt 10) + ((Int32.ofInt 7) * v2)) + (Int32.ofInt 5)).toNatClampNeg) (Int32.ofInt (-1))))
theorem xt166F_148 {X : nt_X} {d : Nat} {M : nt_M} {o : Option Value × nt_M} {p : Nat → Nat} {v1 : Int32} (hp : xs_P M p) : ∀ (c : Nat) (v2 : Int32) (v3 : Int32) (J : Nat → Nat → Int32), (J (p 0) 8).toInt - v2.toInt ≤ c → nt_rn X d 166 (148, [(0, .ref (p 0)), (1, .int v1), (2, .int v2), (3, .int v3)], [], me_w M J) o → ∃ (w2 : Int32) (w3 : Int32), nt_rn X d 166 (217, [(0, .ref (p 0)), (1, .int v1), (2, .int w2), (3, .int w3)], [], me_w M (x166F_148 p c v2 J)) o := by
  intro c
  induction c with
  | zero =>
    intro v2 v3 J hc k
    have k := ly_revb 2 (c' := (150, [(0, .ref (p 0)), (1, .int v1), (2, .int v2), (3, .int v3)], [.ref (p 0), .int v2], me_w M J)) rfl k
    have k := lz_get (a := (p 0)) (g := 1108) (M := me_w M J) (v := .int (J (p 0) 8)) rfl (mw_gI (by decide) (rfl)) k
    have k := ly_revb 1 (c' := (if (J (p 0) 8) ≤ v2 then 217 else 156, [(0, .ref (p 0)), (1, .int v1), (2, .int v2), (3, .int v3)], [], me_w M J)) rfl k
    have h153 : (J (p 0) 8) ≤ v2 := lx_end hc
    rw [if_pos h153] at k
    have k := nt_rn_w (a := [(0, .ref (p 0)), (1, .int v1), (2, .int v2), (3, .int v3)]) (b := [(0, .ref (p 0)), (1, .int v1), (2, .int v2), (3, .int v3)]) ⟨rfl, rfl, rfl, rfl, trivial⟩ rfl k
    rw [x166F_148]
    exact ⟨_, _, k⟩
  | succ c ih =>
    intro v2 v3 J hc k
    have k := ly_revb 2 (c' := (150, [(0, .ref (p 0)), (1, .int v1), (2, .int v2), (3, .int v3)], [.ref (p 0), .int v2], me_w M J)) rfl k
    have k := lz_get (a := (p 0)) (g := 1108) (M := me_w M J) (v := .int (J (p 0) 8)) rfl (mw_gI (by decide) (rfl)) k
    have k := ly_revb 1 (c' := (if (J (p 0) 8) ≤ v2 then 217 else 156, [(0, .ref (p 0)), (1, .int v1), (2, .int v2), (3, .int v3)], [], me_w M J)) rfl k
    by_cases h153 : (J (p 0) 8) ≤ v2
    · rw [if_pos h153] at k
      have k := nt_rn_w (a := [(0, .ref (p 0)), (1, .int v1), (2, .int v2), (3, .int v3)]) (b := [(0, .ref (p 0)), (1, .int v1), (2, .int v2), (3, .int v3)]) ⟨rfl, rfl, rfl, rfl, trivial⟩ rfl k
      rw [x166F_148, if_pos h153]
      exact ⟨_, _, k⟩
    · rw [if_neg h153] at k
      have k := ly_revb 2 (c' := (158, [(3, .int (Int32.ofInt 0)), (0, .ref (p 0)), (1, .int v1), (2, .int v2)], [], me_w M J)) rfl k
      have k := nt_rn_w (a := [(3, .int (Int32.ofInt 0)), (0, .ref (p 0)), (1, .int v1), (2, .int v2)]) (b := [(0, .ref (p 0)), (1, .int v1), (2, .int v2), (3, .int (Int32.ofInt 0))]) ⟨rfl, rfl, rfl, rfl, trivial⟩ rfl k
      have k := xt166F_158 hp  ((J (p 0) 7).toNatClampNeg) (Int32.ofInt 0) J (lx_beg (by decide)) k
      obtain ⟨w3, k⟩ := k
      have k : nt_rn X _ 166 (196, [(0, .ref (p 0)), (1, .int v1), (2, .int v2), (3, .int w3)], [], me_w M (x166F_158 p v2 ((J (p 0) 7).toNatClampNeg) (Int32.ofInt 0) J)) _ := k
      have k := ly_revb 1 (c' := (197, [(0, .ref (p 0)), (1, .int v1), (2, .int v2), (3, .int w3)], [.ref (p 0)], me_w M (x166F_158 p v2 ((J (p 0) 7).toNatClampNeg) (Int32.ofInt 0) J))) rfl k
      have k := lz_get (a := (p 0)) (g := 1127) (M := me_w M (x166F_158 p v2 ((J (p 0) 7).toNatClampNeg) (Int32.ofInt 0) J)) (v := .ref (p 4)) rfl (nt_gfR rfl (mw_R (hp.1 (0, 27, 4) (by decide)))) k
      have k := ly_revb 8 (c' := (210, [(0, .ref (p 0)), (1, .int v1), (2, .int v2), (3, .int w3)], [.int (Int32.ofInt (-1)), .int (((Int32.ofInt 10) + ((Int32.ofInt 7) * v2)) + (Int32.ofInt 5)), .ref (p 4)], me_w M (x166F_158 p v2 ((J (p 0) 7).toNatClampNeg) (Int32.ofInt 0) J))) rfl k
      have k := mx_iast (q := (((Int32.ofInt 10) + ((Int32.ofInt 7) * v2)) + (Int32.ofInt 5)).toNatClampNeg) rfl rfl k
      have k : nt_rn X _ 166 (211, [(0, .ref (p 0)), (1, .int v1), (2, .int v2), (3, .int w3)], [], me_w M (nt_u (x166F_158 p v2 ((J (p 0) 7).toNatClampNeg) (Int32.ofInt 0) J) (p 4) ((((Int32.ofInt 10) + ((Int32.ofInt 7) * v2)) + (Int32.ofInt 5)).toNatClampNeg) (Int32.ofInt (-1)))) _ := k
      have k := ly_revb 2 (c' := (148, [(2, .int (v2 + (Int32.ofInt 1))), (0, .ref (p 0)), (1, .int v1), (3, .int w3)], [], me_w M (nt_u (x166F_158 p v2 ((J (p 0) 7).toNatClampNeg) (Int32.ofInt 0) J) (p 4) ((((Int32.ofInt 10) + ((Int32.ofInt 7) * v2)) + (Int32.ofInt 5)).toNatClampNeg) (Int32.ofInt (-1))))) rfl k
      have k := nt_rn_w (a := [(2, .int (v2 + (Int32.ofInt 1))), (0, .ref (p 0)), (1, .int v1), (3, .int w3)]) (b := [(0, .ref (p 0)), (1, .int v1), (2, .int (v2 + (Int32.ofInt 1))), (3, .int w3)]) ⟨rfl, rfl, rfl, rfl, trivial⟩ rfl k
      have k := ih (v2 + (Int32.ofInt 1)) w3 (nt_u (x166F_158 p v2 ((J (p 0) 7).toNatClampNeg) (Int32.ofInt 0) J) (p 4) ((((Int32.ofInt 10) + ((Int32.ofInt 7) * v2)) + (Int32.ofInt 5)).toNatClampNeg) (Int32.ofInt (-1))) (by rw [show (nt_u (x166F_158 p v2 ((J (p 0) 7).toNatClampNeg) (Int32.ofInt 0) J) (p 4) ((((Int32.ofInt 10) + ((Int32.ofInt 7) * v2)) + (Int32.ofInt 5)).toNatClampNeg) (Int32.ofInt (-1))) (p 0) 8 = J (p 0) 8 from (mu_j (hp.2.1 0 4 (by omega) (by omega) (by decide))).trans (congrFun (x166F_158_frJ _ _ _ (hp.2.1 0 4 (by omega) (by omega) (by decide))) 8)]; exact lx_dec h153 hc) k
      rw [x166F_148, if_neg h153]
      exact k
theorem x166F_148_rule {p : Nat → Nat} {I : Nat → Int32 → (Nat → Nat → Int32) → Prop} {Q : (Nat → Nat → Int32) → Prop} (h0 : ∀ (v2 : Int32) (J : Nat → Nat → Int32), I 0 v2 J → Q J) (h1 : ∀ (c : Nat) (v2 : Int32) (J : Nat → Nat → Int32), I (c + 1) v2 J →
    if (J (p 0) 8) ≤ v2 then (Q J)
    else (I c (v2 + (Int32.ofInt 1)) (nt_u (x166F_158 p v2 ((J (p 0) 7).toNatClampNeg) (Int32.ofInt 0) J) (p 4) ((((Int32.ofInt 10) + ((Int32.ofInt 7) * v2)) + (Int32.ofInt 5)).toNatClampNeg) (Int32.ofInt (-1))))) : ∀ (c : Nat) (v2 : Int32) (J : Nat → Nat → Int32), I c v2 J → Q (x166F_148 p c v2 J) := by
  intro c
  induction c with
  | zero =>
    intro v2 J hi
    rw [x166F_148]
    exact h0 v2 J hi
  | succ c ih =>
    intro v2 J hi
    have hi := h1 c v2 J hi
    rw [x166F_148]
    by_cases h : (J (p 0) 8) ≤ v2
    · rw [if_pos h] at hi ⊢
      exact hi
    · rw [if_neg h] at hi ⊢
      exact ih _ _ hi
theorem x166F_148_frJ {p : Nat → Nat} {b : Nat} : ∀ (c : Nat) (v2 : Int32) (J : Nat → Nat → Int32), b ≠ p 4 → x166F_148 p c v2 J b = J b := by
  intro c
  induction c with
  | zero =>
    intro v2 J n0
    rw [x166F_148]
    all_goals first | (dsimp only; exact (show J b = J b from rfl)) | exact (show J b = J b from rfl)
  | succ c ih =>
    intro v2 J n0
    rw [x166F_148]
    by_cases h : (J (p 0) 8) ≤ v2
    · rw [if_pos h]
      all_goals first | (dsimp only; exact (show J b = J b from rfl)) | exact (show J b = J b from rfl)
    · rw [if_neg h]
      exact (ih _ _ n0).trans ((mu_o n0).trans (x166F_158_frJ _ _ _ n0))
def x166F_229 (p : Nat → Nat) (v2 : Int32) : Nat → Int32 → (Nat → Nat → Int32) → (Nat → Nat → Int32)
  | 0, v3, J => J
  | c + 1, v3, J => if (Int32.ofInt 3) ≤ v3 then J
    else (x166F_229 p v2 c (v3 + (Int32.ofInt 1)) (nt_u J (p 4) ((((Int32.ofInt 52) + ((Int32.ofInt 5) * v2)) + v3).toNatClampNeg) (J (p 12) ((((Int32.ofInt 3) * v2) + v3).toNatClampNeg))))
theorem xt166F_229 {X : nt_X} {d : Nat} {M : nt_M} {o : Option Value × nt_M} {p : Nat → Nat} {v1 : Int32} {v2 : Int32} (hp : xs_P M p) : ∀ (c : Nat) (v3 : Int32) (J : Nat → Nat → Int32), (Int32.ofInt 3).toInt - v3.toInt ≤ c → nt_rn X d 166 (229, [(0, .ref (p 0)), (1, .int v1), (2, .int v2), (3, .int v3)], [], me_w M J) o → ∃ (w3 : Int32), nt_rn X d 166 (263, [(0, .ref (p 0)), (1, .int v1), (2, .int v2), (3, .int w3)], [], me_w M (x166F_229 p v2 c v3 J)) o := by
  intro c
  induction c with
  | zero =>
    intro v3 J hc k
    have k := ly_revb 3 (c' := (if (Int32.ofInt 3) ≤ v3 then 263 else 234, [(0, .ref (p 0)), (1, .int v1), (2, .int v2), (3, .int v3)], [], me_w M J)) rfl k
    have h231 : (Int32.ofInt 3) ≤ v3 := lx_end hc
    rw [if_pos h231] at k
    have k := nt_rn_w (a := [(0, .ref (p 0)), (1, .int v1), (2, .int v2), (3, .int v3)]) (b := [(0, .ref (p 0)), (1, .int v1), (2, .int v2), (3, .int v3)]) ⟨rfl, rfl, rfl, rfl, trivial⟩ rfl k
    rw [x166F_229]
    exact ⟨_, k⟩
  | succ c ih =>
    intro v3 J hc k
    have k := ly_revb 3 (c' := (if (Int32.ofInt 3) ≤ v3 then 263 else 234, [(0, .ref (p 0)), (1, .int v1), (2, .int v2), (3, .int v3)], [], me_w M J)) rfl k
    by_cases h231 : (Int32.ofInt 3) ≤ v3
    · rw [if_pos h231] at k
      have k := nt_rn_w (a := [(0, .ref (p 0)), (1, .int v1), (2, .int v2), (3, .int v3)]) (b := [(0, .ref (p 0)), (1, .int v1), (2, .int v2), (3, .int v3)]) ⟨rfl, rfl, rfl, rfl, trivial⟩ rfl k
      rw [x166F_229, if_pos h231]
      exact ⟨_, k⟩
    · rw [if_neg h231] at k
      have k := ly_revb 1 (c' := (235, [(0, .ref (p 0)), (1, .int v1), (2, .int v2), (3, .int v3)], [.ref (p 0)], me_w M J)) rfl k
      have k := lz_get (a := (p 0)) (g := 1127) (M := me_w M J) (v := .ref (p 4)) rfl (nt_gfR rfl (mw_R (hp.1 (0, 27, 4) (by decide)))) k
      have k := ly_revb 8 (c' := (247, [(0, .ref (p 0)), (1, .int v1), (2, .int v2), (3, .int v3)], [.ref (p 0), .int (((Int32.ofInt 52) + ((Int32.ofInt 5) * v2)) + v3), .ref (p 4)], me_w M J)) rfl k
      have k := lz_get (a := (p 0)) (g := 1113) (M := me_w M J) (v := .ref (p 12)) rfl (nt_gfR rfl (mw_R (hp.1 (0, 13, 12) (by decide)))) k
      have k := ly_revb 5 (c' := (255, [(0, .ref (p 0)), (1, .int v1), (2, .int v2), (3, .int v3)], [.int (((Int32.ofInt 3) * v2) + v3), .ref (p 12), .int (((Int32.ofInt 52) + ((Int32.ofInt 5) * v2)) + v3), .ref (p 4)], me_w M J)) rfl k
      have k := mx_iald (v := J (p 12) ((((Int32.ofInt 3) * v2) + v3).toNatClampNeg)) rfl (hp.2.2.1 12 (by omega)) (rfl) k
      have k := mx_iast (q := (((Int32.ofInt 52) + ((Int32.ofInt 5) * v2)) + v3).toNatClampNeg) rfl rfl k
      have k : nt_rn X _ 166 (257, [(0, .ref (p 0)), (1, .int v1), (2, .int v2), (3, .int v3)], [], me_w M (nt_u J (p 4) ((((Int32.ofInt 52) + ((Int32.ofInt 5) * v2)) + v3).toNatClampNeg) (J (p 12) ((((Int32.ofInt 3) * v2) + v3).toNatClampNeg)))) _ := k
      have k := ly_revb 2 (c' := (229, [(3, .int (v3 + (Int32.ofInt 1))), (0, .ref (p 0)), (1, .int v1), (2, .int v2)], [], me_w M (nt_u J (p 4) ((((Int32.ofInt 52) + ((Int32.ofInt 5) * v2)) + v3).toNatClampNeg) (J (p 12) ((((Int32.ofInt 3) * v2) + v3).toNatClampNeg))))) rfl k
      have k := nt_rn_w (a := [(3, .int (v3 + (Int32.ofInt 1))), (0, .ref (p 0)), (1, .int v1), (2, .int v2)]) (b := [(0, .ref (p 0)), (1, .int v1), (2, .int v2), (3, .int (v3 + (Int32.ofInt 1)))]) ⟨rfl, rfl, rfl, rfl, trivial⟩ rfl k
      have k := ih (v3 + (Int32.ofInt 1)) (nt_u J (p 4) ((((Int32.ofInt 52) + ((Int32.ofInt 5) * v2)) + v3).toNatClampNeg) (J (p 12) ((((Int32.ofInt 3) * v2) + v3).toNatClampNeg))) (lx_dec h231 hc) k
      rw [x166F_229, if_neg h231]
      exact k
theorem x166F_229_rule {p : Nat → Nat} {v2 : Int32} {I : Nat → Int32 → (Nat → Nat → Int32) → Prop} {Q : (Nat → Nat → Int32) → Prop} (h0 : ∀ (v3 : Int32) (J : Nat → Nat → Int32), I 0 v3 J → Q J) (h1 : ∀ (c : Nat) (v3 : Int32) (J : Nat → Nat → Int32), I (c + 1) v3 J →
    if (Int32.ofInt 3) ≤ v3 then (Q J)
    else (I c (v3 + (Int32.ofInt 1)) (nt_u J (p 4) ((((Int32.ofInt 52) + ((Int32.ofInt 5) * v2)) + v3).toNatClampNeg) (J (p 12) ((((Int32.ofInt 3) * v2) + v3).toNatClampNeg))))) : ∀ (c : Nat) (v3 : Int32) (J : Nat → Nat → Int32), I c v3 J → Q (x166F_229 p v2 c v3 J) := by
  intro c
  induction c with
  | zero =>
    intro v3 J hi
    rw [x166F_229]
    exact h0 v3 J hi
  | succ c ih =>
    intro v3 J hi
    have hi := h1 c v3 J hi
    rw [x166F_229]
    by_cases h : (Int32.ofInt 3) ≤ v3
    · rw [if_pos h] at hi ⊢
      exact hi
    · rw [if_neg h] at hi ⊢
      exact ih _ _ hi
theorem x166F_229_frJ {p : Nat → Nat} {v2 : Int32} {b : Nat} : ∀ (c : Nat) (v3 : Int32) (J : Nat → Nat → Int32), b ≠ p 4 → x166F_229 p v2 c v3 J b = J b := by
  intro c
  induction c with
  | zero =>
    intro v3 J n0
    rw [x166F_229]
    all_goals first | (dsimp only; exact (show J b = J b from rfl)) | exact (show J b = J b from rfl)
  | succ c ih =>
    intro v3 J n0
    rw [x166F_229]
    by_cases h : (Int32.ofInt 3) ≤ v3
    · rw [if_pos h]
      all_goals first | (dsimp only; exact (show J b = J b from rfl)) | exact (show J b = J b from rfl)
    · rw [if_neg h]
      exact (ih _ _ n0).trans (mu_o n0)
def x166F_219 (p : Nat → Nat) : Nat → Int32 → (Nat → Nat → Int32) → (Nat → Nat → Int32)
  | 0, v2, J => J
  | c + 1, v2, J => if (J (p 0) 9) ≤ v2 then J
    else (x166F_219 p c (v2 + (Int32.ofInt 1)) (nt_u (x166F_229 p v2 ((Int32.ofInt 3).toNatClampNeg) (Int32.ofInt 0) J) (p 4) ((((Int32.ofInt 52) + ((Int32.ofInt 5) * v2)) + (Int32.ofInt 3)).toNatClampNeg) (Int32.ofInt (-1))))
theorem xt166F_219 {X : nt_X} {d : Nat} {M : nt_M} {o : Option Value × nt_M} {p : Nat → Nat} {v1 : Int32} (hp : xs_P M p) : ∀ (c : Nat) (v2 : Int32) (v3 : Int32) (J : Nat → Nat → Int32), (J (p 0) 9).toInt - v2.toInt ≤ c → nt_rn X d 166 (219, [(0, .ref (p 0)), (1, .int v1), (2, .int v2), (3, .int v3)], [], me_w M J) o → ∃ (w2 : Int32) (w3 : Int32), nt_rn X d 166 (283, [(0, .ref (p 0)), (1, .int v1), (2, .int w2), (3, .int w3)], [], me_w M (x166F_219 p c v2 J)) o := by
  intro c
  induction c with
  | zero =>
    intro v2 v3 J hc k
    have k := ly_revb 2 (c' := (221, [(0, .ref (p 0)), (1, .int v1), (2, .int v2), (3, .int v3)], [.ref (p 0), .int v2], me_w M J)) rfl k
    have k := lz_get (a := (p 0)) (g := 1109) (M := me_w M J) (v := .int (J (p 0) 9)) rfl (mw_gI (by decide) (rfl)) k
    have k := ly_revb 1 (c' := (if (J (p 0) 9) ≤ v2 then 283 else 227, [(0, .ref (p 0)), (1, .int v1), (2, .int v2), (3, .int v3)], [], me_w M J)) rfl k
    have h224 : (J (p 0) 9) ≤ v2 := lx_end hc
    rw [if_pos h224] at k
    have k := nt_rn_w (a := [(0, .ref (p 0)), (1, .int v1), (2, .int v2), (3, .int v3)]) (b := [(0, .ref (p 0)), (1, .int v1), (2, .int v2), (3, .int v3)]) ⟨rfl, rfl, rfl, rfl, trivial⟩ rfl k
    rw [x166F_219]
    exact ⟨_, _, k⟩
  | succ c ih =>
    intro v2 v3 J hc k
    have k := ly_revb 2 (c' := (221, [(0, .ref (p 0)), (1, .int v1), (2, .int v2), (3, .int v3)], [.ref (p 0), .int v2], me_w M J)) rfl k
    have k := lz_get (a := (p 0)) (g := 1109) (M := me_w M J) (v := .int (J (p 0) 9)) rfl (mw_gI (by decide) (rfl)) k
    have k := ly_revb 1 (c' := (if (J (p 0) 9) ≤ v2 then 283 else 227, [(0, .ref (p 0)), (1, .int v1), (2, .int v2), (3, .int v3)], [], me_w M J)) rfl k
    by_cases h224 : (J (p 0) 9) ≤ v2
    · rw [if_pos h224] at k
      have k := nt_rn_w (a := [(0, .ref (p 0)), (1, .int v1), (2, .int v2), (3, .int v3)]) (b := [(0, .ref (p 0)), (1, .int v1), (2, .int v2), (3, .int v3)]) ⟨rfl, rfl, rfl, rfl, trivial⟩ rfl k
      rw [x166F_219, if_pos h224]
      exact ⟨_, _, k⟩
    · rw [if_neg h224] at k
      have k := ly_revb 2 (c' := (229, [(3, .int (Int32.ofInt 0)), (0, .ref (p 0)), (1, .int v1), (2, .int v2)], [], me_w M J)) rfl k
      have k := nt_rn_w (a := [(3, .int (Int32.ofInt 0)), (0, .ref (p 0)), (1, .int v1), (2, .int v2)]) (b := [(0, .ref (p 0)), (1, .int v1), (2, .int v2), (3, .int (Int32.ofInt 0))]) ⟨rfl, rfl, rfl, rfl, trivial⟩ rfl k
      have k := xt166F_229 hp  ((Int32.ofInt 3).toNatClampNeg) (Int32.ofInt 0) J (lx_beg (by decide)) k
      obtain ⟨w3, k⟩ := k
      have k : nt_rn X _ 166 (263, [(0, .ref (p 0)), (1, .int v1), (2, .int v2), (3, .int w3)], [], me_w M (x166F_229 p v2 ((Int32.ofInt 3).toNatClampNeg) (Int32.ofInt 0) J)) _ := k
      have k := ly_revb 1 (c' := (264, [(0, .ref (p 0)), (1, .int v1), (2, .int v2), (3, .int w3)], [.ref (p 0)], me_w M (x166F_229 p v2 ((Int32.ofInt 3).toNatClampNeg) (Int32.ofInt 0) J))) rfl k
      have k := lz_get (a := (p 0)) (g := 1127) (M := me_w M (x166F_229 p v2 ((Int32.ofInt 3).toNatClampNeg) (Int32.ofInt 0) J)) (v := .ref (p 4)) rfl (nt_gfR rfl (mw_R (hp.1 (0, 27, 4) (by decide)))) k
      have k := ly_revb 8 (c' := (276, [(0, .ref (p 0)), (1, .int v1), (2, .int v2), (3, .int w3)], [.int (Int32.ofInt (-1)), .int (((Int32.ofInt 52) + ((Int32.ofInt 5) * v2)) + (Int32.ofInt 3)), .ref (p 4)], me_w M (x166F_229 p v2 ((Int32.ofInt 3).toNatClampNeg) (Int32.ofInt 0) J))) rfl k
      have k := mx_iast (q := (((Int32.ofInt 52) + ((Int32.ofInt 5) * v2)) + (Int32.ofInt 3)).toNatClampNeg) rfl rfl k
      have k : nt_rn X _ 166 (277, [(0, .ref (p 0)), (1, .int v1), (2, .int v2), (3, .int w3)], [], me_w M (nt_u (x166F_229 p v2 ((Int32.ofInt 3).toNatClampNeg) (Int32.ofInt 0) J) (p 4) ((((Int32.ofInt 52) + ((Int32.ofInt 5) * v2)) + (Int32.ofInt 3)).toNatClampNeg) (Int32.ofInt (-1)))) _ := k
      have k := ly_revb 2 (c' := (219, [(2, .int (v2 + (Int32.ofInt 1))), (0, .ref (p 0)), (1, .int v1), (3, .int w3)], [], me_w M (nt_u (x166F_229 p v2 ((Int32.ofInt 3).toNatClampNeg) (Int32.ofInt 0) J) (p 4) ((((Int32.ofInt 52) + ((Int32.ofInt 5) * v2)) + (Int32.ofInt 3)).toNatClampNeg) (Int32.ofInt (-1))))) rfl k
      have k := nt_rn_w (a := [(2, .int (v2 + (Int32.ofInt 1))), (0, .ref (p 0)), (1, .int v1), (3, .int w3)]) (b := [(0, .ref (p 0)), (1, .int v1), (2, .int (v2 + (Int32.ofInt 1))), (3, .int w3)]) ⟨rfl, rfl, rfl, rfl, trivial⟩ rfl k
      have k := ih (v2 + (Int32.ofInt 1)) w3 (nt_u (x166F_229 p v2 ((Int32.ofInt 3).toNatClampNeg) (Int32.ofInt 0) J) (p 4) ((((Int32.ofInt 52) + ((Int32.ofInt 5) * v2)) + (Int32.ofInt 3)).toNatClampNeg) (Int32.ofInt (-1))) (by rw [show (nt_u (x166F_229 p v2 ((Int32.ofInt 3).toNatClampNeg) (Int32.ofInt 0) J) (p 4) ((((Int32.ofInt 52) + ((Int32.ofInt 5) * v2)) + (Int32.ofInt 3)).toNatClampNeg) (Int32.ofInt (-1))) (p 0) 9 = J (p 0) 9 from (mu_j (hp.2.1 0 4 (by omega) (by omega) (by decide))).trans (congrFun (x166F_229_frJ _ _ _ (hp.2.1 0 4 (by omega) (by omega) (by decide))) 9)]; exact lx_dec h224 hc) k
      rw [x166F_219, if_neg h224]
      exact k
theorem x166F_219_rule {p : Nat → Nat} {I : Nat → Int32 → (Nat → Nat → Int32) → Prop} {Q : (Nat → Nat → Int32) → Prop} (h0 : ∀ (v2 : Int32) (J : Nat → Nat → Int32), I 0 v2 J → Q J) (h1 : ∀ (c : Nat) (v2 : Int32) (J : Nat → Nat → Int32), I (c + 1) v2 J →
    if (J (p 0) 9) ≤ v2 then (Q J)
    else (I c (v2 + (Int32.ofInt 1)) (nt_u (x166F_229 p v2 ((Int32.ofInt 3).toNatClampNeg) (Int32.ofInt 0) J) (p 4) ((((Int32.ofInt 52) + ((Int32.ofInt 5) * v2)) + (Int32.ofInt 3)).toNatClampNeg) (Int32.ofInt (-1))))) : ∀ (c : Nat) (v2 : Int32) (J : Nat → Nat → Int32), I c v2 J → Q (x166F_219 p c v2 J) := by
  intro c
  induction c with
  | zero =>
    intro v2 J hi
    rw [x166F_219]
    exact h0 v2 J hi
  | succ c ih =>
    intro v2 J hi
    have hi := h1 c v2 J hi
    rw [x166F_219]
    by_cases h : (J (p 0) 9) ≤ v2
    · rw [if_pos h] at hi ⊢
      exact hi
    · rw [if_neg h] at hi ⊢
      exact ih _ _ hi
theorem x166F_219_frJ {p : Nat → Nat} {b : Nat} : ∀ (c : Nat) (v2 : Int32) (J : Nat → Nat → Int32), b ≠ p 4 → x166F_219 p c v2 J b = J b := by
  intro c
  induction c with
  | zero =>
    intro v2 J n0
    rw [x166F_219]
    all_goals first | (dsimp only; exact (show J b = J b from rfl)) | exact (show J b = J b from rfl)
  | succ c ih =>
    intro v2 J n0
    rw [x166F_219]
    by_cases h : (J (p 0) 9) ≤ v2
    · rw [if_pos h]
      all_goals first | (dsimp only; exact (show J b = J b from rfl)) | exact (show J b = J b from rfl)
    · rw [if_neg h]
      exact (ih _ _ n0).trans ((mu_o n0).trans (x166F_229_frJ _ _ _ n0))
def x166F_295 (p : Nat → Nat) (v2 : Int32) : Nat → Int32 → (Nat → Nat → Int32) → (Nat → Nat → Int32)
  | 0, v3, J => J
  | c + 1, v3, J => if (Int32.ofInt 4) ≤ v3 then J
    else (x166F_295 p v2 c (v3 + (Int32.ofInt 1)) (nt_u J (p 4) ((((Int32.ofInt 172) + ((Int32.ofInt 5) * v2)) + v3).toNatClampNeg) (J (p 13) ((((Int32.ofInt 4) * v2) + v3).toNatClampNeg))))
theorem xt166F_295 {X : nt_X} {d : Nat} {M : nt_M} {o : Option Value × nt_M} {p : Nat → Nat} {v1 : Int32} {v2 : Int32} (hp : xs_P M p) : ∀ (c : Nat) (v3 : Int32) (J : Nat → Nat → Int32), (Int32.ofInt 4).toInt - v3.toInt ≤ c → nt_rn X d 166 (295, [(0, .ref (p 0)), (1, .int v1), (2, .int v2), (3, .int v3)], [], me_w M J) o → ∃ (w3 : Int32), nt_rn X d 166 (330, [(0, .ref (p 0)), (1, .int v1), (2, .int v2), (3, .int w3)], [], me_w M (x166F_295 p v2 c v3 J)) o := by
  intro c
  induction c with
  | zero =>
    intro v3 J hc k
    have k := ly_revb 3 (c' := (if (Int32.ofInt 4) ≤ v3 then 330 else 300, [(0, .ref (p 0)), (1, .int v1), (2, .int v2), (3, .int v3)], [], me_w M J)) rfl k
    have h297 : (Int32.ofInt 4) ≤ v3 := lx_end hc
    rw [if_pos h297] at k
    have k := nt_rn_w (a := [(0, .ref (p 0)), (1, .int v1), (2, .int v2), (3, .int v3)]) (b := [(0, .ref (p 0)), (1, .int v1), (2, .int v2), (3, .int v3)]) ⟨rfl, rfl, rfl, rfl, trivial⟩ rfl k
    rw [x166F_295]
    exact ⟨_, k⟩
  | succ c ih =>
    intro v3 J hc k
    have k := ly_revb 3 (c' := (if (Int32.ofInt 4) ≤ v3 then 330 else 300, [(0, .ref (p 0)), (1, .int v1), (2, .int v2), (3, .int v3)], [], me_w M J)) rfl k
    by_cases h297 : (Int32.ofInt 4) ≤ v3
    · rw [if_pos h297] at k
      have k := nt_rn_w (a := [(0, .ref (p 0)), (1, .int v1), (2, .int v2), (3, .int v3)]) (b := [(0, .ref (p 0)), (1, .int v1), (2, .int v2), (3, .int v3)]) ⟨rfl, rfl, rfl, rfl, trivial⟩ rfl k
      rw [x166F_295, if_pos h297]
      exact ⟨_, k⟩
    · rw [if_neg h297] at k
      have k := ly_revb 1 (c' := (301, [(0, .ref (p 0)), (1, .int v1), (2, .int v2), (3, .int v3)], [.ref (p 0)], me_w M J)) rfl k
      have k := lz_get (a := (p 0)) (g := 1127) (M := me_w M J) (v := .ref (p 4)) rfl (nt_gfR rfl (mw_R (hp.1 (0, 27, 4) (by decide)))) k
      have k := ly_revb 8 (c' := (314, [(0, .ref (p 0)), (1, .int v1), (2, .int v2), (3, .int v3)], [.ref (p 0), .int (((Int32.ofInt 172) + ((Int32.ofInt 5) * v2)) + v3), .ref (p 4)], me_w M J)) rfl k
      have k := lz_get (a := (p 0)) (g := 1114) (M := me_w M J) (v := .ref (p 13)) rfl (nt_gfR rfl (mw_R (hp.1 (0, 14, 13) (by decide)))) k
      have k := ly_revb 5 (c' := (322, [(0, .ref (p 0)), (1, .int v1), (2, .int v2), (3, .int v3)], [.int (((Int32.ofInt 4) * v2) + v3), .ref (p 13), .int (((Int32.ofInt 172) + ((Int32.ofInt 5) * v2)) + v3), .ref (p 4)], me_w M J)) rfl k
      have k := mx_iald (v := J (p 13) ((((Int32.ofInt 4) * v2) + v3).toNatClampNeg)) rfl (hp.2.2.1 13 (by omega)) (rfl) k
      have k := mx_iast (q := (((Int32.ofInt 172) + ((Int32.ofInt 5) * v2)) + v3).toNatClampNeg) rfl rfl k
      have k : nt_rn X _ 166 (324, [(0, .ref (p 0)), (1, .int v1), (2, .int v2), (3, .int v3)], [], me_w M (nt_u J (p 4) ((((Int32.ofInt 172) + ((Int32.ofInt 5) * v2)) + v3).toNatClampNeg) (J (p 13) ((((Int32.ofInt 4) * v2) + v3).toNatClampNeg)))) _ := k
      have k := ly_revb 2 (c' := (295, [(3, .int (v3 + (Int32.ofInt 1))), (0, .ref (p 0)), (1, .int v1), (2, .int v2)], [], me_w M (nt_u J (p 4) ((((Int32.ofInt 172) + ((Int32.ofInt 5) * v2)) + v3).toNatClampNeg) (J (p 13) ((((Int32.ofInt 4) * v2) + v3).toNatClampNeg))))) rfl k
      have k := nt_rn_w (a := [(3, .int (v3 + (Int32.ofInt 1))), (0, .ref (p 0)), (1, .int v1), (2, .int v2)]) (b := [(0, .ref (p 0)), (1, .int v1), (2, .int v2), (3, .int (v3 + (Int32.ofInt 1)))]) ⟨rfl, rfl, rfl, rfl, trivial⟩ rfl k
      have k := ih (v3 + (Int32.ofInt 1)) (nt_u J (p 4) ((((Int32.ofInt 172) + ((Int32.ofInt 5) * v2)) + v3).toNatClampNeg) (J (p 13) ((((Int32.ofInt 4) * v2) + v3).toNatClampNeg))) (lx_dec h297 hc) k
      rw [x166F_295, if_neg h297]
      exact k
theorem x166F_295_rule {p : Nat → Nat} {v2 : Int32} {I : Nat → Int32 → (Nat → Nat → Int32) → Prop} {Q : (Nat → Nat → Int32) → Prop} (h0 : ∀ (v3 : Int32) (J : Nat → Nat → Int32), I 0 v3 J → Q J) (h1 : ∀ (c : Nat) (v3 : Int32) (J : Nat → Nat → Int32), I (c + 1) v3 J →
    if (Int32.ofInt 4) ≤ v3 then (Q J)
    else (I c (v3 + (Int32.ofInt 1)) (nt_u J (p 4) ((((Int32.ofInt 172) + ((Int32.ofInt 5) * v2)) + v3).toNatClampNeg) (J (p 13) ((((Int32.ofInt 4) * v2) + v3).toNatClampNeg))))) : ∀ (c : Nat) (v3 : Int32) (J : Nat → Nat → Int32), I c v3 J → Q (x166F_295 p v2 c v3 J) := by
  intro c
  induction c with
  | zero =>
    intro v3 J hi
    rw [x166F_295]
    exact h0 v3 J hi
  | succ c ih =>
    intro v3 J hi
    have hi := h1 c v3 J hi
    rw [x166F_295]
    by_cases h : (Int32.ofInt 4) ≤ v3
    · rw [if_pos h] at hi ⊢
      exact hi
    · rw [if_neg h] at hi ⊢
      exact ih _ _ hi
theorem x166F_295_frJ {p : Nat → Nat} {v2 : Int32} {b : Nat} : ∀ (c : Nat) (v3 : Int32) (J : Nat → Nat → Int32), b ≠ p 4 → x166F_295 p v2 c v3 J b = J b := by
  intro c
  induction c with
  | zero =>
    intro v3 J n0
    rw [x166F_295]
    all_goals first | (dsimp only; exact (show J b = J b from rfl)) | exact (show J b = J b from rfl)
  | succ c ih =>
    intro v3 J n0
    rw [x166F_295]
    by_cases h : (Int32.ofInt 4) ≤ v3
    · rw [if_pos h]
      all_goals first | (dsimp only; exact (show J b = J b from rfl)) | exact (show J b = J b from rfl)
    · rw [if_neg h]
      exact (ih _ _ n0).trans (mu_o n0)
def x166F_285 (p : Nat → Nat) : Nat → Int32 → (Nat → Nat → Int32) → (Nat → Nat → Int32)
  | 0, v2, J => J
  | c + 1, v2, J => if (J (p 0) 10) ≤ v2 then J
    else (x166F_285 p c (v2 + (Int32.ofInt 1)) (x166F_295 p v2 ((Int32.ofInt 4).toNatClampNeg) (Int32.ofInt 0) J))
theorem xt166F_285 {X : nt_X} {d : Nat} {M : nt_M} {o : Option Value × nt_M} {p : Nat → Nat} {v1 : Int32} (hp : xs_P M p) : ∀ (c : Nat) (v2 : Int32) (v3 : Int32) (J : Nat → Nat → Int32), (J (p 0) 10).toInt - v2.toInt ≤ c → nt_rn X d 166 (285, [(0, .ref (p 0)), (1, .int v1), (2, .int v2), (3, .int v3)], [], me_w M J) o → ∃ (w2 : Int32) (w3 : Int32), nt_rn X d 166 (336, [(0, .ref (p 0)), (1, .int v1), (2, .int w2), (3, .int w3)], [], me_w M (x166F_285 p c v2 J)) o := by
  intro c
  induction c with
  | zero =>
    intro v2 v3 J hc k
    have k := ly_revb 2 (c' := (287, [(0, .ref (p 0)), (1, .int v1), (2, .int v2), (3, .int v3)], [.ref (p 0), .int v2], me_w M J)) rfl k
    have k := lz_get (a := (p 0)) (g := 1110) (M := me_w M J) (v := .int (J (p 0) 10)) rfl (mw_gI (by decide) (rfl)) k
    have k := ly_revb 1 (c' := (if (J (p 0) 10) ≤ v2 then 336 else 293, [(0, .ref (p 0)), (1, .int v1), (2, .int v2), (3, .int v3)], [], me_w M J)) rfl k
    have h290 : (J (p 0) 10) ≤ v2 := lx_end hc
    rw [if_pos h290] at k
    have k := nt_rn_w (a := [(0, .ref (p 0)), (1, .int v1), (2, .int v2), (3, .int v3)]) (b := [(0, .ref (p 0)), (1, .int v1), (2, .int v2), (3, .int v3)]) ⟨rfl, rfl, rfl, rfl, trivial⟩ rfl k
    rw [x166F_285]
    exact ⟨_, _, k⟩
  | succ c ih =>
    intro v2 v3 J hc k
    have k := ly_revb 2 (c' := (287, [(0, .ref (p 0)), (1, .int v1), (2, .int v2), (3, .int v3)], [.ref (p 0), .int v2], me_w M J)) rfl k
    have k := lz_get (a := (p 0)) (g := 1110) (M := me_w M J) (v := .int (J (p 0) 10)) rfl (mw_gI (by decide) (rfl)) k
    have k := ly_revb 1 (c' := (if (J (p 0) 10) ≤ v2 then 336 else 293, [(0, .ref (p 0)), (1, .int v1), (2, .int v2), (3, .int v3)], [], me_w M J)) rfl k
    by_cases h290 : (J (p 0) 10) ≤ v2
    · rw [if_pos h290] at k
      have k := nt_rn_w (a := [(0, .ref (p 0)), (1, .int v1), (2, .int v2), (3, .int v3)]) (b := [(0, .ref (p 0)), (1, .int v1), (2, .int v2), (3, .int v3)]) ⟨rfl, rfl, rfl, rfl, trivial⟩ rfl k
      rw [x166F_285, if_pos h290]
      exact ⟨_, _, k⟩
    · rw [if_neg h290] at k
      have k := ly_revb 2 (c' := (295, [(3, .int (Int32.ofInt 0)), (0, .ref (p 0)), (1, .int v1), (2, .int v2)], [], me_w M J)) rfl k
      have k := nt_rn_w (a := [(3, .int (Int32.ofInt 0)), (0, .ref (p 0)), (1, .int v1), (2, .int v2)]) (b := [(0, .ref (p 0)), (1, .int v1), (2, .int v2), (3, .int (Int32.ofInt 0))]) ⟨rfl, rfl, rfl, rfl, trivial⟩ rfl k
      have k := xt166F_295 hp  ((Int32.ofInt 4).toNatClampNeg) (Int32.ofInt 0) J (lx_beg (by decide)) k
      obtain ⟨w3, k⟩ := k
      have k : nt_rn X _ 166 (330, [(0, .ref (p 0)), (1, .int v1), (2, .int v2), (3, .int w3)], [], me_w M (x166F_295 p v2 ((Int32.ofInt 4).toNatClampNeg) (Int32.ofInt 0) J)) _ := k
      have k := ly_revb 2 (c' := (285, [(2, .int (v2 + (Int32.ofInt 1))), (0, .ref (p 0)), (1, .int v1), (3, .int w3)], [], me_w M (x166F_295 p v2 ((Int32.ofInt 4).toNatClampNeg) (Int32.ofInt 0) J))) rfl k
      have k := nt_rn_w (a := [(2, .int (v2 + (Int32.ofInt 1))), (0, .ref (p 0)), (1, .int v1), (3, .int w3)]) (b := [(0, .ref (p 0)), (1, .int v1), (2, .int (v2 + (Int32.ofInt 1))), (3, .int w3)]) ⟨rfl, rfl, rfl, rfl, trivial⟩ rfl k
      have k := ih (v2 + (Int32.ofInt 1)) w3 (x166F_295 p v2 ((Int32.ofInt 4).toNatClampNeg) (Int32.ofInt 0) J) (by rw [show (x166F_295 p v2 ((Int32.ofInt 4).toNatClampNeg) (Int32.ofInt 0) J) (p 0) 10 = J (p 0) 10 from congrFun (x166F_295_frJ _ _ _ (hp.2.1 0 4 (by omega) (by omega) (by decide))) 10]; exact lx_dec h290 hc) k
      rw [x166F_285, if_neg h290]
      exact k
theorem x166F_285_rule {p : Nat → Nat} {I : Nat → Int32 → (Nat → Nat → Int32) → Prop} {Q : (Nat → Nat → Int32) → Prop} (h0 : ∀ (v2 : Int32) (J : Nat → Nat → Int32), I 0 v2 J → Q J) (h1 : ∀ (c : Nat) (v2 : Int32) (J : Nat → Nat → Int32), I (c + 1) v2 J →
    if (J (p 0) 10) ≤ v2 then (Q J)
    else (I c (v2 + (Int32.ofInt 1)) (x166F_295 p v2 ((Int32.ofInt 4).toNatClampNeg) (Int32.ofInt 0) J))) : ∀ (c : Nat) (v2 : Int32) (J : Nat → Nat → Int32), I c v2 J → Q (x166F_285 p c v2 J) := by
  intro c
  induction c with
  | zero =>
    intro v2 J hi
    rw [x166F_285]
    exact h0 v2 J hi
  | succ c ih =>
    intro v2 J hi
    have hi := h1 c v2 J hi
    rw [x166F_285]
    by_cases h : (J (p 0) 10) ≤ v2
    · rw [if_pos h] at hi ⊢
      exact hi
    · rw [if_neg h] at hi ⊢
      exact ih _ _ hi
theorem x166F_285_frJ {p : Nat → Nat} {b : Nat} : ∀ (c : Nat) (v2 : Int32) (J : Nat → Nat → Int32), b ≠ p 4 → x166F_285 p c v2 J b = J b := by
  intro c
  induction c with
  | zero =>
    intro v2 J n0
    rw [x166F_285]
    all_goals first | (dsimp only; exact (show J b = J b from rfl)) | exact (show J b = J b from rfl)
  | succ c ih =>
    intro v2 J n0
    rw [x166F_285]
    by_cases h : (J (p 0) 10) ≤ v2
    · rw [if_pos h]
      all_goals first | (dsimp only; exact (show J b = J b from rfl)) | exact (show J b = J b from rfl)
    · rw [if_neg h]
      exact (ih _ _ n0).trans (x166F_295_frJ _ _ _ n0)
def x166F (p : Nat → Nat) (J : Nat → Nat → Int32) : Int32 × (Nat → Nat → Int32) := if 0 ≤ (J (p 0) 11) then (J (p 0) 8, x166F_285 p (((x166F_219 p (((x166F_148 p (((nt_u (nt_u (nt_u (nt_u (nt_u (nt_u (x166F_56 p (J (p 4) 9) ((Int32.ofInt 212).toNatClampNeg) (Int32.ofInt 0) J) (p 4) 0 (J (p 0) 7)) (p 4) 1 (J (p 0) 8)) (p 4) 2 (J (p 0) 9)) (p 4) 3 (J (p 0) 10)) (p 4) 5 (J (p 0) 11)) (p 4) 9 (J (p 4) 9)) (p 0) 8).toNatClampNeg) (Int32.ofInt 0) (nt_u (nt_u (nt_u (nt_u (nt_u (nt_u (x166F_56 p (J (p 4) 9) ((Int32.ofInt 212).toNatClampNeg) (Int32.ofInt 0) J) (p 4) 0 (J (p 0) 7)) (p 4) 1 (J (p 0) 8)) (p 4) 2 (J (p 0) 9)) (p 4) 3 (J (p 0) 10)) (p 4) 5 (J (p 0) 11)) (p 4) 9 (J (p 4) 9))) (p 0) 9).toNatClampNeg) (Int32.ofInt 0) (x166F_148 p (((nt_u (nt_u (nt_u (nt_u (nt_u (nt_u (x166F_56 p (J (p 4) 9) ((Int32.ofInt 212).toNatClampNeg) (Int32.ofInt 0) J) (p 4) 0 (J (p 0) 7)) (p 4) 1 (J (p 0) 8)) (p 4) 2 (J (p 0) 9)) (p 4) 3 (J (p 0) 10)) (p 4) 5 (J (p 0) 11)) (p 4) 9 (J (p 4) 9)) (p 0) 8).toNatClampNeg) (Int32.ofInt 0) (nt_u (nt_u (nt_u (nt_u (nt_u (nt_u (x166F_56 p (J (p 4) 9) ((Int32.ofInt 212).toNatClampNeg) (Int32.ofInt 0) J) (p 4) 0 (J (p 0) 7)) (p 4) 1 (J (p 0) 8)) (p 4) 2 (J (p 0) 9)) (p 4) 3 (J (p 0) 10)) (p 4) 5 (J (p 0) 11)) (p 4) 9 (J (p 4) 9)))) (p 0) 10).toNatClampNeg) (Int32.ofInt 0) (x166F_219 p (((x166F_148 p (((nt_u (nt_u (nt_u (nt_u (nt_u (nt_u (x166F_56 p (J (p 4) 9) ((Int32.ofInt 212).toNatClampNeg) (Int32.ofInt 0) J) (p 4) 0 (J (p 0) 7)) (p 4) 1 (J (p 0) 8)) (p 4) 2 (J (p 0) 9)) (p 4) 3 (J (p 0) 10)) (p 4) 5 (J (p 0) 11)) (p 4) 9 (J (p 4) 9)) (p 0) 8).toNatClampNeg) (Int32.ofInt 0) (nt_u (nt_u (nt_u (nt_u (nt_u (nt_u (x166F_56 p (J (p 4) 9) ((Int32.ofInt 212).toNatClampNeg) (Int32.ofInt 0) J) (p 4) 0 (J (p 0) 7)) (p 4) 1 (J (p 0) 8)) (p 4) 2 (J (p 0) 9)) (p 4) 3 (J (p 0) 10)) (p 4) 5 (J (p 0) 11)) (p 4) 9 (J (p 4) 9))) (p 0) 9).toNatClampNeg) (Int32.ofInt 0) (x166F_148 p (((nt_u (nt_u (nt_u (nt_u (nt_u (nt_u (x166F_56 p (J (p 4) 9) ((Int32.ofInt 212).toNatClampNeg) (Int32.ofInt 0) J) (p 4) 0 (J (p 0) 7)) (p 4) 1 (J (p 0) 8)) (p 4) 2 (J (p 0) 9)) (p 4) 3 (J (p 0) 10)) (p 4) 5 (J (p 0) 11)) (p 4) 9 (J (p 4) 9)) (p 0) 8).toNatClampNeg) (Int32.ofInt 0) (nt_u (nt_u (nt_u (nt_u (nt_u (nt_u (x166F_56 p (J (p 4) 9) ((Int32.ofInt 212).toNatClampNeg) (Int32.ofInt 0) J) (p 4) 0 (J (p 0) 7)) (p 4) 1 (J (p 0) 8)) (p 4) 2 (J (p 0) 9)) (p 4) 3 (J (p 0) 10)) (p 4) 5 (J (p 0) 11)) (p 4) 9 (J (p 4) 9)))))
  else (J (p 0) 8, x166F_285 p (((x166F_219 p (((x166F_148 p (((nt_u (nt_u (nt_u (nt_u (nt_u (nt_u (x166F_56 p (J (p 4) 9) ((Int32.ofInt 212).toNatClampNeg) (Int32.ofInt 0) J) (p 4) 0 (J (p 0) 7)) (p 4) 1 (J (p 0) 8)) (p 4) 2 (J (p 0) 9)) (p 4) 3 (J (p 0) 10)) (p 4) 5 (Int32.ofInt 30)) (p 4) 9 (J (p 4) 9)) (p 0) 8).toNatClampNeg) (Int32.ofInt 0) (nt_u (nt_u (nt_u (nt_u (nt_u (nt_u (x166F_56 p (J (p 4) 9) ((Int32.ofInt 212).toNatClampNeg) (Int32.ofInt 0) J) (p 4) 0 (J (p 0) 7)) (p 4) 1 (J (p 0) 8)) (p 4) 2 (J (p 0) 9)) (p 4) 3 (J (p 0) 10)) (p 4) 5 (Int32.ofInt 30)) (p 4) 9 (J (p 4) 9))) (p 0) 9).toNatClampNeg) (Int32.ofInt 0) (x166F_148 p (((nt_u (nt_u (nt_u (nt_u (nt_u (nt_u (x166F_56 p (J (p 4) 9) ((Int32.ofInt 212).toNatClampNeg) (Int32.ofInt 0) J) (p 4) 0 (J (p 0) 7)) (p 4) 1 (J (p 0) 8)) (p 4) 2 (J (p 0) 9)) (p 4) 3 (J (p 0) 10)) (p 4) 5 (Int32.ofInt 30)) (p 4) 9 (J (p 4) 9)) (p 0) 8).toNatClampNeg) (Int32.ofInt 0) (nt_u (nt_u (nt_u (nt_u (nt_u (nt_u (x166F_56 p (J (p 4) 9) ((Int32.ofInt 212).toNatClampNeg) (Int32.ofInt 0) J) (p 4) 0 (J (p 0) 7)) (p 4) 1 (J (p 0) 8)) (p 4) 2 (J (p 0) 9)) (p 4) 3 (J (p 0) 10)) (p 4) 5 (Int32.ofInt 30)) (p 4) 9 (J (p 4) 9)))) (p 0) 10).toNatClampNeg) (Int32.ofInt 0) (x166F_219 p (((x166F_148 p (((nt_u (nt_u (nt_u (nt_u (nt_u (nt_u (x166F_56 p (J (p 4) 9) ((Int32.ofInt 212).toNatClampNeg) (Int32.ofInt 0) J) (p 4) 0 (J (p 0) 7)) (p 4) 1 (J (p 0) 8)) (p 4) 2 (J (p 0) 9)) (p 4) 3 (J (p 0) 10)) (p 4) 5 (Int32.ofInt 30)) (p 4) 9 (J (p 4) 9)) (p 0) 8).toNatClampNeg) (Int32.ofInt 0) (nt_u (nt_u (nt_u (nt_u (nt_u (nt_u (x166F_56 p (J (p 4) 9) ((Int32.ofInt 212).toNatClampNeg) (Int32.ofInt 0) J) (p 4) 0 (J (p 0) 7)) (p 4) 1 (J (p 0) 8)) (p 4) 2 (J (p 0) 9)) (p 4) 3 (J (p 0) 10)) (p 4) 5 (Int32.ofInt 30)) (p 4) 9 (J (p 4) 9))) (p 0) 9).toNatClampNeg) (Int32.ofInt 0) (x166F_148 p (((nt_u (nt_u (nt_u (nt_u (nt_u (nt_u (x166F_56 p (J (p 4) 9) ((Int32.ofInt 212).toNatClampNeg) (Int32.ofInt 0) J) (p 4) 0 (J (p 0) 7)) (p 4) 1 (J (p 0) 8)) (p 4) 2 (J (p 0) 9)) (p 4) 3 (J (p 0) 10)) (p 4) 5 (Int32.ofInt 30)) (p 4) 9 (J (p 4) 9)) (p 0) 8).toNatClampNeg) (Int32.ofInt 0) (nt_u (nt_u (nt_u (nt_u (nt_u (nt_u (x166F_56 p (J (p 4) 9) ((Int32.ofInt 212).toNatClampNeg) (Int32.ofInt 0) J) (p 4) 0 (J (p 0) 7)) (p 4) 1 (J (p 0) 8)) (p 4) 2 (J (p 0) 9)) (p 4) 3 (J (p 0) 10)) (p 4) 5 (Int32.ofInt 30)) (p 4) 9 (J (p 4) 9)))))
theorem xt166F {X : nt_X} {d : Nat} {M : nt_M} {o : Option Value × nt_M} {p : Nat → Nat} {J : Nat → Nat → Int32} (hp : xs_P M p) (k : nt_rn X d 166 (46, [(0, .ref (p 0))], [], me_w M J) o) : o = (some (.int ((x166F p J).1)), me_w M ((x166F p J).2)) := by
  have k : nt_rn X d 166 (46, [(0, .ref (p 0))], [], me_w M J) o := k
  have k := ly_revb 1 (c' := (47, [(0, .ref (p 0))], [.ref (p 0)], me_w M J)) rfl k
  have k := lz_get (a := (p 0)) (g := 1127) (M := me_w M J) (v := .ref (p 4)) rfl (nt_gfR rfl (mw_R (hp.1 (0, 27, 4) (by decide)))) k
  have k := ly_revb 1 (c' := (52, [(0, .ref (p 0))], [.int (Int32.ofInt 9), .ref (p 4)], me_w M J)) rfl k
  have k := mx_iald (v := J (p 4) 9) rfl (hp.2.2.1 4 (by omega)) ((congrArg (J (p 4)) (show (Int32.ofInt 9).toNatClampNeg = 9 from rfl)).trans (rfl)) k
  have k := ly_revb 3 (c' := (56, [(2, .int (Int32.ofInt 0)), (1, .int (J (p 4) 9)), (0, .ref (p 0))], [], me_w M J)) rfl k
  have k := nt_rn_w (a := [(2, .int (Int32.ofInt 0)), (1, .int (J (p 4) 9)), (0, .ref (p 0))]) (b := [(0, .ref (p 0)), (1, .int (J (p 4) 9)), (2, .int (Int32.ofInt 0))]) ⟨rfl, rfl, rfl, trivial⟩ rfl k
  have k := xt166F_56 hp  ((Int32.ofInt 212).toNatClampNeg) (Int32.ofInt 0) J (lx_beg (by decide)) k
  obtain ⟨w2, k⟩ := k
  have k : nt_rn X _ 166 (76, [(0, .ref (p 0)), (1, .int (J (p 4) 9)), (2, .int w2)], [], me_w M (x166F_56 p (J (p 4) 9) ((Int32.ofInt 212).toNatClampNeg) (Int32.ofInt 0) J)) _ := k
  have k := ly_revb 1 (c' := (77, [(0, .ref (p 0)), (1, .int (J (p 4) 9)), (2, .int w2)], [.ref (p 0)], me_w M (x166F_56 p (J (p 4) 9) ((Int32.ofInt 212).toNatClampNeg) (Int32.ofInt 0) J))) rfl k
  have k := lz_get (a := (p 0)) (g := 1127) (M := me_w M (x166F_56 p (J (p 4) 9) ((Int32.ofInt 212).toNatClampNeg) (Int32.ofInt 0) J)) (v := .ref (p 4)) rfl (nt_gfR rfl (mw_R (hp.1 (0, 27, 4) (by decide)))) k
  have k := ly_revb 2 (c' := (82, [(0, .ref (p 0)), (1, .int (J (p 4) 9)), (2, .int w2)], [.ref (p 0), .int (Int32.ofInt 0), .ref (p 4)], me_w M (x166F_56 p (J (p 4) 9) ((Int32.ofInt 212).toNatClampNeg) (Int32.ofInt 0) J))) rfl k
  have k := lz_get (a := (p 0)) (g := 1107) (M := me_w M (x166F_56 p (J (p 4) 9) ((Int32.ofInt 212).toNatClampNeg) (Int32.ofInt 0) J)) (v := .int (J (p 0) 7)) rfl (mw_gI (by decide) (congrFun (x166F_56_frJ _ _ _ (hp.2.1 0 4 (by omega) (by omega) (by decide))) 7)) k
  have k := mx_iast (q := 0) rfl (show (Int32.ofInt 0).toNatClampNeg = 0 from rfl) k
  have k : nt_rn X _ 166 (86, [(0, .ref (p 0)), (1, .int (J (p 4) 9)), (2, .int w2)], [], me_w M (nt_u (x166F_56 p (J (p 4) 9) ((Int32.ofInt 212).toNatClampNeg) (Int32.ofInt 0) J) (p 4) 0 (J (p 0) 7))) _ := k
  have k := ly_revb 1 (c' := (87, [(0, .ref (p 0)), (1, .int (J (p 4) 9)), (2, .int w2)], [.ref (p 0)], me_w M (nt_u (x166F_56 p (J (p 4) 9) ((Int32.ofInt 212).toNatClampNeg) (Int32.ofInt 0) J) (p 4) 0 (J (p 0) 7)))) rfl k
  have k := lz_get (a := (p 0)) (g := 1127) (M := me_w M (nt_u (x166F_56 p (J (p 4) 9) ((Int32.ofInt 212).toNatClampNeg) (Int32.ofInt 0) J) (p 4) 0 (J (p 0) 7))) (v := .ref (p 4)) rfl (nt_gfR rfl (mw_R (hp.1 (0, 27, 4) (by decide)))) k
  have k := ly_revb 2 (c' := (92, [(0, .ref (p 0)), (1, .int (J (p 4) 9)), (2, .int w2)], [.ref (p 0), .int (Int32.ofInt 1), .ref (p 4)], me_w M (nt_u (x166F_56 p (J (p 4) 9) ((Int32.ofInt 212).toNatClampNeg) (Int32.ofInt 0) J) (p 4) 0 (J (p 0) 7)))) rfl k
  have k := lz_get (a := (p 0)) (g := 1108) (M := me_w M (nt_u (x166F_56 p (J (p 4) 9) ((Int32.ofInt 212).toNatClampNeg) (Int32.ofInt 0) J) (p 4) 0 (J (p 0) 7))) (v := .int (J (p 0) 8)) rfl (mw_gI (by decide) ((mu_j (hp.2.1 0 4 (by omega) (by omega) (by decide))).trans (congrFun (x166F_56_frJ _ _ _ (hp.2.1 0 4 (by omega) (by omega) (by decide))) 8))) k
  have k := mx_iast (q := 1) rfl (show (Int32.ofInt 1).toNatClampNeg = 1 from rfl) k
  have k : nt_rn X _ 166 (96, [(0, .ref (p 0)), (1, .int (J (p 4) 9)), (2, .int w2)], [], me_w M (nt_u (nt_u (x166F_56 p (J (p 4) 9) ((Int32.ofInt 212).toNatClampNeg) (Int32.ofInt 0) J) (p 4) 0 (J (p 0) 7)) (p 4) 1 (J (p 0) 8))) _ := k
  have k := ly_revb 1 (c' := (97, [(0, .ref (p 0)), (1, .int (J (p 4) 9)), (2, .int w2)], [.ref (p 0)], me_w M (nt_u (nt_u (x166F_56 p (J (p 4) 9) ((Int32.ofInt 212).toNatClampNeg) (Int32.ofInt 0) J) (p 4) 0 (J (p 0) 7)) (p 4) 1 (J (p 0) 8)))) rfl k
  have k := lz_get (a := (p 0)) (g := 1127) (M := me_w M (nt_u (nt_u (x166F_56 p (J (p 4) 9) ((Int32.ofInt 212).toNatClampNeg) (Int32.ofInt 0) J) (p 4) 0 (J (p 0) 7)) (p 4) 1 (J (p 0) 8))) (v := .ref (p 4)) rfl (nt_gfR rfl (mw_R (hp.1 (0, 27, 4) (by decide)))) k
  have k := ly_revb 2 (c' := (102, [(0, .ref (p 0)), (1, .int (J (p 4) 9)), (2, .int w2)], [.ref (p 0), .int (Int32.ofInt 2), .ref (p 4)], me_w M (nt_u (nt_u (x166F_56 p (J (p 4) 9) ((Int32.ofInt 212).toNatClampNeg) (Int32.ofInt 0) J) (p 4) 0 (J (p 0) 7)) (p 4) 1 (J (p 0) 8)))) rfl k
  have k := lz_get (a := (p 0)) (g := 1109) (M := me_w M (nt_u (nt_u (x166F_56 p (J (p 4) 9) ((Int32.ofInt 212).toNatClampNeg) (Int32.ofInt 0) J) (p 4) 0 (J (p 0) 7)) (p 4) 1 (J (p 0) 8))) (v := .int (J (p 0) 9)) rfl (mw_gI (by decide) ((mu_j (hp.2.1 0 4 (by omega) (by omega) (by decide))).trans ((mu_j (hp.2.1 0 4 (by omega) (by omega) (by decide))).trans (congrFun (x166F_56_frJ _ _ _ (hp.2.1 0 4 (by omega) (by omega) (by decide))) 9)))) k
  have k := mx_iast (q := 2) rfl (show (Int32.ofInt 2).toNatClampNeg = 2 from rfl) k
  have k : nt_rn X _ 166 (106, [(0, .ref (p 0)), (1, .int (J (p 4) 9)), (2, .int w2)], [], me_w M (nt_u (nt_u (nt_u (x166F_56 p (J (p 4) 9) ((Int32.ofInt 212).toNatClampNeg) (Int32.ofInt 0) J) (p 4) 0 (J (p 0) 7)) (p 4) 1 (J (p 0) 8)) (p 4) 2 (J (p 0) 9))) _ := k
  have k := ly_revb 1 (c' := (107, [(0, .ref (p 0)), (1, .int (J (p 4) 9)), (2, .int w2)], [.ref (p 0)], me_w M (nt_u (nt_u (nt_u (x166F_56 p (J (p 4) 9) ((Int32.ofInt 212).toNatClampNeg) (Int32.ofInt 0) J) (p 4) 0 (J (p 0) 7)) (p 4) 1 (J (p 0) 8)) (p 4) 2 (J (p 0) 9)))) rfl k
  have k := lz_get (a := (p 0)) (g := 1127) (M := me_w M (nt_u (nt_u (nt_u (x166F_56 p (J (p 4) 9) ((Int32.ofInt 212).toNatClampNeg) (Int32.ofInt 0) J) (p 4) 0 (J (p 0) 7)) (p 4) 1 (J (p 0) 8)) (p 4) 2 (J (p 0) 9))) (v := .ref (p 4)) rfl (nt_gfR rfl (mw_R (hp.1 (0, 27, 4) (by decide)))) k
  have k := ly_revb 2 (c' := (112, [(0, .ref (p 0)), (1, .int (J (p 4) 9)), (2, .int w2)], [.ref (p 0), .int (Int32.ofInt 3), .ref (p 4)], me_w M (nt_u (nt_u (nt_u (x166F_56 p (J (p 4) 9) ((Int32.ofInt 212).toNatClampNeg) (Int32.ofInt 0) J) (p 4) 0 (J (p 0) 7)) (p 4) 1 (J (p 0) 8)) (p 4) 2 (J (p 0) 9)))) rfl k
  have k := lz_get (a := (p 0)) (g := 1110) (M := me_w M (nt_u (nt_u (nt_u (x166F_56 p (J (p 4) 9) ((Int32.ofInt 212).toNatClampNeg) (Int32.ofInt 0) J) (p 4) 0 (J (p 0) 7)) (p 4) 1 (J (p 0) 8)) (p 4) 2 (J (p 0) 9))) (v := .int (J (p 0) 10)) rfl (mw_gI (by decide) ((mu_j (hp.2.1 0 4 (by omega) (by omega) (by decide))).trans ((mu_j (hp.2.1 0 4 (by omega) (by omega) (by decide))).trans ((mu_j (hp.2.1 0 4 (by omega) (by omega) (by decide))).trans (congrFun (x166F_56_frJ _ _ _ (hp.2.1 0 4 (by omega) (by omega) (by decide))) 10))))) k
  have k := mx_iast (q := 3) rfl (show (Int32.ofInt 3).toNatClampNeg = 3 from rfl) k
  have k : nt_rn X _ 166 (116, [(0, .ref (p 0)), (1, .int (J (p 4) 9)), (2, .int w2)], [], me_w M (nt_u (nt_u (nt_u (nt_u (x166F_56 p (J (p 4) 9) ((Int32.ofInt 212).toNatClampNeg) (Int32.ofInt 0) J) (p 4) 0 (J (p 0) 7)) (p 4) 1 (J (p 0) 8)) (p 4) 2 (J (p 0) 9)) (p 4) 3 (J (p 0) 10))) _ := k
  have k := ly_revb 1 (c' := (117, [(0, .ref (p 0)), (1, .int (J (p 4) 9)), (2, .int w2)], [.ref (p 0)], me_w M (nt_u (nt_u (nt_u (nt_u (x166F_56 p (J (p 4) 9) ((Int32.ofInt 212).toNatClampNeg) (Int32.ofInt 0) J) (p 4) 0 (J (p 0) 7)) (p 4) 1 (J (p 0) 8)) (p 4) 2 (J (p 0) 9)) (p 4) 3 (J (p 0) 10)))) rfl k
  have k := lz_get (a := (p 0)) (g := 1127) (M := me_w M (nt_u (nt_u (nt_u (nt_u (x166F_56 p (J (p 4) 9) ((Int32.ofInt 212).toNatClampNeg) (Int32.ofInt 0) J) (p 4) 0 (J (p 0) 7)) (p 4) 1 (J (p 0) 8)) (p 4) 2 (J (p 0) 9)) (p 4) 3 (J (p 0) 10))) (v := .ref (p 4)) rfl (nt_gfR rfl (mw_R (hp.1 (0, 27, 4) (by decide)))) k
  have k := ly_revb 2 (c' := (122, [(0, .ref (p 0)), (1, .int (J (p 4) 9)), (2, .int w2)], [.ref (p 0), .int (Int32.ofInt 5), .ref (p 4)], me_w M (nt_u (nt_u (nt_u (nt_u (x166F_56 p (J (p 4) 9) ((Int32.ofInt 212).toNatClampNeg) (Int32.ofInt 0) J) (p 4) 0 (J (p 0) 7)) (p 4) 1 (J (p 0) 8)) (p 4) 2 (J (p 0) 9)) (p 4) 3 (J (p 0) 10)))) rfl k
  have k := lz_get (a := (p 0)) (g := 1111) (M := me_w M (nt_u (nt_u (nt_u (nt_u (x166F_56 p (J (p 4) 9) ((Int32.ofInt 212).toNatClampNeg) (Int32.ofInt 0) J) (p 4) 0 (J (p 0) 7)) (p 4) 1 (J (p 0) 8)) (p 4) 2 (J (p 0) 9)) (p 4) 3 (J (p 0) 10))) (v := .int (J (p 0) 11)) rfl (mw_gI (by decide) ((mu_j (hp.2.1 0 4 (by omega) (by omega) (by decide))).trans ((mu_j (hp.2.1 0 4 (by omega) (by omega) (by decide))).trans ((mu_j (hp.2.1 0 4 (by omega) (by omega) (by decide))).trans ((mu_j (hp.2.1 0 4 (by omega) (by omega) (by decide))).trans (congrFun (x166F_56_frJ _ _ _ (hp.2.1 0 4 (by omega) (by omega) (by decide))) 11)))))) k
  have k := ly_revb 1 (c' := (if 0 ≤ (J (p 0) 11) then 133 else 128, [(0, .ref (p 0)), (1, .int (J (p 4) 9)), (2, .int w2)], [.int (Int32.ofInt 5), .ref (p 4)], me_w M (nt_u (nt_u (nt_u (nt_u (x166F_56 p (J (p 4) 9) ((Int32.ofInt 212).toNatClampNeg) (Int32.ofInt 0) J) (p 4) 0 (J (p 0) 7)) (p 4) 1 (J (p 0) 8)) (p 4) 2 (J (p 0) 9)) (p 4) 3 (J (p 0) 10)))) rfl k
  by_cases h125 : 0 ≤ (J (p 0) 11)
  · rw [if_pos h125] at k
    have k := ly_revb 1 (c' := (134, [(0, .ref (p 0)), (1, .int (J (p 4) 9)), (2, .int w2)], [.ref (p 0), .int (Int32.ofInt 5), .ref (p 4)], me_w M (nt_u (nt_u (nt_u (nt_u (x166F_56 p (J (p 4) 9) ((Int32.ofInt 212).toNatClampNeg) (Int32.ofInt 0) J) (p 4) 0 (J (p 0) 7)) (p 4) 1 (J (p 0) 8)) (p 4) 2 (J (p 0) 9)) (p 4) 3 (J (p 0) 10)))) rfl k
    have k := lz_get (a := (p 0)) (g := 1111) (M := me_w M (nt_u (nt_u (nt_u (nt_u (x166F_56 p (J (p 4) 9) ((Int32.ofInt 212).toNatClampNeg) (Int32.ofInt 0) J) (p 4) 0 (J (p 0) 7)) (p 4) 1 (J (p 0) 8)) (p 4) 2 (J (p 0) 9)) (p 4) 3 (J (p 0) 10))) (v := .int (J (p 0) 11)) rfl (mw_gI (by decide) ((mu_j (hp.2.1 0 4 (by omega) (by omega) (by decide))).trans ((mu_j (hp.2.1 0 4 (by omega) (by omega) (by decide))).trans ((mu_j (hp.2.1 0 4 (by omega) (by omega) (by decide))).trans ((mu_j (hp.2.1 0 4 (by omega) (by omega) (by decide))).trans (congrFun (x166F_56_frJ _ _ _ (hp.2.1 0 4 (by omega) (by omega) (by decide))) 11)))))) k
    have k := mx_iast (q := 5) rfl (show (Int32.ofInt 5).toNatClampNeg = 5 from rfl) k
    have k : nt_rn X _ 166 (138, [(0, .ref (p 0)), (1, .int (J (p 4) 9)), (2, .int w2)], [], me_w M (nt_u (nt_u (nt_u (nt_u (nt_u (x166F_56 p (J (p 4) 9) ((Int32.ofInt 212).toNatClampNeg) (Int32.ofInt 0) J) (p 4) 0 (J (p 0) 7)) (p 4) 1 (J (p 0) 8)) (p 4) 2 (J (p 0) 9)) (p 4) 3 (J (p 0) 10)) (p 4) 5 (J (p 0) 11))) _ := k
    have k := ly_revb 1 (c' := (139, [(0, .ref (p 0)), (1, .int (J (p 4) 9)), (2, .int w2)], [.ref (p 0)], me_w M (nt_u (nt_u (nt_u (nt_u (nt_u (x166F_56 p (J (p 4) 9) ((Int32.ofInt 212).toNatClampNeg) (Int32.ofInt 0) J) (p 4) 0 (J (p 0) 7)) (p 4) 1 (J (p 0) 8)) (p 4) 2 (J (p 0) 9)) (p 4) 3 (J (p 0) 10)) (p 4) 5 (J (p 0) 11)))) rfl k
    have k := lz_get (a := (p 0)) (g := 1127) (M := me_w M (nt_u (nt_u (nt_u (nt_u (nt_u (x166F_56 p (J (p 4) 9) ((Int32.ofInt 212).toNatClampNeg) (Int32.ofInt 0) J) (p 4) 0 (J (p 0) 7)) (p 4) 1 (J (p 0) 8)) (p 4) 2 (J (p 0) 9)) (p 4) 3 (J (p 0) 10)) (p 4) 5 (J (p 0) 11))) (v := .ref (p 4)) rfl (nt_gfR rfl (mw_R (hp.1 (0, 27, 4) (by decide)))) k
    have k := ly_revb 2 (c' := (145, [(0, .ref (p 0)), (1, .int (J (p 4) 9)), (2, .int w2)], [.int (J (p 4) 9), .int (Int32.ofInt 9), .ref (p 4)], me_w M (nt_u (nt_u (nt_u (nt_u (nt_u (x166F_56 p (J (p 4) 9) ((Int32.ofInt 212).toNatClampNeg) (Int32.ofInt 0) J) (p 4) 0 (J (p 0) 7)) (p 4) 1 (J (p 0) 8)) (p 4) 2 (J (p 0) 9)) (p 4) 3 (J (p 0) 10)) (p 4) 5 (J (p 0) 11)))) rfl k
    have k := mx_iast (q := 9) rfl (show (Int32.ofInt 9).toNatClampNeg = 9 from rfl) k
    have k : nt_rn X _ 166 (146, [(0, .ref (p 0)), (1, .int (J (p 4) 9)), (2, .int w2)], [], me_w M (nt_u (nt_u (nt_u (nt_u (nt_u (nt_u (x166F_56 p (J (p 4) 9) ((Int32.ofInt 212).toNatClampNeg) (Int32.ofInt 0) J) (p 4) 0 (J (p 0) 7)) (p 4) 1 (J (p 0) 8)) (p 4) 2 (J (p 0) 9)) (p 4) 3 (J (p 0) 10)) (p 4) 5 (J (p 0) 11)) (p 4) 9 (J (p 4) 9))) _ := k
    have k := ly_revb 2 (c' := (148, [(2, .int (Int32.ofInt 0)), (0, .ref (p 0)), (1, .int (J (p 4) 9))], [], me_w M (nt_u (nt_u (nt_u (nt_u (nt_u (nt_u (x166F_56 p (J (p 4) 9) ((Int32.ofInt 212).toNatClampNeg) (Int32.ofInt 0) J) (p 4) 0 (J (p 0) 7)) (p 4) 1 (J (p 0) 8)) (p 4) 2 (J (p 0) 9)) (p 4) 3 (J (p 0) 10)) (p 4) 5 (J (p 0) 11)) (p 4) 9 (J (p 4) 9)))) rfl k
    have k := nt_rn_w (a := [(2, .int (Int32.ofInt 0)), (0, .ref (p 0)), (1, .int (J (p 4) 9))]) (b := [(0, .ref (p 0)), (1, .int (J (p 4) 9)), (2, .int (Int32.ofInt 0)), (3, .int (Int32.ofInt 0))]) ⟨rfl, rfl, rfl, trivial⟩ rfl k
    have k := xt166F_148 hp  (((nt_u (nt_u (nt_u (nt_u (nt_u (nt_u (x166F_56 p (J (p 4) 9) ((Int32.ofInt 212).toNatClampNeg) (Int32.ofInt 0) J) (p 4) 0 (J (p 0) 7)) (p 4) 1 (J (p 0) 8)) (p 4) 2 (J (p 0) 9)) (p 4) 3 (J (p 0) 10)) (p 4) 5 (J (p 0) 11)) (p 4) 9 (J (p 4) 9)) (p 0) 8).toNatClampNeg) (Int32.ofInt 0) (Int32.ofInt 0) (nt_u (nt_u (nt_u (nt_u (nt_u (nt_u (x166F_56 p (J (p 4) 9) ((Int32.ofInt 212).toNatClampNeg) (Int32.ofInt 0) J) (p 4) 0 (J (p 0) 7)) (p 4) 1 (J (p 0) 8)) (p 4) 2 (J (p 0) 9)) (p 4) 3 (J (p 0) 10)) (p 4) 5 (J (p 0) 11)) (p 4) 9 (J (p 4) 9)) (lx_beg (by decide)) k
    obtain ⟨w2, w3, k⟩ := k
    have k : nt_rn X _ 166 (217, [(0, .ref (p 0)), (1, .int (J (p 4) 9)), (2, .int w2), (3, .int w3)], [], me_w M (x166F_148 p (((nt_u (nt_u (nt_u (nt_u (nt_u (nt_u (x166F_56 p (J (p 4) 9) ((Int32.ofInt 212).toNatClampNeg) (Int32.ofInt 0) J) (p 4) 0 (J (p 0) 7)) (p 4) 1 (J (p 0) 8)) (p 4) 2 (J (p 0) 9)) (p 4) 3 (J (p 0) 10)) (p 4) 5 (J (p 0) 11)) (p 4) 9 (J (p 4) 9)) (p 0) 8).toNatClampNeg) (Int32.ofInt 0) (nt_u (nt_u (nt_u (nt_u (nt_u (nt_u (x166F_56 p (J (p 4) 9) ((Int32.ofInt 212).toNatClampNeg) (Int32.ofInt 0) J) (p 4) 0 (J (p 0) 7)) (p 4) 1 (J (p 0) 8)) (p 4) 2 (J (p 0) 9)) (p 4) 3 (J (p 0) 10)) (p 4) 5 (J (p 0) 11)) (p 4) 9 (J (p 4) 9)))) _ := k
    have k := ly_revb 2 (c' := (219, [(2, .int (Int32.ofInt 0)), (0, .ref (p 0)), (1, .int (J (p 4) 9)), (3, .int w3)], [], me_w M (x166F_148 p (((nt_u (nt_u (nt_u (nt_u (nt_u (nt_u (x166F_56 p (J (p 4) 9) ((Int32.ofInt 212).toNatClampNeg) (Int32.ofInt 0) J) (p 4) 0 (J (p 0) 7)) (p 4) 1 (J (p 0) 8)) (p 4) 2 (J (p 0) 9)) (p 4) 3 (J (p 0) 10)) (p 4) 5 (J (p 0) 11)) (p 4) 9 (J (p 4) 9)) (p 0) 8).toNatClampNeg) (Int32.ofInt 0) (nt_u (nt_u (nt_u (nt_u (nt_u (nt_u (x166F_56 p (J (p 4) 9) ((Int32.ofInt 212).toNatClampNeg) (Int32.ofInt 0) J) (p 4) 0 (J (p 0) 7)) (p 4) 1 (J (p 0) 8)) (p 4) 2 (J (p 0) 9)) (p 4) 3 (J (p 0) 10)) (p 4) 5 (J (p 0) 11)) (p 4) 9 (J (p 4) 9))))) rfl k
    have k := nt_rn_w (a := [(2, .int (Int32.ofInt 0)), (0, .ref (p 0)), (1, .int (J (p 4) 9)), (3, .int w3)]) (b := [(0, .ref (p 0)), (1, .int (J (p 4) 9)), (2, .int (Int32.ofInt 0)), (3, .int w3)]) ⟨rfl, rfl, rfl, rfl, trivial⟩ rfl k
    have k := xt166F_219 hp  (((x166F_148 p (((nt_u (nt_u (nt_u (nt_u (nt_u (nt_u (x166F_56 p (J (p 4) 9) ((Int32.ofInt 212).toNatClampNeg) (Int32.ofInt 0) J) (p 4) 0 (J (p 0) 7)) (p 4) 1 (J (p 0) 8)) (p 4) 2 (J (p 0) 9)) (p 4) 3 (J (p 0) 10)) (p 4) 5 (J (p 0) 11)) (p 4) 9 (J (p 4) 9)) (p 0) 8).toNatClampNeg) (Int32.ofInt 0) (nt_u (nt_u (nt_u (nt_u (nt_u (nt_u (x166F_56 p (J (p 4) 9) ((Int32.ofInt 212).toNatClampNeg) (Int32.ofInt 0) J) (p 4) 0 (J (p 0) 7)) (p 4) 1 (J (p 0) 8)) (p 4) 2 (J (p 0) 9)) (p 4) 3 (J (p 0) 10)) (p 4) 5 (J (p 0) 11)) (p 4) 9 (J (p 4) 9))) (p 0) 9).toNatClampNeg) (Int32.ofInt 0) w3 (x166F_148 p (((nt_u (nt_u (nt_u (nt_u (nt_u (nt_u (x166F_56 p (J (p 4) 9) ((Int32.ofInt 212).toNatClampNeg) (Int32.ofInt 0) J) (p 4) 0 (J (p 0) 7)) (p 4) 1 (J (p 0) 8)) (p 4) 2 (J (p 0) 9)) (p 4) 3 (J (p 0) 10)) (p 4) 5 (J (p 0) 11)) (p 4) 9 (J (p 4) 9)) (p 0) 8).toNatClampNeg) (Int32.ofInt 0) (nt_u (nt_u (nt_u (nt_u (nt_u (nt_u (x166F_56 p (J (p 4) 9) ((Int32.ofInt 212).toNatClampNeg) (Int32.ofInt 0) J) (p 4) 0 (J (p 0) 7)) (p 4) 1 (J (p 0) 8)) (p 4) 2 (J (p 0) 9)) (p 4) 3 (J (p 0) 10)) (p 4) 5 (J (p 0) 11)) (p 4) 9 (J (p 4) 9))) (lx_beg (by decide)) k
    obtain ⟨w2, w3, k⟩ := k
    have k : nt_rn X _ 166 (283, [(0, .ref (p 0)), (1, .int (J (p 4) 9)), (2, .int w2), (3, .int w3)], [], me_w M (x166F_219 p (((x166F_148 p (((nt_u (nt_u (nt_u (nt_u (nt_u (nt_u (x166F_56 p (J (p 4) 9) ((Int32.ofInt 212).toNatClampNeg) (Int32.ofInt 0) J) (p 4) 0 (J (p 0) 7)) (p 4) 1 (J (p 0) 8)) (p 4) 2 (J (p 0) 9)) (p 4) 3 (J (p 0) 10)) (p 4) 5 (J (p 0) 11)) (p 4) 9 (J (p 4) 9)) (p 0) 8).toNatClampNeg) (Int32.ofInt 0) (nt_u (nt_u (nt_u (nt_u (nt_u (nt_u (x166F_56 p (J (p 4) 9) ((Int32.ofInt 212).toNatClampNeg) (Int32.ofInt 0) J) (p 4) 0 (J (p 0) 7)) (p 4) 1 (J (p 0) 8)) (p 4) 2 (J (p 0) 9)) (p 4) 3 (J (p 0) 10)) (p 4) 5 (J (p 0) 11)) (p 4) 9 (J (p 4) 9))) (p 0) 9).toNatClampNeg) (Int32.ofInt 0) (x166F_148 p (((nt_u (nt_u (nt_u (nt_u (nt_u (nt_u (x166F_56 p (J (p 4) 9) ((Int32.ofInt 212).toNatClampNeg) (Int32.ofInt 0) J) (p 4) 0 (J (p 0) 7)) (p 4) 1 (J (p 0) 8)) (p 4) 2 (J (p 0) 9)) (p 4) 3 (J (p 0) 10)) (p 4) 5 (J (p 0) 11)) (p 4) 9 (J (p 4) 9)) (p 0) 8).toNatClampNeg) (Int32.ofInt 0) (nt_u (nt_u (nt_u (nt_u (nt_u (nt_u (x166F_56 p (J (p 4) 9) ((Int32.ofInt 212).toNatClampNeg) (Int32.ofInt 0) J) (p 4) 0 (J (p 0) 7)) (p 4) 1 (J (p 0) 8)) (p 4) 2 (J (p 0) 9)) (p 4) 3 (J (p 0) 10)) (p 4) 5 (J (p 0) 11)) (p 4) 9 (J (p 4) 9))))) _ := k
    have k := ly_revb 2 (c' := (285, [(2, .int (Int32.ofInt 0)), (0, .ref (p 0)), (1, .int (J (p 4) 9)), (3, .int w3)], [], me_w M (x166F_219 p (((x166F_148 p (((nt_u (nt_u (nt_u (nt_u (nt_u (nt_u (x166F_56 p (J (p 4) 9) ((Int32.ofInt 212).toNatClampNeg) (Int32.ofInt 0) J) (p 4) 0 (J (p 0) 7)) (p 4) 1 (J (p 0) 8)) (p 4) 2 (J (p 0) 9)) (p 4) 3 (J (p 0) 10)) (p 4) 5 (J (p 0) 11)) (p 4) 9 (J (p 4) 9)) (p 0) 8).toNatClampNeg) (Int32.ofInt 0) (nt_u (nt_u (nt_u (nt_u (nt_u (nt_u (x166F_56 p (J (p 4) 9) ((Int32.ofInt 212).toNatClampNeg) (Int32.ofInt 0) J) (p 4) 0 (J (p 0) 7)) (p 4) 1 (J (p 0) 8)) (p 4) 2 (J (p 0) 9)) (p 4) 3 (J (p 0) 10)) (p 4) 5 (J (p 0) 11)) (p 4) 9 (J (p 4) 9))) (p 0) 9).toNatClampNeg) (Int32.ofInt 0) (x166F_148 p (((nt_u (nt_u (nt_u (nt_u (nt_u (nt_u (x166F_56 p (J (p 4) 9) ((Int32.ofInt 212).toNatClampNeg) (Int32.ofInt 0) J) (p 4) 0 (J (p 0) 7)) (p 4) 1 (J (p 0) 8)) (p 4) 2 (J (p 0) 9)) (p 4) 3 (J (p 0) 10)) (p 4) 5 (J (p 0) 11)) (p 4) 9 (J (p 4) 9)) (p 0) 8).toNatClampNeg) (Int32.ofInt 0) (nt_u (nt_u (nt_u (nt_u (nt_u (nt_u (x166F_56 p (J (p 4) 9) ((Int32.ofInt 212).toNatClampNeg) (Int32.ofInt 0) J) (p 4) 0 (J (p 0) 7)) (p 4) 1 (J (p 0) 8)) (p 4) 2 (J (p 0) 9)) (p 4) 3 (J (p 0) 10)) (p 4) 5 (J (p 0) 11)) (p 4) 9 (J (p 4) 9)))))) rfl k
    have k := nt_rn_w (a := [(2, .int (Int32.ofInt 0)), (0, .ref (p 0)), (1, .int (J (p 4) 9)), (3, .int w3)]) (b := [(0, .ref (p 0)), (1, .int (J (p 4) 9)), (2, .int (Int32.ofInt 0)), (3, .int w3)]) ⟨rfl, rfl, rfl, rfl, trivial⟩ rfl k
    have k := xt166F_285 hp  (((x166F_219 p (((x166F_148 p (((nt_u (nt_u (nt_u (nt_u (nt_u (nt_u (x166F_56 p (J (p 4) 9) ((Int32.ofInt 212).toNatClampNeg) (Int32.ofInt 0) J) (p 4) 0 (J (p 0) 7)) (p 4) 1 (J (p 0) 8)) (p 4) 2 (J (p 0) 9)) (p 4) 3 (J (p 0) 10)) (p 4) 5 (J (p 0) 11)) (p 4) 9 (J (p 4) 9)) (p 0) 8).toNatClampNeg) (Int32.ofInt 0) (nt_u (nt_u (nt_u (nt_u (nt_u (nt_u (x166F_56 p (J (p 4) 9) ((Int32.ofInt 212).toNatClampNeg) (Int32.ofInt 0) J) (p 4) 0 (J (p 0) 7)) (p 4) 1 (J (p 0) 8)) (p 4) 2 (J (p 0) 9)) (p 4) 3 (J (p 0) 10)) (p 4) 5 (J (p 0) 11)) (p 4) 9 (J (p 4) 9))) (p 0) 9).toNatClampNeg) (Int32.ofInt 0) (x166F_148 p (((nt_u (nt_u (nt_u (nt_u (nt_u (nt_u (x166F_56 p (J (p 4) 9) ((Int32.ofInt 212).toNatClampNeg) (Int32.ofInt 0) J) (p 4) 0 (J (p 0) 7)) (p 4) 1 (J (p 0) 8)) (p 4) 2 (J (p 0) 9)) (p 4) 3 (J (p 0) 10)) (p 4) 5 (J (p 0) 11)) (p 4) 9 (J (p 4) 9)) (p 0) 8).toNatClampNeg) (Int32.ofInt 0) (nt_u (nt_u (nt_u (nt_u (nt_u (nt_u (x166F_56 p (J (p 4) 9) ((Int32.ofInt 212).toNatClampNeg) (Int32.ofInt 0) J) (p 4) 0 (J (p 0) 7)) (p 4) 1 (J (p 0) 8)) (p 4) 2 (J (p 0) 9)) (p 4) 3 (J (p 0) 10)) (p 4) 5 (J (p 0) 11)) (p 4) 9 (J (p 4) 9)))) (p 0) 10).toNatClampNeg) (Int32.ofInt 0) w3 (x166F_219 p (((x166F_148 p (((nt_u (nt_u (nt_u (nt_u (nt_u (nt_u (x166F_56 p (J (p 4) 9) ((Int32.ofInt 212).toNatClampNeg) (Int32.ofInt 0) J) (p 4) 0 (J (p 0) 7)) (p 4) 1 (J (p 0) 8)) (p 4) 2 (J (p 0) 9)) (p 4) 3 (J (p 0) 10)) (p 4) 5 (J (p 0) 11)) (p 4) 9 (J (p 4) 9)) (p 0) 8).toNatClampNeg) (Int32.ofInt 0) (nt_u (nt_u (nt_u (nt_u (nt_u (nt_u (x166F_56 p (J (p 4) 9) ((Int32.ofInt 212).toNatClampNeg) (Int32.ofInt 0) J) (p 4) 0 (J (p 0) 7)) (p 4) 1 (J (p 0) 8)) (p 4) 2 (J (p 0) 9)) (p 4) 3 (J (p 0) 10)) (p 4) 5 (J (p 0) 11)) (p 4) 9 (J (p 4) 9))) (p 0) 9).toNatClampNeg) (Int32.ofInt 0) (x166F_148 p (((nt_u (nt_u (nt_u (nt_u (nt_u (nt_u (x166F_56 p (J (p 4) 9) ((Int32.ofInt 212).toNatClampNeg) (Int32.ofInt 0) J) (p 4) 0 (J (p 0) 7)) (p 4) 1 (J (p 0) 8)) (p 4) 2 (J (p 0) 9)) (p 4) 3 (J (p 0) 10)) (p 4) 5 (J (p 0) 11)) (p 4) 9 (J (p 4) 9)) (p 0) 8).toNatClampNeg) (Int32.ofInt 0) (nt_u (nt_u (nt_u (nt_u (nt_u (nt_u (x166F_56 p (J (p 4) 9) ((Int32.ofInt 212).toNatClampNeg) (Int32.ofInt 0) J) (p 4) 0 (J (p 0) 7)) (p 4) 1 (J (p 0) 8)) (p 4) 2 (J (p 0) 9)) (p 4) 3 (J (p 0) 10)) (p 4) 5 (J (p 0) 11)) (p 4) 9 (J (p 4) 9)))) (lx_beg (by decide)) k
    obtain ⟨w2, w3, k⟩ := k
    have k : nt_rn X _ 166 (336, [(0, .ref (p 0)), (1, .int (J (p 4) 9)), (2, .int w2), (3, .int w3)], [], me_w M (x166F_285 p (((x166F_219 p (((x166F_148 p (((nt_u (nt_u (nt_u (nt_u (nt_u (nt_u (x166F_56 p (J (p 4) 9) ((Int32.ofInt 212).toNatClampNeg) (Int32.ofInt 0) J) (p 4) 0 (J (p 0) 7)) (p 4) 1 (J (p 0) 8)) (p 4) 2 (J (p 0) 9)) (p 4) 3 (J (p 0) 10)) (p 4) 5 (J (p 0) 11)) (p 4) 9 (J (p 4) 9)) (p 0) 8).toNatClampNeg) (Int32.ofInt 0) (nt_u (nt_u (nt_u (nt_u (nt_u (nt_u (x166F_56 p (J (p 4) 9) ((Int32.ofInt 212).toNatClampNeg) (Int32.ofInt 0) J) (p 4) 0 (J (p 0) 7)) (p 4) 1 (J (p 0) 8)) (p 4) 2 (J (p 0) 9)) (p 4) 3 (J (p 0) 10)) (p 4) 5 (J (p 0) 11)) (p 4) 9 (J (p 4) 9))) (p 0) 9).toNatClampNeg) (Int32.ofInt 0) (x166F_148 p (((nt_u (nt_u (nt_u (nt_u (nt_u (nt_u (x166F_56 p (J (p 4) 9) ((Int32.ofInt 212).toNatClampNeg) (Int32.ofInt 0) J) (p 4) 0 (J (p 0) 7)) (p 4) 1 (J (p 0) 8)) (p 4) 2 (J (p 0) 9)) (p 4) 3 (J (p 0) 10)) (p 4) 5 (J (p 0) 11)) (p 4) 9 (J (p 4) 9)) (p 0) 8).toNatClampNeg) (Int32.ofInt 0) (nt_u (nt_u (nt_u (nt_u (nt_u (nt_u (x166F_56 p (J (p 4) 9) ((Int32.ofInt 212).toNatClampNeg) (Int32.ofInt 0) J) (p 4) 0 (J (p 0) 7)) (p 4) 1 (J (p 0) 8)) (p 4) 2 (J (p 0) 9)) (p 4) 3 (J (p 0) 10)) (p 4) 5 (J (p 0) 11)) (p 4) 9 (J (p 4) 9)))) (p 0) 10).toNatClampNeg) (Int32.ofInt 0) (x166F_219 p (((x166F_148 p (((nt_u (nt_u (nt_u (nt_u (nt_u (nt_u (x166F_56 p (J (p 4) 9) ((Int32.ofInt 212).toNatClampNeg) (Int32.ofInt 0) J) (p 4) 0 (J (p 0) 7)) (p 4) 1 (J (p 0) 8)) (p 4) 2 (J (p 0) 9)) (p 4) 3 (J (p 0) 10)) (p 4) 5 (J (p 0) 11)) (p 4) 9 (J (p 4) 9)) (p 0) 8).toNatClampNeg) (Int32.ofInt 0) (nt_u (nt_u (nt_u (nt_u (nt_u (nt_u (x166F_56 p (J (p 4) 9) ((Int32.ofInt 212).toNatClampNeg) (Int32.ofInt 0) J) (p 4) 0 (J (p 0) 7)) (p 4) 1 (J (p 0) 8)) (p 4) 2 (J (p 0) 9)) (p 4) 3 (J (p 0) 10)) (p 4) 5 (J (p 0) 11)) (p 4) 9 (J (p 4) 9))) (p 0) 9).toNatClampNeg) (Int32.ofInt 0) (x166F_148 p (((nt_u (nt_u (nt_u (nt_u (nt_u (nt_u (x166F_56 p (J (p 4) 9) ((Int32.ofInt 212).toNatClampNeg) (Int32.ofInt 0) J) (p 4) 0 (J (p 0) 7)) (p 4) 1 (J (p 0) 8)) (p 4) 2 (J (p 0) 9)) (p 4) 3 (J (p 0) 10)) (p 4) 5 (J (p 0) 11)) (p 4) 9 (J (p 4) 9)) (p 0) 8).toNatClampNeg) (Int32.ofInt 0) (nt_u (nt_u (nt_u (nt_u (nt_u (nt_u (x166F_56 p (J (p 4) 9) ((Int32.ofInt 212).toNatClampNeg) (Int32.ofInt 0) J) (p 4) 0 (J (p 0) 7)) (p 4) 1 (J (p 0) 8)) (p 4) 2 (J (p 0) 9)) (p 4) 3 (J (p 0) 10)) (p 4) 5 (J (p 0) 11)) (p 4) 9 (J (p 4) 9)))))) _ := k
    have k := ly_revb 1 (c' := (337, [(0, .ref (p 0)), (1, .int (J (p 4) 9)), (2, .int w2), (3, .int w3)], [.ref (p 0)], me_w M (x166F_285 p (((x166F_219 p (((x166F_148 p (((nt_u (nt_u (nt_u (nt_u (nt_u (nt_u (x166F_56 p (J (p 4) 9) ((Int32.ofInt 212).toNatClampNeg) (Int32.ofInt 0) J) (p 4) 0 (J (p 0) 7)) (p 4) 1 (J (p 0) 8)) (p 4) 2 (J (p 0) 9)) (p 4) 3 (J (p 0) 10)) (p 4) 5 (J (p 0) 11)) (p 4) 9 (J (p 4) 9)) (p 0) 8).toNatClampNeg) (Int32.ofInt 0) (nt_u (nt_u (nt_u (nt_u (nt_u (nt_u (x166F_56 p (J (p 4) 9) ((Int32.ofInt 212).toNatClampNeg) (Int32.ofInt 0) J) (p 4) 0 (J (p 0) 7)) (p 4) 1 (J (p 0) 8)) (p 4) 2 (J (p 0) 9)) (p 4) 3 (J (p 0) 10)) (p 4) 5 (J (p 0) 11)) (p 4) 9 (J (p 4) 9))) (p 0) 9).toNatClampNeg) (Int32.ofInt 0) (x166F_148 p (((nt_u (nt_u (nt_u (nt_u (nt_u (nt_u (x166F_56 p (J (p 4) 9) ((Int32.ofInt 212).toNatClampNeg) (Int32.ofInt 0) J) (p 4) 0 (J (p 0) 7)) (p 4) 1 (J (p 0) 8)) (p 4) 2 (J (p 0) 9)) (p 4) 3 (J (p 0) 10)) (p 4) 5 (J (p 0) 11)) (p 4) 9 (J (p 4) 9)) (p 0) 8).toNatClampNeg) (Int32.ofInt 0) (nt_u (nt_u (nt_u (nt_u (nt_u (nt_u (x166F_56 p (J (p 4) 9) ((Int32.ofInt 212).toNatClampNeg) (Int32.ofInt 0) J) (p 4) 0 (J (p 0) 7)) (p 4) 1 (J (p 0) 8)) (p 4) 2 (J (p 0) 9)) (p 4) 3 (J (p 0) 10)) (p 4) 5 (J (p 0) 11)) (p 4) 9 (J (p 4) 9)))) (p 0) 10).toNatClampNeg) (Int32.ofInt 0) (x166F_219 p (((x166F_148 p (((nt_u (nt_u (nt_u (nt_u (nt_u (nt_u (x166F_56 p (J (p 4) 9) ((Int32.ofInt 212).toNatClampNeg) (Int32.ofInt 0) J) (p 4) 0 (J (p 0) 7)) (p 4) 1 (J (p 0) 8)) (p 4) 2 (J (p 0) 9)) (p 4) 3 (J (p 0) 10)) (p 4) 5 (J (p 0) 11)) (p 4) 9 (J (p 4) 9)) (p 0) 8).toNatClampNeg) (Int32.ofInt 0) (nt_u (nt_u (nt_u (nt_u (nt_u (nt_u (x166F_56 p (J (p 4) 9) ((Int32.ofInt 212).toNatClampNeg) (Int32.ofInt 0) J) (p 4) 0 (J (p 0) 7)) (p 4) 1 (J (p 0) 8)) (p 4) 2 (J (p 0) 9)) (p 4) 3 (J (p 0) 10)) (p 4) 5 (J (p 0) 11)) (p 4) 9 (J (p 4) 9))) (p 0) 9).toNatClampNeg) (Int32.ofInt 0) (x166F_148 p (((nt_u (nt_u (nt_u (nt_u (nt_u (nt_u (x166F_56 p (J (p 4) 9) ((Int32.ofInt 212).toNatClampNeg) (Int32.ofInt 0) J) (p 4) 0 (J (p 0) 7)) (p 4) 1 (J (p 0) 8)) (p 4) 2 (J (p 0) 9)) (p 4) 3 (J (p 0) 10)) (p 4) 5 (J (p 0) 11)) (p 4) 9 (J (p 4) 9)) (p 0) 8).toNatClampNeg) (Int32.ofInt 0) (nt_u (nt_u (nt_u (nt_u (nt_u (nt_u (x166F_56 p (J (p 4) 9) ((Int32.ofInt 212).toNatClampNeg) (Int32.ofInt 0) J) (p 4) 0 (J (p 0) 7)) (p 4) 1 (J (p 0) 8)) (p 4) 2 (J (p 0) 9)) (p 4) 3 (J (p 0) 10)) (p 4) 5 (J (p 0) 11)) (p 4) 9 (J (p 4) 9))))))) rfl k
    have k := lz_get (a := (p 0)) (g := 1108) (M := me_w M (x166F_285 p (((x166F_219 p (((x166F_148 p (((nt_u (nt_u (nt_u (nt_u (nt_u (nt_u (x166F_56 p (J (p 4) 9) ((Int32.ofInt 212).toNatClampNeg) (Int32.ofInt 0) J) (p 4) 0 (J (p 0) 7)) (p 4) 1 (J (p 0) 8)) (p 4) 2 (J (p 0) 9)) (p 4) 3 (J (p 0) 10)) (p 4) 5 (J (p 0) 11)) (p 4) 9 (J (p 4) 9)) (p 0) 8).toNatClampNeg) (Int32.ofInt 0) (nt_u (nt_u (nt_u (nt_u (nt_u (nt_u (x166F_56 p (J (p 4) 9) ((Int32.ofInt 212).toNatClampNeg) (Int32.ofInt 0) J) (p 4) 0 (J (p 0) 7)) (p 4) 1 (J (p 0) 8)) (p 4) 2 (J (p 0) 9)) (p 4) 3 (J (p 0) 10)) (p 4) 5 (J (p 0) 11)) (p 4) 9 (J (p 4) 9))) (p 0) 9).toNatClampNeg) (Int32.ofInt 0) (x166F_148 p (((nt_u (nt_u (nt_u (nt_u (nt_u (nt_u (x166F_56 p (J (p 4) 9) ((Int32.ofInt 212).toNatClampNeg) (Int32.ofInt 0) J) (p 4) 0 (J (p 0) 7)) (p 4) 1 (J (p 0) 8)) (p 4) 2 (J (p 0) 9)) (p 4) 3 (J (p 0) 10)) (p 4) 5 (J (p 0) 11)) (p 4) 9 (J (p 4) 9)) (p 0) 8).toNatClampNeg) (Int32.ofInt 0) (nt_u (nt_u (nt_u (nt_u (nt_u (nt_u (x166F_56 p (J (p 4) 9) ((Int32.ofInt 212).toNatClampNeg) (Int32.ofInt 0) J) (p 4) 0 (J (p 0) 7)) (p 4) 1 (J (p 0) 8)) (p 4) 2 (J (p 0) 9)) (p 4) 3 (J (p 0) 10)) (p 4) 5 (J (p 0) 11)) (p 4) 9 (J (p 4) 9)))) (p 0) 10).toNatClampNeg) (Int32.ofInt 0) (x166F_219 p (((x166F_148 p (((nt_u (nt_u (nt_u (nt_u (nt_u (nt_u (x166F_56 p (J (p 4) 9) ((Int32.ofInt 212).toNatClampNeg) (Int32.ofInt 0) J) (p 4) 0 (J (p 0) 7)) (p 4) 1 (J (p 0) 8)) (p 4) 2 (J (p 0) 9)) (p 4) 3 (J (p 0) 10)) (p 4) 5 (J (p 0) 11)) (p 4) 9 (J (p 4) 9)) (p 0) 8).toNatClampNeg) (Int32.ofInt 0) (nt_u (nt_u (nt_u (nt_u (nt_u (nt_u (x166F_56 p (J (p 4) 9) ((Int32.ofInt 212).toNatClampNeg) (Int32.ofInt 0) J) (p 4) 0 (J (p 0) 7)) (p 4) 1 (J (p 0) 8)) (p 4) 2 (J (p 0) 9)) (p 4) 3 (J (p 0) 10)) (p 4) 5 (J (p 0) 11)) (p 4) 9 (J (p 4) 9))) (p 0) 9).toNatClampNeg) (Int32.ofInt 0) (x166F_148 p (((nt_u (nt_u (nt_u (nt_u (nt_u (nt_u (x166F_56 p (J (p 4) 9) ((Int32.ofInt 212).toNatClampNeg) (Int32.ofInt 0) J) (p 4) 0 (J (p 0) 7)) (p 4) 1 (J (p 0) 8)) (p 4) 2 (J (p 0) 9)) (p 4) 3 (J (p 0) 10)) (p 4) 5 (J (p 0) 11)) (p 4) 9 (J (p 4) 9)) (p 0) 8).toNatClampNeg) (Int32.ofInt 0) (nt_u (nt_u (nt_u (nt_u (nt_u (nt_u (x166F_56 p (J (p 4) 9) ((Int32.ofInt 212).toNatClampNeg) (Int32.ofInt 0) J) (p 4) 0 (J (p 0) 7)) (p 4) 1 (J (p 0) 8)) (p 4) 2 (J (p 0) 9)) (p 4) 3 (J (p 0) 10)) (p 4) 5 (J (p 0) 11)) (p 4) 9 (J (p 4) 9)))))) (v := .int (J (p 0) 8)) rfl (mw_gI (by decide) ((congrFun (x166F_285_frJ _ _ _ (hp.2.1 0 4 (by omega) (by omega) (by decide))) 8).trans ((congrFun (x166F_219_frJ _ _ _ (hp.2.1 0 4 (by omega) (by omega) (by decide))) 8).trans ((congrFun (x166F_148_frJ _ _ _ (hp.2.1 0 4 (by omega) (by omega) (by decide))) 8).trans ((mu_j (hp.2.1 0 4 (by omega) (by omega) (by decide))).trans ((mu_j (hp.2.1 0 4 (by omega) (by omega) (by decide))).trans ((mu_j (hp.2.1 0 4 (by omega) (by omega) (by decide))).trans ((mu_j (hp.2.1 0 4 (by omega) (by omega) (by decide))).trans ((mu_j (hp.2.1 0 4 (by omega) (by omega) (by decide))).trans ((mu_j (hp.2.1 0 4 (by omega) (by omega) (by decide))).trans (congrFun (x166F_56_frJ _ _ _ (hp.2.1 0 4 (by omega) (by omega) (by decide))) 8))))))))))) k
    have k := lz_ri rfl (by decide) k
    rw [k, x166F, if_pos h125]
  · rw [if_neg h125] at k
    have k := ly_revb 2 (c' := (137, [(0, .ref (p 0)), (1, .int (J (p 4) 9)), (2, .int w2)], [.int (Int32.ofInt 30), .int (Int32.ofInt 5), .ref (p 4)], me_w M (nt_u (nt_u (nt_u (nt_u (x166F_56 p (J (p 4) 9) ((Int32.ofInt 212).toNatClampNeg) (Int32.ofInt 0) J) (p 4) 0 (J (p 0) 7)) (p 4) 1 (J (p 0) 8)) (p 4) 2 (J (p 0) 9)) (p 4) 3 (J (p 0) 10)))) rfl k
    have k := mx_iast (q := 5) rfl (show (Int32.ofInt 5).toNatClampNeg = 5 from rfl) k
    have k : nt_rn X _ 166 (138, [(0, .ref (p 0)), (1, .int (J (p 4) 9)), (2, .int w2)], [], me_w M (nt_u (nt_u (nt_u (nt_u (nt_u (x166F_56 p (J (p 4) 9) ((Int32.ofInt 212).toNatClampNeg) (Int32.ofInt 0) J) (p 4) 0 (J (p 0) 7)) (p 4) 1 (J (p 0) 8)) (p 4) 2 (J (p 0) 9)) (p 4) 3 (J (p 0) 10)) (p 4) 5 (Int32.ofInt 30))) _ := k
    have k := ly_revb 1 (c' := (139, [(0, .ref (p 0)), (1, .int (J (p 4) 9)), (2, .int w2)], [.ref (p 0)], me_w M (nt_u (nt_u (nt_u (nt_u (nt_u (x166F_56 p (J (p 4) 9) ((Int32.ofInt 212).toNatClampNeg) (Int32.ofInt 0) J) (p 4) 0 (J (p 0) 7)) (p 4) 1 (J (p 0) 8)) (p 4) 2 (J (p 0) 9)) (p 4) 3 (J (p 0) 10)) (p 4) 5 (Int32.ofInt 30)))) rfl k
    have k := lz_get (a := (p 0)) (g := 1127) (M := me_w M (nt_u (nt_u (nt_u (nt_u (nt_u (x166F_56 p (J (p 4) 9) ((Int32.ofInt 212).toNatClampNeg) (Int32.ofInt 0) J) (p 4) 0 (J (p 0) 7)) (p 4) 1 (J (p 0) 8)) (p 4) 2 (J (p 0) 9)) (p 4) 3 (J (p 0) 10)) (p 4) 5 (Int32.ofInt 30))) (v := .ref (p 4)) rfl (nt_gfR rfl (mw_R (hp.1 (0, 27, 4) (by decide)))) k
    have k := ly_revb 2 (c' := (145, [(0, .ref (p 0)), (1, .int (J (p 4) 9)), (2, .int w2)], [.int (J (p 4) 9), .int (Int32.ofInt 9), .ref (p 4)], me_w M (nt_u (nt_u (nt_u (nt_u (nt_u (x166F_56 p (J (p 4) 9) ((Int32.ofInt 212).toNatClampNeg) (Int32.ofInt 0) J) (p 4) 0 (J (p 0) 7)) (p 4) 1 (J (p 0) 8)) (p 4) 2 (J (p 0) 9)) (p 4) 3 (J (p 0) 10)) (p 4) 5 (Int32.ofInt 30)))) rfl k
    have k := mx_iast (q := 9) rfl (show (Int32.ofInt 9).toNatClampNeg = 9 from rfl) k
    have k : nt_rn X _ 166 (146, [(0, .ref (p 0)), (1, .int (J (p 4) 9)), (2, .int w2)], [], me_w M (nt_u (nt_u (nt_u (nt_u (nt_u (nt_u (x166F_56 p (J (p 4) 9) ((Int32.ofInt 212).toNatClampNeg) (Int32.ofInt 0) J) (p 4) 0 (J (p 0) 7)) (p 4) 1 (J (p 0) 8)) (p 4) 2 (J (p 0) 9)) (p 4) 3 (J (p 0) 10)) (p 4) 5 (Int32.ofInt 30)) (p 4) 9 (J (p 4) 9))) _ := k
    have k := ly_revb 2 (c' := (148, [(2, .int (Int32.ofInt 0)), (0, .ref (p 0)), (1, .int (J (p 4) 9))], [], me_w M (nt_u (nt_u (nt_u (nt_u (nt_u (nt_u (x166F_56 p (J (p 4) 9) ((Int32.ofInt 212).toNatClampNeg) (Int32.ofInt 0) J) (p 4) 0 (J (p 0) 7)) (p 4) 1 (J (p 0) 8)) (p 4) 2 (J (p 0) 9)) (p 4) 3 (J (p 0) 10)) (p 4) 5 (Int32.ofInt 30)) (p 4) 9 (J (p 4) 9)))) rfl k
    have k := nt_rn_w (a := [(2, .int (Int32.ofInt 0)), (0, .ref (p 0)), (1, .int (J (p 4) 9))]) (b := [(0, .ref (p 0)), (1, .int (J (p 4) 9)), (2, .int (Int32.ofInt 0)), (3, .int (Int32.ofInt 0))]) ⟨rfl, rfl, rfl, trivial⟩ rfl k
    have k := xt166F_148 hp  (((nt_u (nt_u (nt_u (nt_u (nt_u (nt_u (x166F_56 p (J (p 4) 9) ((Int32.ofInt 212).toNatClampNeg) (Int32.ofInt 0) J) (p 4) 0 (J (p 0) 7)) (p 4) 1 (J (p 0) 8)) (p 4) 2 (J (p 0) 9)) (p 4) 3 (J (p 0) 10)) (p 4) 5 (Int32.ofInt 30)) (p 4) 9 (J (p 4) 9)) (p 0) 8).toNatClampNeg) (Int32.ofInt 0) (Int32.ofInt 0) (nt_u (nt_u (nt_u (nt_u (nt_u (nt_u (x166F_56 p (J (p 4) 9) ((Int32.ofInt 212).toNatClampNeg) (Int32.ofInt 0) J) (p 4) 0 (J (p 0) 7)) (p 4) 1 (J (p 0) 8)) (p 4) 2 (J (p 0) 9)) (p 4) 3 (J (p 0) 10)) (p 4) 5 (Int32.ofInt 30)) (p 4) 9 (J (p 4) 9)) (lx_beg (by decide)) k
    obtain ⟨w2, w3, k⟩ := k
    have k : nt_rn X _ 166 (217, [(0, .ref (p 0)), (1, .int (J (p 4) 9)), (2, .int w2), (3, .int w3)], [], me_w M (x166F_148 p (((nt_u (nt_u (nt_u (nt_u (nt_u (nt_u (x166F_56 p (J (p 4) 9) ((Int32.ofInt 212).toNatClampNeg) (Int32.ofInt 0) J) (p 4) 0 (J (p 0) 7)) (p 4) 1 (J (p 0) 8)) (p 4) 2 (J (p 0) 9)) (p 4) 3 (J (p 0) 10)) (p 4) 5 (Int32.ofInt 30)) (p 4) 9 (J (p 4) 9)) (p 0) 8).toNatClampNeg) (Int32.ofInt 0) (nt_u (nt_u (nt_u (nt_u (nt_u (nt_u (x166F_56 p (J (p 4) 9) ((Int32.ofInt 212).toNatClampNeg) (Int32.ofInt 0) J) (p 4) 0 (J (p 0) 7)) (p 4) 1 (J (p 0) 8)) (p 4) 2 (J (p 0) 9)) (p 4) 3 (J (p 0) 10)) (p 4) 5 (Int32.ofInt 30)) (p 4) 9 (J (p 4) 9)))) _ := k
    have k := ly_revb 2 (c' := (219, [(2, .int (Int32.ofInt 0)), (0, .ref (p 0)), (1, .int (J (p 4) 9)), (3, .int w3)], [], me_w M (x166F_148 p (((nt_u (nt_u (nt_u (nt_u (nt_u (nt_u (x166F_56 p (J (p 4) 9) ((Int32.ofInt 212).toNatClampNeg) (Int32.ofInt 0) J) (p 4) 0 (J (p 0) 7)) (p 4) 1 (J (p 0) 8)) (p 4) 2 (J (p 0) 9)) (p 4) 3 (J (p 0) 10)) (p 4) 5 (Int32.ofInt 30)) (p 4) 9 (J (p 4) 9)) (p 0) 8).toNatClampNeg) (Int32.ofInt 0) (nt_u (nt_u (nt_u (nt_u (nt_u (nt_u (x166F_56 p (J (p 4) 9) ((Int32.ofInt 212).toNatClampNeg) (Int32.ofInt 0) J) (p 4) 0 (J (p 0) 7)) (p 4) 1 (J (p 0) 8)) (p 4) 2 (J (p 0) 9)) (p 4) 3 (J (p 0) 10)) (p 4) 5 (Int32.ofInt 30)) (p 4) 9 (J (p 4) 9))))) rfl k
    have k := nt_rn_w (a := [(2, .int (Int32.ofInt 0)), (0, .ref (p 0)), (1, .int (J (p 4) 9)), (3, .int w3)]) (b := [(0, .ref (p 0)), (1, .int (J (p 4) 9)), (2, .int (Int32.ofInt 0)), (3, .int w3)]) ⟨rfl, rfl, rfl, rfl, trivial⟩ rfl k
    have k := xt166F_219 hp  (((x166F_148 p (((nt_u (nt_u (nt_u (nt_u (nt_u (nt_u (x166F_56 p (J (p 4) 9) ((Int32.ofInt 212).toNatClampNeg) (Int32.ofInt 0) J) (p 4) 0 (J (p 0) 7)) (p 4) 1 (J (p 0) 8)) (p 4) 2 (J (p 0) 9)) (p 4) 3 (J (p 0) 10)) (p 4) 5 (Int32.ofInt 30)) (p 4) 9 (J (p 4) 9)) (p 0) 8).toNatClampNeg) (Int32.ofInt 0) (nt_u (nt_u (nt_u (nt_u (nt_u (nt_u (x166F_56 p (J (p 4) 9) ((Int32.ofInt 212).toNatClampNeg) (Int32.ofInt 0) J) (p 4) 0 (J (p 0) 7)) (p 4) 1 (J (p 0) 8)) (p 4) 2 (J (p 0) 9)) (p 4) 3 (J (p 0) 10)) (p 4) 5 (Int32.ofInt 30)) (p 4) 9 (J (p 4) 9))) (p 0) 9).toNatClampNeg) (Int32.ofInt 0) w3 (x166F_148 p (((nt_u (nt_u (nt_u (nt_u (nt_u (nt_u (x166F_56 p (J (p 4) 9) ((Int32.ofInt 212).toNatClampNeg) (Int32.ofInt 0) J) (p 4) 0 (J (p 0) 7)) (p 4) 1 (J (p 0) 8)) (p 4) 2 (J (p 0) 9)) (p 4) 3 (J (p 0) 10)) (p 4) 5 (Int32.ofInt 30)) (p 4) 9 (J (p 4) 9)) (p 0) 8).toNatClampNeg) (Int32.ofInt 0) (nt_u (nt_u (nt_u (nt_u (nt_u (nt_u (x166F_56 p (J (p 4) 9) ((Int32.ofInt 212).toNatClampNeg) (Int32.ofInt 0) J) (p 4) 0 (J (p 0) 7)) (p 4) 1 (J (p 0) 8)) (p 4) 2 (J (p 0) 9)) (p 4) 3 (J (p 0) 10)) (p 4) 5 (Int32.ofInt 30)) (p 4) 9 (J (p 4) 9))) (lx_beg (by decide)) k
    obtain ⟨w2, w3, k⟩ := k
    have k : nt_rn X _ 166 (283, [(0, .ref (p 0)), (1, .int (J (p 4) 9)), (2, .int w2), (3, .int w3)], [], me_w M (x166F_219 p (((x166F_148 p (((nt_u (nt_u (nt_u (nt_u (nt_u (nt_u (x166F_56 p (J (p 4) 9) ((Int32.ofInt 212).toNatClampNeg) (Int32.ofInt 0) J) (p 4) 0 (J (p 0) 7)) (p 4) 1 (J (p 0) 8)) (p 4) 2 (J (p 0) 9)) (p 4) 3 (J (p 0) 10)) (p 4) 5 (Int32.ofInt 30)) (p 4) 9 (J (p 4) 9)) (p 0) 8).toNatClampNeg) (Int32.ofInt 0) (nt_u (nt_u (nt_u (nt_u (nt_u (nt_u (x166F_56 p (J (p 4) 9) ((Int32.ofInt 212).toNatClampNeg) (Int32.ofInt 0) J) (p 4) 0 (J (p 0) 7)) (p 4) 1 (J (p 0) 8)) (p 4) 2 (J (p 0) 9)) (p 4) 3 (J (p 0) 10)) (p 4) 5 (Int32.ofInt 30)) (p 4) 9 (J (p 4) 9))) (p 0) 9).toNatClampNeg) (Int32.ofInt 0) (x166F_148 p (((nt_u (nt_u (nt_u (nt_u (nt_u (nt_u (x166F_56 p (J (p 4) 9) ((Int32.ofInt 212).toNatClampNeg) (Int32.ofInt 0) J) (p 4) 0 (J (p 0) 7)) (p 4) 1 (J (p 0) 8)) (p 4) 2 (J (p 0) 9)) (p 4) 3 (J (p 0) 10)) (p 4) 5 (Int32.ofInt 30)) (p 4) 9 (J (p 4) 9)) (p 0) 8).toNatClampNeg) (Int32.ofInt 0) (nt_u (nt_u (nt_u (nt_u (nt_u (nt_u (x166F_56 p (J (p 4) 9) ((Int32.ofInt 212).toNatClampNeg) (Int32.ofInt 0) J) (p 4) 0 (J (p 0) 7)) (p 4) 1 (J (p 0) 8)) (p 4) 2 (J (p 0) 9)) (p 4) 3 (J (p 0) 10)) (p 4) 5 (Int32.ofInt 30)) (p 4) 9 (J (p 4) 9))))) _ := k
    have k := ly_revb 2 (c' := (285, [(2, .int (Int32.ofInt 0)), (0, .ref (p 0)), (1, .int (J (p 4) 9)), (3, .int w3)], [], me_w M (x166F_219 p (((x166F_148 p (((nt_u (nt_u (nt_u (nt_u (nt_u (nt_u (x166F_56 p (J (p 4) 9) ((Int32.ofInt 212).toNatClampNeg) (Int32.ofInt 0) J) (p 4) 0 (J (p 0) 7)) (p 4) 1 (J (p 0) 8)) (p 4) 2 (J (p 0) 9)) (p 4) 3 (J (p 0) 10)) (p 4) 5 (Int32.ofInt 30)) (p 4) 9 (J (p 4) 9)) (p 0) 8).toNatClampNeg) (Int32.ofInt 0) (nt_u (nt_u (nt_u (nt_u (nt_u (nt_u (x166F_56 p (J (p 4) 9) ((Int32.ofInt 212).toNatClampNeg) (Int32.ofInt 0) J) (p 4) 0 (J (p 0) 7)) (p 4) 1 (J (p 0) 8)) (p 4) 2 (J (p 0) 9)) (p 4) 3 (J (p 0) 10)) (p 4) 5 (Int32.ofInt 30)) (p 4) 9 (J (p 4) 9))) (p 0) 9).toNatClampNeg) (Int32.ofInt 0) (x166F_148 p (((nt_u (nt_u (nt_u (nt_u (nt_u (nt_u (x166F_56 p (J (p 4) 9) ((Int32.ofInt 212).toNatClampNeg) (Int32.ofInt 0) J) (p 4) 0 (J (p 0) 7)) (p 4) 1 (J (p 0) 8)) (p 4) 2 (J (p 0) 9)) (p 4) 3 (J (p 0) 10)) (p 4) 5 (Int32.ofInt 30)) (p 4) 9 (J (p 4) 9)) (p 0) 8).toNatClampNeg) (Int32.ofInt 0) (nt_u (nt_u (nt_u (nt_u (nt_u (nt_u (x166F_56 p (J (p 4) 9) ((Int32.ofInt 212).toNatClampNeg) (Int32.ofInt 0) J) (p 4) 0 (J (p 0) 7)) (p 4) 1 (J (p 0) 8)) (p 4) 2 (J (p 0) 9)) (p 4) 3 (J (p 0) 10)) (p 4) 5 (Int32.ofInt 30)) (p 4) 9 (J (p 4) 9)))))) rfl k
    have k := nt_rn_w (a := [(2, .int (Int32.ofInt 0)), (0, .ref (p 0)), (1, .int (J (p 4) 9)), (3, .int w3)]) (b := [(0, .ref (p 0)), (1, .int (J (p 4) 9)), (2, .int (Int32.ofInt 0)), (3, .int w3)]) ⟨rfl, rfl, rfl, rfl, trivial⟩ rfl k
    have k := xt166F_285 hp  (((x166F_219 p (((x166F_148 p (((nt_u (nt_u (nt_u (nt_u (nt_u (nt_u (x166F_56 p (J (p 4) 9) ((Int32.ofInt 212).toNatClampNeg) (Int32.ofInt 0) J) (p 4) 0 (J (p 0) 7)) (p 4) 1 (J (p 0) 8)) (p 4) 2 (J (p 0) 9)) (p 4) 3 (J (p 0) 10)) (p 4) 5 (Int32.ofInt 30)) (p 4) 9 (J (p 4) 9)) (p 0) 8).toNatClampNeg) (Int32.ofInt 0) (nt_u (nt_u (nt_u (nt_u (nt_u (nt_u (x166F_56 p (J (p 4) 9) ((Int32.ofInt 212).toNatClampNeg) (Int32.ofInt 0) J) (p 4) 0 (J (p 0) 7)) (p 4) 1 (J (p 0) 8)) (p 4) 2 (J (p 0) 9)) (p 4) 3 (J (p 0) 10)) (p 4) 5 (Int32.ofInt 30)) (p 4) 9 (J (p 4) 9))) (p 0) 9).toNatClampNeg) (Int32.ofInt 0) (x166F_148 p (((nt_u (nt_u (nt_u (nt_u (nt_u (nt_u (x166F_56 p (J (p 4) 9) ((Int32.ofInt 212).toNatClampNeg) (Int32.ofInt 0) J) (p 4) 0 (J (p 0) 7)) (p 4) 1 (J (p 0) 8)) (p 4) 2 (J (p 0) 9)) (p 4) 3 (J (p 0) 10)) (p 4) 5 (Int32.ofInt 30)) (p 4) 9 (J (p 4) 9)) (p 0) 8).toNatClampNeg) (Int32.ofInt 0) (nt_u (nt_u (nt_u (nt_u (nt_u (nt_u (x166F_56 p (J (p 4) 9) ((Int32.ofInt 212).toNatClampNeg) (Int32.ofInt 0) J) (p 4) 0 (J (p 0) 7)) (p 4) 1 (J (p 0) 8)) (p 4) 2 (J (p 0) 9)) (p 4) 3 (J (p 0) 10)) (p 4) 5 (Int32.ofInt 30)) (p 4) 9 (J (p 4) 9)))) (p 0) 10).toNatClampNeg) (Int32.ofInt 0) w3 (x166F_219 p (((x166F_148 p (((nt_u (nt_u (nt_u (nt_u (nt_u (nt_u (x166F_56 p (J (p 4) 9) ((Int32.ofInt 212).toNatClampNeg) (Int32.ofInt 0) J) (p 4) 0 (J (p 0) 7)) (p 4) 1 (J (p 0) 8)) (p 4) 2 (J (p 0) 9)) (p 4) 3 (J (p 0) 10)) (p 4) 5 (Int32.ofInt 30)) (p 4) 9 (J (p 4) 9)) (p 0) 8).toNatClampNeg) (Int32.ofInt 0) (nt_u (nt_u (nt_u (nt_u (nt_u (nt_u (x166F_56 p (J (p 4) 9) ((Int32.ofInt 212).toNatClampNeg) (Int32.ofInt 0) J) (p 4) 0 (J (p 0) 7)) (p 4) 1 (J (p 0) 8)) (p 4) 2 (J (p 0) 9)) (p 4) 3 (J (p 0) 10)) (p 4) 5 (Int32.ofInt 30)) (p 4) 9 (J (p 4) 9))) (p 0) 9).toNatClampNeg) (Int32.ofInt 0) (x166F_148 p (((nt_u (nt_u (nt_u (nt_u (nt_u (nt_u (x166F_56 p (J (p 4) 9) ((Int32.ofInt 212).toNatClampNeg) (Int32.ofInt 0) J) (p 4) 0 (J (p 0) 7)) (p 4) 1 (J (p 0) 8)) (p 4) 2 (J (p 0) 9)) (p 4) 3 (J (p 0) 10)) (p 4) 5 (Int32.ofInt 30)) (p 4) 9 (J (p 4) 9)) (p 0) 8).toNatClampNeg) (Int32.ofInt 0) (nt_u (nt_u (nt_u (nt_u (nt_u (nt_u (x166F_56 p (J (p 4) 9) ((Int32.ofInt 212).toNatClampNeg) (Int32.ofInt 0) J) (p 4) 0 (J (p 0) 7)) (p 4) 1 (J (p 0) 8)) (p 4) 2 (J (p 0) 9)) (p 4) 3 (J (p 0) 10)) (p 4) 5 (Int32.ofInt 30)) (p 4) 9 (J (p 4) 9)))) (lx_beg (by decide)) k
    obtain ⟨w2, w3, k⟩ := k
    have k : nt_rn X _ 166 (336, [(0, .ref (p 0)), (1, .int (J (p 4) 9)), (2, .int w2), (3, .int w3)], [], me_w M (x166F_285 p (((x166F_219 p (((x166F_148 p (((nt_u (nt_u (nt_u (nt_u (nt_u (nt_u (x166F_56 p (J (p 4) 9) ((Int32.ofInt 212).toNatClampNeg) (Int32.ofInt 0) J) (p 4) 0 (J (p 0) 7)) (p 4) 1 (J (p 0) 8)) (p 4) 2 (J (p 0) 9)) (p 4) 3 (J (p 0) 10)) (p 4) 5 (Int32.ofInt 30)) (p 4) 9 (J (p 4) 9)) (p 0) 8).toNatClampNeg) (Int32.ofInt 0) (nt_u (nt_u (nt_u (nt_u (nt_u (nt_u (x166F_56 p (J (p 4) 9) ((Int32.ofInt 212).toNatClampNeg) (Int32.ofInt 0) J) (p 4) 0 (J (p 0) 7)) (p 4) 1 (J (p 0) 8)) (p 4) 2 (J (p 0) 9)) (p 4) 3 (J (p 0) 10)) (p 4) 5 (Int32.ofInt 30)) (p 4) 9 (J (p 4) 9))) (p 0) 9).toNatClampNeg) (Int32.ofInt 0) (x166F_148 p (((nt_u (nt_u (nt_u (nt_u (nt_u (nt_u (x166F_56 p (J (p 4) 9) ((Int32.ofInt 212).toNatClampNeg) (Int32.ofInt 0) J) (p 4) 0 (J (p 0) 7)) (p 4) 1 (J (p 0) 8)) (p 4) 2 (J (p 0) 9)) (p 4) 3 (J (p 0) 10)) (p 4) 5 (Int32.ofInt 30)) (p 4) 9 (J (p 4) 9)) (p 0) 8).toNatClampNeg) (Int32.ofInt 0) (nt_u (nt_u (nt_u (nt_u (nt_u (nt_u (x166F_56 p (J (p 4) 9) ((Int32.ofInt 212).toNatClampNeg) (Int32.ofInt 0) J) (p 4) 0 (J (p 0) 7)) (p 4) 1 (J (p 0) 8)) (p 4) 2 (J (p 0) 9)) (p 4) 3 (J (p 0) 10)) (p 4) 5 (Int32.ofInt 30)) (p 4) 9 (J (p 4) 9)))) (p 0) 10).toNatClampNeg) (Int32.ofInt 0) (x166F_219 p (((x166F_148 p (((nt_u (nt_u (nt_u (nt_u (nt_u (nt_u (x166F_56 p (J (p 4) 9) ((Int32.ofInt 212).toNatClampNeg) (Int32.ofInt 0) J) (p 4) 0 (J (p 0) 7)) (p 4) 1 (J (p 0) 8)) (p 4) 2 (J (p 0) 9)) (p 4) 3 (J (p 0) 10)) (p 4) 5 (Int32.ofInt 30)) (p 4) 9 (J (p 4) 9)) (p 0) 8).toNatClampNeg) (Int32.ofInt 0) (nt_u (nt_u (nt_u (nt_u (nt_u (nt_u (x166F_56 p (J (p 4) 9) ((Int32.ofInt 212).toNatClampNeg) (Int32.ofInt 0) J) (p 4) 0 (J (p 0) 7)) (p 4) 1 (J (p 0) 8)) (p 4) 2 (J (p 0) 9)) (p 4) 3 (J (p 0) 10)) (p 4) 5 (Int32.ofInt 30)) (p 4) 9 (J (p 4) 9))) (p 0) 9).toNatClampNeg) (Int32.ofInt 0) (x166F_148 p (((nt_u (nt_u (nt_u (nt_u (nt_u (nt_u (x166F_56 p (J (p 4) 9) ((Int32.ofInt 212).toNatClampNeg) (Int32.ofInt 0) J) (p 4) 0 (J (p 0) 7)) (p 4) 1 (J (p 0) 8)) (p 4) 2 (J (p 0) 9)) (p 4) 3 (J (p 0) 10)) (p 4) 5 (Int32.ofInt 30)) (p 4) 9 (J (p 4) 9)) (p 0) 8).toNatClampNeg) (Int32.ofInt 0) (nt_u (nt_u (nt_u (nt_u (nt_u (nt_u (x166F_56 p (J (p 4) 9) ((Int32.ofInt 212).toNatClampNeg) (Int32.ofInt 0) J) (p 4) 0 (J (p 0) 7)) (p 4) 1 (J (p 0) 8)) (p 4) 2 (J (p 0) 9)) (p 4) 3 (J (p 0) 10)) (p 4) 5 (Int32.ofInt 30)) (p 4) 9 (J (p 4) 9)))))) _ := k
    have k := ly_revb 1 (c' := (337, [(0, .ref (p 0)), (1, .int (J (p 4) 9)), (2, .int w2), (3, .int w3)], [.ref (p 0)], me_w M (x166F_285 p (((x166F_219 p (((x166F_148 p (((nt_u (nt_u (nt_u (nt_u (nt_u (nt_u (x166F_56 p (J (p 4) 9) ((Int32.ofInt 212).toNatClampNeg) (Int32.ofInt 0) J) (p 4) 0 (J (p 0) 7)) (p 4) 1 (J (p 0) 8)) (p 4) 2 (J (p 0) 9)) (p 4) 3 (J (p 0) 10)) (p 4) 5 (Int32.ofInt 30)) (p 4) 9 (J (p 4) 9)) (p 0) 8).toNatClampNeg) (Int32.ofInt 0) (nt_u (nt_u (nt_u (nt_u (nt_u (nt_u (x166F_56 p (J (p 4) 9) ((Int32.ofInt 212).toNatClampNeg) (Int32.ofInt 0) J) (p 4) 0 (J (p 0) 7)) (p 4) 1 (J (p 0) 8)) (p 4) 2 (J (p 0) 9)) (p 4) 3 (J (p 0) 10)) (p 4) 5 (Int32.ofInt 30)) (p 4) 9 (J (p 4) 9))) (p 0) 9).toNatClampNeg) (Int32.ofInt 0) (x166F_148 p (((nt_u (nt_u (nt_u (nt_u (nt_u (nt_u (x166F_56 p (J (p 4) 9) ((Int32.ofInt 212).toNatClampNeg) (Int32.ofInt 0) J) (p 4) 0 (J (p 0) 7)) (p 4) 1 (J (p 0) 8)) (p 4) 2 (J (p 0) 9)) (p 4) 3 (J (p 0) 10)) (p 4) 5 (Int32.ofInt 30)) (p 4) 9 (J (p 4) 9)) (p 0) 8).toNatClampNeg) (Int32.ofInt 0) (nt_u (nt_u (nt_u (nt_u (nt_u (nt_u (x166F_56 p (J (p 4) 9) ((Int32.ofInt 212).toNatClampNeg) (Int32.ofInt 0) J) (p 4) 0 (J (p 0) 7)) (p 4) 1 (J (p 0) 8)) (p 4) 2 (J (p 0) 9)) (p 4) 3 (J (p 0) 10)) (p 4) 5 (Int32.ofInt 30)) (p 4) 9 (J (p 4) 9)))) (p 0) 10).toNatClampNeg) (Int32.ofInt 0) (x166F_219 p (((x166F_148 p (((nt_u (nt_u (nt_u (nt_u (nt_u (nt_u (x166F_56 p (J (p 4) 9) ((Int32.ofInt 212).toNatClampNeg) (Int32.ofInt 0) J) (p 4) 0 (J (p 0) 7)) (p 4) 1 (J (p 0) 8)) (p 4) 2 (J (p 0) 9)) (p 4) 3 (J (p 0) 10)) (p 4) 5 (Int32.ofInt 30)) (p 4) 9 (J (p 4) 9)) (p 0) 8).toNatClampNeg) (Int32.ofInt 0) (nt_u (nt_u (nt_u (nt_u (nt_u (nt_u (x166F_56 p (J (p 4) 9) ((Int32.ofInt 212).toNatClampNeg) (Int32.ofInt 0) J) (p 4) 0 (J (p 0) 7)) (p 4) 1 (J (p 0) 8)) (p 4) 2 (J (p 0) 9)) (p 4) 3 (J (p 0) 10)) (p 4) 5 (Int32.ofInt 30)) (p 4) 9 (J (p 4) 9))) (p 0) 9).toNatClampNeg) (Int32.ofInt 0) (x166F_148 p (((nt_u (nt_u (nt_u (nt_u (nt_u (nt_u (x166F_56 p (J (p 4) 9) ((Int32.ofInt 212).toNatClampNeg) (Int32.ofInt 0) J) (p 4) 0 (J (p 0) 7)) (p 4) 1 (J (p 0) 8)) (p 4) 2 (J (p 0) 9)) (p 4) 3 (J (p 0) 10)) (p 4) 5 (Int32.ofInt 30)) (p 4) 9 (J (p 4) 9)) (p 0) 8).toNatClampNeg) (Int32.ofInt 0) (nt_u (nt_u (nt_u (nt_u (nt_u (nt_u (x166F_56 p (J (p 4) 9) ((Int32.ofInt 212).toNatClampNeg) (Int32.ofInt 0) J) (p 4) 0 (J (p 0) 7)) (p 4) 1 (J (p 0) 8)) (p 4) 2 (J (p 0) 9)) (p 4) 3 (J (p 0) 10)) (p 4) 5 (Int32.ofInt 30)) (p 4) 9 (J (p 4) 9))))))) rfl k
    have k := lz_get (a := (p 0)) (g := 1108) (M := me_w M (x166F_285 p (((x166F_219 p (((x166F_148 p (((nt_u (nt_u (nt_u (nt_u (nt_u (nt_u (x166F_56 p (J (p 4) 9) ((Int32.ofInt 212).toNatClampNeg) (Int32.ofInt 0) J) (p 4) 0 (J (p 0) 7)) (p 4) 1 (J (p 0) 8)) (p 4) 2 (J (p 0) 9)) (p 4) 3 (J (p 0) 10)) (p 4) 5 (Int32.ofInt 30)) (p 4) 9 (J (p 4) 9)) (p 0) 8).toNatClampNeg) (Int32.ofInt 0) (nt_u (nt_u (nt_u (nt_u (nt_u (nt_u (x166F_56 p (J (p 4) 9) ((Int32.ofInt 212).toNatClampNeg) (Int32.ofInt 0) J) (p 4) 0 (J (p 0) 7)) (p 4) 1 (J (p 0) 8)) (p 4) 2 (J (p 0) 9)) (p 4) 3 (J (p 0) 10)) (p 4) 5 (Int32.ofInt 30)) (p 4) 9 (J (p 4) 9))) (p 0) 9).toNatClampNeg) (Int32.ofInt 0) (x166F_148 p (((nt_u (nt_u (nt_u (nt_u (nt_u (nt_u (x166F_56 p (J (p 4) 9) ((Int32.ofInt 212).toNatClampNeg) (Int32.ofInt 0) J) (p 4) 0 (J (p 0) 7)) (p 4) 1 (J (p 0) 8)) (p 4) 2 (J (p 0) 9)) (p 4) 3 (J (p 0) 10)) (p 4) 5 (Int32.ofInt 30)) (p 4) 9 (J (p 4) 9)) (p 0) 8).toNatClampNeg) (Int32.ofInt 0) (nt_u (nt_u (nt_u (nt_u (nt_u (nt_u (x166F_56 p (J (p 4) 9) ((Int32.ofInt 212).toNatClampNeg) (Int32.ofInt 0) J) (p 4) 0 (J (p 0) 7)) (p 4) 1 (J (p 0) 8)) (p 4) 2 (J (p 0) 9)) (p 4) 3 (J (p 0) 10)) (p 4) 5 (Int32.ofInt 30)) (p 4) 9 (J (p 4) 9)))) (p 0) 10).toNatClampNeg) (Int32.ofInt 0) (x166F_219 p (((x166F_148 p (((nt_u (nt_u (nt_u (nt_u (nt_u (nt_u (x166F_56 p (J (p 4) 9) ((Int32.ofInt 212).toNatClampNeg) (Int32.ofInt 0) J) (p 4) 0 (J (p 0) 7)) (p 4) 1 (J (p 0) 8)) (p 4) 2 (J (p 0) 9)) (p 4) 3 (J (p 0) 10)) (p 4) 5 (Int32.ofInt 30)) (p 4) 9 (J (p 4) 9)) (p 0) 8).toNatClampNeg) (Int32.ofInt 0) (nt_u (nt_u (nt_u (nt_u (nt_u (nt_u (x166F_56 p (J (p 4) 9) ((Int32.ofInt 212).toNatClampNeg) (Int32.ofInt 0) J) (p 4) 0 (J (p 0) 7)) (p 4) 1 (J (p 0) 8)) (p 4) 2 (J (p 0) 9)) (p 4) 3 (J (p 0) 10)) (p 4) 5 (Int32.ofInt 30)) (p 4) 9 (J (p 4) 9))) (p 0) 9).toNatClampNeg) (Int32.ofInt 0) (x166F_148 p (((nt_u (nt_u (nt_u (nt_u (nt_u (nt_u (x166F_56 p (J (p 4) 9) ((Int32.ofInt 212).toNatClampNeg) (Int32.ofInt 0) J) (p 4) 0 (J (p 0) 7)) (p 4) 1 (J (p 0) 8)) (p 4) 2 (J (p 0) 9)) (p 4) 3 (J (p 0) 10)) (p 4) 5 (Int32.ofInt 30)) (p 4) 9 (J (p 4) 9)) (p 0) 8).toNatClampNeg) (Int32.ofInt 0) (nt_u (nt_u (nt_u (nt_u (nt_u (nt_u (x166F_56 p (J (p 4) 9) ((Int32.ofInt 212).toNatClampNeg) (Int32.ofInt 0) J) (p 4) 0 (J (p 0) 7)) (p 4) 1 (J (p 0) 8)) (p 4) 2 (J (p 0) 9)) (p 4) 3 (J (p 0) 10)) (p 4) 5 (Int32.ofInt 30)) (p 4) 9 (J (p 4) 9)))))) (v := .int (J (p 0) 8)) rfl (mw_gI (by decide) ((congrFun (x166F_285_frJ _ _ _ (hp.2.1 0 4 (by omega) (by omega) (by decide))) 8).trans ((congrFun (x166F_219_frJ _ _ _ (hp.2.1 0 4 (by omega) (by omega) (by decide))) 8).trans ((congrFun (x166F_148_frJ _ _ _ (hp.2.1 0 4 (by omega) (by omega) (by decide))) 8).trans ((mu_j (hp.2.1 0 4 (by omega) (by omega) (by decide))).trans ((mu_j (hp.2.1 0 4 (by omega) (by omega) (by decide))).trans ((mu_j (hp.2.1 0 4 (by omega) (by omega) (by decide))).trans ((mu_j (hp.2.1 0 4 (by omega) (by omega) (by decide))).trans ((mu_j (hp.2.1 0 4 (by omega) (by omega) (by decide))).trans ((mu_j (hp.2.1 0 4 (by omega) (by omega) (by decide))).trans (congrFun (x166F_56_frJ _ _ _ (hp.2.1 0 4 (by omega) (by omega) (by decide))) 8))))))))))) k
    have k := lz_ri rfl (by decide) k
    rw [k, x166F, if_neg h125]
theorem x166F_frJ {p : Nat → Nat} {J : Nat → Nat → Int32} {b : Nat} (n0 : b ≠ p 4) : (x166F p J).2 b = J b := by
  unfold x166F
  by_cases h : 0 ≤ (J (p 0) 11)
  · rw [if_pos h]
    all_goals first | (dsimp only; exact (show (x166F_285 p (((x166F_219 p (((x166F_148 p (((nt_u (nt_u (nt_u (nt_u (nt_u (nt_u (x166F_56 p (J (p 4) 9) ((Int32.ofInt 212).toNatClampNeg) (Int32.ofInt 0) J) (p 4) 0 (J (p 0) 7)) (p 4) 1 (J (p 0) 8)) (p 4) 2 (J (p 0) 9)) (p 4) 3 (J (p 0) 10)) (p 4) 5 (J (p 0) 11)) (p 4) 9 (J (p 4) 9)) (p 0) 8).toNatClampNeg) (Int32.ofInt 0) (nt_u (nt_u (nt_u (nt_u (nt_u (nt_u (x166F_56 p (J (p 4) 9) ((Int32.ofInt 212).toNatClampNeg) (Int32.ofInt 0) J) (p 4) 0 (J (p 0) 7)) (p 4) 1 (J (p 0) 8)) (p 4) 2 (J (p 0) 9)) (p 4) 3 (J (p 0) 10)) (p 4) 5 (J (p 0) 11)) (p 4) 9 (J (p 4) 9))) (p 0) 9).toNatClampNeg) (Int32.ofInt 0) (x166F_148 p (((nt_u (nt_u (nt_u (nt_u (nt_u (nt_u (x166F_56 p (J (p 4) 9) ((Int32.ofInt 212).toNatClampNeg) (Int32.ofInt 0) J) (p 4) 0 (J (p 0) 7)) (p 4) 1 (J (p 0) 8)) (p 4) 2 (J (p 0) 9)) (p 4) 3 (J (p 0) 10)) (p 4) 5 (J (p 0) 11)) (p 4) 9 (J (p 4) 9)) (p 0) 8).toNatClampNeg) (Int32.ofInt 0) (nt_u (nt_u (nt_u (nt_u (nt_u (nt_u (x166F_56 p (J (p 4) 9) ((Int32.ofInt 212).toNatClampNeg) (Int32.ofInt 0) J) (p 4) 0 (J (p 0) 7)) (p 4) 1 (J (p 0) 8)) (p 4) 2 (J (p 0) 9)) (p 4) 3 (J (p 0) 10)) (p 4) 5 (J (p 0) 11)) (p 4) 9 (J (p 4) 9)))) (p 0) 10).toNatClampNeg) (Int32.ofInt 0) (x166F_219 p (((x166F_148 p (((nt_u (nt_u (nt_u (nt_u (nt_u (nt_u (x166F_56 p (J (p 4) 9) ((Int32.ofInt 212).toNatClampNeg) (Int32.ofInt 0) J) (p 4) 0 (J (p 0) 7)) (p 4) 1 (J (p 0) 8)) (p 4) 2 (J (p 0) 9)) (p 4) 3 (J (p 0) 10)) (p 4) 5 (J (p 0) 11)) (p 4) 9 (J (p 4) 9)) (p 0) 8).toNatClampNeg) (Int32.ofInt 0) (nt_u (nt_u (nt_u (nt_u (nt_u (nt_u (x166F_56 p (J (p 4) 9) ((Int32.ofInt 212).toNatClampNeg) (Int32.ofInt 0) J) (p 4) 0 (J (p 0) 7)) (p 4) 1 (J (p 0) 8)) (p 4) 2 (J (p 0) 9)) (p 4) 3 (J (p 0) 10)) (p 4) 5 (J (p 0) 11)) (p 4) 9 (J (p 4) 9))) (p 0) 9).toNatClampNeg) (Int32.ofInt 0) (x166F_148 p (((nt_u (nt_u (nt_u (nt_u (nt_u (nt_u (x166F_56 p (J (p 4) 9) ((Int32.ofInt 212).toNatClampNeg) (Int32.ofInt 0) J) (p 4) 0 (J (p 0) 7)) (p 4) 1 (J (p 0) 8)) (p 4) 2 (J (p 0) 9)) (p 4) 3 (J (p 0) 10)) (p 4) 5 (J (p 0) 11)) (p 4) 9 (J (p 4) 9)) (p 0) 8).toNatClampNeg) (Int32.ofInt 0) (nt_u (nt_u (nt_u (nt_u (nt_u (nt_u (x166F_56 p (J (p 4) 9) ((Int32.ofInt 212).toNatClampNeg) (Int32.ofInt 0) J) (p 4) 0 (J (p 0) 7)) (p 4) 1 (J (p 0) 8)) (p 4) 2 (J (p 0) 9)) (p 4) 3 (J (p 0) 10)) (p 4) 5 (J (p 0) 11)) (p 4) 9 (J (p 4) 9))))) b = J b from (x166F_285_frJ _ _ _ n0).trans ((x166F_219_frJ _ _ _ n0).trans ((x166F_148_frJ _ _ _ n0).trans ((mu_o n0).trans ((mu_o n0).trans ((mu_o n0).trans ((mu_o n0).trans ((mu_o n0).trans ((mu_o n0).trans (x166F_56_frJ _ _ _ n0))))))))))) | exact (show (x166F_285 p (((x166F_219 p (((x166F_148 p (((nt_u (nt_u (nt_u (nt_u (nt_u (nt_u (x166F_56 p (J (p 4) 9) ((Int32.ofInt 212).toNatClampNeg) (Int32.ofInt 0) J) (p 4) 0 (J (p 0) 7)) (p 4) 1 (J (p 0) 8)) (p 4) 2 (J (p 0) 9)) (p 4) 3 (J (p 0) 10)) (p 4) 5 (J (p 0) 11)) (p 4) 9 (J (p 4) 9)) (p 0) 8).toNatClampNeg) (Int32.ofInt 0) (nt_u (nt_u (nt_u (nt_u (nt_u (nt_u (x166F_56 p (J (p 4) 9) ((Int32.ofInt 212).toNatClampNeg) (Int32.ofInt 0) J) (p 4) 0 (J (p 0) 7)) (p 4) 1 (J (p 0) 8)) (p 4) 2 (J (p 0) 9)) (p 4) 3 (J (p 0) 10)) (p 4) 5 (J (p 0) 11)) (p 4) 9 (J (p 4) 9))) (p 0) 9).toNatClampNeg) (Int32.ofInt 0) (x166F_148 p (((nt_u (nt_u (nt_u (nt_u (nt_u (nt_u (x166F_56 p (J (p 4) 9) ((Int32.ofInt 212).toNatClampNeg) (Int32.ofInt 0) J) (p 4) 0 (J (p 0) 7)) (p 4) 1 (J (p 0) 8)) (p 4) 2 (J (p 0) 9)) (p 4) 3 (J (p 0) 10)) (p 4) 5 (J (p 0) 11)) (p 4) 9 (J (p 4) 9)) (p 0) 8).toNatClampNeg) (Int32.ofInt 0) (nt_u (nt_u (nt_u (nt_u (nt_u (nt_u (x166F_56 p (J (p 4) 9) ((Int32.ofInt 212).toNatClampNeg) (Int32.ofInt 0) J) (p 4) 0 (J (p 0) 7)) (p 4) 1 (J (p 0) 8)) (p 4) 2 (J (p 0) 9)) (p 4) 3 (J (p 0) 10)) (p 4) 5 (J (p 0) 11)) (p 4) 9 (J (p 4) 9)))) (p 0) 10).toNatClampNeg) (Int32.ofInt 0) (x166F_219 p (((x166F_148 p (((nt_u (nt_u (nt_u (nt_u (nt_u (nt_u (x166F_56 p (J (p 4) 9) ((Int32.ofInt 212).toNatClampNeg) (Int32.ofInt 0) J) (p 4) 0 (J (p 0) 7)) (p 4) 1 (J (p 0) 8)) (p 4) 2 (J (p 0) 9)) (p 4) 3 (J (p 0) 10)) (p 4) 5 (J (p 0) 11)) (p 4) 9 (J (p 4) 9)) (p 0) 8).toNatClampNeg) (Int32.ofInt 0) (nt_u (nt_u (nt_u (nt_u (nt_u (nt_u (x166F_56 p (J (p 4) 9) ((Int32.ofInt 212).toNatClampNeg) (Int32.ofInt 0) J) (p 4) 0 (J (p 0) 7)) (p 4) 1 (J (p 0) 8)) (p 4) 2 (J (p 0) 9)) (p 4) 3 (J (p 0) 10)) (p 4) 5 (J (p 0) 11)) (p 4) 9 (J (p 4) 9))) (p 0) 9).toNatClampNeg) (Int32.ofInt 0) (x166F_148 p (((nt_u (nt_u (nt_u (nt_u (nt_u (nt_u (x166F_56 p (J (p 4) 9) ((Int32.ofInt 212).toNatClampNeg) (Int32.ofInt 0) J) (p 4) 0 (J (p 0) 7)) (p 4) 1 (J (p 0) 8)) (p 4) 2 (J (p 0) 9)) (p 4) 3 (J (p 0) 10)) (p 4) 5 (J (p 0) 11)) (p 4) 9 (J (p 4) 9)) (p 0) 8).toNatClampNeg) (Int32.ofInt 0) (nt_u (nt_u (nt_u (nt_u (nt_u (nt_u (x166F_56 p (J (p 4) 9) ((Int32.ofInt 212).toNatClampNeg) (Int32.ofInt 0) J) (p 4) 0 (J (p 0) 7)) (p 4) 1 (J (p 0) 8)) (p 4) 2 (J (p 0) 9)) (p 4) 3 (J (p 0) 10)) (p 4) 5 (J (p 0) 11)) (p 4) 9 (J (p 4) 9))))) b = J b from (x166F_285_frJ _ _ _ n0).trans ((x166F_219_frJ _ _ _ n0).trans ((x166F_148_frJ _ _ _ n0).trans ((mu_o n0).trans ((mu_o n0).trans ((mu_o n0).trans ((mu_o n0).trans ((mu_o n0).trans ((mu_o n0).trans (x166F_56_frJ _ _ _ n0))))))))))
  · rw [if_neg h]
    all_goals first | (dsimp only; exact (show (x166F_285 p (((x166F_219 p (((x166F_148 p (((nt_u (nt_u (nt_u (nt_u (nt_u (nt_u (x166F_56 p (J (p 4) 9) ((Int32.ofInt 212).toNatClampNeg) (Int32.ofInt 0) J) (p 4) 0 (J (p 0) 7)) (p 4) 1 (J (p 0) 8)) (p 4) 2 (J (p 0) 9)) (p 4) 3 (J (p 0) 10)) (p 4) 5 (Int32.ofInt 30)) (p 4) 9 (J (p 4) 9)) (p 0) 8).toNatClampNeg) (Int32.ofInt 0) (nt_u (nt_u (nt_u (nt_u (nt_u (nt_u (x166F_56 p (J (p 4) 9) ((Int32.ofInt 212).toNatClampNeg) (Int32.ofInt 0) J) (p 4) 0 (J (p 0) 7)) (p 4) 1 (J (p 0) 8)) (p 4) 2 (J (p 0) 9)) (p 4) 3 (J (p 0) 10)) (p 4) 5 (Int32.ofInt 30)) (p 4) 9 (J (p 4) 9))) (p 0) 9).toNatClampNeg) (Int32.ofInt 0) (x166F_148 p (((nt_u (nt_u (nt_u (nt_u (nt_u (nt_u (x166F_56 p (J (p 4) 9) ((Int32.ofInt 212).toNatClampNeg) (Int32.ofInt 0) J) (p 4) 0 (J (p 0) 7)) (p 4) 1 (J (p 0) 8)) (p 4) 2 (J (p 0) 9)) (p 4) 3 (J (p 0) 10)) (p 4) 5 (Int32.ofInt 30)) (p 4) 9 (J (p 4) 9)) (p 0) 8).toNatClampNeg) (Int32.ofInt 0) (nt_u (nt_u (nt_u (nt_u (nt_u (nt_u (x166F_56 p (J (p 4) 9) ((Int32.ofInt 212).toNatClampNeg) (Int32.ofInt 0) J) (p 4) 0 (J (p 0) 7)) (p 4) 1 (J (p 0) 8)) (p 4) 2 (J (p 0) 9)) (p 4) 3 (J (p 0) 10)) (p 4) 5 (Int32.ofInt 30)) (p 4) 9 (J (p 4) 9)))) (p 0) 10).toNatClampNeg) (Int32.ofInt 0) (x166F_219 p (((x166F_148 p (((nt_u (nt_u (nt_u (nt_u (nt_u (nt_u (x166F_56 p (J (p 4) 9) ((Int32.ofInt 212).toNatClampNeg) (Int32.ofInt 0) J) (p 4) 0 (J (p 0) 7)) (p 4) 1 (J (p 0) 8)) (p 4) 2 (J (p 0) 9)) (p 4) 3 (J (p 0) 10)) (p 4) 5 (Int32.ofInt 30)) (p 4) 9 (J (p 4) 9)) (p 0) 8).toNatClampNeg) (Int32.ofInt 0) (nt_u (nt_u (nt_u (nt_u (nt_u (nt_u (x166F_56 p (J (p 4) 9) ((Int32.ofInt 212).toNatClampNeg) (Int32.ofInt 0) J) (p 4) 0 (J (p 0) 7)) (p 4) 1 (J (p 0) 8)) (p 4) 2 (J (p 0) 9)) (p 4) 3 (J (p 0) 10)) (p 4) 5 (Int32.ofInt 30)) (p 4) 9 (J (p 4) 9))) (p 0) 9).toNatClampNeg) (Int32.ofInt 0) (x166F_148 p (((nt_u (nt_u (nt_u (nt_u (nt_u (nt_u (x166F_56 p (J (p 4) 9) ((Int32.ofInt 212).toNatClampNeg) (Int32.ofInt 0) J) (p 4) 0 (J (p 0) 7)) (p 4) 1 (J (p 0) 8)) (p 4) 2 (J (p 0) 9)) (p 4) 3 (J (p 0) 10)) (p 4) 5 (Int32.ofInt 30)) (p 4) 9 (J (p 4) 9)) (p 0) 8).toNatClampNeg) (Int32.ofInt 0) (nt_u (nt_u (nt_u (nt_u (nt_u (nt_u (x166F_56 p (J (p 4) 9) ((Int32.ofInt 212).toNatClampNeg) (Int32.ofInt 0) J) (p 4) 0 (J (p 0) 7)) (p 4) 1 (J (p 0) 8)) (p 4) 2 (J (p 0) 9)) (p 4) 3 (J (p 0) 10)) (p 4) 5 (Int32.ofInt 30)) (p 4) 9 (J (p 4) 9))))) b = J b from (x166F_285_frJ _ _ _ n0).trans ((x166F_219_frJ _ _ _ n0).trans ((x166F_148_frJ _ _ _ n0).trans ((mu_o n0).trans ((mu_o n0).trans ((mu_o n0).trans ((mu_o n0).trans ((mu_o n0).trans ((mu_o n0).trans (x166F_56_frJ _ _ _ n0))))))))))) | exact (show (x166F_285 p (((x166F_219 p (((x166F_148 p (((nt_u (nt_u (nt_u (nt_u (nt_u (nt_u (x166F_56 p (J (p 4) 9) ((Int32.ofInt 212).toNatClampNeg) (Int32.ofInt 0) J) (p 4) 0 (J (p 0) 7)) (p 4) 1 (J (p 0) 8)) (p 4) 2 (J (p 0) 9)) (p 4) 3 (J (p 0) 10)) (p 4) 5 (Int32.ofInt 30)) (p 4) 9 (J (p 4) 9)) (p 0) 8).toNatClampNeg) (Int32.ofInt 0) (nt_u (nt_u (nt_u (nt_u (nt_u (nt_u (x166F_56 p (J (p 4) 9) ((Int32.ofInt 212).toNatClampNeg) (Int32.ofInt 0) J) (p 4) 0 (J (p 0) 7)) (p 4) 1 (J (p 0) 8)) (p 4) 2 (J (p 0) 9)) (p 4) 3 (J (p 0) 10)) (p 4) 5 (Int32.ofInt 30)) (p 4) 9 (J (p 4) 9))) (p 0) 9).toNatClampNeg) (Int32.ofInt 0) (x166F_148 p (((nt_u (nt_u (nt_u (nt_u (nt_u (nt_u (x166F_56 p (J (p 4) 9) ((Int32.ofInt 212).toNatClampNeg) (Int32.ofInt 0) J) (p 4) 0 (J (p 0) 7)) (p 4) 1 (J (p 0) 8)) (p 4) 2 (J (p 0) 9)) (p 4) 3 (J (p 0) 10)) (p 4) 5 (Int32.ofInt 30)) (p 4) 9 (J (p 4) 9)) (p 0) 8).toNatClampNeg) (Int32.ofInt 0) (nt_u (nt_u (nt_u (nt_u (nt_u (nt_u (x166F_56 p (J (p 4) 9) ((Int32.ofInt 212).toNatClampNeg) (Int32.ofInt 0) J) (p 4) 0 (J (p 0) 7)) (p 4) 1 (J (p 0) 8)) (p 4) 2 (J (p 0) 9)) (p 4) 3 (J (p 0) 10)) (p 4) 5 (Int32.ofInt 30)) (p 4) 9 (J (p 4) 9)))) (p 0) 10).toNatClampNeg) (Int32.ofInt 0) (x166F_219 p (((x166F_148 p (((nt_u (nt_u (nt_u (nt_u (nt_u (nt_u (x166F_56 p (J (p 4) 9) ((Int32.ofInt 212).toNatClampNeg) (Int32.ofInt 0) J) (p 4) 0 (J (p 0) 7)) (p 4) 1 (J (p 0) 8)) (p 4) 2 (J (p 0) 9)) (p 4) 3 (J (p 0) 10)) (p 4) 5 (Int32.ofInt 30)) (p 4) 9 (J (p 4) 9)) (p 0) 8).toNatClampNeg) (Int32.ofInt 0) (nt_u (nt_u (nt_u (nt_u (nt_u (nt_u (x166F_56 p (J (p 4) 9) ((Int32.ofInt 212).toNatClampNeg) (Int32.ofInt 0) J) (p 4) 0 (J (p 0) 7)) (p 4) 1 (J (p 0) 8)) (p 4) 2 (J (p 0) 9)) (p 4) 3 (J (p 0) 10)) (p 4) 5 (Int32.ofInt 30)) (p 4) 9 (J (p 4) 9))) (p 0) 9).toNatClampNeg) (Int32.ofInt 0) (x166F_148 p (((nt_u (nt_u (nt_u (nt_u (nt_u (nt_u (x166F_56 p (J (p 4) 9) ((Int32.ofInt 212).toNatClampNeg) (Int32.ofInt 0) J) (p 4) 0 (J (p 0) 7)) (p 4) 1 (J (p 0) 8)) (p 4) 2 (J (p 0) 9)) (p 4) 3 (J (p 0) 10)) (p 4) 5 (Int32.ofInt 30)) (p 4) 9 (J (p 4) 9)) (p 0) 8).toNatClampNeg) (Int32.ofInt 0) (nt_u (nt_u (nt_u (nt_u (nt_u (nt_u (x166F_56 p (J (p 4) 9) ((Int32.ofInt 212).toNatClampNeg) (Int32.ofInt 0) J) (p 4) 0 (J (p 0) 7)) (p 4) 1 (J (p 0) 8)) (p 4) 2 (J (p 0) 9)) (p 4) 3 (J (p 0) 10)) (p 4) 5 (Int32.ofInt 30)) (p 4) 9 (J (p 4) 9))))) b = J b from (x166F_285_frJ _ _ _ n0).trans ((x166F_219_frJ _ _ _ n0).trans ((x166F_148_frJ _ _ _ n0).trans ((mu_o n0).trans ((mu_o n0).trans ((mu_o n0).trans ((mu_o n0).trans ((mu_o n0).trans ((mu_o n0).trans (x166F_56_frJ _ _ _ n0))))))))))
