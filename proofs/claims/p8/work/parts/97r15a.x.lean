/-! plans, both sides -/
def xs_V (M : nt_M) (p : Nat → Nat) : Prop := nt_R M (p 28) 0 = some (p 31) ∧ nt_R M (p 28) 1 = some (p 32) ∧ nt_l M (p 29) = 4 ∧ nt_l M (p 30) = 4
/-! $Plans.has -/
def x14 (v0 : Int32) (v1 : Int32) : Int32 := if ((v0 >>> (v1 &&& 31)) &&& (Int32.ofInt 1)) = 0 then (Int32.ofInt 0)
  else (Int32.ofInt 1)
theorem xt14 {X : nt_X} {d : Nat} {M : nt_M} {o : Option Value × nt_M} {v0 : Int32} {v1 : Int32} {J : Nat → Nat → Int32}  (k : nt_ev X d 14 [.int v0, .int v1] (me_w M J) o) : o = (some (.int (x14 v0 v1)), me_w M J) := by
  have k : nt_rn X d 14 (0, [(0, .int v0), (1, .int v1)], [], me_w M J) o := k
  have k := ly_revb 6 (c' := (if ((v0 >>> (v1 &&& 31)) &&& (Int32.ofInt 1)) = 0 then 12 else 8, [(0, .int v0), (1, .int v1)], [], me_w M J)) rfl k
  by_cases h5 : ((v0 >>> (v1 &&& 31)) &&& (Int32.ofInt 1)) = 0
  · rw [if_pos h5] at k
    have k := ly_revb 1 (c' := (13, [(0, .int v0), (1, .int v1)], [.int (Int32.ofInt 0)], me_w M J)) rfl k
    have k := lz_ri rfl (by decide) k
    rw [k, x14, if_pos h5]
  · rw [if_neg h5] at k
    have k := ly_revb 2 (c' := (13, [(0, .int v0), (1, .int v1)], [.int (Int32.ofInt 1)], me_w M J)) rfl k
    have k := lz_ri rfl (by decide) k
    rw [k, x14, if_neg h5]
/-! $Plans.isBetter -/
def x21 (v0 : Int32) (v1 : Int32) (v2 : Int32) (v3 : Int32) : Int32 := if v2 < v0 then (Int32.ofInt 1)
  else if v0 = v2 then if (x236 v3) ≤ (x236 v1) then (Int32.ofInt 0)
      else (Int32.ofInt 1)
    else (Int32.ofInt 0)
theorem xt21 {X : nt_X} {d : Nat} {M : nt_M} {o : Option Value × nt_M} {v0 : Int32} {v1 : Int32} {v2 : Int32} {v3 : Int32} {J : Nat → Nat → Int32}  (k : nt_ev X d 21 [.int v0, .int v1, .int v2, .int v3] (me_w M J) o) : o = (some (.int (x21 v0 v1 v2 v3)), me_w M J) := by
  have k : nt_rn X d 21 (0, [(0, .int v0), (1, .int v1), (2, .int v2), (3, .int v3)], [], me_w M J) o := k
  have k := ly_revb 3 (c' := (if v2 < v0 then 21 else 5, [(0, .int v0), (1, .int v1), (2, .int v2), (3, .int v3)], [], me_w M J)) rfl k
  by_cases h2 : v2 < v0
  · rw [if_pos h2] at k
    have k := ly_revb 2 (c' := (26, [(0, .int v0), (1, .int v1), (2, .int v2), (3, .int v3)], [.int (Int32.ofInt 1)], me_w M J)) rfl k
    have k := lz_ri rfl (by decide) k
    rw [k, x21, if_pos h2]
  · rw [if_neg h2] at k
    have k := ly_revb 3 (c' := (if v0 = v2 then 10 else 25, [(0, .int v0), (1, .int v1), (2, .int v2), (3, .int v3)], [], me_w M J)) rfl k
    by_cases h7 : v0 = v2
    · rw [if_pos h7] at k
      have k := ly_revb 1 (c' := (11, [(0, .int v0), (1, .int v1), (2, .int v2), (3, .int v3)], [.int v1], me_w M J)) rfl k
      obtain ⟨d1, o1, ed, kc, k⟩ := lz_c (g := 236) (q := 0) (vs := [.int v1]) (rest := []) rfl rfl (by decide) (Or.inl ⟨_, rfl, rfl⟩) rfl k
      have e1 := xt236  kc
      subst e1
      have k : nt_rn X _ 21 (14, [(0, .int v0), (1, .int v1), (2, .int v2), (3, .int v3)], [.int (x236 v1)], me_w M J) _ := k
      have k := ly_revb 1 (c' := (15, [(0, .int v0), (1, .int v1), (2, .int v2), (3, .int v3)], [.int v3, .int (x236 v1)], me_w M J)) rfl k
      obtain ⟨d1, o1, ed, kc, k⟩ := lz_c (g := 236) (q := 0) (vs := [.int v3]) (rest := [.int (x236 v1)]) rfl rfl (by decide) (Or.inl ⟨_, rfl, rfl⟩) rfl k
      have e1 := xt236  kc
      subst e1
      have k : nt_rn X _ 21 (18, [(0, .int v0), (1, .int v1), (2, .int v2), (3, .int v3)], [.int (x236 v3), .int (x236 v1)], me_w M J) _ := k
      have k := ly_revb 1 (c' := (if (x236 v3) ≤ (x236 v1) then 25 else 21, [(0, .int v0), (1, .int v1), (2, .int v2), (3, .int v3)], [], me_w M J)) rfl k
      by_cases h18 : (x236 v3) ≤ (x236 v1)
      · rw [if_pos h18] at k
        have k := ly_revb 1 (c' := (26, [(0, .int v0), (1, .int v1), (2, .int v2), (3, .int v3)], [.int (Int32.ofInt 0)], me_w M J)) rfl k
        have k := lz_ri rfl (by decide) k
        rw [k, x21, if_neg h2, if_pos h7, if_pos h18]
      · rw [if_neg h18] at k
        have k := ly_revb 2 (c' := (26, [(0, .int v0), (1, .int v1), (2, .int v2), (3, .int v3)], [.int (Int32.ofInt 1)], me_w M J)) rfl k
        have k := lz_ri rfl (by decide) k
        rw [k, x21, if_neg h2, if_pos h7, if_neg h18]
    · rw [if_neg h7] at k
      have k := ly_revb 1 (c' := (26, [(0, .int v0), (1, .int v1), (2, .int v2), (3, .int v3)], [.int (Int32.ofInt 0)], me_w M J)) rfl k
      have k := lz_ri rfl (by decide) k
      rw [k, x21, if_neg h2, if_neg h7]
/-! java/util/Arrays.fill -/
def x238K_5 (p : Nat → Nat) (v1 : Int32) (v3 : Int32) : Nat → Int32 → (Nat → Nat → Int32) → (Nat → Nat → Int32)
  | 0, v2, J => J
  | c + 1, v2, J => if v3 ≤ v2 then J
    else (x238K_5 p v1 v3 c (v2 + (Int32.ofInt 1)) (nt_u J (p 29) v2.toNatClampNeg v1))
theorem xt238K_5 {X : nt_X} {d : Nat} {M : nt_M} {o : Option Value × nt_M} {p : Nat → Nat} {v1 : Int32} {v3 : Int32} (hp : xs_P M p) (hv : xs_V M p) : ∀ (c : Nat) (v2 : Int32) (J : Nat → Nat → Int32), v3.toInt - v2.toInt ≤ c → nt_rn X d 238 (5, [(0, .ref (p 29)), (1, .int v1), (2, .int v2), (3, .int v3)], [], me_w M J) o → o = (none, me_w M (x238K_5 p v1 v3 c v2 J)) := by
  intro c
  induction c with
  | zero =>
    intro v2 J hc k
    have k := ly_revb 3 (c' := (if v3 ≤ v2 then 20 else 10, [(0, .ref (p 29)), (1, .int v1), (2, .int v2), (3, .int v3)], [], me_w M J)) rfl k
    have h7 : v3 ≤ v2 := lx_end hc
    rw [if_pos h7] at k
    have k := lz_rv rfl rfl k
    rw [k, x238K_5]
  | succ c ih =>
    intro v2 J hc k
    have k := ly_revb 3 (c' := (if v3 ≤ v2 then 20 else 10, [(0, .ref (p 29)), (1, .int v1), (2, .int v2), (3, .int v3)], [], me_w M J)) rfl k
    by_cases h7 : v3 ≤ v2
    · rw [if_pos h7] at k
      have k := lz_rv rfl rfl k
      rw [k, x238K_5, if_pos h7]
    · rw [if_neg h7] at k
      have k := ly_revb 3 (c' := (13, [(0, .ref (p 29)), (1, .int v1), (2, .int v2), (3, .int v3)], [.int v1, .int v2, .ref (p 29)], me_w M J)) rfl k
      have k := mx_iast (q := v2.toNatClampNeg) rfl rfl k
      have k : nt_rn X _ 238 (14, [(0, .ref (p 29)), (1, .int v1), (2, .int v2), (3, .int v3)], [], me_w M (nt_u J (p 29) v2.toNatClampNeg v1)) _ := k
      have k := ly_revb 2 (c' := (5, [(2, .int (v2 + (Int32.ofInt 1))), (0, .ref (p 29)), (1, .int v1), (3, .int v3)], [], me_w M (nt_u J (p 29) v2.toNatClampNeg v1))) rfl k
      have k := nt_rn_w (a := [(2, .int (v2 + (Int32.ofInt 1))), (0, .ref (p 29)), (1, .int v1), (3, .int v3)]) (b := [(0, .ref (p 29)), (1, .int v1), (2, .int (v2 + (Int32.ofInt 1))), (3, .int v3)]) ⟨rfl, rfl, rfl, rfl, trivial⟩ rfl k
      have k := ih (v2 + (Int32.ofInt 1)) (nt_u J (p 29) v2.toNatClampNeg v1) (lx_dec h7 hc) k
      rw [k, x238K_5, if_neg h7]
theorem x238K_5_rule {p : Nat → Nat} {v1 : Int32} {v3 : Int32} {I : Nat → Int32 → (Nat → Nat → Int32) → Prop} {Q : (Nat → Nat → Int32) → Prop} (h0 : ∀ (v2 : Int32) (J : Nat → Nat → Int32), I 0 v2 J → Q J) (h1 : ∀ (c : Nat) (v2 : Int32) (J : Nat → Nat → Int32), I (c + 1) v2 J →
    if v3 ≤ v2 then (Q J)
    else (I c (v2 + (Int32.ofInt 1)) (nt_u J (p 29) v2.toNatClampNeg v1))) : ∀ (c : Nat) (v2 : Int32) (J : Nat → Nat → Int32), I c v2 J → Q (x238K_5 p v1 v3 c v2 J) := by
  intro c
  induction c with
  | zero =>
    intro v2 J hi
    rw [x238K_5]
    exact h0 v2 J hi
  | succ c ih =>
    intro v2 J hi
    have hi := h1 c v2 J hi
    rw [x238K_5]
    by_cases h : v3 ≤ v2
    · rw [if_pos h] at hi ⊢
      exact hi
    · rw [if_neg h] at hi ⊢
      exact ih _ _ hi
def x238K (p : Nat → Nat) (v1 : Int32) (J : Nat → Nat → Int32) : (Nat → Nat → Int32) := (x238K_5 p v1 (Int32.ofNat 4) ((Int32.ofNat 4).toNatClampNeg) (Int32.ofInt 0) J)
theorem xt238K {X : nt_X} {d : Nat} {M : nt_M} {o : Option Value × nt_M} {p : Nat → Nat} {v1 : Int32} {J : Nat → Nat → Int32} (hp : xs_P M p) (hv : xs_V M p) (k : nt_ev X d 238 [.ref (p 29), .int v1] (me_w M J) o) : o = (none, me_w M (x238K p v1 J)) := by
  have k : nt_rn X d 238 (0, [(0, .ref (p 29)), (1, .int v1)], [], me_w M J) o := k
  have k := ly_revb 3 (c' := (3, [(2, .int (Int32.ofInt 0)), (0, .ref (p 29)), (1, .int v1)], [.ref (p 29)], me_w M J)) rfl k
  have k := lz_len rfl (hp.2.2.1 29 (by omega)) k
  rw [show nt_l (me_w M J) (p 29) = 4 from hv.2.2.1] at k
  have k : nt_rn X _ 238 (4, [(2, .int (Int32.ofInt 0)), (0, .ref (p 29)), (1, .int v1)], [.int (Int32.ofNat 4)], me_w M J) _ := k
  have k := ly_revb 1 (c' := (5, [(3, .int (Int32.ofNat 4)), (2, .int (Int32.ofInt 0)), (0, .ref (p 29)), (1, .int v1)], [], me_w M J)) rfl k
  have k := nt_rn_w (a := [(3, .int (Int32.ofNat 4)), (2, .int (Int32.ofInt 0)), (0, .ref (p 29)), (1, .int v1)]) (b := [(0, .ref (p 29)), (1, .int v1), (2, .int (Int32.ofInt 0)), (3, .int (Int32.ofNat 4))]) ⟨rfl, rfl, rfl, rfl, trivial⟩ rfl k
  have k := xt238K_5 hp hv  ((Int32.ofNat 4).toNatClampNeg) (Int32.ofInt 0) J (lx_beg (by decide)) k
  rw [k, x238K]
theorem x238K_5_frJ {p : Nat → Nat} {v1 : Int32} {v3 : Int32} {b : Nat} : ∀ (c : Nat) (v2 : Int32) (J : Nat → Nat → Int32), b ≠ p 29 → x238K_5 p v1 v3 c v2 J b = J b := by
  intro c
  induction c with
  | zero =>
    intro v2 J n0
    rw [x238K_5]
    all_goals first | (dsimp only; exact (show J b = J b from rfl)) | exact (show J b = J b from rfl)
  | succ c ih =>
    intro v2 J n0
    rw [x238K_5]
    by_cases h : v3 ≤ v2
    · rw [if_pos h]
      all_goals first | (dsimp only; exact (show J b = J b from rfl)) | exact (show J b = J b from rfl)
    · rw [if_neg h]
      exact (ih _ _ n0).trans (mu_o n0)
theorem x238K_frJ {p : Nat → Nat} {v1 : Int32} {J : Nat → Nat → Int32} {b : Nat} (n0 : b ≠ p 29) : x238K p v1 J b = J b := by
  unfold x238K
  exact (x238K_5_frJ _ _ _ n0).trans (rfl)
/-! java/util/Arrays.fill -/
def x238S_5 (p : Nat → Nat) (v1 : Int32) (v3 : Int32) : Nat → Int32 → (Nat → Nat → Int32) → (Nat → Nat → Int32)
  | 0, v2, J => J
  | c + 1, v2, J => if v3 ≤ v2 then J
    else (x238S_5 p v1 v3 c (v2 + (Int32.ofInt 1)) (nt_u J (p 30) v2.toNatClampNeg v1))
theorem xt238S_5 {X : nt_X} {d : Nat} {M : nt_M} {o : Option Value × nt_M} {p : Nat → Nat} {v1 : Int32} {v3 : Int32} (hp : xs_P M p) (hv : xs_V M p) : ∀ (c : Nat) (v2 : Int32) (J : Nat → Nat → Int32), v3.toInt - v2.toInt ≤ c → nt_rn X d 238 (5, [(0, .ref (p 30)), (1, .int v1), (2, .int v2), (3, .int v3)], [], me_w M J) o → o = (none, me_w M (x238S_5 p v1 v3 c v2 J)) := by
  intro c
  induction c with
  | zero =>
    intro v2 J hc k
    have k := ly_revb 3 (c' := (if v3 ≤ v2 then 20 else 10, [(0, .ref (p 30)), (1, .int v1), (2, .int v2), (3, .int v3)], [], me_w M J)) rfl k
    have h7 : v3 ≤ v2 := lx_end hc
    rw [if_pos h7] at k
    have k := lz_rv rfl rfl k
    rw [k, x238S_5]
  | succ c ih =>
    intro v2 J hc k
    have k := ly_revb 3 (c' := (if v3 ≤ v2 then 20 else 10, [(0, .ref (p 30)), (1, .int v1), (2, .int v2), (3, .int v3)], [], me_w M J)) rfl k
    by_cases h7 : v3 ≤ v2
    · rw [if_pos h7] at k
      have k := lz_rv rfl rfl k
      rw [k, x238S_5, if_pos h7]
    · rw [if_neg h7] at k
      have k := ly_revb 3 (c' := (13, [(0, .ref (p 30)), (1, .int v1), (2, .int v2), (3, .int v3)], [.int v1, .int v2, .ref (p 30)], me_w M J)) rfl k
      have k := mx_iast (q := v2.toNatClampNeg) rfl rfl k
      have k : nt_rn X _ 238 (14, [(0, .ref (p 30)), (1, .int v1), (2, .int v2), (3, .int v3)], [], me_w M (nt_u J (p 30) v2.toNatClampNeg v1)) _ := k
      have k := ly_revb 2 (c' := (5, [(2, .int (v2 + (Int32.ofInt 1))), (0, .ref (p 30)), (1, .int v1), (3, .int v3)], [], me_w M (nt_u J (p 30) v2.toNatClampNeg v1))) rfl k
      have k := nt_rn_w (a := [(2, .int (v2 + (Int32.ofInt 1))), (0, .ref (p 30)), (1, .int v1), (3, .int v3)]) (b := [(0, .ref (p 30)), (1, .int v1), (2, .int (v2 + (Int32.ofInt 1))), (3, .int v3)]) ⟨rfl, rfl, rfl, rfl, trivial⟩ rfl k
      have k := ih (v2 + (Int32.ofInt 1)) (nt_u J (p 30) v2.toNatClampNeg v1) (lx_dec h7 hc) k
      rw [k, x238S_5, if_neg h7]
theorem x238S_5_rule {p : Nat → Nat} {v1 : Int32} {v3 : Int32} {I : Nat → Int32 → (Nat → Nat → Int32) → Prop} {Q : (Nat → Nat → Int32) → Prop} (h0 : ∀ (v2 : Int32) (J : Nat → Nat → Int32), I 0 v2 J → Q J) (h1 : ∀ (c : Nat) (v2 : Int32) (J : Nat → Nat → Int32), I (c + 1) v2 J →
    if v3 ≤ v2 then (Q J)
    else (I c (v2 + (Int32.ofInt 1)) (nt_u J (p 30) v2.toNatClampNeg v1))) : ∀ (c : Nat) (v2 : Int32) (J : Nat → Nat → Int32), I c v2 J → Q (x238S_5 p v1 v3 c v2 J) := by
  intro c
  induction c with
  | zero =>
    intro v2 J hi
    rw [x238S_5]
    exact h0 v2 J hi
  | succ c ih =>
    intro v2 J hi
    have hi := h1 c v2 J hi
    rw [x238S_5]
    by_cases h : v3 ≤ v2
    · rw [if_pos h] at hi ⊢
      exact hi
    · rw [if_neg h] at hi ⊢
      exact ih _ _ hi
def x238S (p : Nat → Nat) (v1 : Int32) (J : Nat → Nat → Int32) : (Nat → Nat → Int32) := (x238S_5 p v1 (Int32.ofNat 4) ((Int32.ofNat 4).toNatClampNeg) (Int32.ofInt 0) J)
theorem xt238S {X : nt_X} {d : Nat} {M : nt_M} {o : Option Value × nt_M} {p : Nat → Nat} {v1 : Int32} {J : Nat → Nat → Int32} (hp : xs_P M p) (hv : xs_V M p) (k : nt_ev X d 238 [.ref (p 30), .int v1] (me_w M J) o) : o = (none, me_w M (x238S p v1 J)) := by
  have k : nt_rn X d 238 (0, [(0, .ref (p 30)), (1, .int v1)], [], me_w M J) o := k
  have k := ly_revb 3 (c' := (3, [(2, .int (Int32.ofInt 0)), (0, .ref (p 30)), (1, .int v1)], [.ref (p 30)], me_w M J)) rfl k
  have k := lz_len rfl (hp.2.2.1 30 (by omega)) k
  rw [show nt_l (me_w M J) (p 30) = 4 from hv.2.2.2] at k
  have k : nt_rn X _ 238 (4, [(2, .int (Int32.ofInt 0)), (0, .ref (p 30)), (1, .int v1)], [.int (Int32.ofNat 4)], me_w M J) _ := k
  have k := ly_revb 1 (c' := (5, [(3, .int (Int32.ofNat 4)), (2, .int (Int32.ofInt 0)), (0, .ref (p 30)), (1, .int v1)], [], me_w M J)) rfl k
  have k := nt_rn_w (a := [(3, .int (Int32.ofNat 4)), (2, .int (Int32.ofInt 0)), (0, .ref (p 30)), (1, .int v1)]) (b := [(0, .ref (p 30)), (1, .int v1), (2, .int (Int32.ofInt 0)), (3, .int (Int32.ofNat 4))]) ⟨rfl, rfl, rfl, rfl, trivial⟩ rfl k
  have k := xt238S_5 hp hv  ((Int32.ofNat 4).toNatClampNeg) (Int32.ofInt 0) J (lx_beg (by decide)) k
  rw [k, x238S]
theorem x238S_5_frJ {p : Nat → Nat} {v1 : Int32} {v3 : Int32} {b : Nat} : ∀ (c : Nat) (v2 : Int32) (J : Nat → Nat → Int32), b ≠ p 30 → x238S_5 p v1 v3 c v2 J b = J b := by
  intro c
  induction c with
  | zero =>
    intro v2 J n0
    rw [x238S_5]
    all_goals first | (dsimp only; exact (show J b = J b from rfl)) | exact (show J b = J b from rfl)
  | succ c ih =>
    intro v2 J n0
    rw [x238S_5]
    by_cases h : v3 ≤ v2
    · rw [if_pos h]
      all_goals first | (dsimp only; exact (show J b = J b from rfl)) | exact (show J b = J b from rfl)
    · rw [if_neg h]
      exact (ih _ _ n0).trans (mu_o n0)
theorem x238S_frJ {p : Nat → Nat} {v1 : Int32} {J : Nat → Nat → Int32} {b : Nat} (n0 : b ≠ p 30) : x238S p v1 J b = J b := by
  unfold x238S
  exact (x238S_5_frJ _ _ _ n0).trans (rfl)
/-! $Plans.look -/
def x12F_31 (p : Nat → Nat) : Nat → Int32 → (Nat → Nat → Int32) → (Nat → Nat → Int32)
  | 0, v2, J => J
  | c + 1, v2, J => if (J (p 32) 2) ≤ v2 then J
    else if (J (p 46) v2.toNatClampNeg) = 0 then if (J (p 44) v2.toNatClampNeg) ≤ 0 then (x12F_31 p c (v2 + (Int32.ofInt 1)) (nt_u (nt_u J (p 29) ((J (p 34) v2.toNatClampNeg).toNatClampNeg) ((J (p 29) ((J (p 34) v2.toNatClampNeg).toNatClampNeg)) + (Int32.ofInt 1))) (p 30) ((J (p 34) v2.toNatClampNeg).toNatClampNeg) ((J (p 30) ((J (p 34) v2.toNatClampNeg).toNatClampNeg)) + (Int32.ofInt 0))))
        else (x12F_31 p c (v2 + (Int32.ofInt 1)) (nt_u (nt_u J (p 29) ((J (p 34) v2.toNatClampNeg).toNatClampNeg) ((J (p 29) ((J (p 34) v2.toNatClampNeg).toNatClampNeg)) + (Int32.ofInt 1))) (p 30) ((J (p 34) v2.toNatClampNeg).toNatClampNeg) ((J (p 30) ((J (p 34) v2.toNatClampNeg).toNatClampNeg)) + (Int32.ofInt 1))))
      else (x12F_31 p c (v2 + (Int32.ofInt 1)) J)
theorem xt12F_31 {X : nt_X} {d : Nat} {M : nt_M} {o : Option Value × nt_M} {p : Nat → Nat} (hp : xs_P M p) (hn : xs_Q M (fun i => p (31 + i))) (hv : xs_V M p) : ∀ (c : Nat) (v2 : Int32) (v3 : Int32) (J : Nat → Nat → Int32), (J (p 32) 2).toInt - v2.toInt ≤ c → nt_rn X d 12 (31, [(0, .ref (p 28)), (1, .ref (p 31)), (2, .int v2), (3, .int v3)], [], me_w M J) o → o = (none, me_w M (x12F_31 p c v2 J)) := by
  intro c
  induction c with
  | zero =>
    intro v2 v3 J hc k
    have k := ly_revb 2 (c' := (33, [(0, .ref (p 28)), (1, .ref (p 31)), (2, .int v2), (3, .int v3)], [.ref (p 28), .int v2], me_w M J)) rfl k
    have k := lz_get (a := (p 28)) (g := 101) (M := me_w M J) (v := .ref (p 32)) rfl (nt_gfR rfl hv.2.1) k
    have k := lz_get (a := (p 32)) (g := 802) (M := me_w M J) (v := .int (J (p 32) 2)) rfl (congrArg Value.int (rfl)) k
    have k := ly_revb 1 (c' := (if (J (p 32) 2) ≤ v2 then 106 else 42, [(0, .ref (p 28)), (1, .ref (p 31)), (2, .int v2), (3, .int v3)], [], me_w M J)) rfl k
    have h39 : (J (p 32) 2) ≤ v2 := lx_end hc
    rw [if_pos h39] at k
    have k := lz_rv rfl rfl k
    rw [k, x12F_31]
  | succ c ih =>
    intro v2 v3 J hc k
    have k := ly_revb 2 (c' := (33, [(0, .ref (p 28)), (1, .ref (p 31)), (2, .int v2), (3, .int v3)], [.ref (p 28), .int v2], me_w M J)) rfl k
    have k := lz_get (a := (p 28)) (g := 101) (M := me_w M J) (v := .ref (p 32)) rfl (nt_gfR rfl hv.2.1) k
    have k := lz_get (a := (p 32)) (g := 802) (M := me_w M J) (v := .int (J (p 32) 2)) rfl (congrArg Value.int (rfl)) k
    have k := ly_revb 1 (c' := (if (J (p 32) 2) ≤ v2 then 106 else 42, [(0, .ref (p 28)), (1, .ref (p 31)), (2, .int v2), (3, .int v3)], [], me_w M J)) rfl k
    by_cases h39 : (J (p 32) 2) ≤ v2
    · rw [if_pos h39] at k
      have k := lz_rv rfl rfl k
      rw [k, x12F_31, if_pos h39]
    · rw [if_neg h39] at k
      have k := ly_revb 1 (c' := (43, [(0, .ref (p 28)), (1, .ref (p 31)), (2, .int v2), (3, .int v3)], [.ref (p 28)], me_w M J)) rfl k
      have k := lz_get (a := (p 28)) (g := 101) (M := me_w M J) (v := .ref (p 32)) rfl (nt_gfR rfl hv.2.1) k
      have k := lz_get (a := (p 32)) (g := 806) (M := me_w M J) (v := .ref (p 34)) rfl (nt_gfR rfl (hn.1 (1, 6, 3) (by decide))) k
      have k := ly_revb 1 (c' := (50, [(0, .ref (p 28)), (1, .ref (p 31)), (2, .int v2), (3, .int v3)], [.int v2, .ref (p 34)], me_w M J)) rfl k
      have k := mx_iald (v := J (p 34) v2.toNatClampNeg) rfl (hp.2.2.1 34 (by omega)) (rfl) k
      have k := ly_revb 2 (c' := (53, [(3, .int (J (p 34) v2.toNatClampNeg)), (0, .ref (p 28)), (1, .ref (p 31)), (2, .int v2)], [.ref (p 28)], me_w M J)) rfl k
      have k := lz_get (a := (p 28)) (g := 100) (M := me_w M J) (v := .ref (p 31)) rfl (nt_gfR rfl hv.1) k
      have k := lz_get (a := (p 31)) (g := 612) (M := me_w M J) (v := .ref (p 46)) rfl (nt_gfR rfl (hn.1 (0, 12, 15) (by decide))) k
      have k := ly_revb 1 (c' := (60, [(3, .int (J (p 34) v2.toNatClampNeg)), (0, .ref (p 28)), (1, .ref (p 31)), (2, .int v2)], [.int v2, .ref (p 46)], me_w M J)) rfl k
      have k := mx_bald (v := J (p 46) v2.toNatClampNeg) rfl (rfl) k
      have k := ly_revb 1 (c' := (if (J (p 46) v2.toNatClampNeg) = 0 then 64 else 100, [(3, .int (J (p 34) v2.toNatClampNeg)), (0, .ref (p 28)), (1, .ref (p 31)), (2, .int v2)], [], me_w M J)) rfl k
      by_cases h61 : (J (p 46) v2.toNatClampNeg) = 0
      · rw [if_pos h61] at k
        have k := ly_revb 1 (c' := (65, [(3, .int (J (p 34) v2.toNatClampNeg)), (0, .ref (p 28)), (1, .ref (p 31)), (2, .int v2)], [.ref (p 28)], me_w M J)) rfl k
        have k := lz_get (a := (p 28)) (g := 102) (M := me_w M J) (v := .ref (p 29)) rfl (nt_gfR rfl (hp.1 (28, 2, 29) (by decide))) k
        have k := ly_revb 2 (c' := (70, [(3, .int (J (p 34) v2.toNatClampNeg)), (0, .ref (p 28)), (1, .ref (p 31)), (2, .int v2)], [.int (J (p 34) v2.toNatClampNeg), .ref (p 29), .int (J (p 34) v2.toNatClampNeg), .ref (p 29)], me_w M J)) rfl k
        have k := mx_iald (v := J (p 29) ((J (p 34) v2.toNatClampNeg).toNatClampNeg)) rfl (hp.2.2.1 29 (by omega)) (rfl) k
        have k := ly_revb 2 (c' := (73, [(3, .int (J (p 34) v2.toNatClampNeg)), (0, .ref (p 28)), (1, .ref (p 31)), (2, .int v2)], [.int ((J (p 29) ((J (p 34) v2.toNatClampNeg).toNatClampNeg)) + (Int32.ofInt 1)), .int (J (p 34) v2.toNatClampNeg), .ref (p 29)], me_w M J)) rfl k
        have k := mx_iast (q := (J (p 34) v2.toNatClampNeg).toNatClampNeg) rfl rfl k
        have k : nt_rn X _ 12 (74, [(3, .int (J (p 34) v2.toNatClampNeg)), (0, .ref (p 28)), (1, .ref (p 31)), (2, .int v2)], [], me_w M (nt_u J (p 29) ((J (p 34) v2.toNatClampNeg).toNatClampNeg) ((J (p 29) ((J (p 34) v2.toNatClampNeg).toNatClampNeg)) + (Int32.ofInt 1)))) _ := k
        have k := ly_revb 1 (c' := (75, [(3, .int (J (p 34) v2.toNatClampNeg)), (0, .ref (p 28)), (1, .ref (p 31)), (2, .int v2)], [.ref (p 28)], me_w M (nt_u J (p 29) ((J (p 34) v2.toNatClampNeg).toNatClampNeg) ((J (p 29) ((J (p 34) v2.toNatClampNeg).toNatClampNeg)) + (Int32.ofInt 1))))) rfl k
        have k := lz_get (a := (p 28)) (g := 103) (M := me_w M (nt_u J (p 29) ((J (p 34) v2.toNatClampNeg).toNatClampNeg) ((J (p 29) ((J (p 34) v2.toNatClampNeg).toNatClampNeg)) + (Int32.ofInt 1)))) (v := .ref (p 30)) rfl (nt_gfR rfl (hp.1 (28, 3, 30) (by decide))) k
        have k := ly_revb 2 (c' := (80, [(3, .int (J (p 34) v2.toNatClampNeg)), (0, .ref (p 28)), (1, .ref (p 31)), (2, .int v2)], [.int (J (p 34) v2.toNatClampNeg), .ref (p 30), .int (J (p 34) v2.toNatClampNeg), .ref (p 30)], me_w M (nt_u J (p 29) ((J (p 34) v2.toNatClampNeg).toNatClampNeg) ((J (p 29) ((J (p 34) v2.toNatClampNeg).toNatClampNeg)) + (Int32.ofInt 1))))) rfl k
        have k := mx_iald (v := J (p 30) ((J (p 34) v2.toNatClampNeg).toNatClampNeg)) rfl (hp.2.2.1 30 (by omega)) (mu_j (hp.2.1 30 29 (by omega) (by omega) (by decide))) k
        have k := ly_revb 1 (c' := (82, [(3, .int (J (p 34) v2.toNatClampNeg)), (0, .ref (p 28)), (1, .ref (p 31)), (2, .int v2)], [.ref (p 28), .int (J (p 30) ((J (p 34) v2.toNatClampNeg).toNatClampNeg)), .int (J (p 34) v2.toNatClampNeg), .ref (p 30)], me_w M (nt_u J (p 29) ((J (p 34) v2.toNatClampNeg).toNatClampNeg) ((J (p 29) ((J (p 34) v2.toNatClampNeg).toNatClampNeg)) + (Int32.ofInt 1))))) rfl k
        have k := lz_get (a := (p 28)) (g := 100) (M := me_w M (nt_u J (p 29) ((J (p 34) v2.toNatClampNeg).toNatClampNeg) ((J (p 29) ((J (p 34) v2.toNatClampNeg).toNatClampNeg)) + (Int32.ofInt 1)))) (v := .ref (p 31)) rfl (nt_gfR rfl hv.1) k
        have k := lz_get (a := (p 31)) (g := 610) (M := me_w M (nt_u J (p 29) ((J (p 34) v2.toNatClampNeg).toNatClampNeg) ((J (p 29) ((J (p 34) v2.toNatClampNeg).toNatClampNeg)) + (Int32.ofInt 1)))) (v := .ref (p 44)) rfl (nt_gfR rfl (hn.1 (0, 10, 13) (by decide))) k
        have k := ly_revb 1 (c' := (89, [(3, .int (J (p 34) v2.toNatClampNeg)), (0, .ref (p 28)), (1, .ref (p 31)), (2, .int v2)], [.int v2, .ref (p 44), .int (J (p 30) ((J (p 34) v2.toNatClampNeg).toNatClampNeg)), .int (J (p 34) v2.toNatClampNeg), .ref (p 30)], me_w M (nt_u J (p 29) ((J (p 34) v2.toNatClampNeg).toNatClampNeg) ((J (p 29) ((J (p 34) v2.toNatClampNeg).toNatClampNeg)) + (Int32.ofInt 1))))) rfl k
        have k := mx_iald (v := J (p 44) v2.toNatClampNeg) rfl (hp.2.2.1 44 (by omega)) (mu_j (hp.2.1 44 29 (by omega) (by omega) (by decide))) k
        have k := ly_revb 1 (c' := (if (J (p 44) v2.toNatClampNeg) ≤ 0 then 97 else 93, [(3, .int (J (p 34) v2.toNatClampNeg)), (0, .ref (p 28)), (1, .ref (p 31)), (2, .int v2)], [.int (J (p 30) ((J (p 34) v2.toNatClampNeg).toNatClampNeg)), .int (J (p 34) v2.toNatClampNeg), .ref (p 30)], me_w M (nt_u J (p 29) ((J (p 34) v2.toNatClampNeg).toNatClampNeg) ((J (p 29) ((J (p 34) v2.toNatClampNeg).toNatClampNeg)) + (Int32.ofInt 1))))) rfl k
        by_cases h90 : (J (p 44) v2.toNatClampNeg) ≤ 0
        · rw [if_pos h90] at k
          have k := ly_revb 2 (c' := (99, [(3, .int (J (p 34) v2.toNatClampNeg)), (0, .ref (p 28)), (1, .ref (p 31)), (2, .int v2)], [.int ((J (p 30) ((J (p 34) v2.toNatClampNeg).toNatClampNeg)) + (Int32.ofInt 0)), .int (J (p 34) v2.toNatClampNeg), .ref (p 30)], me_w M (nt_u J (p 29) ((J (p 34) v2.toNatClampNeg).toNatClampNeg) ((J (p 29) ((J (p 34) v2.toNatClampNeg).toNatClampNeg)) + (Int32.ofInt 1))))) rfl k
          have k := mx_iast (q := (J (p 34) v2.toNatClampNeg).toNatClampNeg) rfl rfl k
          have k : nt_rn X _ 12 (100, [(3, .int (J (p 34) v2.toNatClampNeg)), (0, .ref (p 28)), (1, .ref (p 31)), (2, .int v2)], [], me_w M (nt_u (nt_u J (p 29) ((J (p 34) v2.toNatClampNeg).toNatClampNeg) ((J (p 29) ((J (p 34) v2.toNatClampNeg).toNatClampNeg)) + (Int32.ofInt 1))) (p 30) ((J (p 34) v2.toNatClampNeg).toNatClampNeg) ((J (p 30) ((J (p 34) v2.toNatClampNeg).toNatClampNeg)) + (Int32.ofInt 0)))) _ := k
          have k := ly_revb 2 (c' := (31, [(2, .int (v2 + (Int32.ofInt 1))), (3, .int (J (p 34) v2.toNatClampNeg)), (0, .ref (p 28)), (1, .ref (p 31))], [], me_w M (nt_u (nt_u J (p 29) ((J (p 34) v2.toNatClampNeg).toNatClampNeg) ((J (p 29) ((J (p 34) v2.toNatClampNeg).toNatClampNeg)) + (Int32.ofInt 1))) (p 30) ((J (p 34) v2.toNatClampNeg).toNatClampNeg) ((J (p 30) ((J (p 34) v2.toNatClampNeg).toNatClampNeg)) + (Int32.ofInt 0))))) rfl k
          have k := nt_rn_w (a := [(2, .int (v2 + (Int32.ofInt 1))), (3, .int (J (p 34) v2.toNatClampNeg)), (0, .ref (p 28)), (1, .ref (p 31))]) (b := [(0, .ref (p 28)), (1, .ref (p 31)), (2, .int (v2 + (Int32.ofInt 1))), (3, .int (J (p 34) v2.toNatClampNeg))]) ⟨rfl, rfl, rfl, rfl, trivial⟩ rfl k
          have k := ih (v2 + (Int32.ofInt 1)) (J (p 34) v2.toNatClampNeg) (nt_u (nt_u J (p 29) ((J (p 34) v2.toNatClampNeg).toNatClampNeg) ((J (p 29) ((J (p 34) v2.toNatClampNeg).toNatClampNeg)) + (Int32.ofInt 1))) (p 30) ((J (p 34) v2.toNatClampNeg).toNatClampNeg) ((J (p 30) ((J (p 34) v2.toNatClampNeg).toNatClampNeg)) + (Int32.ofInt 0))) (by rw [show (nt_u (nt_u J (p 29) ((J (p 34) v2.toNatClampNeg).toNatClampNeg) ((J (p 29) ((J (p 34) v2.toNatClampNeg).toNatClampNeg)) + (Int32.ofInt 1))) (p 30) ((J (p 34) v2.toNatClampNeg).toNatClampNeg) ((J (p 30) ((J (p 34) v2.toNatClampNeg).toNatClampNeg)) + (Int32.ofInt 0))) (p 32) 2 = J (p 32) 2 from (mu_j (hp.2.1 32 30 (by omega) (by omega) (by decide))).trans (mu_j (hp.2.1 32 29 (by omega) (by omega) (by decide)))]; exact lx_dec h39 hc) k
          rw [k, x12F_31, if_neg h39, if_pos h61, if_pos h90]
        · rw [if_neg h90] at k
          have k := ly_revb 3 (c' := (99, [(3, .int (J (p 34) v2.toNatClampNeg)), (0, .ref (p 28)), (1, .ref (p 31)), (2, .int v2)], [.int ((J (p 30) ((J (p 34) v2.toNatClampNeg).toNatClampNeg)) + (Int32.ofInt 1)), .int (J (p 34) v2.toNatClampNeg), .ref (p 30)], me_w M (nt_u J (p 29) ((J (p 34) v2.toNatClampNeg).toNatClampNeg) ((J (p 29) ((J (p 34) v2.toNatClampNeg).toNatClampNeg)) + (Int32.ofInt 1))))) rfl k
          have k := mx_iast (q := (J (p 34) v2.toNatClampNeg).toNatClampNeg) rfl rfl k
          have k : nt_rn X _ 12 (100, [(3, .int (J (p 34) v2.toNatClampNeg)), (0, .ref (p 28)), (1, .ref (p 31)), (2, .int v2)], [], me_w M (nt_u (nt_u J (p 29) ((J (p 34) v2.toNatClampNeg).toNatClampNeg) ((J (p 29) ((J (p 34) v2.toNatClampNeg).toNatClampNeg)) + (Int32.ofInt 1))) (p 30) ((J (p 34) v2.toNatClampNeg).toNatClampNeg) ((J (p 30) ((J (p 34) v2.toNatClampNeg).toNatClampNeg)) + (Int32.ofInt 1)))) _ := k
          have k := ly_revb 2 (c' := (31, [(2, .int (v2 + (Int32.ofInt 1))), (3, .int (J (p 34) v2.toNatClampNeg)), (0, .ref (p 28)), (1, .ref (p 31))], [], me_w M (nt_u (nt_u J (p 29) ((J (p 34) v2.toNatClampNeg).toNatClampNeg) ((J (p 29) ((J (p 34) v2.toNatClampNeg).toNatClampNeg)) + (Int32.ofInt 1))) (p 30) ((J (p 34) v2.toNatClampNeg).toNatClampNeg) ((J (p 30) ((J (p 34) v2.toNatClampNeg).toNatClampNeg)) + (Int32.ofInt 1))))) rfl k
          have k := nt_rn_w (a := [(2, .int (v2 + (Int32.ofInt 1))), (3, .int (J (p 34) v2.toNatClampNeg)), (0, .ref (p 28)), (1, .ref (p 31))]) (b := [(0, .ref (p 28)), (1, .ref (p 31)), (2, .int (v2 + (Int32.ofInt 1))), (3, .int (J (p 34) v2.toNatClampNeg))]) ⟨rfl, rfl, rfl, rfl, trivial⟩ rfl k
          have k := ih (v2 + (Int32.ofInt 1)) (J (p 34) v2.toNatClampNeg) (nt_u (nt_u J (p 29) ((J (p 34) v2.toNatClampNeg).toNatClampNeg) ((J (p 29) ((J (p 34) v2.toNatClampNeg).toNatClampNeg)) + (Int32.ofInt 1))) (p 30) ((J (p 34) v2.toNatClampNeg).toNatClampNeg) ((J (p 30) ((J (p 34) v2.toNatClampNeg).toNatClampNeg)) + (Int32.ofInt 1))) (by rw [show (nt_u (nt_u J (p 29) ((J (p 34) v2.toNatClampNeg).toNatClampNeg) ((J (p 29) ((J (p 34) v2.toNatClampNeg).toNatClampNeg)) + (Int32.ofInt 1))) (p 30) ((J (p 34) v2.toNatClampNeg).toNatClampNeg) ((J (p 30) ((J (p 34) v2.toNatClampNeg).toNatClampNeg)) + (Int32.ofInt 1))) (p 32) 2 = J (p 32) 2 from (mu_j (hp.2.1 32 30 (by omega) (by omega) (by decide))).trans (mu_j (hp.2.1 32 29 (by omega) (by omega) (by decide)))]; exact lx_dec h39 hc) k
          rw [k, x12F_31, if_neg h39, if_pos h61, if_neg h90]
      · rw [if_neg h61] at k
        have k := ly_revb 2 (c' := (31, [(2, .int (v2 + (Int32.ofInt 1))), (3, .int (J (p 34) v2.toNatClampNeg)), (0, .ref (p 28)), (1, .ref (p 31))], [], me_w M J)) rfl k
        have k := nt_rn_w (a := [(2, .int (v2 + (Int32.ofInt 1))), (3, .int (J (p 34) v2.toNatClampNeg)), (0, .ref (p 28)), (1, .ref (p 31))]) (b := [(0, .ref (p 28)), (1, .ref (p 31)), (2, .int (v2 + (Int32.ofInt 1))), (3, .int (J (p 34) v2.toNatClampNeg))]) ⟨rfl, rfl, rfl, rfl, trivial⟩ rfl k
        have k := ih (v2 + (Int32.ofInt 1)) (J (p 34) v2.toNatClampNeg) J (lx_dec h39 hc) k
        rw [k, x12F_31, if_neg h39, if_neg h61]
theorem x12F_31_rule {p : Nat → Nat} {I : Nat → Int32 → (Nat → Nat → Int32) → Prop} {Q : (Nat → Nat → Int32) → Prop} (h0 : ∀ (v2 : Int32) (J : Nat → Nat → Int32), I 0 v2 J → Q J) (h1 : ∀ (c : Nat) (v2 : Int32) (J : Nat → Nat → Int32), I (c + 1) v2 J →
    if (J (p 32) 2) ≤ v2 then (Q J)
    else if (J (p 46) v2.toNatClampNeg) = 0 then if (J (p 44) v2.toNatClampNeg) ≤ 0 then (I c (v2 + (Int32.ofInt 1)) (nt_u (nt_u J (p 29) ((J (p 34) v2.toNatClampNeg).toNatClampNeg) ((J (p 29) ((J (p 34) v2.toNatClampNeg).toNatClampNeg)) + (Int32.ofInt 1))) (p 30) ((J (p 34) v2.toNatClampNeg).toNatClampNeg) ((J (p 30) ((J (p 34) v2.toNatClampNeg).toNatClampNeg)) + (Int32.ofInt 0))))
        else (I c (v2 + (Int32.ofInt 1)) (nt_u (nt_u J (p 29) ((J (p 34) v2.toNatClampNeg).toNatClampNeg) ((J (p 29) ((J (p 34) v2.toNatClampNeg).toNatClampNeg)) + (Int32.ofInt 1))) (p 30) ((J (p 34) v2.toNatClampNeg).toNatClampNeg) ((J (p 30) ((J (p 34) v2.toNatClampNeg).toNatClampNeg)) + (Int32.ofInt 1))))
      else (I c (v2 + (Int32.ofInt 1)) J)) : ∀ (c : Nat) (v2 : Int32) (J : Nat → Nat → Int32), I c v2 J → Q (x12F_31 p c v2 J) := by
  intro c
  induction c with
  | zero =>
    intro v2 J hi
    rw [x12F_31]
    exact h0 v2 J hi
  | succ c ih =>
    intro v2 J hi
    have hi := h1 c v2 J hi
    rw [x12F_31]
    by_cases h : (J (p 32) 2) ≤ v2
    · rw [if_pos h] at hi ⊢
      exact hi
    · rw [if_neg h] at hi ⊢
      by_cases h : (J (p 46) v2.toNatClampNeg) = 0
      · rw [if_pos h] at hi ⊢
        by_cases h : (J (p 44) v2.toNatClampNeg) ≤ 0
        · rw [if_pos h] at hi ⊢
          exact ih _ _ hi
        · rw [if_neg h] at hi ⊢
          exact ih _ _ hi
      · rw [if_neg h] at hi ⊢
        exact ih _ _ hi
def x12F (p : Nat → Nat) (J : Nat → Nat → Int32) : (Nat → Nat → Int32) := (x12F_31 p (((x238S p (Int32.ofInt 0) (x238K p (Int32.ofInt 0) J)) (p 32) 2).toNatClampNeg) (Int32.ofInt 0) (x238S p (Int32.ofInt 0) (x238K p (Int32.ofInt 0) J)))
theorem xt12F {X : nt_X} {d : Nat} {M : nt_M} {o : Option Value × nt_M} {p : Nat → Nat} {J : Nat → Nat → Int32} (hp : xs_P M p) (hn : xs_Q M (fun i => p (31 + i))) (hv : xs_V M p) (k : nt_rn X d 12 (13, [(0, .ref (p 28)), (1, .ref (p 31))], [], me_w M J) o) : o = (none, me_w M (x12F p J)) := by
  have k : nt_rn X d 12 (13, [(0, .ref (p 28)), (1, .ref (p 31))], [], me_w M J) o := k
  have k := ly_revb 1 (c' := (14, [(0, .ref (p 28)), (1, .ref (p 31))], [.ref (p 28)], me_w M J)) rfl k
  have k := lz_get (a := (p 28)) (g := 102) (M := me_w M J) (v := .ref (p 29)) rfl (nt_gfR rfl (hp.1 (28, 2, 29) (by decide))) k
  have k := ly_revb 1 (c' := (18, [(0, .ref (p 28)), (1, .ref (p 31))], [.int (Int32.ofInt 0), .ref (p 29)], me_w M J)) rfl k
  obtain ⟨d1, o1, ed, kc, k⟩ := lz_c (g := 238) (q := 0) (vs := [.ref (p 29), .int (Int32.ofInt 0)]) (rest := []) rfl rfl (by decide) (Or.inl ⟨_, rfl, rfl⟩) rfl k
  have e1 := xt238K hp hv kc
  subst e1
  have k : nt_rn X _ 12 (21, [(0, .ref (p 28)), (1, .ref (p 31))], [], me_w M (x238K p (Int32.ofInt 0) J)) _ := k
  have k := ly_revb 1 (c' := (22, [(0, .ref (p 28)), (1, .ref (p 31))], [.ref (p 28)], me_w M (x238K p (Int32.ofInt 0) J))) rfl k
  have k := lz_get (a := (p 28)) (g := 103) (M := me_w M (x238K p (Int32.ofInt 0) J)) (v := .ref (p 30)) rfl (nt_gfR rfl (hp.1 (28, 3, 30) (by decide))) k
  have k := ly_revb 1 (c' := (26, [(0, .ref (p 28)), (1, .ref (p 31))], [.int (Int32.ofInt 0), .ref (p 30)], me_w M (x238K p (Int32.ofInt 0) J))) rfl k
  obtain ⟨d1, o1, ed, kc, k⟩ := lz_c (g := 238) (q := 0) (vs := [.ref (p 30), .int (Int32.ofInt 0)]) (rest := []) rfl rfl (by decide) (Or.inl ⟨_, rfl, rfl⟩) rfl k
  have e1 := xt238S hp hv kc
  subst e1
  have k : nt_rn X _ 12 (29, [(0, .ref (p 28)), (1, .ref (p 31))], [], me_w M (x238S p (Int32.ofInt 0) (x238K p (Int32.ofInt 0) J))) _ := k
  have k := ly_revb 2 (c' := (31, [(2, .int (Int32.ofInt 0)), (0, .ref (p 28)), (1, .ref (p 31))], [], me_w M (x238S p (Int32.ofInt 0) (x238K p (Int32.ofInt 0) J)))) rfl k
  have k := nt_rn_w (a := [(2, .int (Int32.ofInt 0)), (0, .ref (p 28)), (1, .ref (p 31))]) (b := [(0, .ref (p 28)), (1, .ref (p 31)), (2, .int (Int32.ofInt 0)), (3, .int (Int32.ofInt 0))]) ⟨rfl, rfl, rfl, trivial⟩ rfl k
  have k := xt12F_31 hp hn hv  (((x238S p (Int32.ofInt 0) (x238K p (Int32.ofInt 0) J)) (p 32) 2).toNatClampNeg) (Int32.ofInt 0) (Int32.ofInt 0) (x238S p (Int32.ofInt 0) (x238K p (Int32.ofInt 0) J)) (lx_beg (by decide)) k
  rw [k, x12F]
theorem x12F_31_frJ {p : Nat → Nat} {b : Nat} : ∀ (c : Nat) (v2 : Int32) (J : Nat → Nat → Int32), b ≠ p 29 → b ≠ p 30 → x12F_31 p c v2 J b = J b := by
  intro c
  induction c with
  | zero =>
    intro v2 J n0 n1
    rw [x12F_31]
    all_goals first | (dsimp only; exact (show J b = J b from rfl)) | exact (show J b = J b from rfl)
  | succ c ih =>
    intro v2 J n0 n1
    rw [x12F_31]
    by_cases h : (J (p 32) 2) ≤ v2
    · rw [if_pos h]
      all_goals first | (dsimp only; exact (show J b = J b from rfl)) | exact (show J b = J b from rfl)
    · rw [if_neg h]
      by_cases h : (J (p 46) v2.toNatClampNeg) = 0
      · rw [if_pos h]
        by_cases h : (J (p 44) v2.toNatClampNeg) ≤ 0
        · rw [if_pos h]
          exact (ih _ _ n0 n1).trans ((mu_o n1).trans (mu_o n0))
        · rw [if_neg h]
          exact (ih _ _ n0 n1).trans ((mu_o n1).trans (mu_o n0))
      · rw [if_neg h]
        exact (ih _ _ n0 n1).trans (rfl)
theorem x12F_frJ {p : Nat → Nat} {J : Nat → Nat → Int32} {b : Nat} (n0 : b ≠ p 29) (n1 : b ≠ p 30) : x12F p J b = J b := by
  unfold x12F
  exact (x12F_31_frJ _ _ _ n0 n1).trans ((x238S_frJ  n1).trans (x238K_frJ  n0))
/-! $Plans.payOfVoyages -/
def x20_4 (p : Nat → Nat) (v1 : Int32) (J : Nat → Nat → Int32) : Nat → Int32 → Int32 → Int32
  | 0, v2, v3 => v2
  | c + 1, v2, v3 => if (J (p 32) 3) ≤ v3 then v2
    else if (x14 v1 v3) = 0 then (x20_4 p v1 J c v2 (v3 + (Int32.ofInt 1)))
      else (x20_4 p v1 J c (v2 + (J (p 40) v3.toNatClampNeg)) (v3 + (Int32.ofInt 1)))
theorem xt20_4 {X : nt_X} {d : Nat} {M : nt_M} {o : Option Value × nt_M} {p : Nat → Nat} {v1 : Int32} {J : Nat → Nat → Int32} (hp : xs_P M p) (hn : xs_Q M (fun i => p (31 + i))) (hv : xs_V M p) : ∀ (c : Nat) (v2 : Int32) (v3 : Int32), (J (p 32) 3).toInt - v3.toInt ≤ c → nt_rn X d 20 (4, [(0, .ref (p 28)), (1, .int v1), (2, .int v2), (3, .int v3)], [], me_w M J) o → o = (some (.int (x20_4 p v1 J c v2 v3)), me_w M J) := by
  intro c
  induction c with
  | zero =>
    intro v2 v3 hc k
    have k := ly_revb 2 (c' := (6, [(0, .ref (p 28)), (1, .int v1), (2, .int v2), (3, .int v3)], [.ref (p 28), .int v3], me_w M J)) rfl k
    have k := lz_get (a := (p 28)) (g := 101) (M := me_w M J) (v := .ref (p 32)) rfl (nt_gfR rfl hv.2.1) k
    have k := lz_get (a := (p 32)) (g := 803) (M := me_w M J) (v := .int (J (p 32) 3)) rfl (congrArg Value.int (rfl)) k
    have k := ly_revb 1 (c' := (if (J (p 32) 3) ≤ v3 then 41 else 15, [(0, .ref (p 28)), (1, .int v1), (2, .int v2), (3, .int v3)], [], me_w M J)) rfl k
    have h12 : (J (p 32) 3) ≤ v3 := lx_end hc
    rw [if_pos h12] at k
    have k := ly_revb 1 (c' := (42, [(0, .ref (p 28)), (1, .int v1), (2, .int v2), (3, .int v3)], [.int v2], me_w M J)) rfl k
    have k := lz_ri rfl (by decide) k
    rw [k, x20_4]
  | succ c ih =>
    intro v2 v3 hc k
    have k := ly_revb 2 (c' := (6, [(0, .ref (p 28)), (1, .int v1), (2, .int v2), (3, .int v3)], [.ref (p 28), .int v3], me_w M J)) rfl k
    have k := lz_get (a := (p 28)) (g := 101) (M := me_w M J) (v := .ref (p 32)) rfl (nt_gfR rfl hv.2.1) k
    have k := lz_get (a := (p 32)) (g := 803) (M := me_w M J) (v := .int (J (p 32) 3)) rfl (congrArg Value.int (rfl)) k
    have k := ly_revb 1 (c' := (if (J (p 32) 3) ≤ v3 then 41 else 15, [(0, .ref (p 28)), (1, .int v1), (2, .int v2), (3, .int v3)], [], me_w M J)) rfl k
    by_cases h12 : (J (p 32) 3) ≤ v3
    · rw [if_pos h12] at k
      have k := ly_revb 1 (c' := (42, [(0, .ref (p 28)), (1, .int v1), (2, .int v2), (3, .int v3)], [.int v2], me_w M J)) rfl k
      have k := lz_ri rfl (by decide) k
      rw [k, x20_4, if_pos h12]
    · rw [if_neg h12] at k
      have k := ly_revb 2 (c' := (17, [(0, .ref (p 28)), (1, .int v1), (2, .int v2), (3, .int v3)], [.int v3, .int v1], me_w M J)) rfl k
      obtain ⟨d1, o1, ed, kc, k⟩ := lz_c (g := 14) (q := 0) (vs := [.int v1, .int v3]) (rest := []) rfl rfl (by decide) (Or.inl ⟨_, rfl, rfl⟩) rfl k
      have e1 := xt14  kc
      subst e1
      have k : nt_rn X _ 20 (20, [(0, .ref (p 28)), (1, .int v1), (2, .int v2), (3, .int v3)], [.int (x14 v1 v3)], me_w M J) _ := k
      have k := ly_revb 1 (c' := (if (x14 v1 v3) = 0 then 35 else 23, [(0, .ref (p 28)), (1, .int v1), (2, .int v2), (3, .int v3)], [], me_w M J)) rfl k
      by_cases h20 : (x14 v1 v3) = 0
      · rw [if_pos h20] at k
        have k := ly_revb 2 (c' := (4, [(3, .int (v3 + (Int32.ofInt 1))), (0, .ref (p 28)), (1, .int v1), (2, .int v2)], [], me_w M J)) rfl k
        have k := nt_rn_w (a := [(3, .int (v3 + (Int32.ofInt 1))), (0, .ref (p 28)), (1, .int v1), (2, .int v2)]) (b := [(0, .ref (p 28)), (1, .int v1), (2, .int v2), (3, .int (v3 + (Int32.ofInt 1)))]) ⟨rfl, rfl, rfl, rfl, trivial⟩ rfl k
        have k := ih v2 (v3 + (Int32.ofInt 1)) (lx_dec h12 hc) k
        rw [k, x20_4, if_neg h12, if_pos h20]
      · rw [if_neg h20] at k
        have k := ly_revb 2 (c' := (25, [(0, .ref (p 28)), (1, .int v1), (2, .int v2), (3, .int v3)], [.ref (p 28), .int v2], me_w M J)) rfl k
        have k := lz_get (a := (p 28)) (g := 101) (M := me_w M J) (v := .ref (p 32)) rfl (nt_gfR rfl hv.2.1) k
        have k := lz_get (a := (p 32)) (g := 812) (M := me_w M J) (v := .ref (p 40)) rfl (nt_gfR rfl (hn.1 (1, 12, 9) (by decide))) k
        have k := ly_revb 1 (c' := (32, [(0, .ref (p 28)), (1, .int v1), (2, .int v2), (3, .int v3)], [.int v3, .ref (p 40), .int v2], me_w M J)) rfl k
        have k := mx_iald (v := J (p 40) v3.toNatClampNeg) rfl (hp.2.2.1 40 (by omega)) (rfl) k
        have k := ly_revb 4 (c' := (4, [(3, .int (v3 + (Int32.ofInt 1))), (2, .int (v2 + (J (p 40) v3.toNatClampNeg))), (0, .ref (p 28)), (1, .int v1)], [], me_w M J)) rfl k
        have k := nt_rn_w (a := [(3, .int (v3 + (Int32.ofInt 1))), (2, .int (v2 + (J (p 40) v3.toNatClampNeg))), (0, .ref (p 28)), (1, .int v1)]) (b := [(0, .ref (p 28)), (1, .int v1), (2, .int (v2 + (J (p 40) v3.toNatClampNeg))), (3, .int (v3 + (Int32.ofInt 1)))]) ⟨rfl, rfl, rfl, rfl, trivial⟩ rfl k
        have k := ih (v2 + (J (p 40) v3.toNatClampNeg)) (v3 + (Int32.ofInt 1)) (lx_dec h12 hc) k
        rw [k, x20_4, if_neg h12, if_neg h20]
theorem x20_4_rule {p : Nat → Nat} {v1 : Int32} {J : Nat → Nat → Int32} {I : Nat → Int32 → Int32 → Prop} {Q : Int32 → Prop} (h0 : ∀ (v2 : Int32) (v3 : Int32), I 0 v2 v3 → Q v2) (h1 : ∀ (c : Nat) (v2 : Int32) (v3 : Int32), I (c + 1) v2 v3 →
    if (J (p 32) 3) ≤ v3 then (Q v2)
    else if (x14 v1 v3) = 0 then (I c v2 (v3 + (Int32.ofInt 1)))
      else (I c (v2 + (J (p 40) v3.toNatClampNeg)) (v3 + (Int32.ofInt 1)))) : ∀ (c : Nat) (v2 : Int32) (v3 : Int32), I c v2 v3 → Q (x20_4 p v1 J c v2 v3) := by
  intro c
  induction c with
  | zero =>
    intro v2 v3 hi
    rw [x20_4]
    exact h0 v2 v3 hi
  | succ c ih =>
    intro v2 v3 hi
    have hi := h1 c v2 v3 hi
    rw [x20_4]
    by_cases h : (J (p 32) 3) ≤ v3
    · rw [if_pos h] at hi ⊢
      exact hi
    · rw [if_neg h] at hi ⊢
      by_cases h : (x14 v1 v3) = 0
      · rw [if_pos h] at hi ⊢
        exact ih _ _ hi
      · rw [if_neg h] at hi ⊢
        exact ih _ _ hi
def x20 (p : Nat → Nat) (v1 : Int32) (J : Nat → Nat → Int32) : Int32 := (x20_4 p v1 J ((J (p 32) 3).toNatClampNeg) (Int32.ofInt 0) (Int32.ofInt 0))
theorem xt20 {X : nt_X} {d : Nat} {M : nt_M} {o : Option Value × nt_M} {p : Nat → Nat} {v1 : Int32} {J : Nat → Nat → Int32} (hp : xs_P M p) (hn : xs_Q M (fun i => p (31 + i))) (hv : xs_V M p) (k : nt_ev X d 20 [.ref (p 28), .int v1] (me_w M J) o) : o = (some (.int (x20 p v1 J)), me_w M J) := by
  have k : nt_rn X d 20 (0, [(0, .ref (p 28)), (1, .int v1)], [], me_w M J) o := k
  have k := ly_revb 4 (c' := (4, [(3, .int (Int32.ofInt 0)), (2, .int (Int32.ofInt 0)), (0, .ref (p 28)), (1, .int v1)], [], me_w M J)) rfl k
  have k := nt_rn_w (a := [(3, .int (Int32.ofInt 0)), (2, .int (Int32.ofInt 0)), (0, .ref (p 28)), (1, .int v1)]) (b := [(0, .ref (p 28)), (1, .int v1), (2, .int (Int32.ofInt 0)), (3, .int (Int32.ofInt 0))]) ⟨rfl, rfl, rfl, rfl, trivial⟩ rfl k
  have k := xt20_4 hp hn hv  ((J (p 32) 3).toNatClampNeg) (Int32.ofInt 0) (Int32.ofInt 0) (lx_beg (by decide)) k
  rw [k, x20]
/-! $Plans.underWay -/
def x16_5 (p : Nat → Nat) (v1 : Int32) (v2 : Int32) (J : Nat → Nat → Int32) : Nat → Int32 → Int32 → Int32
  | 0, v3, v4 => v3
  | c + 1, v3, v4 => if (J (p 32) 3) ≤ v4 then v3
    else if (x14 v1 v4) = 0 then (x16_5 p v1 v2 J c v3 (v4 + (Int32.ofInt 1)))
      else if v2 < (J (p 38) v4.toNatClampNeg) then (x16_5 p v1 v2 J c v3 (v4 + (Int32.ofInt 1)))
        else if (J (p 39) v4.toNatClampNeg) ≤ v2 then (x16_5 p v1 v2 J c v3 (v4 + (Int32.ofInt 1)))
          else (x16_5 p v1 v2 J c (v3 ||| ((Int32.ofInt 1) <<< (v4 &&& 31))) (v4 + (Int32.ofInt 1)))
theorem xt16_5 {X : nt_X} {d : Nat} {M : nt_M} {o : Option Value × nt_M} {p : Nat → Nat} {v1 : Int32} {v2 : Int32} {J : Nat → Nat → Int32} (hp : xs_P M p) (hn : xs_Q M (fun i => p (31 + i))) (hv : xs_V M p) : ∀ (c : Nat) (v3 : Int32) (v4 : Int32), (J (p 32) 3).toInt - v4.toInt ≤ c → nt_rn X d 16 (5, [(0, .ref (p 28)), (1, .int v1), (2, .int v2), (3, .int v3), (4, .int v4)], [], me_w M J) o → o = (some (.int (x16_5 p v1 v2 J c v3 v4)), me_w M J) := by
  intro c
  induction c with
  | zero =>
    intro v3 v4 hc k
    have k := ly_revb 2 (c' := (8, [(0, .ref (p 28)), (1, .int v1), (2, .int v2), (3, .int v3), (4, .int v4)], [.ref (p 28), .int v4], me_w M J)) rfl k
    have k := lz_get (a := (p 28)) (g := 101) (M := me_w M J) (v := .ref (p 32)) rfl (nt_gfR rfl hv.2.1) k
    have k := lz_get (a := (p 32)) (g := 803) (M := me_w M J) (v := .int (J (p 32) 3)) rfl (congrArg Value.int (rfl)) k
    have k := ly_revb 1 (c' := (if (J (p 32) 3) ≤ v4 then 67 else 17, [(0, .ref (p 28)), (1, .int v1), (2, .int v2), (3, .int v3), (4, .int v4)], [], me_w M J)) rfl k
    have h14 : (J (p 32) 3) ≤ v4 := lx_end hc
    rw [if_pos h14] at k
    have k := ly_revb 1 (c' := (68, [(0, .ref (p 28)), (1, .int v1), (2, .int v2), (3, .int v3), (4, .int v4)], [.int v3], me_w M J)) rfl k
    have k := lz_ri rfl (by decide) k
    rw [k, x16_5]
  | succ c ih =>
    intro v3 v4 hc k
    have k := ly_revb 2 (c' := (8, [(0, .ref (p 28)), (1, .int v1), (2, .int v2), (3, .int v3), (4, .int v4)], [.ref (p 28), .int v4], me_w M J)) rfl k
    have k := lz_get (a := (p 28)) (g := 101) (M := me_w M J) (v := .ref (p 32)) rfl (nt_gfR rfl hv.2.1) k
    have k := lz_get (a := (p 32)) (g := 803) (M := me_w M J) (v := .int (J (p 32) 3)) rfl (congrArg Value.int (rfl)) k
    have k := ly_revb 1 (c' := (if (J (p 32) 3) ≤ v4 then 67 else 17, [(0, .ref (p 28)), (1, .int v1), (2, .int v2), (3, .int v3), (4, .int v4)], [], me_w M J)) rfl k
    by_cases h14 : (J (p 32) 3) ≤ v4
    · rw [if_pos h14] at k
      have k := ly_revb 1 (c' := (68, [(0, .ref (p 28)), (1, .int v1), (2, .int v2), (3, .int v3), (4, .int v4)], [.int v3], me_w M J)) rfl k
      have k := lz_ri rfl (by decide) k
      rw [k, x16_5, if_pos h14]
    · rw [if_neg h14] at k
      have k := ly_revb 2 (c' := (20, [(0, .ref (p 28)), (1, .int v1), (2, .int v2), (3, .int v3), (4, .int v4)], [.int v4, .int v1], me_w M J)) rfl k
      obtain ⟨d1, o1, ed, kc, k⟩ := lz_c (g := 14) (q := 0) (vs := [.int v1, .int v4]) (rest := []) rfl rfl (by decide) (Or.inl ⟨_, rfl, rfl⟩) rfl k
      have e1 := xt14  kc
      subst e1
      have k : nt_rn X _ 16 (23, [(0, .ref (p 28)), (1, .int v1), (2, .int v2), (3, .int v3), (4, .int v4)], [.int (x14 v1 v4)], me_w M J) _ := k
      have k := ly_revb 1 (c' := (if (x14 v1 v4) = 0 then 61 else 26, [(0, .ref (p 28)), (1, .int v1), (2, .int v2), (3, .int v3), (4, .int v4)], [], me_w M J)) rfl k
      by_cases h23 : (x14 v1 v4) = 0
      · rw [if_pos h23] at k
        have k := ly_revb 2 (c' := (5, [(4, .int (v4 + (Int32.ofInt 1))), (0, .ref (p 28)), (1, .int v1), (2, .int v2), (3, .int v3)], [], me_w M J)) rfl k
        have k := nt_rn_w (a := [(4, .int (v4 + (Int32.ofInt 1))), (0, .ref (p 28)), (1, .int v1), (2, .int v2), (3, .int v3)]) (b := [(0, .ref (p 28)), (1, .int v1), (2, .int v2), (3, .int v3), (4, .int (v4 + (Int32.ofInt 1)))]) ⟨rfl, rfl, rfl, rfl, rfl, trivial⟩ rfl k
        have k := ih v3 (v4 + (Int32.ofInt 1)) (lx_dec h14 hc) k
        rw [k, x16_5, if_neg h14, if_pos h23]
      · rw [if_neg h23] at k
        have k := ly_revb 1 (c' := (27, [(0, .ref (p 28)), (1, .int v1), (2, .int v2), (3, .int v3), (4, .int v4)], [.ref (p 28)], me_w M J)) rfl k
        have k := lz_get (a := (p 28)) (g := 101) (M := me_w M J) (v := .ref (p 32)) rfl (nt_gfR rfl hv.2.1) k
        have k := lz_get (a := (p 32)) (g := 810) (M := me_w M J) (v := .ref (p 38)) rfl (nt_gfR rfl (hn.1 (1, 10, 7) (by decide))) k
        have k := ly_revb 1 (c' := (35, [(0, .ref (p 28)), (1, .int v1), (2, .int v2), (3, .int v3), (4, .int v4)], [.int v4, .ref (p 38)], me_w M J)) rfl k
        have k := mx_iald (v := J (p 38) v4.toNatClampNeg) rfl (hp.2.2.1 38 (by omega)) (rfl) k
        have k := ly_revb 2 (c' := (if v2 < (J (p 38) v4.toNatClampNeg) then 61 else 40, [(0, .ref (p 28)), (1, .int v1), (2, .int v2), (3, .int v3), (4, .int v4)], [], me_w M J)) rfl k
        by_cases h37 : v2 < (J (p 38) v4.toNatClampNeg)
        · rw [if_pos h37] at k
          have k := ly_revb 2 (c' := (5, [(4, .int (v4 + (Int32.ofInt 1))), (0, .ref (p 28)), (1, .int v1), (2, .int v2), (3, .int v3)], [], me_w M J)) rfl k
          have k := nt_rn_w (a := [(4, .int (v4 + (Int32.ofInt 1))), (0, .ref (p 28)), (1, .int v1), (2, .int v2), (3, .int v3)]) (b := [(0, .ref (p 28)), (1, .int v1), (2, .int v2), (3, .int v3), (4, .int (v4 + (Int32.ofInt 1)))]) ⟨rfl, rfl, rfl, rfl, rfl, trivial⟩ rfl k
          have k := ih v3 (v4 + (Int32.ofInt 1)) (lx_dec h14 hc) k
          rw [k, x16_5, if_neg h14, if_neg h23, if_pos h37]
        · rw [if_neg h37] at k
          have k := ly_revb 2 (c' := (42, [(0, .ref (p 28)), (1, .int v1), (2, .int v2), (3, .int v3), (4, .int v4)], [.ref (p 28), .int v2], me_w M J)) rfl k
          have k := lz_get (a := (p 28)) (g := 101) (M := me_w M J) (v := .ref (p 32)) rfl (nt_gfR rfl hv.2.1) k
          have k := lz_get (a := (p 32)) (g := 811) (M := me_w M J) (v := .ref (p 39)) rfl (nt_gfR rfl (hn.1 (1, 11, 8) (by decide))) k
          have k := ly_revb 1 (c' := (50, [(0, .ref (p 28)), (1, .int v1), (2, .int v2), (3, .int v3), (4, .int v4)], [.int v4, .ref (p 39), .int v2], me_w M J)) rfl k
          have k := mx_iald (v := J (p 39) v4.toNatClampNeg) rfl (hp.2.2.1 39 (by omega)) (rfl) k
          have k := ly_revb 1 (c' := (if (J (p 39) v4.toNatClampNeg) ≤ v2 then 61 else 54, [(0, .ref (p 28)), (1, .int v1), (2, .int v2), (3, .int v3), (4, .int v4)], [], me_w M J)) rfl k
          by_cases h51 : (J (p 39) v4.toNatClampNeg) ≤ v2
          · rw [if_pos h51] at k
            have k := ly_revb 2 (c' := (5, [(4, .int (v4 + (Int32.ofInt 1))), (0, .ref (p 28)), (1, .int v1), (2, .int v2), (3, .int v3)], [], me_w M J)) rfl k
            have k := nt_rn_w (a := [(4, .int (v4 + (Int32.ofInt 1))), (0, .ref (p 28)), (1, .int v1), (2, .int v2), (3, .int v3)]) (b := [(0, .ref (p 28)), (1, .int v1), (2, .int v2), (3, .int v3), (4, .int (v4 + (Int32.ofInt 1)))]) ⟨rfl, rfl, rfl, rfl, rfl, trivial⟩ rfl k
            have k := ih v3 (v4 + (Int32.ofInt 1)) (lx_dec h14 hc) k
            rw [k, x16_5, if_neg h14, if_neg h23, if_neg h37, if_pos h51]
          · rw [if_neg h51] at k
            have k := ly_revb 8 (c' := (5, [(4, .int (v4 + (Int32.ofInt 1))), (3, .int (v3 ||| ((Int32.ofInt 1) <<< (v4 &&& 31)))), (0, .ref (p 28)), (1, .int v1), (2, .int v2)], [], me_w M J)) rfl k
            have k := nt_rn_w (a := [(4, .int (v4 + (Int32.ofInt 1))), (3, .int (v3 ||| ((Int32.ofInt 1) <<< (v4 &&& 31)))), (0, .ref (p 28)), (1, .int v1), (2, .int v2)]) (b := [(0, .ref (p 28)), (1, .int v1), (2, .int v2), (3, .int (v3 ||| ((Int32.ofInt 1) <<< (v4 &&& 31)))), (4, .int (v4 + (Int32.ofInt 1)))]) ⟨rfl, rfl, rfl, rfl, rfl, trivial⟩ rfl k
            have k := ih (v3 ||| ((Int32.ofInt 1) <<< (v4 &&& 31))) (v4 + (Int32.ofInt 1)) (lx_dec h14 hc) k
            rw [k, x16_5, if_neg h14, if_neg h23, if_neg h37, if_neg h51]
theorem x16_5_rule {p : Nat → Nat} {v1 : Int32} {v2 : Int32} {J : Nat → Nat → Int32} {I : Nat → Int32 → Int32 → Prop} {Q : Int32 → Prop} (h0 : ∀ (v3 : Int32) (v4 : Int32), I 0 v3 v4 → Q v3) (h1 : ∀ (c : Nat) (v3 : Int32) (v4 : Int32), I (c + 1) v3 v4 →
    if (J (p 32) 3) ≤ v4 then (Q v3)
    else if (x14 v1 v4) = 0 then (I c v3 (v4 + (Int32.ofInt 1)))
      else if v2 < (J (p 38) v4.toNatClampNeg) then (I c v3 (v4 + (Int32.ofInt 1)))
        else if (J (p 39) v4.toNatClampNeg) ≤ v2 then (I c v3 (v4 + (Int32.ofInt 1)))
          else (I c (v3 ||| ((Int32.ofInt 1) <<< (v4 &&& 31))) (v4 + (Int32.ofInt 1)))) : ∀ (c : Nat) (v3 : Int32) (v4 : Int32), I c v3 v4 → Q (x16_5 p v1 v2 J c v3 v4) := by
  intro c
  induction c with
  | zero =>
    intro v3 v4 hi
    rw [x16_5]
    exact h0 v3 v4 hi
  | succ c ih =>
    intro v3 v4 hi
    have hi := h1 c v3 v4 hi
    rw [x16_5]
    by_cases h : (J (p 32) 3) ≤ v4
    · rw [if_pos h] at hi ⊢
      exact hi
    · rw [if_neg h] at hi ⊢
      by_cases h : (x14 v1 v4) = 0
      · rw [if_pos h] at hi ⊢
        exact ih _ _ hi
      · rw [if_neg h] at hi ⊢
        by_cases h : v2 < (J (p 38) v4.toNatClampNeg)
        · rw [if_pos h] at hi ⊢
          exact ih _ _ hi
        · rw [if_neg h] at hi ⊢
          by_cases h : (J (p 39) v4.toNatClampNeg) ≤ v2
          · rw [if_pos h] at hi ⊢
            exact ih _ _ hi
          · rw [if_neg h] at hi ⊢
            exact ih _ _ hi
def x16 (p : Nat → Nat) (v1 : Int32) (v2 : Int32) (J : Nat → Nat → Int32) : Int32 := (x16_5 p v1 v2 J ((J (p 32) 3).toNatClampNeg) (Int32.ofInt 0) (Int32.ofInt 0))
theorem xt16 {X : nt_X} {d : Nat} {M : nt_M} {o : Option Value × nt_M} {p : Nat → Nat} {v1 : Int32} {v2 : Int32} {J : Nat → Nat → Int32} (hp : xs_P M p) (hn : xs_Q M (fun i => p (31 + i))) (hv : xs_V M p) (k : nt_ev X d 16 [.ref (p 28), .int v1, .int v2] (me_w M J) o) : o = (some (.int (x16 p v1 v2 J)), me_w M J) := by
  have k : nt_rn X d 16 (0, [(0, .ref (p 28)), (1, .int v1), (2, .int v2)], [], me_w M J) o := k
  have k := ly_revb 4 (c' := (5, [(4, .int (Int32.ofInt 0)), (3, .int (Int32.ofInt 0)), (0, .ref (p 28)), (1, .int v1), (2, .int v2)], [], me_w M J)) rfl k
  have k := nt_rn_w (a := [(4, .int (Int32.ofInt 0)), (3, .int (Int32.ofInt 0)), (0, .ref (p 28)), (1, .int v1), (2, .int v2)]) (b := [(0, .ref (p 28)), (1, .int v1), (2, .int v2), (3, .int (Int32.ofInt 0)), (4, .int (Int32.ofInt 0))]) ⟨rfl, rfl, rfl, rfl, rfl, trivial⟩ rfl k
  have k := xt16_5 hp hn hv  ((J (p 32) 3).toNatClampNeg) (Int32.ofInt 0) (Int32.ofInt 0) (lx_beg (by decide)) k
  rw [k, x16]
/-! $Plans.wanted -/
def x17_5 (p : Nat → Nat) (v1 : Int32) (v2 : Int32) (J : Nat → Nat → Int32) : Nat → Int32 → Int32 → Int32
  | 0, v3, v4 => v3
  | c + 1, v3, v4 => if (J (p 32) 3) ≤ v4 then v3
    else if (x14 v1 v4) = 0 then (x17_5 p v1 v2 J c v3 (v4 + (Int32.ofInt 1)))
      else (x17_5 p v1 v2 J c (v3 + (x87 (fun i => p (31 + i)) (J (p 37) v4.toNatClampNeg) v2 J)) (v4 + (Int32.ofInt 1)))
theorem xt17_5 {X : nt_X} {d : Nat} {M : nt_M} {o : Option Value × nt_M} {p : Nat → Nat} {v1 : Int32} {v2 : Int32} {J : Nat → Nat → Int32} (hp : xs_P M p) (hn : xs_Q M (fun i => p (31 + i))) (hv : xs_V M p) : ∀ (c : Nat) (v3 : Int32) (v4 : Int32), (J (p 32) 3).toInt - v4.toInt ≤ c → nt_rn X d 17 (5, [(0, .ref (p 28)), (1, .int v1), (2, .int v2), (3, .int v3), (4, .int v4)], [], me_w M J) o → o = (some (.int (x17_5 p v1 v2 J c v3 v4)), me_w M J) := by
  intro c
  induction c with
  | zero =>
    intro v3 v4 hc k
    have k := ly_revb 2 (c' := (8, [(0, .ref (p 28)), (1, .int v1), (2, .int v2), (3, .int v3), (4, .int v4)], [.ref (p 28), .int v4], me_w M J)) rfl k
    have k := lz_get (a := (p 28)) (g := 101) (M := me_w M J) (v := .ref (p 32)) rfl (nt_gfR rfl hv.2.1) k
    have k := lz_get (a := (p 32)) (g := 803) (M := me_w M J) (v := .int (J (p 32) 3)) rfl (congrArg Value.int (rfl)) k
    have k := ly_revb 1 (c' := (if (J (p 32) 3) ≤ v4 then 53 else 17, [(0, .ref (p 28)), (1, .int v1), (2, .int v2), (3, .int v3), (4, .int v4)], [], me_w M J)) rfl k
    have h14 : (J (p 32) 3) ≤ v4 := lx_end hc
    rw [if_pos h14] at k
    have k := ly_revb 1 (c' := (54, [(0, .ref (p 28)), (1, .int v1), (2, .int v2), (3, .int v3), (4, .int v4)], [.int v3], me_w M J)) rfl k
    have k := lz_ri rfl (by decide) k
    rw [k, x17_5]
  | succ c ih =>
    intro v3 v4 hc k
    have k := ly_revb 2 (c' := (8, [(0, .ref (p 28)), (1, .int v1), (2, .int v2), (3, .int v3), (4, .int v4)], [.ref (p 28), .int v4], me_w M J)) rfl k
    have k := lz_get (a := (p 28)) (g := 101) (M := me_w M J) (v := .ref (p 32)) rfl (nt_gfR rfl hv.2.1) k
    have k := lz_get (a := (p 32)) (g := 803) (M := me_w M J) (v := .int (J (p 32) 3)) rfl (congrArg Value.int (rfl)) k
    have k := ly_revb 1 (c' := (if (J (p 32) 3) ≤ v4 then 53 else 17, [(0, .ref (p 28)), (1, .int v1), (2, .int v2), (3, .int v3), (4, .int v4)], [], me_w M J)) rfl k
    by_cases h14 : (J (p 32) 3) ≤ v4
    · rw [if_pos h14] at k
      have k := ly_revb 1 (c' := (54, [(0, .ref (p 28)), (1, .int v1), (2, .int v2), (3, .int v3), (4, .int v4)], [.int v3], me_w M J)) rfl k
      have k := lz_ri rfl (by decide) k
      rw [k, x17_5, if_pos h14]
    · rw [if_neg h14] at k
      have k := ly_revb 2 (c' := (20, [(0, .ref (p 28)), (1, .int v1), (2, .int v2), (3, .int v3), (4, .int v4)], [.int v4, .int v1], me_w M J)) rfl k
      obtain ⟨d1, o1, ed, kc, k⟩ := lz_c (g := 14) (q := 0) (vs := [.int v1, .int v4]) (rest := []) rfl rfl (by decide) (Or.inl ⟨_, rfl, rfl⟩) rfl k
      have e1 := xt14  kc
      subst e1
      have k : nt_rn X _ 17 (23, [(0, .ref (p 28)), (1, .int v1), (2, .int v2), (3, .int v3), (4, .int v4)], [.int (x14 v1 v4)], me_w M J) _ := k
      have k := ly_revb 1 (c' := (if (x14 v1 v4) = 0 then 47 else 26, [(0, .ref (p 28)), (1, .int v1), (2, .int v2), (3, .int v3), (4, .int v4)], [], me_w M J)) rfl k
      by_cases h23 : (x14 v1 v4) = 0
      · rw [if_pos h23] at k
        have k := ly_revb 2 (c' := (5, [(4, .int (v4 + (Int32.ofInt 1))), (0, .ref (p 28)), (1, .int v1), (2, .int v2), (3, .int v3)], [], me_w M J)) rfl k
        have k := nt_rn_w (a := [(4, .int (v4 + (Int32.ofInt 1))), (0, .ref (p 28)), (1, .int v1), (2, .int v2), (3, .int v3)]) (b := [(0, .ref (p 28)), (1, .int v1), (2, .int v2), (3, .int v3), (4, .int (v4 + (Int32.ofInt 1)))]) ⟨rfl, rfl, rfl, rfl, rfl, trivial⟩ rfl k
        have k := ih v3 (v4 + (Int32.ofInt 1)) (lx_dec h14 hc) k
        rw [k, x17_5, if_neg h14, if_pos h23]
      · rw [if_neg h23] at k
        have k := ly_revb 2 (c' := (28, [(0, .ref (p 28)), (1, .int v1), (2, .int v2), (3, .int v3), (4, .int v4)], [.ref (p 28), .int v3], me_w M J)) rfl k
        have k := lz_get (a := (p 28)) (g := 101) (M := me_w M J) (v := .ref (p 32)) rfl (nt_gfR rfl hv.2.1) k
        have k := ly_revb 1 (c' := (32, [(0, .ref (p 28)), (1, .int v1), (2, .int v2), (3, .int v3), (4, .int v4)], [.ref (p 28), .ref (p 32), .int v3], me_w M J)) rfl k
        have k := lz_get (a := (p 28)) (g := 101) (M := me_w M J) (v := .ref (p 32)) rfl (nt_gfR rfl hv.2.1) k
        have k := lz_get (a := (p 32)) (g := 809) (M := me_w M J) (v := .ref (p 37)) rfl (nt_gfR rfl (hn.1 (1, 9, 6) (by decide))) k
        have k := ly_revb 1 (c' := (40, [(0, .ref (p 28)), (1, .int v1), (2, .int v2), (3, .int v3), (4, .int v4)], [.int v4, .ref (p 37), .ref (p 32), .int v3], me_w M J)) rfl k
        have k := mx_iald (v := J (p 37) v4.toNatClampNeg) rfl (hp.2.2.1 37 (by omega)) (rfl) k
        have k := ly_revb 1 (c' := (42, [(0, .ref (p 28)), (1, .int v1), (2, .int v2), (3, .int v3), (4, .int v4)], [.int v2, .int (J (p 37) v4.toNatClampNeg), .ref (p 32), .int v3], me_w M J)) rfl k
        obtain ⟨d1, o1, ed, kc, k⟩ := lz_c (g := 87) (q := 1) (vs := [.ref (p 32), .int (J (p 37) v4.toNatClampNeg), .int v2]) (rest := [.int v3]) rfl rfl (by decide) (Or.inr (Or.inl ⟨_, rfl, rfl⟩)) rfl k
        have e1 := xt87 hn kc
        subst e1
        have k : nt_rn X _ 17 (45, [(0, .ref (p 28)), (1, .int v1), (2, .int v2), (3, .int v3), (4, .int v4)], [.int (x87 (fun i => p (31 + i)) (J (p 37) v4.toNatClampNeg) v2 J), .int v3], me_w M J) _ := k
        have k := ly_revb 4 (c' := (5, [(4, .int (v4 + (Int32.ofInt 1))), (3, .int (v3 + (x87 (fun i => p (31 + i)) (J (p 37) v4.toNatClampNeg) v2 J))), (0, .ref (p 28)), (1, .int v1), (2, .int v2)], [], me_w M J)) rfl k
        have k := nt_rn_w (a := [(4, .int (v4 + (Int32.ofInt 1))), (3, .int (v3 + (x87 (fun i => p (31 + i)) (J (p 37) v4.toNatClampNeg) v2 J))), (0, .ref (p 28)), (1, .int v1), (2, .int v2)]) (b := [(0, .ref (p 28)), (1, .int v1), (2, .int v2), (3, .int (v3 + (x87 (fun i => p (31 + i)) (J (p 37) v4.toNatClampNeg) v2 J))), (4, .int (v4 + (Int32.ofInt 1)))]) ⟨rfl, rfl, rfl, rfl, rfl, trivial⟩ rfl k
        have k := ih (v3 + (x87 (fun i => p (31 + i)) (J (p 37) v4.toNatClampNeg) v2 J)) (v4 + (Int32.ofInt 1)) (lx_dec h14 hc) k
        rw [k, x17_5, if_neg h14, if_neg h23]
theorem x17_5_rule {p : Nat → Nat} {v1 : Int32} {v2 : Int32} {J : Nat → Nat → Int32} {I : Nat → Int32 → Int32 → Prop} {Q : Int32 → Prop} (h0 : ∀ (v3 : Int32) (v4 : Int32), I 0 v3 v4 → Q v3) (h1 : ∀ (c : Nat) (v3 : Int32) (v4 : Int32), I (c + 1) v3 v4 →
    if (J (p 32) 3) ≤ v4 then (Q v3)
    else if (x14 v1 v4) = 0 then (I c v3 (v4 + (Int32.ofInt 1)))
      else (I c (v3 + (x87 (fun i => p (31 + i)) (J (p 37) v4.toNatClampNeg) v2 J)) (v4 + (Int32.ofInt 1)))) : ∀ (c : Nat) (v3 : Int32) (v4 : Int32), I c v3 v4 → Q (x17_5 p v1 v2 J c v3 v4) := by
  intro c
  induction c with
  | zero =>
    intro v3 v4 hi
    rw [x17_5]
    exact h0 v3 v4 hi
  | succ c ih =>
    intro v3 v4 hi
    have hi := h1 c v3 v4 hi
    rw [x17_5]
    by_cases h : (J (p 32) 3) ≤ v4
    · rw [if_pos h] at hi ⊢
      exact hi
    · rw [if_neg h] at hi ⊢
      by_cases h : (x14 v1 v4) = 0
      · rw [if_pos h] at hi ⊢
        exact ih _ _ hi
      · rw [if_neg h] at hi ⊢
        exact ih _ _ hi
def x17 (p : Nat → Nat) (v1 : Int32) (v2 : Int32) (J : Nat → Nat → Int32) : Int32 := (x17_5 p v1 v2 J ((J (p 32) 3).toNatClampNeg) (Int32.ofInt 0) (Int32.ofInt 0))
theorem xt17 {X : nt_X} {d : Nat} {M : nt_M} {o : Option Value × nt_M} {p : Nat → Nat} {v1 : Int32} {v2 : Int32} {J : Nat → Nat → Int32} (hp : xs_P M p) (hn : xs_Q M (fun i => p (31 + i))) (hv : xs_V M p) (k : nt_ev X d 17 [.ref (p 28), .int v1, .int v2] (me_w M J) o) : o = (some (.int (x17 p v1 v2 J)), me_w M J) := by
  have k : nt_rn X d 17 (0, [(0, .ref (p 28)), (1, .int v1), (2, .int v2)], [], me_w M J) o := k
  have k := ly_revb 4 (c' := (5, [(4, .int (Int32.ofInt 0)), (3, .int (Int32.ofInt 0)), (0, .ref (p 28)), (1, .int v1), (2, .int v2)], [], me_w M J)) rfl k
  have k := nt_rn_w (a := [(4, .int (Int32.ofInt 0)), (3, .int (Int32.ofInt 0)), (0, .ref (p 28)), (1, .int v1), (2, .int v2)]) (b := [(0, .ref (p 28)), (1, .int v1), (2, .int v2), (3, .int (Int32.ofInt 0)), (4, .int (Int32.ofInt 0))]) ⟨rfl, rfl, rfl, rfl, rfl, trivial⟩ rfl k
  have k := xt17_5 hp hn hv  ((J (p 32) 3).toNatClampNeg) (Int32.ofInt 0) (Int32.ofInt 0) (lx_beg (by decide)) k
  rw [k, x17]
/-! $Plans.isOnTwo -/
def x18_4 (p : Nat → Nat) (v1 : Int32) (J : Nat → Nat → Int32) : Nat → Int32 → Int32 → Int32
  | 0, v2, v3 => (Int32.ofInt 0)
  | c + 1, v2, v3 => if (J (p 32) 3) ≤ v3 then (Int32.ofInt 0)
    else if (x14 v1 v3) = 0 then (x18_4 p v1 J c v2 (v3 + (Int32.ofInt 1)))
      else if (x14 v2 (J (p 37) v3.toNatClampNeg)) = 0 then (x18_4 p v1 J c (v2 ||| ((Int32.ofInt 1) <<< ((J (p 37) v3.toNatClampNeg) &&& 31))) (v3 + (Int32.ofInt 1)))
        else (Int32.ofInt 1)
theorem xt18_4 {X : nt_X} {d : Nat} {M : nt_M} {o : Option Value × nt_M} {p : Nat → Nat} {v1 : Int32} {J : Nat → Nat → Int32} (hp : xs_P M p) (hn : xs_Q M (fun i => p (31 + i))) (hv : xs_V M p) : ∀ (c : Nat) (v2 : Int32) (v3 : Int32), (J (p 32) 3).toInt - v3.toInt ≤ c → nt_rn X d 18 (4, [(0, .ref (p 28)), (1, .int v1), (2, .int v2), (3, .int v3)], [], me_w M J) o → o = (some (.int (x18_4 p v1 J c v2 v3)), me_w M J) := by
  intro c
  induction c with
  | zero =>
    intro v2 v3 hc k
    have k := ly_revb 2 (c' := (6, [(0, .ref (p 28)), (1, .int v1), (2, .int v2), (3, .int v3)], [.ref (p 28), .int v3], me_w M J)) rfl k
    have k := lz_get (a := (p 28)) (g := 101) (M := me_w M J) (v := .ref (p 32)) rfl (nt_gfR rfl hv.2.1) k
    have k := lz_get (a := (p 32)) (g := 803) (M := me_w M J) (v := .int (J (p 32) 3)) rfl (congrArg Value.int (rfl)) k
    have k := ly_revb 1 (c' := (if (J (p 32) 3) ≤ v3 then 61 else 15, [(0, .ref (p 28)), (1, .int v1), (2, .int v2), (3, .int v3)], [], me_w M J)) rfl k
    have h12 : (J (p 32) 3) ≤ v3 := lx_end hc
    rw [if_pos h12] at k
    have k := ly_revb 1 (c' := (62, [(0, .ref (p 28)), (1, .int v1), (2, .int v2), (3, .int v3)], [.int (Int32.ofInt 0)], me_w M J)) rfl k
    have k := lz_ri rfl (by decide) k
    rw [k, x18_4]
  | succ c ih =>
    intro v2 v3 hc k
    have k := ly_revb 2 (c' := (6, [(0, .ref (p 28)), (1, .int v1), (2, .int v2), (3, .int v3)], [.ref (p 28), .int v3], me_w M J)) rfl k
    have k := lz_get (a := (p 28)) (g := 101) (M := me_w M J) (v := .ref (p 32)) rfl (nt_gfR rfl hv.2.1) k
    have k := lz_get (a := (p 32)) (g := 803) (M := me_w M J) (v := .int (J (p 32) 3)) rfl (congrArg Value.int (rfl)) k
    have k := ly_revb 1 (c' := (if (J (p 32) 3) ≤ v3 then 61 else 15, [(0, .ref (p 28)), (1, .int v1), (2, .int v2), (3, .int v3)], [], me_w M J)) rfl k
    by_cases h12 : (J (p 32) 3) ≤ v3
    · rw [if_pos h12] at k
      have k := ly_revb 1 (c' := (62, [(0, .ref (p 28)), (1, .int v1), (2, .int v2), (3, .int v3)], [.int (Int32.ofInt 0)], me_w M J)) rfl k
      have k := lz_ri rfl (by decide) k
      rw [k, x18_4, if_pos h12]
    · rw [if_neg h12] at k
      have k := ly_revb 2 (c' := (17, [(0, .ref (p 28)), (1, .int v1), (2, .int v2), (3, .int v3)], [.int v3, .int v1], me_w M J)) rfl k
      obtain ⟨d1, o1, ed, kc, k⟩ := lz_c (g := 14) (q := 0) (vs := [.int v1, .int v3]) (rest := []) rfl rfl (by decide) (Or.inl ⟨_, rfl, rfl⟩) rfl k
      have e1 := xt14  kc
      subst e1
      have k : nt_rn X _ 18 (20, [(0, .ref (p 28)), (1, .int v1), (2, .int v2), (3, .int v3)], [.int (x14 v1 v3)], me_w M J) _ := k
      have k := ly_revb 1 (c' := (if (x14 v1 v3) = 0 then 55 else 23, [(0, .ref (p 28)), (1, .int v1), (2, .int v2), (3, .int v3)], [], me_w M J)) rfl k
      by_cases h20 : (x14 v1 v3) = 0
      · rw [if_pos h20] at k
        have k := ly_revb 2 (c' := (4, [(3, .int (v3 + (Int32.ofInt 1))), (0, .ref (p 28)), (1, .int v1), (2, .int v2)], [], me_w M J)) rfl k
        have k := nt_rn_w (a := [(3, .int (v3 + (Int32.ofInt 1))), (0, .ref (p 28)), (1, .int v1), (2, .int v2)]) (b := [(0, .ref (p 28)), (1, .int v1), (2, .int v2), (3, .int (v3 + (Int32.ofInt 1)))]) ⟨rfl, rfl, rfl, rfl, trivial⟩ rfl k
        have k := ih v2 (v3 + (Int32.ofInt 1)) (lx_dec h12 hc) k
        rw [k, x18_4, if_neg h12, if_pos h20]
      · rw [if_neg h20] at k
        have k := ly_revb 2 (c' := (25, [(0, .ref (p 28)), (1, .int v1), (2, .int v2), (3, .int v3)], [.ref (p 28), .int v2], me_w M J)) rfl k
        have k := lz_get (a := (p 28)) (g := 101) (M := me_w M J) (v := .ref (p 32)) rfl (nt_gfR rfl hv.2.1) k
        have k := lz_get (a := (p 32)) (g := 809) (M := me_w M J) (v := .ref (p 37)) rfl (nt_gfR rfl (hn.1 (1, 9, 6) (by decide))) k
        have k := ly_revb 1 (c' := (32, [(0, .ref (p 28)), (1, .int v1), (2, .int v2), (3, .int v3)], [.int v3, .ref (p 37), .int v2], me_w M J)) rfl k
        have k := mx_iald (v := J (p 37) v3.toNatClampNeg) rfl (hp.2.2.1 37 (by omega)) (rfl) k
        obtain ⟨d1, o1, ed, kc, k⟩ := lz_c (g := 14) (q := 0) (vs := [.int v2, .int (J (p 37) v3.toNatClampNeg)]) (rest := []) rfl rfl (by decide) (Or.inl ⟨_, rfl, rfl⟩) rfl k
        have e1 := xt14  kc
        subst e1
        have k : nt_rn X _ 18 (36, [(0, .ref (p 28)), (1, .int v1), (2, .int v2), (3, .int v3)], [.int (x14 v2 (J (p 37) v3.toNatClampNeg))], me_w M J) _ := k
        have k := ly_revb 1 (c' := (if (x14 v2 (J (p 37) v3.toNatClampNeg)) = 0 then 41 else 39, [(0, .ref (p 28)), (1, .int v1), (2, .int v2), (3, .int v3)], [], me_w M J)) rfl k
        by_cases h36 : (x14 v2 (J (p 37) v3.toNatClampNeg)) = 0
        · rw [if_pos h36] at k
          have k := ly_revb 3 (c' := (44, [(0, .ref (p 28)), (1, .int v1), (2, .int v2), (3, .int v3)], [.ref (p 28), .int (Int32.ofInt 1), .int v2], me_w M J)) rfl k
          have k := lz_get (a := (p 28)) (g := 101) (M := me_w M J) (v := .ref (p 32)) rfl (nt_gfR rfl hv.2.1) k
          have k := lz_get (a := (p 32)) (g := 809) (M := me_w M J) (v := .ref (p 37)) rfl (nt_gfR rfl (hn.1 (1, 9, 6) (by decide))) k
          have k := ly_revb 1 (c' := (51, [(0, .ref (p 28)), (1, .int v1), (2, .int v2), (3, .int v3)], [.int v3, .ref (p 37), .int (Int32.ofInt 1), .int v2], me_w M J)) rfl k
          have k := mx_iald (v := J (p 37) v3.toNatClampNeg) rfl (hp.2.2.1 37 (by omega)) (rfl) k
          have k := ly_revb 5 (c' := (4, [(3, .int (v3 + (Int32.ofInt 1))), (2, .int (v2 ||| ((Int32.ofInt 1) <<< ((J (p 37) v3.toNatClampNeg) &&& 31)))), (0, .ref (p 28)), (1, .int v1)], [], me_w M J)) rfl k
          have k := nt_rn_w (a := [(3, .int (v3 + (Int32.ofInt 1))), (2, .int (v2 ||| ((Int32.ofInt 1) <<< ((J (p 37) v3.toNatClampNeg) &&& 31)))), (0, .ref (p 28)), (1, .int v1)]) (b := [(0, .ref (p 28)), (1, .int v1), (2, .int (v2 ||| ((Int32.ofInt 1) <<< ((J (p 37) v3.toNatClampNeg) &&& 31)))), (3, .int (v3 + (Int32.ofInt 1)))]) ⟨rfl, rfl, rfl, rfl, trivial⟩ rfl k
          have k := ih (v2 ||| ((Int32.ofInt 1) <<< ((J (p 37) v3.toNatClampNeg) &&& 31))) (v3 + (Int32.ofInt 1)) (lx_dec h12 hc) k
          rw [k, x18_4, if_neg h12, if_neg h20, if_pos h36]
        · rw [if_neg h36] at k
          have k := ly_revb 1 (c' := (40, [(0, .ref (p 28)), (1, .int v1), (2, .int v2), (3, .int v3)], [.int (Int32.ofInt 1)], me_w M J)) rfl k
          have k := lz_ri rfl (by decide) k
          rw [k, x18_4, if_neg h12, if_neg h20, if_neg h36]
theorem x18_4_rule {p : Nat → Nat} {v1 : Int32} {J : Nat → Nat → Int32} {I : Nat → Int32 → Int32 → Prop} {Q : Int32 → Prop} (h0 : ∀ (v2 : Int32) (v3 : Int32), I 0 v2 v3 → Q (Int32.ofInt 0)) (h1 : ∀ (c : Nat) (v2 : Int32) (v3 : Int32), I (c + 1) v2 v3 →
    if (J (p 32) 3) ≤ v3 then (Q (Int32.ofInt 0))
    else if (x14 v1 v3) = 0 then (I c v2 (v3 + (Int32.ofInt 1)))
      else if (x14 v2 (J (p 37) v3.toNatClampNeg)) = 0 then (I c (v2 ||| ((Int32.ofInt 1) <<< ((J (p 37) v3.toNatClampNeg) &&& 31))) (v3 + (Int32.ofInt 1)))
        else (Q (Int32.ofInt 1))) : ∀ (c : Nat) (v2 : Int32) (v3 : Int32), I c v2 v3 → Q (x18_4 p v1 J c v2 v3) := by
  intro c
  induction c with
  | zero =>
    intro v2 v3 hi
    rw [x18_4]
    exact h0 v2 v3 hi
  | succ c ih =>
    intro v2 v3 hi
    have hi := h1 c v2 v3 hi
    rw [x18_4]
    by_cases h : (J (p 32) 3) ≤ v3
    · rw [if_pos h] at hi ⊢
      exact hi
    · rw [if_neg h] at hi ⊢
      by_cases h : (x14 v1 v3) = 0
      · rw [if_pos h] at hi ⊢
        exact ih _ _ hi
      · rw [if_neg h] at hi ⊢
        by_cases h : (x14 v2 (J (p 37) v3.toNatClampNeg)) = 0
        · rw [if_pos h] at hi ⊢
          exact ih _ _ hi
        · rw [if_neg h] at hi ⊢
          exact hi
def x18 (p : Nat → Nat) (v1 : Int32) (J : Nat → Nat → Int32) : Int32 := (x18_4 p v1 J ((J (p 32) 3).toNatClampNeg) (Int32.ofInt 0) (Int32.ofInt 0))
theorem xt18 {X : nt_X} {d : Nat} {M : nt_M} {o : Option Value × nt_M} {p : Nat → Nat} {v1 : Int32} {J : Nat → Nat → Int32} (hp : xs_P M p) (hn : xs_Q M (fun i => p (31 + i))) (hv : xs_V M p) (k : nt_ev X d 18 [.ref (p 28), .int v1] (me_w M J) o) : o = (some (.int (x18 p v1 J)), me_w M J) := by
  have k : nt_rn X d 18 (0, [(0, .ref (p 28)), (1, .int v1)], [], me_w M J) o := k
  have k := ly_revb 4 (c' := (4, [(3, .int (Int32.ofInt 0)), (2, .int (Int32.ofInt 0)), (0, .ref (p 28)), (1, .int v1)], [], me_w M J)) rfl k
  have k := nt_rn_w (a := [(3, .int (Int32.ofInt 0)), (2, .int (Int32.ofInt 0)), (0, .ref (p 28)), (1, .int v1)]) (b := [(0, .ref (p 28)), (1, .int v1), (2, .int (Int32.ofInt 0)), (3, .int (Int32.ofInt 0))]) ⟨rfl, rfl, rfl, rfl, trivial⟩ rfl k
  have k := xt18_4 hp hn hv  ((J (p 32) 3).toNatClampNeg) (Int32.ofInt 0) (Int32.ofInt 0) (lx_beg (by decide)) k
  rw [k, x18]
/-! $Plans.failure -/
def x15_10 (p : Nat → Nat) (v3 : Int32) (J : Nat → Nat → Int32) : Nat → Int32 → Int32
  | 0, v4 => if (x18 p v3 J) = 0 then (Int32.ofInt (-1))
    else (Int32.ofInt 4)
  | c + 1, v4 => if (J (p 32) 0) ≤ v4 then if (x18 p v3 J) = 0 then (Int32.ofInt (-1))
      else (Int32.ofInt 4)
    else if (x17 p v3 v4 J) ≤ (J (p 29) v4.toNatClampNeg) then (x15_10 p v3 J c (v4 + (Int32.ofInt 1)))
      else v4
theorem xt15_10 {X : nt_X} {d : Nat} {M : nt_M} {o : Option Value × nt_M} {p : Nat → Nat} {v1 : Int32} {v2 : Int32} {v3 : Int32} {J : Nat → Nat → Int32} (hp : xs_P M p) (hn : xs_Q M (fun i => p (31 + i))) (hv : xs_V M p) : ∀ (c : Nat) (v4 : Int32), (J (p 32) 0).toInt - v4.toInt ≤ c → nt_rn X d 15 (10, [(0, .ref (p 28)), (1, .int v1), (2, .int v2), (3, .int v3), (4, .int v4)], [], me_w M J) o → o = (some (.int (x15_10 p v3 J c v4)), me_w M J) := by
  intro c
  induction c with
  | zero =>
    intro v4 hc k
    have k := ly_revb 2 (c' := (13, [(0, .ref (p 28)), (1, .int v1), (2, .int v2), (3, .int v3), (4, .int v4)], [.ref (p 28), .int v4], me_w M J)) rfl k
    have k := lz_get (a := (p 28)) (g := 101) (M := me_w M J) (v := .ref (p 32)) rfl (nt_gfR rfl hv.2.1) k
    have k := lz_get (a := (p 32)) (g := 800) (M := me_w M J) (v := .int (J (p 32) 0)) rfl (congrArg Value.int (rfl)) k
    have k := ly_revb 1 (c' := (if (J (p 32) 0) ≤ v4 then 48 else 22, [(0, .ref (p 28)), (1, .int v1), (2, .int v2), (3, .int v3), (4, .int v4)], [], me_w M J)) rfl k
    have h19 : (J (p 32) 0) ≤ v4 := lx_end hc
    rw [if_pos h19] at k
    have k := ly_revb 2 (c' := (50, [(0, .ref (p 28)), (1, .int v1), (2, .int v2), (3, .int v3), (4, .int v4)], [.int v3, .ref (p 28)], me_w M J)) rfl k
    obtain ⟨d1, o1, ed, kc, k⟩ := lz_c (g := 18) (q := 1) (vs := [.ref (p 28), .int v3]) (rest := []) rfl rfl (by decide) (Or.inr (Or.inl ⟨_, rfl, rfl⟩)) rfl k
    have e1 := xt18 hp hn hv kc
    subst e1
    have k : nt_rn X _ 15 (53, [(0, .ref (p 28)), (1, .int v1), (2, .int v2), (3, .int v3), (4, .int v4)], [.int (x18 p v3 J)], me_w M J) _ := k
    have k := ly_revb 1 (c' := (if (x18 p v3 J) = 0 then 60 else 56, [(0, .ref (p 28)), (1, .int v1), (2, .int v2), (3, .int v3), (4, .int v4)], [], me_w M J)) rfl k
    by_cases h53 : (x18 p v3 J) = 0
    · rw [if_pos h53] at k
      have k := ly_revb 1 (c' := (61, [(0, .ref (p 28)), (1, .int v1), (2, .int v2), (3, .int v3), (4, .int v4)], [.int (Int32.ofInt (-1))], me_w M J)) rfl k
      have k := lz_ri rfl (by decide) k
      rw [k, x15_10, if_pos h53]
    · rw [if_neg h53] at k
      have k := ly_revb 2 (c' := (61, [(0, .ref (p 28)), (1, .int v1), (2, .int v2), (3, .int v3), (4, .int v4)], [.int (Int32.ofInt 4)], me_w M J)) rfl k
      have k := lz_ri rfl (by decide) k
      rw [k, x15_10, if_neg h53]
  | succ c ih =>
    intro v4 hc k
    have k := ly_revb 2 (c' := (13, [(0, .ref (p 28)), (1, .int v1), (2, .int v2), (3, .int v3), (4, .int v4)], [.ref (p 28), .int v4], me_w M J)) rfl k
    have k := lz_get (a := (p 28)) (g := 101) (M := me_w M J) (v := .ref (p 32)) rfl (nt_gfR rfl hv.2.1) k
    have k := lz_get (a := (p 32)) (g := 800) (M := me_w M J) (v := .int (J (p 32) 0)) rfl (congrArg Value.int (rfl)) k
    have k := ly_revb 1 (c' := (if (J (p 32) 0) ≤ v4 then 48 else 22, [(0, .ref (p 28)), (1, .int v1), (2, .int v2), (3, .int v3), (4, .int v4)], [], me_w M J)) rfl k
    by_cases h19 : (J (p 32) 0) ≤ v4
    · rw [if_pos h19] at k
      have k := ly_revb 2 (c' := (50, [(0, .ref (p 28)), (1, .int v1), (2, .int v2), (3, .int v3), (4, .int v4)], [.int v3, .ref (p 28)], me_w M J)) rfl k
      obtain ⟨d1, o1, ed, kc, k⟩ := lz_c (g := 18) (q := 1) (vs := [.ref (p 28), .int v3]) (rest := []) rfl rfl (by decide) (Or.inr (Or.inl ⟨_, rfl, rfl⟩)) rfl k
      have e1 := xt18 hp hn hv kc
      subst e1
      have k : nt_rn X _ 15 (53, [(0, .ref (p 28)), (1, .int v1), (2, .int v2), (3, .int v3), (4, .int v4)], [.int (x18 p v3 J)], me_w M J) _ := k
      have k := ly_revb 1 (c' := (if (x18 p v3 J) = 0 then 60 else 56, [(0, .ref (p 28)), (1, .int v1), (2, .int v2), (3, .int v3), (4, .int v4)], [], me_w M J)) rfl k
      by_cases h53 : (x18 p v3 J) = 0
      · rw [if_pos h53] at k
        have k := ly_revb 1 (c' := (61, [(0, .ref (p 28)), (1, .int v1), (2, .int v2), (3, .int v3), (4, .int v4)], [.int (Int32.ofInt (-1))], me_w M J)) rfl k
        have k := lz_ri rfl (by decide) k
        rw [k, x15_10, if_pos h19, if_pos h53]
      · rw [if_neg h53] at k
        have k := ly_revb 2 (c' := (61, [(0, .ref (p 28)), (1, .int v1), (2, .int v2), (3, .int v3), (4, .int v4)], [.int (Int32.ofInt 4)], me_w M J)) rfl k
        have k := lz_ri rfl (by decide) k
        rw [k, x15_10, if_pos h19, if_neg h53]
    · rw [if_neg h19] at k
      have k := ly_revb 3 (c' := (26, [(0, .ref (p 28)), (1, .int v1), (2, .int v2), (3, .int v3), (4, .int v4)], [.int v4, .int v3, .ref (p 28)], me_w M J)) rfl k
      obtain ⟨d1, o1, ed, kc, k⟩ := lz_c (g := 17) (q := 1) (vs := [.ref (p 28), .int v3, .int v4]) (rest := []) rfl rfl (by decide) (Or.inr (Or.inl ⟨_, rfl, rfl⟩)) rfl k
      have e1 := xt17 hp hn hv kc
      subst e1
      have k : nt_rn X _ 15 (29, [(0, .ref (p 28)), (1, .int v1), (2, .int v2), (3, .int v3), (4, .int v4)], [.int (x17 p v3 v4 J)], me_w M J) _ := k
      have k := ly_revb 1 (c' := (30, [(0, .ref (p 28)), (1, .int v1), (2, .int v2), (3, .int v3), (4, .int v4)], [.ref (p 28), .int (x17 p v3 v4 J)], me_w M J)) rfl k
      have k := lz_get (a := (p 28)) (g := 102) (M := me_w M J) (v := .ref (p 29)) rfl (nt_gfR rfl (hp.1 (28, 2, 29) (by decide))) k
      have k := ly_revb 1 (c' := (35, [(0, .ref (p 28)), (1, .int v1), (2, .int v2), (3, .int v3), (4, .int v4)], [.int v4, .ref (p 29), .int (x17 p v3 v4 J)], me_w M J)) rfl k
      have k := mx_iald (v := J (p 29) v4.toNatClampNeg) rfl (hp.2.2.1 29 (by omega)) (rfl) k
      have k := ly_revb 1 (c' := (if (x17 p v3 v4 J) ≤ (J (p 29) v4.toNatClampNeg) then 42 else 39, [(0, .ref (p 28)), (1, .int v1), (2, .int v2), (3, .int v3), (4, .int v4)], [], me_w M J)) rfl k
      by_cases h36 : (x17 p v3 v4 J) ≤ (J (p 29) v4.toNatClampNeg)
      · rw [if_pos h36] at k
        have k := ly_revb 2 (c' := (10, [(4, .int (v4 + (Int32.ofInt 1))), (0, .ref (p 28)), (1, .int v1), (2, .int v2), (3, .int v3)], [], me_w M J)) rfl k
        have k := nt_rn_w (a := [(4, .int (v4 + (Int32.ofInt 1))), (0, .ref (p 28)), (1, .int v1), (2, .int v2), (3, .int v3)]) (b := [(0, .ref (p 28)), (1, .int v1), (2, .int v2), (3, .int v3), (4, .int (v4 + (Int32.ofInt 1)))]) ⟨rfl, rfl, rfl, rfl, rfl, trivial⟩ rfl k
        have k := ih (v4 + (Int32.ofInt 1)) (lx_dec h19 hc) k
        rw [k, x15_10, if_neg h19, if_pos h36]
      · rw [if_neg h36] at k
        have k := ly_revb 1 (c' := (41, [(0, .ref (p 28)), (1, .int v1), (2, .int v2), (3, .int v3), (4, .int v4)], [.int v4], me_w M J)) rfl k
        have k := lz_ri rfl (by decide) k
        rw [k, x15_10, if_neg h19, if_neg h36]
theorem x15_10_rule {p : Nat → Nat} {v3 : Int32} {J : Nat → Nat → Int32} {I : Nat → Int32 → Prop} {Q : Int32 → Prop} (h0 : ∀ (v4 : Int32), I 0 v4 → Q (if (x18 p v3 J) = 0 then (Int32.ofInt (-1))
    else (Int32.ofInt 4))) (h1 : ∀ (c : Nat) (v4 : Int32), I (c + 1) v4 →
    if (J (p 32) 0) ≤ v4 then if (x18 p v3 J) = 0 then (Q (Int32.ofInt (-1)))
      else (Q (Int32.ofInt 4))
    else if (x17 p v3 v4 J) ≤ (J (p 29) v4.toNatClampNeg) then (I c (v4 + (Int32.ofInt 1)))
      else (Q v4)) : ∀ (c : Nat) (v4 : Int32), I c v4 → Q (x15_10 p v3 J c v4) := by
  intro c
  induction c with
  | zero =>
    intro v4 hi
    rw [x15_10]
    exact h0 v4 hi
  | succ c ih =>
    intro v4 hi
    have hi := h1 c v4 hi
    rw [x15_10]
    by_cases h : (J (p 32) 0) ≤ v4
    · rw [if_pos h] at hi ⊢
      by_cases h : (x18 p v3 J) = 0
      · rw [if_pos h] at hi ⊢
        exact hi
      · rw [if_neg h] at hi ⊢
        exact hi
    · rw [if_neg h] at hi ⊢
      by_cases h : (x17 p v3 v4 J) ≤ (J (p 29) v4.toNatClampNeg)
      · rw [if_pos h] at hi ⊢
        exact ih _ hi
      · rw [if_neg h] at hi ⊢
        exact hi
def x15 (p : Nat → Nat) (v1 : Int32) (v2 : Int32) (J : Nat → Nat → Int32) : Int32 := (x15_10 p (x16 p v1 v2 J) J ((J (p 32) 0).toNatClampNeg) (Int32.ofInt 0))
theorem xt15 {X : nt_X} {d : Nat} {M : nt_M} {o : Option Value × nt_M} {p : Nat → Nat} {v1 : Int32} {v2 : Int32} {J : Nat → Nat → Int32} (hp : xs_P M p) (hn : xs_Q M (fun i => p (31 + i))) (hv : xs_V M p) (k : nt_ev X d 15 [.ref (p 28), .int v1, .int v2] (me_w M J) o) : o = (some (.int (x15 p v1 v2 J)), me_w M J) := by
  have k : nt_rn X d 15 (0, [(0, .ref (p 28)), (1, .int v1), (2, .int v2)], [], me_w M J) o := k
  have k := ly_revb 3 (c' := (3, [(0, .ref (p 28)), (1, .int v1), (2, .int v2)], [.int v2, .int v1, .ref (p 28)], me_w M J)) rfl k
  obtain ⟨d1, o1, ed, kc, k⟩ := lz_c (g := 16) (q := 1) (vs := [.ref (p 28), .int v1, .int v2]) (rest := []) rfl rfl (by decide) (Or.inr (Or.inl ⟨_, rfl, rfl⟩)) rfl k
  have e1 := xt16 hp hn hv kc
  subst e1
  have k : nt_rn X _ 15 (6, [(0, .ref (p 28)), (1, .int v1), (2, .int v2)], [.int (x16 p v1 v2 J)], me_w M J) _ := k
  have k := ly_revb 3 (c' := (10, [(4, .int (Int32.ofInt 0)), (3, .int (x16 p v1 v2 J)), (0, .ref (p 28)), (1, .int v1), (2, .int v2)], [], me_w M J)) rfl k
  have k := nt_rn_w (a := [(4, .int (Int32.ofInt 0)), (3, .int (x16 p v1 v2 J)), (0, .ref (p 28)), (1, .int v1), (2, .int v2)]) (b := [(0, .ref (p 28)), (1, .int v1), (2, .int v2), (3, .int (x16 p v1 v2 J)), (4, .int (Int32.ofInt 0))]) ⟨rfl, rfl, rfl, rfl, rfl, trivial⟩ rfl k
  have k := xt15_10 hp hn hv  ((J (p 32) 0).toNatClampNeg) (Int32.ofInt 0) (lx_beg (by decide)) k
  rw [k, x15]
/-! $Plans.failingDay -/
def x13_4 (p : Nat → Nat) (v1 : Int32) (J : Nat → Nat → Int32) : Nat → Int32 → Int32 → Int32
  | 0, v2, v3 => v2
  | c + 1, v2, v3 => if (J (p 32) 3) ≤ v3 then v2
    else if (x14 v1 v3) = 0 then (x13_4 p v1 J c v2 (v3 + (Int32.ofInt 1)))
      else if v2 = (Int32.ofInt (-1)) then if (x15 p v1 (J (p 38) v3.toNatClampNeg) J) = (Int32.ofInt (-1)) then (x13_4 p v1 J c v2 (v3 + (Int32.ofInt 1)))
          else (x13_4 p v1 J c (J (p 38) v3.toNatClampNeg) (v3 + (Int32.ofInt 1)))
        else if v2 ≤ (J (p 38) v3.toNatClampNeg) then (x13_4 p v1 J c v2 (v3 + (Int32.ofInt 1)))
          else if (x15 p v1 (J (p 38) v3.toNatClampNeg) J) = (Int32.ofInt (-1)) then (x13_4 p v1 J c v2 (v3 + (Int32.ofInt 1)))
            else (x13_4 p v1 J c (J (p 38) v3.toNatClampNeg) (v3 + (Int32.ofInt 1)))
theorem xt13_4 {X : nt_X} {d : Nat} {M : nt_M} {o : Option Value × nt_M} {p : Nat → Nat} {v1 : Int32} {J : Nat → Nat → Int32} (hp : xs_P M p) (hn : xs_Q M (fun i => p (31 + i))) (hv : xs_V M p) : ∀ (c : Nat) (v2 : Int32) (v3 : Int32) (v4 : Int32), (J (p 32) 3).toInt - v3.toInt ≤ c → nt_rn X d 13 (4, [(0, .ref (p 28)), (1, .int v1), (2, .int v2), (3, .int v3), (4, .int v4)], [], me_w M J) o → o = (some (.int (x13_4 p v1 J c v2 v3)), me_w M J) := by
  intro c
  induction c with
  | zero =>
    intro v2 v3 v4 hc k
    have k := ly_revb 2 (c' := (6, [(0, .ref (p 28)), (1, .int v1), (2, .int v2), (3, .int v3), (4, .int v4)], [.ref (p 28), .int v3], me_w M J)) rfl k
    have k := lz_get (a := (p 28)) (g := 101) (M := me_w M J) (v := .ref (p 32)) rfl (nt_gfR rfl hv.2.1) k
    have k := lz_get (a := (p 32)) (g := 803) (M := me_w M J) (v := .int (J (p 32) 3)) rfl (congrArg Value.int (rfl)) k
    have k := ly_revb 1 (c' := (if (J (p 32) 3) ≤ v3 then 65 else 15, [(0, .ref (p 28)), (1, .int v1), (2, .int v2), (3, .int v3), (4, .int v4)], [], me_w M J)) rfl k
    have h12 : (J (p 32) 3) ≤ v3 := lx_end hc
    rw [if_pos h12] at k
    have k := ly_revb 1 (c' := (66, [(0, .ref (p 28)), (1, .int v1), (2, .int v2), (3, .int v3), (4, .int v4)], [.int v2], me_w M J)) rfl k
    have k := lz_ri rfl (by decide) k
    rw [k, x13_4]
  | succ c ih =>
    intro v2 v3 v4 hc k
    have k := ly_revb 2 (c' := (6, [(0, .ref (p 28)), (1, .int v1), (2, .int v2), (3, .int v3), (4, .int v4)], [.ref (p 28), .int v3], me_w M J)) rfl k
    have k := lz_get (a := (p 28)) (g := 101) (M := me_w M J) (v := .ref (p 32)) rfl (nt_gfR rfl hv.2.1) k
    have k := lz_get (a := (p 32)) (g := 803) (M := me_w M J) (v := .int (J (p 32) 3)) rfl (congrArg Value.int (rfl)) k
    have k := ly_revb 1 (c' := (if (J (p 32) 3) ≤ v3 then 65 else 15, [(0, .ref (p 28)), (1, .int v1), (2, .int v2), (3, .int v3), (4, .int v4)], [], me_w M J)) rfl k
    by_cases h12 : (J (p 32) 3) ≤ v3
    · rw [if_pos h12] at k
      have k := ly_revb 1 (c' := (66, [(0, .ref (p 28)), (1, .int v1), (2, .int v2), (3, .int v3), (4, .int v4)], [.int v2], me_w M J)) rfl k
      have k := lz_ri rfl (by decide) k
      rw [k, x13_4, if_pos h12]
    · rw [if_neg h12] at k
      have k := ly_revb 1 (c' := (16, [(0, .ref (p 28)), (1, .int v1), (2, .int v2), (3, .int v3), (4, .int v4)], [.ref (p 28)], me_w M J)) rfl k
      have k := lz_get (a := (p 28)) (g := 101) (M := me_w M J) (v := .ref (p 32)) rfl (nt_gfR rfl hv.2.1) k
      have k := lz_get (a := (p 32)) (g := 810) (M := me_w M J) (v := .ref (p 38)) rfl (nt_gfR rfl (hn.1 (1, 10, 7) (by decide))) k
      have k := ly_revb 1 (c' := (23, [(0, .ref (p 28)), (1, .int v1), (2, .int v2), (3, .int v3), (4, .int v4)], [.int v3, .ref (p 38)], me_w M J)) rfl k
      have k := mx_iald (v := J (p 38) v3.toNatClampNeg) rfl (hp.2.2.1 38 (by omega)) (rfl) k
      have k := ly_revb 3 (c' := (28, [(4, .int (J (p 38) v3.toNatClampNeg)), (0, .ref (p 28)), (1, .int v1), (2, .int v2), (3, .int v3)], [.int v3, .int v1], me_w M J)) rfl k
      obtain ⟨d1, o1, ed, kc, k⟩ := lz_c (g := 14) (q := 0) (vs := [.int v1, .int v3]) (rest := []) rfl rfl (by decide) (Or.inl ⟨_, rfl, rfl⟩) rfl k
      have e1 := xt14  kc
      subst e1
      have k : nt_rn X _ 13 (31, [(4, .int (J (p 38) v3.toNatClampNeg)), (0, .ref (p 28)), (1, .int v1), (2, .int v2), (3, .int v3)], [.int (x14 v1 v3)], me_w M J) _ := k
      have k := ly_revb 1 (c' := (if (x14 v1 v3) = 0 then 59 else 34, [(4, .int (J (p 38) v3.toNatClampNeg)), (0, .ref (p 28)), (1, .int v1), (2, .int v2), (3, .int v3)], [], me_w M J)) rfl k
      by_cases h31 : (x14 v1 v3) = 0
      · rw [if_pos h31] at k
        have k := ly_revb 2 (c' := (4, [(3, .int (v3 + (Int32.ofInt 1))), (4, .int (J (p 38) v3.toNatClampNeg)), (0, .ref (p 28)), (1, .int v1), (2, .int v2)], [], me_w M J)) rfl k
        have k := nt_rn_w (a := [(3, .int (v3 + (Int32.ofInt 1))), (4, .int (J (p 38) v3.toNatClampNeg)), (0, .ref (p 28)), (1, .int v1), (2, .int v2)]) (b := [(0, .ref (p 28)), (1, .int v1), (2, .int v2), (3, .int (v3 + (Int32.ofInt 1))), (4, .int (J (p 38) v3.toNatClampNeg))]) ⟨rfl, rfl, rfl, rfl, rfl, trivial⟩ rfl k
        have k := ih v2 (v3 + (Int32.ofInt 1)) (J (p 38) v3.toNatClampNeg) (lx_dec h12 hc) k
        rw [k, x13_4, if_neg h12, if_pos h31]
      · rw [if_neg h31] at k
        have k := ly_revb 3 (c' := (if v2 = (Int32.ofInt (-1)) then 45 else 39, [(4, .int (J (p 38) v3.toNatClampNeg)), (0, .ref (p 28)), (1, .int v1), (2, .int v2), (3, .int v3)], [], me_w M J)) rfl k
        by_cases h36 : v2 = (Int32.ofInt (-1))
        · rw [if_pos h36] at k
          have k := ly_revb 3 (c' := (49, [(4, .int (J (p 38) v3.toNatClampNeg)), (0, .ref (p 28)), (1, .int v1), (2, .int v2), (3, .int v3)], [.int (J (p 38) v3.toNatClampNeg), .int v1, .ref (p 28)], me_w M J)) rfl k
          obtain ⟨d1, o1, ed, kc, k⟩ := lz_c (g := 15) (q := 1) (vs := [.ref (p 28), .int v1, .int (J (p 38) v3.toNatClampNeg)]) (rest := []) rfl rfl (by decide) (Or.inr (Or.inl ⟨_, rfl, rfl⟩)) rfl k
          have e1 := xt15 hp hn hv kc
          subst e1
          have k : nt_rn X _ 13 (52, [(4, .int (J (p 38) v3.toNatClampNeg)), (0, .ref (p 28)), (1, .int v1), (2, .int v2), (3, .int v3)], [.int (x15 p v1 (J (p 38) v3.toNatClampNeg) J)], me_w M J) _ := k
          have k := ly_revb 2 (c' := (if (x15 p v1 (J (p 38) v3.toNatClampNeg) J) = (Int32.ofInt (-1)) then 59 else 56, [(4, .int (J (p 38) v3.toNatClampNeg)), (0, .ref (p 28)), (1, .int v1), (2, .int v2), (3, .int v3)], [], me_w M J)) rfl k
          by_cases h53 : (x15 p v1 (J (p 38) v3.toNatClampNeg) J) = (Int32.ofInt (-1))
          · rw [if_pos h53] at k
            have k := ly_revb 2 (c' := (4, [(3, .int (v3 + (Int32.ofInt 1))), (4, .int (J (p 38) v3.toNatClampNeg)), (0, .ref (p 28)), (1, .int v1), (2, .int v2)], [], me_w M J)) rfl k
            have k := nt_rn_w (a := [(3, .int (v3 + (Int32.ofInt 1))), (4, .int (J (p 38) v3.toNatClampNeg)), (0, .ref (p 28)), (1, .int v1), (2, .int v2)]) (b := [(0, .ref (p 28)), (1, .int v1), (2, .int v2), (3, .int (v3 + (Int32.ofInt 1))), (4, .int (J (p 38) v3.toNatClampNeg))]) ⟨rfl, rfl, rfl, rfl, rfl, trivial⟩ rfl k
            have k := ih v2 (v3 + (Int32.ofInt 1)) (J (p 38) v3.toNatClampNeg) (lx_dec h12 hc) k
            rw [k, x13_4, if_neg h12, if_neg h31, if_pos h36, if_pos h53]
          · rw [if_neg h53] at k
            have k := ly_revb 4 (c' := (4, [(3, .int (v3 + (Int32.ofInt 1))), (2, .int (J (p 38) v3.toNatClampNeg)), (4, .int (J (p 38) v3.toNatClampNeg)), (0, .ref (p 28)), (1, .int v1)], [], me_w M J)) rfl k
            have k := nt_rn_w (a := [(3, .int (v3 + (Int32.ofInt 1))), (2, .int (J (p 38) v3.toNatClampNeg)), (4, .int (J (p 38) v3.toNatClampNeg)), (0, .ref (p 28)), (1, .int v1)]) (b := [(0, .ref (p 28)), (1, .int v1), (2, .int (J (p 38) v3.toNatClampNeg)), (3, .int (v3 + (Int32.ofInt 1))), (4, .int (J (p 38) v3.toNatClampNeg))]) ⟨rfl, rfl, rfl, rfl, rfl, trivial⟩ rfl k
            have k := ih (J (p 38) v3.toNatClampNeg) (v3 + (Int32.ofInt 1)) (J (p 38) v3.toNatClampNeg) (lx_dec h12 hc) k
            rw [k, x13_4, if_neg h12, if_neg h31, if_pos h36, if_neg h53]
        · rw [if_neg h36] at k
          have k := ly_revb 3 (c' := (if v2 ≤ (J (p 38) v3.toNatClampNeg) then 59 else 45, [(4, .int (J (p 38) v3.toNatClampNeg)), (0, .ref (p 28)), (1, .int v1), (2, .int v2), (3, .int v3)], [], me_w M J)) rfl k
          by_cases h42 : v2 ≤ (J (p 38) v3.toNatClampNeg)
          · rw [if_pos h42] at k
            have k := ly_revb 2 (c' := (4, [(3, .int (v3 + (Int32.ofInt 1))), (4, .int (J (p 38) v3.toNatClampNeg)), (0, .ref (p 28)), (1, .int v1), (2, .int v2)], [], me_w M J)) rfl k
            have k := nt_rn_w (a := [(3, .int (v3 + (Int32.ofInt 1))), (4, .int (J (p 38) v3.toNatClampNeg)), (0, .ref (p 28)), (1, .int v1), (2, .int v2)]) (b := [(0, .ref (p 28)), (1, .int v1), (2, .int v2), (3, .int (v3 + (Int32.ofInt 1))), (4, .int (J (p 38) v3.toNatClampNeg))]) ⟨rfl, rfl, rfl, rfl, rfl, trivial⟩ rfl k
            have k := ih v2 (v3 + (Int32.ofInt 1)) (J (p 38) v3.toNatClampNeg) (lx_dec h12 hc) k
            rw [k, x13_4, if_neg h12, if_neg h31, if_neg h36, if_pos h42]
          · rw [if_neg h42] at k
            have k := ly_revb 3 (c' := (49, [(4, .int (J (p 38) v3.toNatClampNeg)), (0, .ref (p 28)), (1, .int v1), (2, .int v2), (3, .int v3)], [.int (J (p 38) v3.toNatClampNeg), .int v1, .ref (p 28)], me_w M J)) rfl k
            obtain ⟨d1, o1, ed, kc, k⟩ := lz_c (g := 15) (q := 1) (vs := [.ref (p 28), .int v1, .int (J (p 38) v3.toNatClampNeg)]) (rest := []) rfl rfl (by decide) (Or.inr (Or.inl ⟨_, rfl, rfl⟩)) rfl k
            have e1 := xt15 hp hn hv kc
            subst e1
            have k : nt_rn X _ 13 (52, [(4, .int (J (p 38) v3.toNatClampNeg)), (0, .ref (p 28)), (1, .int v1), (2, .int v2), (3, .int v3)], [.int (x15 p v1 (J (p 38) v3.toNatClampNeg) J)], me_w M J) _ := k
            have k := ly_revb 2 (c' := (if (x15 p v1 (J (p 38) v3.toNatClampNeg) J) = (Int32.ofInt (-1)) then 59 else 56, [(4, .int (J (p 38) v3.toNatClampNeg)), (0, .ref (p 28)), (1, .int v1), (2, .int v2), (3, .int v3)], [], me_w M J)) rfl k
            by_cases h53 : (x15 p v1 (J (p 38) v3.toNatClampNeg) J) = (Int32.ofInt (-1))
            · rw [if_pos h53] at k
              have k := ly_revb 2 (c' := (4, [(3, .int (v3 + (Int32.ofInt 1))), (4, .int (J (p 38) v3.toNatClampNeg)), (0, .ref (p 28)), (1, .int v1), (2, .int v2)], [], me_w M J)) rfl k
              have k := nt_rn_w (a := [(3, .int (v3 + (Int32.ofInt 1))), (4, .int (J (p 38) v3.toNatClampNeg)), (0, .ref (p 28)), (1, .int v1), (2, .int v2)]) (b := [(0, .ref (p 28)), (1, .int v1), (2, .int v2), (3, .int (v3 + (Int32.ofInt 1))), (4, .int (J (p 38) v3.toNatClampNeg))]) ⟨rfl, rfl, rfl, rfl, rfl, trivial⟩ rfl k
              have k := ih v2 (v3 + (Int32.ofInt 1)) (J (p 38) v3.toNatClampNeg) (lx_dec h12 hc) k
              rw [k, x13_4, if_neg h12, if_neg h31, if_neg h36, if_neg h42, if_pos h53]
            · rw [if_neg h53] at k
              have k := ly_revb 4 (c' := (4, [(3, .int (v3 + (Int32.ofInt 1))), (2, .int (J (p 38) v3.toNatClampNeg)), (4, .int (J (p 38) v3.toNatClampNeg)), (0, .ref (p 28)), (1, .int v1)], [], me_w M J)) rfl k
              have k := nt_rn_w (a := [(3, .int (v3 + (Int32.ofInt 1))), (2, .int (J (p 38) v3.toNatClampNeg)), (4, .int (J (p 38) v3.toNatClampNeg)), (0, .ref (p 28)), (1, .int v1)]) (b := [(0, .ref (p 28)), (1, .int v1), (2, .int (J (p 38) v3.toNatClampNeg)), (3, .int (v3 + (Int32.ofInt 1))), (4, .int (J (p 38) v3.toNatClampNeg))]) ⟨rfl, rfl, rfl, rfl, rfl, trivial⟩ rfl k
              have k := ih (J (p 38) v3.toNatClampNeg) (v3 + (Int32.ofInt 1)) (J (p 38) v3.toNatClampNeg) (lx_dec h12 hc) k
              rw [k, x13_4, if_neg h12, if_neg h31, if_neg h36, if_neg h42, if_neg h53]
theorem x13_4_rule {p : Nat → Nat} {v1 : Int32} {J : Nat → Nat → Int32} {I : Nat → Int32 → Int32 → Prop} {Q : Int32 → Prop} (h0 : ∀ (v2 : Int32) (v3 : Int32), I 0 v2 v3 → Q v2) (h1 : ∀ (c : Nat) (v2 : Int32) (v3 : Int32), I (c + 1) v2 v3 →
    if (J (p 32) 3) ≤ v3 then (Q v2)
    else if (x14 v1 v3) = 0 then (I c v2 (v3 + (Int32.ofInt 1)))
      else if v2 = (Int32.ofInt (-1)) then if (x15 p v1 (J (p 38) v3.toNatClampNeg) J) = (Int32.ofInt (-1)) then (I c v2 (v3 + (Int32.ofInt 1)))
          else (I c (J (p 38) v3.toNatClampNeg) (v3 + (Int32.ofInt 1)))
        else if v2 ≤ (J (p 38) v3.toNatClampNeg) then (I c v2 (v3 + (Int32.ofInt 1)))
          else if (x15 p v1 (J (p 38) v3.toNatClampNeg) J) = (Int32.ofInt (-1)) then (I c v2 (v3 + (Int32.ofInt 1)))
            else (I c (J (p 38) v3.toNatClampNeg) (v3 + (Int32.ofInt 1)))) : ∀ (c : Nat) (v2 : Int32) (v3 : Int32), I c v2 v3 → Q (x13_4 p v1 J c v2 v3) := by
  intro c
  induction c with
  | zero =>
    intro v2 v3 hi
    rw [x13_4]
    exact h0 v2 v3 hi
  | succ c ih =>
    intro v2 v3 hi
    have hi := h1 c v2 v3 hi
    rw [x13_4]
    by_cases h : (J (p 32) 3) ≤ v3
    · rw [if_pos h] at hi ⊢
      exact hi
    · rw [if_neg h] at hi ⊢
      by_cases h : (x14 v1 v3) = 0
      · rw [if_pos h] at hi ⊢
        exact ih _ _ hi
      · rw [if_neg h] at hi ⊢
        by_cases h : v2 = (Int32.ofInt (-1))
        · rw [if_pos h] at hi ⊢
          by_cases h : (x15 p v1 (J (p 38) v3.toNatClampNeg) J) = (Int32.ofInt (-1))
          · rw [if_pos h] at hi ⊢
            exact ih _ _ hi
          · rw [if_neg h] at hi ⊢
            exact ih _ _ hi
        · rw [if_neg h] at hi ⊢
          by_cases h : v2 ≤ (J (p 38) v3.toNatClampNeg)
          · rw [if_pos h] at hi ⊢
            exact ih _ _ hi
          · rw [if_neg h] at hi ⊢
            by_cases h : (x15 p v1 (J (p 38) v3.toNatClampNeg) J) = (Int32.ofInt (-1))
            · rw [if_pos h] at hi ⊢
              exact ih _ _ hi
            · rw [if_neg h] at hi ⊢
              exact ih _ _ hi
def x13 (p : Nat → Nat) (v1 : Int32) (J : Nat → Nat → Int32) : Int32 := (x13_4 p v1 J ((J (p 32) 3).toNatClampNeg) (Int32.ofInt (-1)) (Int32.ofInt 0))
theorem xt13 {X : nt_X} {d : Nat} {M : nt_M} {o : Option Value × nt_M} {p : Nat → Nat} {v1 : Int32} {J : Nat → Nat → Int32} (hp : xs_P M p) (hn : xs_Q M (fun i => p (31 + i))) (hv : xs_V M p) (k : nt_ev X d 13 [.ref (p 28), .int v1] (me_w M J) o) : o = (some (.int (x13 p v1 J)), me_w M J) := by
  have k : nt_rn X d 13 (0, [(0, .ref (p 28)), (1, .int v1)], [], me_w M J) o := k
  have k := ly_revb 4 (c' := (4, [(3, .int (Int32.ofInt 0)), (2, .int (Int32.ofInt (-1))), (0, .ref (p 28)), (1, .int v1)], [], me_w M J)) rfl k
  have k := nt_rn_w (a := [(3, .int (Int32.ofInt 0)), (2, .int (Int32.ofInt (-1))), (0, .ref (p 28)), (1, .int v1)]) (b := [(0, .ref (p 28)), (1, .int v1), (2, .int (Int32.ofInt (-1))), (3, .int (Int32.ofInt 0)), (4, .int (Int32.ofInt 0))]) ⟨rfl, rfl, rfl, rfl, trivial⟩ rfl k
  have k := xt13_4 hp hn hv  ((J (p 32) 3).toNatClampNeg) (Int32.ofInt (-1)) (Int32.ofInt 0) (Int32.ofInt 0) (lx_beg (by decide)) k
  rw [k, x13]
/-! $Plans.bestVoyages -/
def x19_6 (p : Nat → Nat) (J : Nat → Nat → Int32) : Nat → Int32 → Int32 → Int32 → Int32
  | 0, v1, v2, v3 => v1
  | c + 1, v1, v2, v3 => if ((Int32.ofInt 1) <<< ((J (p 32) 3) &&& 31)) ≤ v3 then v1
    else if (x21 (x20 p v3 J) v3 v2 v1) = 0 then (x19_6 p J c v1 v2 (v3 + (Int32.ofInt 1)))
      else if (x13 p v3 J) = (Int32.ofInt (-1)) then (x19_6 p J c v3 (x20 p v3 J) (v3 + (Int32.ofInt 1)))
        else (x19_6 p J c v1 v2 (v3 + (Int32.ofInt 1)))
theorem xt19_6 {X : nt_X} {d : Nat} {M : nt_M} {o : Option Value × nt_M} {p : Nat → Nat} {J : Nat → Nat → Int32} (hp : xs_P M p) (hn : xs_Q M (fun i => p (31 + i))) (hv : xs_V M p) : ∀ (c : Nat) (v1 : Int32) (v2 : Int32) (v3 : Int32) (v4 : Int32), ((Int32.ofInt 1) <<< ((J (p 32) 3) &&& 31)).toInt - v3.toInt ≤ c → nt_rn X d 19 (6, [(0, .ref (p 28)), (1, .int v1), (2, .int v2), (3, .int v3), (4, .int v4)], [], me_w M J) o → o = (some (.int (x19_6 p J c v1 v2 v3)), me_w M J) := by
  intro c
  induction c with
  | zero =>
    intro v1 v2 v3 v4 hc k
    have k := ly_revb 3 (c' := (9, [(0, .ref (p 28)), (1, .int v1), (2, .int v2), (3, .int v3), (4, .int v4)], [.ref (p 28), .int (Int32.ofInt 1), .int v3], me_w M J)) rfl k
    have k := lz_get (a := (p 28)) (g := 101) (M := me_w M J) (v := .ref (p 32)) rfl (nt_gfR rfl hv.2.1) k
    have k := lz_get (a := (p 32)) (g := 803) (M := me_w M J) (v := .int (J (p 32) 3)) rfl (congrArg Value.int (rfl)) k
    have k := ly_revb 2 (c' := (if ((Int32.ofInt 1) <<< ((J (p 32) 3) &&& 31)) ≤ v3 then 57 else 19, [(0, .ref (p 28)), (1, .int v1), (2, .int v2), (3, .int v3), (4, .int v4)], [], me_w M J)) rfl k
    have h16 : ((Int32.ofInt 1) <<< ((J (p 32) 3) &&& 31)) ≤ v3 := lx_end hc
    rw [if_pos h16] at k
    have k := ly_revb 1 (c' := (58, [(0, .ref (p 28)), (1, .int v1), (2, .int v2), (3, .int v3), (4, .int v4)], [.int v1], me_w M J)) rfl k
    have k := lz_ri rfl (by decide) k
    rw [k, x19_6]
  | succ c ih =>
    intro v1 v2 v3 v4 hc k
    have k := ly_revb 3 (c' := (9, [(0, .ref (p 28)), (1, .int v1), (2, .int v2), (3, .int v3), (4, .int v4)], [.ref (p 28), .int (Int32.ofInt 1), .int v3], me_w M J)) rfl k
    have k := lz_get (a := (p 28)) (g := 101) (M := me_w M J) (v := .ref (p 32)) rfl (nt_gfR rfl hv.2.1) k
    have k := lz_get (a := (p 32)) (g := 803) (M := me_w M J) (v := .int (J (p 32) 3)) rfl (congrArg Value.int (rfl)) k
    have k := ly_revb 2 (c' := (if ((Int32.ofInt 1) <<< ((J (p 32) 3) &&& 31)) ≤ v3 then 57 else 19, [(0, .ref (p 28)), (1, .int v1), (2, .int v2), (3, .int v3), (4, .int v4)], [], me_w M J)) rfl k
    by_cases h16 : ((Int32.ofInt 1) <<< ((J (p 32) 3) &&& 31)) ≤ v3
    · rw [if_pos h16] at k
      have k := ly_revb 1 (c' := (58, [(0, .ref (p 28)), (1, .int v1), (2, .int v2), (3, .int v3), (4, .int v4)], [.int v1], me_w M J)) rfl k
      have k := lz_ri rfl (by decide) k
      rw [k, x19_6, if_pos h16]
    · rw [if_neg h16] at k
      have k := ly_revb 2 (c' := (21, [(0, .ref (p 28)), (1, .int v1), (2, .int v2), (3, .int v3), (4, .int v4)], [.int v3, .ref (p 28)], me_w M J)) rfl k
      obtain ⟨d1, o1, ed, kc, k⟩ := lz_c (g := 20) (q := 1) (vs := [.ref (p 28), .int v3]) (rest := []) rfl rfl (by decide) (Or.inr (Or.inl ⟨_, rfl, rfl⟩)) rfl k
      have e1 := xt20 hp hn hv kc
      subst e1
      have k : nt_rn X _ 19 (24, [(0, .ref (p 28)), (1, .int v1), (2, .int v2), (3, .int v3), (4, .int v4)], [.int (x20 p v3 J)], me_w M J) _ := k
      have k := ly_revb 5 (c' := (31, [(4, .int (x20 p v3 J)), (0, .ref (p 28)), (1, .int v1), (2, .int v2), (3, .int v3)], [.int v1, .int v2, .int v3, .int (x20 p v3 J)], me_w M J)) rfl k
      obtain ⟨d1, o1, ed, kc, k⟩ := lz_c (g := 21) (q := 0) (vs := [.int (x20 p v3 J), .int v3, .int v2, .int v1]) (rest := []) rfl rfl (by decide) (Or.inl ⟨_, rfl, rfl⟩) rfl k
      have e1 := xt21  kc
      subst e1
      have k : nt_rn X _ 19 (34, [(4, .int (x20 p v3 J)), (0, .ref (p 28)), (1, .int v1), (2, .int v2), (3, .int v3)], [.int (x21 (x20 p v3 J) v3 v2 v1)], me_w M J) _ := k
      have k := ly_revb 1 (c' := (if (x21 (x20 p v3 J) v3 v2 v1) = 0 then 51 else 37, [(4, .int (x20 p v3 J)), (0, .ref (p 28)), (1, .int v1), (2, .int v2), (3, .int v3)], [], me_w M J)) rfl k
      by_cases h34 : (x21 (x20 p v3 J) v3 v2 v1) = 0
      · rw [if_pos h34] at k
        have k := ly_revb 2 (c' := (6, [(3, .int (v3 + (Int32.ofInt 1))), (4, .int (x20 p v3 J)), (0, .ref (p 28)), (1, .int v1), (2, .int v2)], [], me_w M J)) rfl k
        have k := nt_rn_w (a := [(3, .int (v3 + (Int32.ofInt 1))), (4, .int (x20 p v3 J)), (0, .ref (p 28)), (1, .int v1), (2, .int v2)]) (b := [(0, .ref (p 28)), (1, .int v1), (2, .int v2), (3, .int (v3 + (Int32.ofInt 1))), (4, .int (x20 p v3 J))]) ⟨rfl, rfl, rfl, rfl, rfl, trivial⟩ rfl k
        have k := ih v1 v2 (v3 + (Int32.ofInt 1)) (x20 p v3 J) (lx_dec h16 hc) k
        rw [k, x19_6, if_neg h16, if_pos h34]
      · rw [if_neg h34] at k
        have k := ly_revb 2 (c' := (39, [(4, .int (x20 p v3 J)), (0, .ref (p 28)), (1, .int v1), (2, .int v2), (3, .int v3)], [.int v3, .ref (p 28)], me_w M J)) rfl k
        obtain ⟨d1, o1, ed, kc, k⟩ := lz_c (g := 13) (q := 1) (vs := [.ref (p 28), .int v3]) (rest := []) rfl rfl (by decide) (Or.inr (Or.inl ⟨_, rfl, rfl⟩)) rfl k
        have e1 := xt13 hp hn hv kc
        subst e1
        have k : nt_rn X _ 19 (42, [(4, .int (x20 p v3 J)), (0, .ref (p 28)), (1, .int v1), (2, .int v2), (3, .int v3)], [.int (x13 p v3 J)], me_w M J) _ := k
        have k := ly_revb 2 (c' := (if (x13 p v3 J) = (Int32.ofInt (-1)) then 46 else 51, [(4, .int (x20 p v3 J)), (0, .ref (p 28)), (1, .int v1), (2, .int v2), (3, .int v3)], [], me_w M J)) rfl k
        by_cases h43 : (x13 p v3 J) = (Int32.ofInt (-1))
        · rw [if_pos h43] at k
          have k := ly_revb 6 (c' := (6, [(3, .int (v3 + (Int32.ofInt 1))), (2, .int (x20 p v3 J)), (1, .int v3), (4, .int (x20 p v3 J)), (0, .ref (p 28))], [], me_w M J)) rfl k
          have k := nt_rn_w (a := [(3, .int (v3 + (Int32.ofInt 1))), (2, .int (x20 p v3 J)), (1, .int v3), (4, .int (x20 p v3 J)), (0, .ref (p 28))]) (b := [(0, .ref (p 28)), (1, .int v3), (2, .int (x20 p v3 J)), (3, .int (v3 + (Int32.ofInt 1))), (4, .int (x20 p v3 J))]) ⟨rfl, rfl, rfl, rfl, rfl, trivial⟩ rfl k
          have k := ih v3 (x20 p v3 J) (v3 + (Int32.ofInt 1)) (x20 p v3 J) (lx_dec h16 hc) k
          rw [k, x19_6, if_neg h16, if_neg h34, if_pos h43]
        · rw [if_neg h43] at k
          have k := ly_revb 2 (c' := (6, [(3, .int (v3 + (Int32.ofInt 1))), (4, .int (x20 p v3 J)), (0, .ref (p 28)), (1, .int v1), (2, .int v2)], [], me_w M J)) rfl k
          have k := nt_rn_w (a := [(3, .int (v3 + (Int32.ofInt 1))), (4, .int (x20 p v3 J)), (0, .ref (p 28)), (1, .int v1), (2, .int v2)]) (b := [(0, .ref (p 28)), (1, .int v1), (2, .int v2), (3, .int (v3 + (Int32.ofInt 1))), (4, .int (x20 p v3 J))]) ⟨rfl, rfl, rfl, rfl, rfl, trivial⟩ rfl k
          have k := ih v1 v2 (v3 + (Int32.ofInt 1)) (x20 p v3 J) (lx_dec h16 hc) k
          rw [k, x19_6, if_neg h16, if_neg h34, if_neg h43]
theorem x19_6_rule {p : Nat → Nat} {J : Nat → Nat → Int32} {I : Nat → Int32 → Int32 → Int32 → Prop} {Q : Int32 → Prop} (h0 : ∀ (v1 : Int32) (v2 : Int32) (v3 : Int32), I 0 v1 v2 v3 → Q v1) (h1 : ∀ (c : Nat) (v1 : Int32) (v2 : Int32) (v3 : Int32), I (c + 1) v1 v2 v3 →
    if ((Int32.ofInt 1) <<< ((J (p 32) 3) &&& 31)) ≤ v3 then (Q v1)
    else if (x21 (x20 p v3 J) v3 v2 v1) = 0 then (I c v1 v2 (v3 + (Int32.ofInt 1)))
      else if (x13 p v3 J) = (Int32.ofInt (-1)) then (I c v3 (x20 p v3 J) (v3 + (Int32.ofInt 1)))
        else (I c v1 v2 (v3 + (Int32.ofInt 1)))) : ∀ (c : Nat) (v1 : Int32) (v2 : Int32) (v3 : Int32), I c v1 v2 v3 → Q (x19_6 p J c v1 v2 v3) := by
  intro c
  induction c with
  | zero =>
    intro v1 v2 v3 hi
    rw [x19_6]
    exact h0 v1 v2 v3 hi
  | succ c ih =>
    intro v1 v2 v3 hi
    have hi := h1 c v1 v2 v3 hi
    rw [x19_6]
    by_cases h : ((Int32.ofInt 1) <<< ((J (p 32) 3) &&& 31)) ≤ v3
    · rw [if_pos h] at hi ⊢
      exact hi
    · rw [if_neg h] at hi ⊢
      by_cases h : (x21 (x20 p v3 J) v3 v2 v1) = 0
      · rw [if_pos h] at hi ⊢
        exact ih _ _ _ hi
      · rw [if_neg h] at hi ⊢
        by_cases h : (x13 p v3 J) = (Int32.ofInt (-1))
        · rw [if_pos h] at hi ⊢
          exact ih _ _ _ hi
        · rw [if_neg h] at hi ⊢
          exact ih _ _ _ hi
def x19 (p : Nat → Nat) (J : Nat → Nat → Int32) : Int32 := (x19_6 p J (((Int32.ofInt 1) <<< ((J (p 32) 3) &&& 31)).toNatClampNeg) (Int32.ofInt 0) (Int32.ofInt 0) (Int32.ofInt 1))
theorem xt19 {X : nt_X} {d : Nat} {M : nt_M} {o : Option Value × nt_M} {p : Nat → Nat} {J : Nat → Nat → Int32} (hp : xs_P M p) (hn : xs_Q M (fun i => p (31 + i))) (hv : xs_V M p) (k : nt_ev X d 19 [.ref (p 28)] (me_w M J) o) : o = (some (.int (x19 p J)), me_w M J) := by
  have k : nt_rn X d 19 (0, [(0, .ref (p 28))], [], me_w M J) o := k
  have k := ly_revb 6 (c' := (6, [(3, .int (Int32.ofInt 1)), (2, .int (Int32.ofInt 0)), (1, .int (Int32.ofInt 0)), (0, .ref (p 28))], [], me_w M J)) rfl k
  have k := nt_rn_w (a := [(3, .int (Int32.ofInt 1)), (2, .int (Int32.ofInt 0)), (1, .int (Int32.ofInt 0)), (0, .ref (p 28))]) (b := [(0, .ref (p 28)), (1, .int (Int32.ofInt 0)), (2, .int (Int32.ofInt 0)), (3, .int (Int32.ofInt 1)), (4, .int (Int32.ofInt 0))]) ⟨rfl, rfl, rfl, rfl, trivial⟩ rfl k
  have k := xt19_6 hp hn hv  (((Int32.ofInt 1) <<< ((J (p 32) 3) &&& 31)).toNatClampNeg) (Int32.ofInt 0) (Int32.ofInt 0) (Int32.ofInt 1) (Int32.ofInt 0) (lx_beg (by decide)) k
  rw [k, x19]
/-! $Plans.payOfShips -/
def x25_4 (p : Nat → Nat) (v1 : Int32) (J : Nat → Nat → Int32) : Nat → Int32 → Int32 → Int32
  | 0, v2, v3 => v2
  | c + 1, v2, v3 => if (J (p 32) 3) ≤ v3 then v2
    else if (x14 v1 (J (p 37) v3.toNatClampNeg)) = 0 then (x25_4 p v1 J c v2 (v3 + (Int32.ofInt 1)))
      else if (J (p 38) v3.toNatClampNeg) < (J (p 31) 2) then (x25_4 p v1 J c v2 (v3 + (Int32.ofInt 1)))
        else (x25_4 p v1 J c (v2 + (J (p 40) v3.toNatClampNeg)) (v3 + (Int32.ofInt 1)))
theorem xt25_4 {X : nt_X} {d : Nat} {M : nt_M} {o : Option Value × nt_M} {p : Nat → Nat} {v1 : Int32} {J : Nat → Nat → Int32} (hp : xs_P M p) (hn : xs_Q M (fun i => p (31 + i))) (hv : xs_V M p) : ∀ (c : Nat) (v2 : Int32) (v3 : Int32), (J (p 32) 3).toInt - v3.toInt ≤ c → nt_rn X d 25 (4, [(0, .ref (p 28)), (1, .int v1), (2, .int v2), (3, .int v3)], [], me_w M J) o → o = (some (.int (x25_4 p v1 J c v2 v3)), me_w M J) := by
  intro c
  induction c with
  | zero =>
    intro v2 v3 hc k
    have k := ly_revb 2 (c' := (6, [(0, .ref (p 28)), (1, .int v1), (2, .int v2), (3, .int v3)], [.ref (p 28), .int v3], me_w M J)) rfl k
    have k := lz_get (a := (p 28)) (g := 101) (M := me_w M J) (v := .ref (p 32)) rfl (nt_gfR rfl hv.2.1) k
    have k := lz_get (a := (p 32)) (g := 803) (M := me_w M J) (v := .int (J (p 32) 3)) rfl (congrArg Value.int (rfl)) k
    have k := ly_revb 1 (c' := (if (J (p 32) 3) ≤ v3 then 68 else 15, [(0, .ref (p 28)), (1, .int v1), (2, .int v2), (3, .int v3)], [], me_w M J)) rfl k
    have h12 : (J (p 32) 3) ≤ v3 := lx_end hc
    rw [if_pos h12] at k
    have k := ly_revb 1 (c' := (69, [(0, .ref (p 28)), (1, .int v1), (2, .int v2), (3, .int v3)], [.int v2], me_w M J)) rfl k
    have k := lz_ri rfl (by decide) k
    rw [k, x25_4]
  | succ c ih =>
    intro v2 v3 hc k
    have k := ly_revb 2 (c' := (6, [(0, .ref (p 28)), (1, .int v1), (2, .int v2), (3, .int v3)], [.ref (p 28), .int v3], me_w M J)) rfl k
    have k := lz_get (a := (p 28)) (g := 101) (M := me_w M J) (v := .ref (p 32)) rfl (nt_gfR rfl hv.2.1) k
    have k := lz_get (a := (p 32)) (g := 803) (M := me_w M J) (v := .int (J (p 32) 3)) rfl (congrArg Value.int (rfl)) k
    have k := ly_revb 1 (c' := (if (J (p 32) 3) ≤ v3 then 68 else 15, [(0, .ref (p 28)), (1, .int v1), (2, .int v2), (3, .int v3)], [], me_w M J)) rfl k
    by_cases h12 : (J (p 32) 3) ≤ v3
    · rw [if_pos h12] at k
      have k := ly_revb 1 (c' := (69, [(0, .ref (p 28)), (1, .int v1), (2, .int v2), (3, .int v3)], [.int v2], me_w M J)) rfl k
      have k := lz_ri rfl (by decide) k
      rw [k, x25_4, if_pos h12]
    · rw [if_neg h12] at k
      have k := ly_revb 2 (c' := (17, [(0, .ref (p 28)), (1, .int v1), (2, .int v2), (3, .int v3)], [.ref (p 28), .int v1], me_w M J)) rfl k
      have k := lz_get (a := (p 28)) (g := 101) (M := me_w M J) (v := .ref (p 32)) rfl (nt_gfR rfl hv.2.1) k
      have k := lz_get (a := (p 32)) (g := 809) (M := me_w M J) (v := .ref (p 37)) rfl (nt_gfR rfl (hn.1 (1, 9, 6) (by decide))) k
      have k := ly_revb 1 (c' := (24, [(0, .ref (p 28)), (1, .int v1), (2, .int v2), (3, .int v3)], [.int v3, .ref (p 37), .int v1], me_w M J)) rfl k
      have k := mx_iald (v := J (p 37) v3.toNatClampNeg) rfl (hp.2.2.1 37 (by omega)) (rfl) k
      obtain ⟨d1, o1, ed, kc, k⟩ := lz_c (g := 14) (q := 0) (vs := [.int v1, .int (J (p 37) v3.toNatClampNeg)]) (rest := []) rfl rfl (by decide) (Or.inl ⟨_, rfl, rfl⟩) rfl k
      have e1 := xt14  kc
      subst e1
      have k : nt_rn X _ 25 (28, [(0, .ref (p 28)), (1, .int v1), (2, .int v2), (3, .int v3)], [.int (x14 v1 (J (p 37) v3.toNatClampNeg))], me_w M J) _ := k
      have k := ly_revb 1 (c' := (if (x14 v1 (J (p 37) v3.toNatClampNeg)) = 0 then 62 else 31, [(0, .ref (p 28)), (1, .int v1), (2, .int v2), (3, .int v3)], [], me_w M J)) rfl k
      by_cases h28 : (x14 v1 (J (p 37) v3.toNatClampNeg)) = 0
      · rw [if_pos h28] at k
        have k := ly_revb 2 (c' := (4, [(3, .int (v3 + (Int32.ofInt 1))), (0, .ref (p 28)), (1, .int v1), (2, .int v2)], [], me_w M J)) rfl k
        have k := nt_rn_w (a := [(3, .int (v3 + (Int32.ofInt 1))), (0, .ref (p 28)), (1, .int v1), (2, .int v2)]) (b := [(0, .ref (p 28)), (1, .int v1), (2, .int v2), (3, .int (v3 + (Int32.ofInt 1)))]) ⟨rfl, rfl, rfl, rfl, trivial⟩ rfl k
        have k := ih v2 (v3 + (Int32.ofInt 1)) (lx_dec h12 hc) k
        rw [k, x25_4, if_neg h12, if_pos h28]
      · rw [if_neg h28] at k
        have k := ly_revb 1 (c' := (32, [(0, .ref (p 28)), (1, .int v1), (2, .int v2), (3, .int v3)], [.ref (p 28)], me_w M J)) rfl k
        have k := lz_get (a := (p 28)) (g := 101) (M := me_w M J) (v := .ref (p 32)) rfl (nt_gfR rfl hv.2.1) k
        have k := lz_get (a := (p 32)) (g := 810) (M := me_w M J) (v := .ref (p 38)) rfl (nt_gfR rfl (hn.1 (1, 10, 7) (by decide))) k
        have k := ly_revb 1 (c' := (39, [(0, .ref (p 28)), (1, .int v1), (2, .int v2), (3, .int v3)], [.int v3, .ref (p 38)], me_w M J)) rfl k
        have k := mx_iald (v := J (p 38) v3.toNatClampNeg) rfl (hp.2.2.1 38 (by omega)) (rfl) k
        have k := ly_revb 1 (c' := (41, [(0, .ref (p 28)), (1, .int v1), (2, .int v2), (3, .int v3)], [.ref (p 28), .int (J (p 38) v3.toNatClampNeg)], me_w M J)) rfl k
        have k := lz_get (a := (p 28)) (g := 100) (M := me_w M J) (v := .ref (p 31)) rfl (nt_gfR rfl hv.1) k
        have k := lz_get (a := (p 31)) (g := 602) (M := me_w M J) (v := .int (J (p 31) 2)) rfl (congrArg Value.int (rfl)) k
        have k := ly_revb 1 (c' := (if (J (p 38) v3.toNatClampNeg) < (J (p 31) 2) then 62 else 50, [(0, .ref (p 28)), (1, .int v1), (2, .int v2), (3, .int v3)], [], me_w M J)) rfl k
        by_cases h47 : (J (p 38) v3.toNatClampNeg) < (J (p 31) 2)
        · rw [if_pos h47] at k
          have k := ly_revb 2 (c' := (4, [(3, .int (v3 + (Int32.ofInt 1))), (0, .ref (p 28)), (1, .int v1), (2, .int v2)], [], me_w M J)) rfl k
          have k := nt_rn_w (a := [(3, .int (v3 + (Int32.ofInt 1))), (0, .ref (p 28)), (1, .int v1), (2, .int v2)]) (b := [(0, .ref (p 28)), (1, .int v1), (2, .int v2), (3, .int (v3 + (Int32.ofInt 1)))]) ⟨rfl, rfl, rfl, rfl, trivial⟩ rfl k
          have k := ih v2 (v3 + (Int32.ofInt 1)) (lx_dec h12 hc) k
          rw [k, x25_4, if_neg h12, if_neg h28, if_pos h47]
        · rw [if_neg h47] at k
          have k := ly_revb 2 (c' := (52, [(0, .ref (p 28)), (1, .int v1), (2, .int v2), (3, .int v3)], [.ref (p 28), .int v2], me_w M J)) rfl k
          have k := lz_get (a := (p 28)) (g := 101) (M := me_w M J) (v := .ref (p 32)) rfl (nt_gfR rfl hv.2.1) k
          have k := lz_get (a := (p 32)) (g := 812) (M := me_w M J) (v := .ref (p 40)) rfl (nt_gfR rfl (hn.1 (1, 12, 9) (by decide))) k
          have k := ly_revb 1 (c' := (59, [(0, .ref (p 28)), (1, .int v1), (2, .int v2), (3, .int v3)], [.int v3, .ref (p 40), .int v2], me_w M J)) rfl k
          have k := mx_iald (v := J (p 40) v3.toNatClampNeg) rfl (hp.2.2.1 40 (by omega)) (rfl) k
          have k := ly_revb 4 (c' := (4, [(3, .int (v3 + (Int32.ofInt 1))), (2, .int (v2 + (J (p 40) v3.toNatClampNeg))), (0, .ref (p 28)), (1, .int v1)], [], me_w M J)) rfl k
          have k := nt_rn_w (a := [(3, .int (v3 + (Int32.ofInt 1))), (2, .int (v2 + (J (p 40) v3.toNatClampNeg))), (0, .ref (p 28)), (1, .int v1)]) (b := [(0, .ref (p 28)), (1, .int v1), (2, .int (v2 + (J (p 40) v3.toNatClampNeg))), (3, .int (v3 + (Int32.ofInt 1)))]) ⟨rfl, rfl, rfl, rfl, trivial⟩ rfl k
          have k := ih (v2 + (J (p 40) v3.toNatClampNeg)) (v3 + (Int32.ofInt 1)) (lx_dec h12 hc) k
          rw [k, x25_4, if_neg h12, if_neg h28, if_neg h47]
theorem x25_4_rule {p : Nat → Nat} {v1 : Int32} {J : Nat → Nat → Int32} {I : Nat → Int32 → Int32 → Prop} {Q : Int32 → Prop} (h0 : ∀ (v2 : Int32) (v3 : Int32), I 0 v2 v3 → Q v2) (h1 : ∀ (c : Nat) (v2 : Int32) (v3 : Int32), I (c + 1) v2 v3 →
    if (J (p 32) 3) ≤ v3 then (Q v2)
    else if (x14 v1 (J (p 37) v3.toNatClampNeg)) = 0 then (I c v2 (v3 + (Int32.ofInt 1)))
      else if (J (p 38) v3.toNatClampNeg) < (J (p 31) 2) then (I c v2 (v3 + (Int32.ofInt 1)))
        else (I c (v2 + (J (p 40) v3.toNatClampNeg)) (v3 + (Int32.ofInt 1)))) : ∀ (c : Nat) (v2 : Int32) (v3 : Int32), I c v2 v3 → Q (x25_4 p v1 J c v2 v3) := by
  intro c
  induction c with
  | zero =>
    intro v2 v3 hi
    rw [x25_4]
    exact h0 v2 v3 hi
  | succ c ih =>
    intro v2 v3 hi
    have hi := h1 c v2 v3 hi
    rw [x25_4]
    by_cases h : (J (p 32) 3) ≤ v3
    · rw [if_pos h] at hi ⊢
      exact hi
    · rw [if_neg h] at hi ⊢
      by_cases h : (x14 v1 (J (p 37) v3.toNatClampNeg)) = 0
      · rw [if_pos h] at hi ⊢
        exact ih _ _ hi
      · rw [if_neg h] at hi ⊢
        by_cases h : (J (p 38) v3.toNatClampNeg) < (J (p 31) 2)
        · rw [if_pos h] at hi ⊢
          exact ih _ _ hi
        · rw [if_neg h] at hi ⊢
          exact ih _ _ hi
def x25 (p : Nat → Nat) (v1 : Int32) (J : Nat → Nat → Int32) : Int32 := (x25_4 p v1 J ((J (p 32) 3).toNatClampNeg) (Int32.ofInt 0) (Int32.ofInt 0))
theorem xt25 {X : nt_X} {d : Nat} {M : nt_M} {o : Option Value × nt_M} {p : Nat → Nat} {v1 : Int32} {J : Nat → Nat → Int32} (hp : xs_P M p) (hn : xs_Q M (fun i => p (31 + i))) (hv : xs_V M p) (k : nt_ev X d 25 [.ref (p 28), .int v1] (me_w M J) o) : o = (some (.int (x25 p v1 J)), me_w M J) := by
  have k : nt_rn X d 25 (0, [(0, .ref (p 28)), (1, .int v1)], [], me_w M J) o := k
  have k := ly_revb 4 (c' := (4, [(3, .int (Int32.ofInt 0)), (2, .int (Int32.ofInt 0)), (0, .ref (p 28)), (1, .int v1)], [], me_w M J)) rfl k
  have k := nt_rn_w (a := [(3, .int (Int32.ofInt 0)), (2, .int (Int32.ofInt 0)), (0, .ref (p 28)), (1, .int v1)]) (b := [(0, .ref (p 28)), (1, .int v1), (2, .int (Int32.ofInt 0)), (3, .int (Int32.ofInt 0))]) ⟨rfl, rfl, rfl, rfl, trivial⟩ rfl k
  have k := xt25_4 hp hn hv  ((J (p 32) 3).toNatClampNeg) (Int32.ofInt 0) (Int32.ofInt 0) (lx_beg (by decide)) k
  rw [k, x25]
/-! $Plans.canBeWhole -/
def x26_23 (p : Nat → Nat) (v1 : Int32) (v2 : Int32) (J : Nat → Nat → Int32) : Nat → Int32 → Int32 → Int32
  | 0, v3, v4 => v3
  | c + 1, v3, v4 => if (J (p 32) 1) ≤ v4 then v3
    else if (x14 v1 v4) = 0 then (x26_23 p v1 v2 J c (v3 - (Int32.ofInt 0)) (v4 + (Int32.ofInt 1)))
      else (x26_23 p v1 v2 J c (v3 - (x87 (fun i => p (31 + i)) v4 v2 J)) (v4 + (Int32.ofInt 1)))
theorem xt26_23 {X : nt_X} {d : Nat} {M : nt_M} {o : Option Value × nt_M} {p : Nat → Nat} {v1 : Int32} {v2 : Int32} {J : Nat → Nat → Int32} (hp : xs_P M p) (hn : xs_Q M (fun i => p (31 + i))) (hv : xs_V M p) : ∀ (c : Nat) (v3 : Int32) (v4 : Int32), (J (p 32) 1).toInt - v4.toInt ≤ c → nt_rn X d 26 (23, [(0, .ref (p 28)), (1, .int v1), (2, .int v2), (3, .int v3), (4, .int v4)], [], me_w M J) o → ∃ (w4 : Int32), nt_rn X d 26 (67, [(0, .ref (p 28)), (1, .int v1), (2, .int v2), (3, .int (x26_23 p v1 v2 J c v3 v4)), (4, .int w4)], [], me_w M J) o := by
  intro c
  induction c with
  | zero =>
    intro v3 v4 hc k
    have k := ly_revb 2 (c' := (26, [(0, .ref (p 28)), (1, .int v1), (2, .int v2), (3, .int v3), (4, .int v4)], [.ref (p 28), .int v4], me_w M J)) rfl k
    have k := lz_get (a := (p 28)) (g := 101) (M := me_w M J) (v := .ref (p 32)) rfl (nt_gfR rfl hv.2.1) k
    have k := lz_get (a := (p 32)) (g := 801) (M := me_w M J) (v := .int (J (p 32) 1)) rfl (congrArg Value.int (rfl)) k
    have k := ly_revb 1 (c' := (if (J (p 32) 1) ≤ v4 then 67 else 35, [(0, .ref (p 28)), (1, .int v1), (2, .int v2), (3, .int v3), (4, .int v4)], [], me_w M J)) rfl k
    have h32 : (J (p 32) 1) ≤ v4 := lx_end hc
    rw [if_pos h32] at k
    have k := nt_rn_w (a := [(0, .ref (p 28)), (1, .int v1), (2, .int v2), (3, .int v3), (4, .int v4)]) (b := [(0, .ref (p 28)), (1, .int v1), (2, .int v2), (3, .int v3), (4, .int v4)]) ⟨rfl, rfl, rfl, rfl, rfl, trivial⟩ rfl k
    rw [x26_23]
    exact ⟨_, k⟩
  | succ c ih =>
    intro v3 v4 hc k
    have k := ly_revb 2 (c' := (26, [(0, .ref (p 28)), (1, .int v1), (2, .int v2), (3, .int v3), (4, .int v4)], [.ref (p 28), .int v4], me_w M J)) rfl k
    have k := lz_get (a := (p 28)) (g := 101) (M := me_w M J) (v := .ref (p 32)) rfl (nt_gfR rfl hv.2.1) k
    have k := lz_get (a := (p 32)) (g := 801) (M := me_w M J) (v := .int (J (p 32) 1)) rfl (congrArg Value.int (rfl)) k
    have k := ly_revb 1 (c' := (if (J (p 32) 1) ≤ v4 then 67 else 35, [(0, .ref (p 28)), (1, .int v1), (2, .int v2), (3, .int v3), (4, .int v4)], [], me_w M J)) rfl k
    by_cases h32 : (J (p 32) 1) ≤ v4
    · rw [if_pos h32] at k
      have k := nt_rn_w (a := [(0, .ref (p 28)), (1, .int v1), (2, .int v2), (3, .int v3), (4, .int v4)]) (b := [(0, .ref (p 28)), (1, .int v1), (2, .int v2), (3, .int v3), (4, .int v4)]) ⟨rfl, rfl, rfl, rfl, rfl, trivial⟩ rfl k
      rw [x26_23, if_pos h32]
      exact ⟨_, k⟩
    · rw [if_neg h32] at k
      have k := ly_revb 3 (c' := (39, [(0, .ref (p 28)), (1, .int v1), (2, .int v2), (3, .int v3), (4, .int v4)], [.int v4, .int v1, .int v3], me_w M J)) rfl k
      obtain ⟨d1, o1, ed, kc, k⟩ := lz_c (g := 14) (q := 0) (vs := [.int v1, .int v4]) (rest := [.int v3]) rfl rfl (by decide) (Or.inl ⟨_, rfl, rfl⟩) rfl k
      have e1 := xt14  kc
      subst e1
      have k : nt_rn X _ 26 (42, [(0, .ref (p 28)), (1, .int v1), (2, .int v2), (3, .int v3), (4, .int v4)], [.int (x14 v1 v4), .int v3], me_w M J) _ := k
      have k := ly_revb 1 (c' := (if (x14 v1 v4) = 0 then 58 else 45, [(0, .ref (p 28)), (1, .int v1), (2, .int v2), (3, .int v3), (4, .int v4)], [.int v3], me_w M J)) rfl k
      by_cases h42 : (x14 v1 v4) = 0
      · rw [if_pos h42] at k
        have k := ly_revb 5 (c' := (23, [(4, .int (v4 + (Int32.ofInt 1))), (3, .int (v3 - (Int32.ofInt 0))), (0, .ref (p 28)), (1, .int v1), (2, .int v2)], [], me_w M J)) rfl k
        have k := nt_rn_w (a := [(4, .int (v4 + (Int32.ofInt 1))), (3, .int (v3 - (Int32.ofInt 0))), (0, .ref (p 28)), (1, .int v1), (2, .int v2)]) (b := [(0, .ref (p 28)), (1, .int v1), (2, .int v2), (3, .int (v3 - (Int32.ofInt 0))), (4, .int (v4 + (Int32.ofInt 1)))]) ⟨rfl, rfl, rfl, rfl, rfl, trivial⟩ rfl k
        have k := ih (v3 - (Int32.ofInt 0)) (v4 + (Int32.ofInt 1)) (lx_dec h32 hc) k
        rw [x26_23, if_neg h32, if_pos h42]
        exact k
      · rw [if_neg h42] at k
        have k := ly_revb 1 (c' := (46, [(0, .ref (p 28)), (1, .int v1), (2, .int v2), (3, .int v3), (4, .int v4)], [.ref (p 28), .int v3], me_w M J)) rfl k
        have k := lz_get (a := (p 28)) (g := 101) (M := me_w M J) (v := .ref (p 32)) rfl (nt_gfR rfl hv.2.1) k
        have k := ly_revb 2 (c' := (52, [(0, .ref (p 28)), (1, .int v1), (2, .int v2), (3, .int v3), (4, .int v4)], [.int v2, .int v4, .ref (p 32), .int v3], me_w M J)) rfl k
        obtain ⟨d1, o1, ed, kc, k⟩ := lz_c (g := 87) (q := 1) (vs := [.ref (p 32), .int v4, .int v2]) (rest := [.int v3]) rfl rfl (by decide) (Or.inr (Or.inl ⟨_, rfl, rfl⟩)) rfl k
        have e1 := xt87 hn kc
        subst e1
        have k : nt_rn X _ 26 (55, [(0, .ref (p 28)), (1, .int v1), (2, .int v2), (3, .int v3), (4, .int v4)], [.int (x87 (fun i => p (31 + i)) v4 v2 J), .int v3], me_w M J) _ := k
        have k := ly_revb 5 (c' := (23, [(4, .int (v4 + (Int32.ofInt 1))), (3, .int (v3 - (x87 (fun i => p (31 + i)) v4 v2 J))), (0, .ref (p 28)), (1, .int v1), (2, .int v2)], [], me_w M J)) rfl k
        have k := nt_rn_w (a := [(4, .int (v4 + (Int32.ofInt 1))), (3, .int (v3 - (x87 (fun i => p (31 + i)) v4 v2 J))), (0, .ref (p 28)), (1, .int v1), (2, .int v2)]) (b := [(0, .ref (p 28)), (1, .int v1), (2, .int v2), (3, .int (v3 - (x87 (fun i => p (31 + i)) v4 v2 J))), (4, .int (v4 + (Int32.ofInt 1)))]) ⟨rfl, rfl, rfl, rfl, rfl, trivial⟩ rfl k
        have k := ih (v3 - (x87 (fun i => p (31 + i)) v4 v2 J)) (v4 + (Int32.ofInt 1)) (lx_dec h32 hc) k
        rw [x26_23, if_neg h32, if_neg h42]
        exact k
theorem x26_23_rule {p : Nat → Nat} {v1 : Int32} {v2 : Int32} {J : Nat → Nat → Int32} {I : Nat → Int32 → Int32 → Prop} {Q : Int32 → Prop} (h0 : ∀ (v3 : Int32) (v4 : Int32), I 0 v3 v4 → Q v3) (h1 : ∀ (c : Nat) (v3 : Int32) (v4 : Int32), I (c + 1) v3 v4 →
    if (J (p 32) 1) ≤ v4 then (Q v3)
    else if (x14 v1 v4) = 0 then (I c (v3 - (Int32.ofInt 0)) (v4 + (Int32.ofInt 1)))
      else (I c (v3 - (x87 (fun i => p (31 + i)) v4 v2 J)) (v4 + (Int32.ofInt 1)))) : ∀ (c : Nat) (v3 : Int32) (v4 : Int32), I c v3 v4 → Q (x26_23 p v1 v2 J c v3 v4) := by
  intro c
  induction c with
  | zero =>
    intro v3 v4 hi
    rw [x26_23]
    exact h0 v3 v4 hi
  | succ c ih =>
    intro v3 v4 hi
    have hi := h1 c v3 v4 hi
    rw [x26_23]
    by_cases h : (J (p 32) 1) ≤ v4
    · rw [if_pos h] at hi ⊢
      exact hi
    · rw [if_neg h] at hi ⊢
      by_cases h : (x14 v1 v4) = 0
      · rw [if_pos h] at hi ⊢
        exact ih _ _ hi
      · rw [if_neg h] at hi ⊢
        exact ih _ _ hi
def x26_2 (p : Nat → Nat) (v1 : Int32) (J : Nat → Nat → Int32) : Nat → Int32 → Int32
  | 0, v2 => (Int32.ofInt 1)
  | c + 1, v2 => if (J (p 32) 0) ≤ v2 then (Int32.ofInt 1)
    else if 0 ≤ (x26_23 p v1 v2 J ((J (p 32) 1).toNatClampNeg) (J (p 30) v2.toNatClampNeg) (Int32.ofInt 0)) then (x26_2 p v1 J c (v2 + (Int32.ofInt 1)))
      else (Int32.ofInt 0)
theorem xt26_2 {X : nt_X} {d : Nat} {M : nt_M} {o : Option Value × nt_M} {p : Nat → Nat} {v1 : Int32} {J : Nat → Nat → Int32} (hp : xs_P M p) (hn : xs_Q M (fun i => p (31 + i))) (hv : xs_V M p) : ∀ (c : Nat) (v2 : Int32) (v3 : Int32) (v4 : Int32), (J (p 32) 0).toInt - v2.toInt ≤ c → nt_rn X d 26 (2, [(0, .ref (p 28)), (1, .int v1), (2, .int v2), (3, .int v3), (4, .int v4)], [], me_w M J) o → o = (some (.int (x26_2 p v1 J c v2)), me_w M J) := by
  intro c
  induction c with
  | zero =>
    intro v2 v3 v4 hc k
    have k := ly_revb 2 (c' := (4, [(0, .ref (p 28)), (1, .int v1), (2, .int v2), (3, .int v3), (4, .int v4)], [.ref (p 28), .int v2], me_w M J)) rfl k
    have k := lz_get (a := (p 28)) (g := 101) (M := me_w M J) (v := .ref (p 32)) rfl (nt_gfR rfl hv.2.1) k
    have k := lz_get (a := (p 32)) (g := 800) (M := me_w M J) (v := .int (J (p 32) 0)) rfl (congrArg Value.int (rfl)) k
    have k := ly_revb 1 (c' := (if (J (p 32) 0) ≤ v2 then 79 else 13, [(0, .ref (p 28)), (1, .int v1), (2, .int v2), (3, .int v3), (4, .int v4)], [], me_w M J)) rfl k
    have h10 : (J (p 32) 0) ≤ v2 := lx_end hc
    rw [if_pos h10] at k
    have k := ly_revb 1 (c' := (80, [(0, .ref (p 28)), (1, .int v1), (2, .int v2), (3, .int v3), (4, .int v4)], [.int (Int32.ofInt 1)], me_w M J)) rfl k
    have k := lz_ri rfl (by decide) k
    rw [k, x26_2]
  | succ c ih =>
    intro v2 v3 v4 hc k
    have k := ly_revb 2 (c' := (4, [(0, .ref (p 28)), (1, .int v1), (2, .int v2), (3, .int v3), (4, .int v4)], [.ref (p 28), .int v2], me_w M J)) rfl k
    have k := lz_get (a := (p 28)) (g := 101) (M := me_w M J) (v := .ref (p 32)) rfl (nt_gfR rfl hv.2.1) k
    have k := lz_get (a := (p 32)) (g := 800) (M := me_w M J) (v := .int (J (p 32) 0)) rfl (congrArg Value.int (rfl)) k
    have k := ly_revb 1 (c' := (if (J (p 32) 0) ≤ v2 then 79 else 13, [(0, .ref (p 28)), (1, .int v1), (2, .int v2), (3, .int v3), (4, .int v4)], [], me_w M J)) rfl k
    by_cases h10 : (J (p 32) 0) ≤ v2
    · rw [if_pos h10] at k
      have k := ly_revb 1 (c' := (80, [(0, .ref (p 28)), (1, .int v1), (2, .int v2), (3, .int v3), (4, .int v4)], [.int (Int32.ofInt 1)], me_w M J)) rfl k
      have k := lz_ri rfl (by decide) k
      rw [k, x26_2, if_pos h10]
    · rw [if_neg h10] at k
      have k := ly_revb 1 (c' := (14, [(0, .ref (p 28)), (1, .int v1), (2, .int v2), (3, .int v3), (4, .int v4)], [.ref (p 28)], me_w M J)) rfl k
      have k := lz_get (a := (p 28)) (g := 103) (M := me_w M J) (v := .ref (p 30)) rfl (nt_gfR rfl (hp.1 (28, 3, 30) (by decide))) k
      have k := ly_revb 1 (c' := (18, [(0, .ref (p 28)), (1, .int v1), (2, .int v2), (3, .int v3), (4, .int v4)], [.int v2, .ref (p 30)], me_w M J)) rfl k
      have k := mx_iald (v := J (p 30) v2.toNatClampNeg) rfl (hp.2.2.1 30 (by omega)) (rfl) k
      have k := ly_revb 3 (c' := (23, [(4, .int (Int32.ofInt 0)), (3, .int (J (p 30) v2.toNatClampNeg)), (0, .ref (p 28)), (1, .int v1), (2, .int v2)], [], me_w M J)) rfl k
      have k := nt_rn_w (a := [(4, .int (Int32.ofInt 0)), (3, .int (J (p 30) v2.toNatClampNeg)), (0, .ref (p 28)), (1, .int v1), (2, .int v2)]) (b := [(0, .ref (p 28)), (1, .int v1), (2, .int v2), (3, .int (J (p 30) v2.toNatClampNeg)), (4, .int (Int32.ofInt 0))]) ⟨rfl, rfl, rfl, rfl, rfl, trivial⟩ rfl k
      have k := xt26_23 hp hn hv  ((J (p 32) 1).toNatClampNeg) (J (p 30) v2.toNatClampNeg) (Int32.ofInt 0) (lx_beg (by decide)) k
      obtain ⟨w4, k⟩ := k
      have k : nt_rn X _ 26 (67, [(0, .ref (p 28)), (1, .int v1), (2, .int v2), (3, .int (x26_23 p v1 v2 J ((J (p 32) 1).toNatClampNeg) (J (p 30) v2.toNatClampNeg) (Int32.ofInt 0))), (4, .int w4)], [], me_w M J) _ := k
      have k := ly_revb 2 (c' := (if 0 ≤ (x26_23 p v1 v2 J ((J (p 32) 1).toNatClampNeg) (J (p 30) v2.toNatClampNeg) (Int32.ofInt 0)) then 73 else 71, [(0, .ref (p 28)), (1, .int v1), (2, .int v2), (3, .int (x26_23 p v1 v2 J ((J (p 32) 1).toNatClampNeg) (J (p 30) v2.toNatClampNeg) (Int32.ofInt 0))), (4, .int w4)], [], me_w M J)) rfl k
      by_cases h68 : 0 ≤ (x26_23 p v1 v2 J ((J (p 32) 1).toNatClampNeg) (J (p 30) v2.toNatClampNeg) (Int32.ofInt 0))
      · rw [if_pos h68] at k
        have k := ly_revb 2 (c' := (2, [(2, .int (v2 + (Int32.ofInt 1))), (0, .ref (p 28)), (1, .int v1), (3, .int (x26_23 p v1 v2 J ((J (p 32) 1).toNatClampNeg) (J (p 30) v2.toNatClampNeg) (Int32.ofInt 0))), (4, .int w4)], [], me_w M J)) rfl k
        have k := nt_rn_w (a := [(2, .int (v2 + (Int32.ofInt 1))), (0, .ref (p 28)), (1, .int v1), (3, .int (x26_23 p v1 v2 J ((J (p 32) 1).toNatClampNeg) (J (p 30) v2.toNatClampNeg) (Int32.ofInt 0))), (4, .int w4)]) (b := [(0, .ref (p 28)), (1, .int v1), (2, .int (v2 + (Int32.ofInt 1))), (3, .int (x26_23 p v1 v2 J ((J (p 32) 1).toNatClampNeg) (J (p 30) v2.toNatClampNeg) (Int32.ofInt 0))), (4, .int w4)]) ⟨rfl, rfl, rfl, rfl, rfl, trivial⟩ rfl k
        have k := ih (v2 + (Int32.ofInt 1)) (x26_23 p v1 v2 J ((J (p 32) 1).toNatClampNeg) (J (p 30) v2.toNatClampNeg) (Int32.ofInt 0)) w4 (lx_dec h10 hc) k
        rw [k, x26_2, if_neg h10, if_pos h68]
      · rw [if_neg h68] at k
        have k := ly_revb 1 (c' := (72, [(0, .ref (p 28)), (1, .int v1), (2, .int v2), (3, .int (x26_23 p v1 v2 J ((J (p 32) 1).toNatClampNeg) (J (p 30) v2.toNatClampNeg) (Int32.ofInt 0))), (4, .int w4)], [.int (Int32.ofInt 0)], me_w M J)) rfl k
        have k := lz_ri rfl (by decide) k
        rw [k, x26_2, if_neg h10, if_neg h68]
theorem x26_2_rule {p : Nat → Nat} {v1 : Int32} {J : Nat → Nat → Int32} {I : Nat → Int32 → Prop} {Q : Int32 → Prop} (h0 : ∀ (v2 : Int32), I 0 v2 → Q (Int32.ofInt 1)) (h1 : ∀ (c : Nat) (v2 : Int32), I (c + 1) v2 →
    if (J (p 32) 0) ≤ v2 then (Q (Int32.ofInt 1))
    else if 0 ≤ (x26_23 p v1 v2 J ((J (p 32) 1).toNatClampNeg) (J (p 30) v2.toNatClampNeg) (Int32.ofInt 0)) then (I c (v2 + (Int32.ofInt 1)))
      else (Q (Int32.ofInt 0))) : ∀ (c : Nat) (v2 : Int32), I c v2 → Q (x26_2 p v1 J c v2) := by
  intro c
  induction c with
  | zero =>
    intro v2 hi
    rw [x26_2]
    exact h0 v2 hi
  | succ c ih =>
    intro v2 hi
    have hi := h1 c v2 hi
    rw [x26_2]
    by_cases h : (J (p 32) 0) ≤ v2
    · rw [if_pos h] at hi ⊢
      exact hi
    · rw [if_neg h] at hi ⊢
      by_cases h : 0 ≤ (x26_23 p v1 v2 J ((J (p 32) 1).toNatClampNeg) (J (p 30) v2.toNatClampNeg) (Int32.ofInt 0))
      · rw [if_pos h] at hi ⊢
        exact ih _ hi
      · rw [if_neg h] at hi ⊢
        exact hi
def x26 (p : Nat → Nat) (v1 : Int32) (J : Nat → Nat → Int32) : Int32 := (x26_2 p v1 J ((J (p 32) 0).toNatClampNeg) (Int32.ofInt 0))
theorem xt26 {X : nt_X} {d : Nat} {M : nt_M} {o : Option Value × nt_M} {p : Nat → Nat} {v1 : Int32} {J : Nat → Nat → Int32} (hp : xs_P M p) (hn : xs_Q M (fun i => p (31 + i))) (hv : xs_V M p) (k : nt_ev X d 26 [.ref (p 28), .int v1] (me_w M J) o) : o = (some (.int (x26 p v1 J)), me_w M J) := by
  have k : nt_rn X d 26 (0, [(0, .ref (p 28)), (1, .int v1)], [], me_w M J) o := k
  have k := ly_revb 2 (c' := (2, [(2, .int (Int32.ofInt 0)), (0, .ref (p 28)), (1, .int v1)], [], me_w M J)) rfl k
  have k := nt_rn_w (a := [(2, .int (Int32.ofInt 0)), (0, .ref (p 28)), (1, .int v1)]) (b := [(0, .ref (p 28)), (1, .int v1), (2, .int (Int32.ofInt 0)), (3, .int (Int32.ofInt 0)), (4, .int (Int32.ofInt 0))]) ⟨rfl, rfl, rfl, trivial⟩ rfl k
  have k := xt26_2 hp hn hv  ((J (p 32) 0).toNatClampNeg) (Int32.ofInt 0) (Int32.ofInt 0) (Int32.ofInt 0) (lx_beg (by decide)) k
  rw [k, x26]
/-! $Plans.bestShips -/
def x24_15 (p : Nat → Nat) (v3 : Int32) (J : Nat → Nat → Int32) : Nat → Int32 → Int32 → Int32 → Int32
  | 0, v1, v2, v4 => v1
  | c + 1, v1, v2, v4 => if ((Int32.ofInt 1) <<< ((J (p 32) 1) &&& 31)) ≤ v4 then v1
    else if (v4 &&& v3) = 0 then if (x21 (x25 p v4 J) v4 v2 v1) = 0 then (x24_15 p v3 J c v1 v2 (v4 + (Int32.ofInt 1)))
        else if (x26 p v4 J) = 0 then (x24_15 p v3 J c v1 v2 (v4 + (Int32.ofInt 1)))
          else (x24_15 p v3 J c v4 (x25 p v4 J) (v4 + (Int32.ofInt 1)))
      else (x24_15 p v3 J c v1 v2 (v4 + (Int32.ofInt 1)))
theorem xt24_15 {X : nt_X} {d : Nat} {M : nt_M} {o : Option Value × nt_M} {p : Nat → Nat} {v3 : Int32} {J : Nat → Nat → Int32} (hp : xs_P M p) (hn : xs_Q M (fun i => p (31 + i))) (hv : xs_V M p) : ∀ (c : Nat) (v1 : Int32) (v2 : Int32) (v4 : Int32) (v5 : Int32), ((Int32.ofInt 1) <<< ((J (p 32) 1) &&& 31)).toInt - v4.toInt ≤ c → nt_rn X d 24 (15, [(0, .ref (p 28)), (1, .int v1), (2, .int v2), (3, .int v3), (4, .int v4), (5, .int v5)], [], me_w M J) o → o = (some (.int (x24_15 p v3 J c v1 v2 v4)), me_w M J) := by
  intro c
  induction c with
  | zero =>
    intro v1 v2 v4 v5 hc k
    have k := ly_revb 3 (c' := (19, [(0, .ref (p 28)), (1, .int v1), (2, .int v2), (3, .int v3), (4, .int v4), (5, .int v5)], [.ref (p 28), .int (Int32.ofInt 1), .int v4], me_w M J)) rfl k
    have k := lz_get (a := (p 28)) (g := 101) (M := me_w M J) (v := .ref (p 32)) rfl (nt_gfR rfl hv.2.1) k
    have k := lz_get (a := (p 32)) (g := 801) (M := me_w M J) (v := .int (J (p 32) 1)) rfl (congrArg Value.int (rfl)) k
    have k := ly_revb 2 (c' := (if ((Int32.ofInt 1) <<< ((J (p 32) 1) &&& 31)) ≤ v4 then 77 else 29, [(0, .ref (p 28)), (1, .int v1), (2, .int v2), (3, .int v3), (4, .int v4), (5, .int v5)], [], me_w M J)) rfl k
    have h26 : ((Int32.ofInt 1) <<< ((J (p 32) 1) &&& 31)) ≤ v4 := lx_end hc
    rw [if_pos h26] at k
    have k := ly_revb 1 (c' := (78, [(0, .ref (p 28)), (1, .int v1), (2, .int v2), (3, .int v3), (4, .int v4), (5, .int v5)], [.int v1], me_w M J)) rfl k
    have k := lz_ri rfl (by decide) k
    rw [k, x24_15]
  | succ c ih =>
    intro v1 v2 v4 v5 hc k
    have k := ly_revb 3 (c' := (19, [(0, .ref (p 28)), (1, .int v1), (2, .int v2), (3, .int v3), (4, .int v4), (5, .int v5)], [.ref (p 28), .int (Int32.ofInt 1), .int v4], me_w M J)) rfl k
    have k := lz_get (a := (p 28)) (g := 101) (M := me_w M J) (v := .ref (p 32)) rfl (nt_gfR rfl hv.2.1) k
    have k := lz_get (a := (p 32)) (g := 801) (M := me_w M J) (v := .int (J (p 32) 1)) rfl (congrArg Value.int (rfl)) k
    have k := ly_revb 2 (c' := (if ((Int32.ofInt 1) <<< ((J (p 32) 1) &&& 31)) ≤ v4 then 77 else 29, [(0, .ref (p 28)), (1, .int v1), (2, .int v2), (3, .int v3), (4, .int v4), (5, .int v5)], [], me_w M J)) rfl k
    by_cases h26 : ((Int32.ofInt 1) <<< ((J (p 32) 1) &&& 31)) ≤ v4
    · rw [if_pos h26] at k
      have k := ly_revb 1 (c' := (78, [(0, .ref (p 28)), (1, .int v1), (2, .int v2), (3, .int v3), (4, .int v4), (5, .int v5)], [.int v1], me_w M J)) rfl k
      have k := lz_ri rfl (by decide) k
      rw [k, x24_15, if_pos h26]
    · rw [if_neg h26] at k
      have k := ly_revb 2 (c' := (32, [(0, .ref (p 28)), (1, .int v1), (2, .int v2), (3, .int v3), (4, .int v4), (5, .int v5)], [.int v4, .ref (p 28)], me_w M J)) rfl k
      obtain ⟨d1, o1, ed, kc, k⟩ := lz_c (g := 25) (q := 1) (vs := [.ref (p 28), .int v4]) (rest := []) rfl rfl (by decide) (Or.inr (Or.inl ⟨_, rfl, rfl⟩)) rfl k
      have e1 := xt25 hp hn hv kc
      subst e1
      have k : nt_rn X _ 24 (35, [(0, .ref (p 28)), (1, .int v1), (2, .int v2), (3, .int v3), (4, .int v4), (5, .int v5)], [.int (x25 p v4 J)], me_w M J) _ := k
      have k := ly_revb 5 (c' := (if (v4 &&& v3) = 0 then 44 else 71, [(5, .int (x25 p v4 J)), (0, .ref (p 28)), (1, .int v1), (2, .int v2), (3, .int v3), (4, .int v4)], [], me_w M J)) rfl k
      by_cases h41 : (v4 &&& v3) = 0
      · rw [if_pos h41] at k
        have k := ly_revb 4 (c' := (50, [(5, .int (x25 p v4 J)), (0, .ref (p 28)), (1, .int v1), (2, .int v2), (3, .int v3), (4, .int v4)], [.int v1, .int v2, .int v4, .int (x25 p v4 J)], me_w M J)) rfl k
        obtain ⟨d1, o1, ed, kc, k⟩ := lz_c (g := 21) (q := 0) (vs := [.int (x25 p v4 J), .int v4, .int v2, .int v1]) (rest := []) rfl rfl (by decide) (Or.inl ⟨_, rfl, rfl⟩) rfl k
        have e1 := xt21  kc
        subst e1
        have k : nt_rn X _ 24 (53, [(5, .int (x25 p v4 J)), (0, .ref (p 28)), (1, .int v1), (2, .int v2), (3, .int v3), (4, .int v4)], [.int (x21 (x25 p v4 J) v4 v2 v1)], me_w M J) _ := k
        have k := ly_revb 1 (c' := (if (x21 (x25 p v4 J) v4 v2 v1) = 0 then 71 else 56, [(5, .int (x25 p v4 J)), (0, .ref (p 28)), (1, .int v1), (2, .int v2), (3, .int v3), (4, .int v4)], [], me_w M J)) rfl k
        by_cases h53 : (x21 (x25 p v4 J) v4 v2 v1) = 0
        · rw [if_pos h53] at k
          have k := ly_revb 2 (c' := (15, [(4, .int (v4 + (Int32.ofInt 1))), (5, .int (x25 p v4 J)), (0, .ref (p 28)), (1, .int v1), (2, .int v2), (3, .int v3)], [], me_w M J)) rfl k
          have k := nt_rn_w (a := [(4, .int (v4 + (Int32.ofInt 1))), (5, .int (x25 p v4 J)), (0, .ref (p 28)), (1, .int v1), (2, .int v2), (3, .int v3)]) (b := [(0, .ref (p 28)), (1, .int v1), (2, .int v2), (3, .int v3), (4, .int (v4 + (Int32.ofInt 1))), (5, .int (x25 p v4 J))]) ⟨rfl, rfl, rfl, rfl, rfl, rfl, trivial⟩ rfl k
          have k := ih v1 v2 (v4 + (Int32.ofInt 1)) (x25 p v4 J) (lx_dec h26 hc) k
          rw [k, x24_15, if_neg h26, if_pos h41, if_pos h53]
        · rw [if_neg h53] at k
          have k := ly_revb 2 (c' := (59, [(5, .int (x25 p v4 J)), (0, .ref (p 28)), (1, .int v1), (2, .int v2), (3, .int v3), (4, .int v4)], [.int v4, .ref (p 28)], me_w M J)) rfl k
          obtain ⟨d1, o1, ed, kc, k⟩ := lz_c (g := 26) (q := 1) (vs := [.ref (p 28), .int v4]) (rest := []) rfl rfl (by decide) (Or.inr (Or.inl ⟨_, rfl, rfl⟩)) rfl k
          have e1 := xt26 hp hn hv kc
          subst e1
          have k : nt_rn X _ 24 (62, [(5, .int (x25 p v4 J)), (0, .ref (p 28)), (1, .int v1), (2, .int v2), (3, .int v3), (4, .int v4)], [.int (x26 p v4 J)], me_w M J) _ := k
          have k := ly_revb 1 (c' := (if (x26 p v4 J) = 0 then 71 else 65, [(5, .int (x25 p v4 J)), (0, .ref (p 28)), (1, .int v1), (2, .int v2), (3, .int v3), (4, .int v4)], [], me_w M J)) rfl k
          by_cases h62 : (x26 p v4 J) = 0
          · rw [if_pos h62] at k
            have k := ly_revb 2 (c' := (15, [(4, .int (v4 + (Int32.ofInt 1))), (5, .int (x25 p v4 J)), (0, .ref (p 28)), (1, .int v1), (2, .int v2), (3, .int v3)], [], me_w M J)) rfl k
            have k := nt_rn_w (a := [(4, .int (v4 + (Int32.ofInt 1))), (5, .int (x25 p v4 J)), (0, .ref (p 28)), (1, .int v1), (2, .int v2), (3, .int v3)]) (b := [(0, .ref (p 28)), (1, .int v1), (2, .int v2), (3, .int v3), (4, .int (v4 + (Int32.ofInt 1))), (5, .int (x25 p v4 J))]) ⟨rfl, rfl, rfl, rfl, rfl, rfl, trivial⟩ rfl k
            have k := ih v1 v2 (v4 + (Int32.ofInt 1)) (x25 p v4 J) (lx_dec h26 hc) k
            rw [k, x24_15, if_neg h26, if_pos h41, if_neg h53, if_pos h62]
          · rw [if_neg h62] at k
            have k := ly_revb 6 (c' := (15, [(4, .int (v4 + (Int32.ofInt 1))), (2, .int (x25 p v4 J)), (1, .int v4), (5, .int (x25 p v4 J)), (0, .ref (p 28)), (3, .int v3)], [], me_w M J)) rfl k
            have k := nt_rn_w (a := [(4, .int (v4 + (Int32.ofInt 1))), (2, .int (x25 p v4 J)), (1, .int v4), (5, .int (x25 p v4 J)), (0, .ref (p 28)), (3, .int v3)]) (b := [(0, .ref (p 28)), (1, .int v4), (2, .int (x25 p v4 J)), (3, .int v3), (4, .int (v4 + (Int32.ofInt 1))), (5, .int (x25 p v4 J))]) ⟨rfl, rfl, rfl, rfl, rfl, rfl, trivial⟩ rfl k
            have k := ih v4 (x25 p v4 J) (v4 + (Int32.ofInt 1)) (x25 p v4 J) (lx_dec h26 hc) k
            rw [k, x24_15, if_neg h26, if_pos h41, if_neg h53, if_neg h62]
      · rw [if_neg h41] at k
        have k := ly_revb 2 (c' := (15, [(4, .int (v4 + (Int32.ofInt 1))), (5, .int (x25 p v4 J)), (0, .ref (p 28)), (1, .int v1), (2, .int v2), (3, .int v3)], [], me_w M J)) rfl k
        have k := nt_rn_w (a := [(4, .int (v4 + (Int32.ofInt 1))), (5, .int (x25 p v4 J)), (0, .ref (p 28)), (1, .int v1), (2, .int v2), (3, .int v3)]) (b := [(0, .ref (p 28)), (1, .int v1), (2, .int v2), (3, .int v3), (4, .int (v4 + (Int32.ofInt 1))), (5, .int (x25 p v4 J))]) ⟨rfl, rfl, rfl, rfl, rfl, rfl, trivial⟩ rfl k
        have k := ih v1 v2 (v4 + (Int32.ofInt 1)) (x25 p v4 J) (lx_dec h26 hc) k
        rw [k, x24_15, if_neg h26, if_neg h41]
theorem x24_15_rule {p : Nat → Nat} {v3 : Int32} {J : Nat → Nat → Int32} {I : Nat → Int32 → Int32 → Int32 → Prop} {Q : Int32 → Prop} (h0 : ∀ (v1 : Int32) (v2 : Int32) (v4 : Int32), I 0 v1 v2 v4 → Q v1) (h1 : ∀ (c : Nat) (v1 : Int32) (v2 : Int32) (v4 : Int32), I (c + 1) v1 v2 v4 →
    if ((Int32.ofInt 1) <<< ((J (p 32) 1) &&& 31)) ≤ v4 then (Q v1)
    else if (v4 &&& v3) = 0 then if (x21 (x25 p v4 J) v4 v2 v1) = 0 then (I c v1 v2 (v4 + (Int32.ofInt 1)))
        else if (x26 p v4 J) = 0 then (I c v1 v2 (v4 + (Int32.ofInt 1)))
          else (I c v4 (x25 p v4 J) (v4 + (Int32.ofInt 1)))
      else (I c v1 v2 (v4 + (Int32.ofInt 1)))) : ∀ (c : Nat) (v1 : Int32) (v2 : Int32) (v4 : Int32), I c v1 v2 v4 → Q (x24_15 p v3 J c v1 v2 v4) := by
  intro c
  induction c with
  | zero =>
    intro v1 v2 v4 hi
    rw [x24_15]
    exact h0 v1 v2 v4 hi
  | succ c ih =>
    intro v1 v2 v4 hi
    have hi := h1 c v1 v2 v4 hi
    rw [x24_15]
    by_cases h : ((Int32.ofInt 1) <<< ((J (p 32) 1) &&& 31)) ≤ v4
    · rw [if_pos h] at hi ⊢
      exact hi
    · rw [if_neg h] at hi ⊢
      by_cases h : (v4 &&& v3) = 0
      · rw [if_pos h] at hi ⊢
        by_cases h : (x21 (x25 p v4 J) v4 v2 v1) = 0
        · rw [if_pos h] at hi ⊢
          exact ih _ _ _ hi
        · rw [if_neg h] at hi ⊢
          by_cases h : (x26 p v4 J) = 0
          · rw [if_pos h] at hi ⊢
            exact ih _ _ _ hi
          · rw [if_neg h] at hi ⊢
            exact ih _ _ _ hi
      · rw [if_neg h] at hi ⊢
        exact ih _ _ _ hi
def x24 (p : Nat → Nat) (J : Nat → Nat → Int32) : Int32 := (x24_15 p (x79 (fun i => p (31 + i)) J) J (((Int32.ofInt 1) <<< ((J (p 32) 1) &&& 31)).toNatClampNeg) (Int32.ofInt 0) (Int32.ofInt 0) (Int32.ofInt 1))
theorem xt24 {X : nt_X} {d : Nat} {M : nt_M} {o : Option Value × nt_M} {p : Nat → Nat} {J : Nat → Nat → Int32} (hp : xs_P M p) (hn : xs_Q M (fun i => p (31 + i))) (hv : xs_V M p) (k : nt_ev X d 24 [.ref (p 28)] (me_w M J) o) : o = (some (.int (x24 p J)), me_w M J) := by
  have k : nt_rn X d 24 (0, [(0, .ref (p 28))], [], me_w M J) o := k
  have k := ly_revb 5 (c' := (5, [(2, .int (Int32.ofInt 0)), (1, .int (Int32.ofInt 0)), (0, .ref (p 28))], [.ref (p 28)], me_w M J)) rfl k
  have k := lz_get (a := (p 28)) (g := 100) (M := me_w M J) (v := .ref (p 31)) rfl (nt_gfR rfl hv.1) k
  obtain ⟨d1, o1, ed, kc, k⟩ := lz_c (g := 79) (q := 1) (vs := [.ref (p 31)]) (rest := []) rfl rfl (by decide) (Or.inr (Or.inl ⟨_, rfl, rfl⟩)) rfl k
  have e1 := xt79 hn kc
  subst e1
  have k : nt_rn X _ 24 (11, [(2, .int (Int32.ofInt 0)), (1, .int (Int32.ofInt 0)), (0, .ref (p 28))], [.int (x79 (fun i => p (31 + i)) J)], me_w M J) _ := k
  have k := ly_revb 3 (c' := (15, [(4, .int (Int32.ofInt 1)), (3, .int (x79 (fun i => p (31 + i)) J)), (2, .int (Int32.ofInt 0)), (1, .int (Int32.ofInt 0)), (0, .ref (p 28))], [], me_w M J)) rfl k
  have k := nt_rn_w (a := [(4, .int (Int32.ofInt 1)), (3, .int (x79 (fun i => p (31 + i)) J)), (2, .int (Int32.ofInt 0)), (1, .int (Int32.ofInt 0)), (0, .ref (p 28))]) (b := [(0, .ref (p 28)), (1, .int (Int32.ofInt 0)), (2, .int (Int32.ofInt 0)), (3, .int (x79 (fun i => p (31 + i)) J)), (4, .int (Int32.ofInt 1)), (5, .int (Int32.ofInt 0))]) ⟨rfl, rfl, rfl, rfl, rfl, trivial⟩ rfl k
  have k := xt24_15 hp hn hv  (((Int32.ofInt 1) <<< ((J (p 32) 1) &&& 31)).toNatClampNeg) (Int32.ofInt 0) (Int32.ofInt 0) (Int32.ofInt 1) (Int32.ofInt 0) (lx_beg (by decide)) k
  rw [k, x24]
/-! $Plans.leastEnduring -/
def x23_6 (p : Nat → Nat) (v1 : Int32) (v2 : Int32) (v3 : Int32) (J : Nat → Nat → Int32) : Nat → Int32 → Int32 → Int32
  | 0, v4, v5 => v4
  | c + 1, v4, v5 => if (J (p 32) 2) ≤ v5 then v4
    else if (J (p 34) v5.toNatClampNeg) = v1 then if (x73 (fun i => p (31 + i)) v5 J) = 0 then (x23_6 p v1 v2 v3 J c v4 (v5 + (Int32.ofInt 1)))
        else if (J (p 44) v5.toNatClampNeg) < v2 then (x23_6 p v1 v2 v3 J c v4 (v5 + (Int32.ofInt 1)))
          else if (x14 v3 v5) = 0 then if v4 = (Int32.ofInt (-1)) then (x23_6 p v1 v2 v3 J c v5 (v5 + (Int32.ofInt 1)))
              else if (J (p 44) v4.toNatClampNeg) ≤ (J (p 44) v5.toNatClampNeg) then (x23_6 p v1 v2 v3 J c v4 (v5 + (Int32.ofInt 1)))
                else (x23_6 p v1 v2 v3 J c v5 (v5 + (Int32.ofInt 1)))
            else (x23_6 p v1 v2 v3 J c v4 (v5 + (Int32.ofInt 1)))
      else (x23_6 p v1 v2 v3 J c v4 (v5 + (Int32.ofInt 1)))
theorem xt23_6 {X : nt_X} {d : Nat} {M : nt_M} {o : Option Value × nt_M} {p : Nat → Nat} {v1 : Int32} {v2 : Int32} {v3 : Int32} {J : Nat → Nat → Int32} (hp : xs_P M p) (hn : xs_Q M (fun i => p (31 + i))) (hv : xs_V M p) : ∀ (c : Nat) (v4 : Int32) (v5 : Int32) (v6 : Int32), (J (p 32) 2).toInt - v5.toInt ≤ c → nt_rn X d 23 (6, [(0, .ref (p 28)), (1, .int v1), (2, .int v2), (3, .int v3), (4, .int v4), (5, .int v5), (6, .int v6)], [], me_w M J) o → o = (some (.int (x23_6 p v1 v2 v3 J c v4 v5)), me_w M J) := by
  intro c
  induction c with
  | zero =>
    intro v4 v5 v6 hc k
    have k := ly_revb 2 (c' := (9, [(0, .ref (p 28)), (1, .int v1), (2, .int v2), (3, .int v3), (4, .int v4), (5, .int v5), (6, .int v6)], [.ref (p 28), .int v5], me_w M J)) rfl k
    have k := lz_get (a := (p 28)) (g := 101) (M := me_w M J) (v := .ref (p 32)) rfl (nt_gfR rfl hv.2.1) k
    have k := lz_get (a := (p 32)) (g := 802) (M := me_w M J) (v := .int (J (p 32) 2)) rfl (congrArg Value.int (rfl)) k
    have k := ly_revb 1 (c' := (if (J (p 32) 2) ≤ v5 then 118 else 18, [(0, .ref (p 28)), (1, .int v1), (2, .int v2), (3, .int v3), (4, .int v4), (5, .int v5), (6, .int v6)], [], me_w M J)) rfl k
    have h15 : (J (p 32) 2) ≤ v5 := lx_end hc
    rw [if_pos h15] at k
    have k := ly_revb 1 (c' := (120, [(0, .ref (p 28)), (1, .int v1), (2, .int v2), (3, .int v3), (4, .int v4), (5, .int v5), (6, .int v6)], [.int v4], me_w M J)) rfl k
    have k := lz_ri rfl (by decide) k
    rw [k, x23_6]
  | succ c ih =>
    intro v4 v5 v6 hc k
    have k := ly_revb 2 (c' := (9, [(0, .ref (p 28)), (1, .int v1), (2, .int v2), (3, .int v3), (4, .int v4), (5, .int v5), (6, .int v6)], [.ref (p 28), .int v5], me_w M J)) rfl k
    have k := lz_get (a := (p 28)) (g := 101) (M := me_w M J) (v := .ref (p 32)) rfl (nt_gfR rfl hv.2.1) k
    have k := lz_get (a := (p 32)) (g := 802) (M := me_w M J) (v := .int (J (p 32) 2)) rfl (congrArg Value.int (rfl)) k
    have k := ly_revb 1 (c' := (if (J (p 32) 2) ≤ v5 then 118 else 18, [(0, .ref (p 28)), (1, .int v1), (2, .int v2), (3, .int v3), (4, .int v4), (5, .int v5), (6, .int v6)], [], me_w M J)) rfl k
    by_cases h15 : (J (p 32) 2) ≤ v5
    · rw [if_pos h15] at k
      have k := ly_revb 1 (c' := (120, [(0, .ref (p 28)), (1, .int v1), (2, .int v2), (3, .int v3), (4, .int v4), (5, .int v5), (6, .int v6)], [.int v4], me_w M J)) rfl k
      have k := lz_ri rfl (by decide) k
      rw [k, x23_6, if_pos h15]
    · rw [if_neg h15] at k
      have k := ly_revb 1 (c' := (19, [(0, .ref (p 28)), (1, .int v1), (2, .int v2), (3, .int v3), (4, .int v4), (5, .int v5), (6, .int v6)], [.ref (p 28)], me_w M J)) rfl k
      have k := lz_get (a := (p 28)) (g := 101) (M := me_w M J) (v := .ref (p 32)) rfl (nt_gfR rfl hv.2.1) k
      have k := lz_get (a := (p 32)) (g := 806) (M := me_w M J) (v := .ref (p 34)) rfl (nt_gfR rfl (hn.1 (1, 6, 3) (by decide))) k
      have k := ly_revb 1 (c' := (27, [(0, .ref (p 28)), (1, .int v1), (2, .int v2), (3, .int v3), (4, .int v4), (5, .int v5), (6, .int v6)], [.int v5, .ref (p 34)], me_w M J)) rfl k
      have k := mx_iald (v := J (p 34) v5.toNatClampNeg) rfl (hp.2.2.1 34 (by omega)) (rfl) k
      have k := ly_revb 2 (c' := (if (J (p 34) v5.toNatClampNeg) = v1 then 32 else 62, [(0, .ref (p 28)), (1, .int v1), (2, .int v2), (3, .int v3), (4, .int v4), (5, .int v5), (6, .int v6)], [], me_w M J)) rfl k
      by_cases h29 : (J (p 34) v5.toNatClampNeg) = v1
      · rw [if_pos h29] at k
        have k := ly_revb 1 (c' := (33, [(0, .ref (p 28)), (1, .int v1), (2, .int v2), (3, .int v3), (4, .int v4), (5, .int v5), (6, .int v6)], [.ref (p 28)], me_w M J)) rfl k
        have k := lz_get (a := (p 28)) (g := 100) (M := me_w M J) (v := .ref (p 31)) rfl (nt_gfR rfl hv.1) k
        have k := ly_revb 1 (c' := (38, [(0, .ref (p 28)), (1, .int v1), (2, .int v2), (3, .int v3), (4, .int v4), (5, .int v5), (6, .int v6)], [.int v5, .ref (p 31)], me_w M J)) rfl k
        obtain ⟨d1, o1, ed, kc, k⟩ := lz_c (g := 73) (q := 1) (vs := [.ref (p 31), .int v5]) (rest := []) rfl rfl (by decide) (Or.inr (Or.inl ⟨_, rfl, rfl⟩)) rfl k
        have e1 := xt73 hn kc
        subst e1
        have k : nt_rn X _ 23 (41, [(0, .ref (p 28)), (1, .int v1), (2, .int v2), (3, .int v3), (4, .int v4), (5, .int v5), (6, .int v6)], [.int (x73 (fun i => p (31 + i)) v5 J)], me_w M J) _ := k
        have k := ly_revb 1 (c' := (if (x73 (fun i => p (31 + i)) v5 J) = 0 then 62 else 44, [(0, .ref (p 28)), (1, .int v1), (2, .int v2), (3, .int v3), (4, .int v4), (5, .int v5), (6, .int v6)], [], me_w M J)) rfl k
        by_cases h41 : (x73 (fun i => p (31 + i)) v5 J) = 0
        · rw [if_pos h41] at k
          have k := ly_revb 4 (c' := (if (Int32.ofInt 0) = 0 then 112 else 70, [(6, .int (Int32.ofInt 0)), (0, .ref (p 28)), (1, .int v1), (2, .int v2), (3, .int v3), (4, .int v4), (5, .int v5)], [], me_w M J)) rfl k
          rw [if_pos (show (Int32.ofInt 0) = 0 from by decide)] at k
          have k := ly_revb 2 (c' := (6, [(5, .int (v5 + (Int32.ofInt 1))), (6, .int (Int32.ofInt 0)), (0, .ref (p 28)), (1, .int v1), (2, .int v2), (3, .int v3), (4, .int v4)], [], me_w M J)) rfl k
          have k := nt_rn_w (a := [(5, .int (v5 + (Int32.ofInt 1))), (6, .int (Int32.ofInt 0)), (0, .ref (p 28)), (1, .int v1), (2, .int v2), (3, .int v3), (4, .int v4)]) (b := [(0, .ref (p 28)), (1, .int v1), (2, .int v2), (3, .int v3), (4, .int v4), (5, .int (v5 + (Int32.ofInt 1))), (6, .int (Int32.ofInt 0))]) ⟨rfl, rfl, rfl, rfl, rfl, rfl, rfl, trivial⟩ rfl k
          have k := ih v4 (v5 + (Int32.ofInt 1)) (Int32.ofInt 0) (lx_dec h15 hc) k
          rw [k, x23_6, if_neg h15, if_pos h29, if_pos h41]
        · rw [if_neg h41] at k
          have k := ly_revb 1 (c' := (45, [(0, .ref (p 28)), (1, .int v1), (2, .int v2), (3, .int v3), (4, .int v4), (5, .int v5), (6, .int v6)], [.ref (p 28)], me_w M J)) rfl k
          have k := lz_get (a := (p 28)) (g := 100) (M := me_w M J) (v := .ref (p 31)) rfl (nt_gfR rfl hv.1) k
          have k := lz_get (a := (p 31)) (g := 610) (M := me_w M J) (v := .ref (p 44)) rfl (nt_gfR rfl (hn.1 (0, 10, 13) (by decide))) k
          have k := ly_revb 1 (c' := (53, [(0, .ref (p 28)), (1, .int v1), (2, .int v2), (3, .int v3), (4, .int v4), (5, .int v5), (6, .int v6)], [.int v5, .ref (p 44)], me_w M J)) rfl k
          have k := mx_iald (v := J (p 44) v5.toNatClampNeg) rfl (hp.2.2.1 44 (by omega)) (rfl) k
          have k := ly_revb 2 (c' := (if (J (p 44) v5.toNatClampNeg) < v2 then 62 else 58, [(0, .ref (p 28)), (1, .int v1), (2, .int v2), (3, .int v3), (4, .int v4), (5, .int v5), (6, .int v6)], [], me_w M J)) rfl k
          by_cases h55 : (J (p 44) v5.toNatClampNeg) < v2
          · rw [if_pos h55] at k
            have k := ly_revb 4 (c' := (if (Int32.ofInt 0) = 0 then 112 else 70, [(6, .int (Int32.ofInt 0)), (0, .ref (p 28)), (1, .int v1), (2, .int v2), (3, .int v3), (4, .int v4), (5, .int v5)], [], me_w M J)) rfl k
            rw [if_pos (show (Int32.ofInt 0) = 0 from by decide)] at k
            have k := ly_revb 2 (c' := (6, [(5, .int (v5 + (Int32.ofInt 1))), (6, .int (Int32.ofInt 0)), (0, .ref (p 28)), (1, .int v1), (2, .int v2), (3, .int v3), (4, .int v4)], [], me_w M J)) rfl k
            have k := nt_rn_w (a := [(5, .int (v5 + (Int32.ofInt 1))), (6, .int (Int32.ofInt 0)), (0, .ref (p 28)), (1, .int v1), (2, .int v2), (3, .int v3), (4, .int v4)]) (b := [(0, .ref (p 28)), (1, .int v1), (2, .int v2), (3, .int v3), (4, .int v4), (5, .int (v5 + (Int32.ofInt 1))), (6, .int (Int32.ofInt 0))]) ⟨rfl, rfl, rfl, rfl, rfl, rfl, rfl, trivial⟩ rfl k
            have k := ih v4 (v5 + (Int32.ofInt 1)) (Int32.ofInt 0) (lx_dec h15 hc) k
            rw [k, x23_6, if_neg h15, if_pos h29, if_neg h41, if_pos h55]
          · rw [if_neg h55] at k
            have k := ly_revb 5 (c' := (if (Int32.ofInt 1) = 0 then 112 else 70, [(6, .int (Int32.ofInt 1)), (0, .ref (p 28)), (1, .int v1), (2, .int v2), (3, .int v3), (4, .int v4), (5, .int v5)], [], me_w M J)) rfl k
            rw [if_neg (show ¬ ((Int32.ofInt 1) = 0) from by decide)] at k
            have k := ly_revb 2 (c' := (73, [(6, .int (Int32.ofInt 1)), (0, .ref (p 28)), (1, .int v1), (2, .int v2), (3, .int v3), (4, .int v4), (5, .int v5)], [.int v5, .int v3], me_w M J)) rfl k
            obtain ⟨d1, o1, ed, kc, k⟩ := lz_c (g := 14) (q := 0) (vs := [.int v3, .int v5]) (rest := []) rfl rfl (by decide) (Or.inl ⟨_, rfl, rfl⟩) rfl k
            have e1 := xt14  kc
            subst e1
            have k : nt_rn X _ 23 (76, [(6, .int (Int32.ofInt 1)), (0, .ref (p 28)), (1, .int v1), (2, .int v2), (3, .int v3), (4, .int v4), (5, .int v5)], [.int (x14 v3 v5)], me_w M J) _ := k
            have k := ly_revb 1 (c' := (if (x14 v3 v5) = 0 then 79 else 112, [(6, .int (Int32.ofInt 1)), (0, .ref (p 28)), (1, .int v1), (2, .int v2), (3, .int v3), (4, .int v4), (5, .int v5)], [], me_w M J)) rfl k
            by_cases h76 : (x14 v3 v5) = 0
            · rw [if_pos h76] at k
              have k := ly_revb 3 (c' := (if v4 = (Int32.ofInt (-1)) then 108 else 85, [(6, .int (Int32.ofInt 1)), (0, .ref (p 28)), (1, .int v1), (2, .int v2), (3, .int v3), (4, .int v4), (5, .int v5)], [], me_w M J)) rfl k
              by_cases h82 : v4 = (Int32.ofInt (-1))
              · rw [if_pos h82] at k
                have k := ly_revb 4 (c' := (6, [(5, .int (v5 + (Int32.ofInt 1))), (4, .int v5), (6, .int (Int32.ofInt 1)), (0, .ref (p 28)), (1, .int v1), (2, .int v2), (3, .int v3)], [], me_w M J)) rfl k
                have k := nt_rn_w (a := [(5, .int (v5 + (Int32.ofInt 1))), (4, .int v5), (6, .int (Int32.ofInt 1)), (0, .ref (p 28)), (1, .int v1), (2, .int v2), (3, .int v3)]) (b := [(0, .ref (p 28)), (1, .int v1), (2, .int v2), (3, .int v3), (4, .int v5), (5, .int (v5 + (Int32.ofInt 1))), (6, .int (Int32.ofInt 1))]) ⟨rfl, rfl, rfl, rfl, rfl, rfl, rfl, trivial⟩ rfl k
                have k := ih v5 (v5 + (Int32.ofInt 1)) (Int32.ofInt 1) (lx_dec h15 hc) k
                rw [k, x23_6, if_neg h15, if_pos h29, if_neg h41, if_neg h55, if_pos h76, if_pos h82]
              · rw [if_neg h82] at k
                have k := ly_revb 1 (c' := (86, [(6, .int (Int32.ofInt 1)), (0, .ref (p 28)), (1, .int v1), (2, .int v2), (3, .int v3), (4, .int v4), (5, .int v5)], [.ref (p 28)], me_w M J)) rfl k
                have k := lz_get (a := (p 28)) (g := 100) (M := me_w M J) (v := .ref (p 31)) rfl (nt_gfR rfl hv.1) k
                have k := lz_get (a := (p 31)) (g := 610) (M := me_w M J) (v := .ref (p 44)) rfl (nt_gfR rfl (hn.1 (0, 10, 13) (by decide))) k
                have k := ly_revb 1 (c' := (94, [(6, .int (Int32.ofInt 1)), (0, .ref (p 28)), (1, .int v1), (2, .int v2), (3, .int v3), (4, .int v4), (5, .int v5)], [.int v5, .ref (p 44)], me_w M J)) rfl k
                have k := mx_iald (v := J (p 44) v5.toNatClampNeg) rfl (hp.2.2.1 44 (by omega)) (rfl) k
                have k := ly_revb 1 (c' := (96, [(6, .int (Int32.ofInt 1)), (0, .ref (p 28)), (1, .int v1), (2, .int v2), (3, .int v3), (4, .int v4), (5, .int v5)], [.ref (p 28), .int (J (p 44) v5.toNatClampNeg)], me_w M J)) rfl k
                have k := lz_get (a := (p 28)) (g := 100) (M := me_w M J) (v := .ref (p 31)) rfl (nt_gfR rfl hv.1) k
                have k := lz_get (a := (p 31)) (g := 610) (M := me_w M J) (v := .ref (p 44)) rfl (nt_gfR rfl (hn.1 (0, 10, 13) (by decide))) k
                have k := ly_revb 1 (c' := (104, [(6, .int (Int32.ofInt 1)), (0, .ref (p 28)), (1, .int v1), (2, .int v2), (3, .int v3), (4, .int v4), (5, .int v5)], [.int v4, .ref (p 44), .int (J (p 44) v5.toNatClampNeg)], me_w M J)) rfl k
                have k := mx_iald (v := J (p 44) v4.toNatClampNeg) rfl (hp.2.2.1 44 (by omega)) (rfl) k
                have k := ly_revb 1 (c' := (if (J (p 44) v4.toNatClampNeg) ≤ (J (p 44) v5.toNatClampNeg) then 112 else 108, [(6, .int (Int32.ofInt 1)), (0, .ref (p 28)), (1, .int v1), (2, .int v2), (3, .int v3), (4, .int v4), (5, .int v5)], [], me_w M J)) rfl k
                by_cases h105 : (J (p 44) v4.toNatClampNeg) ≤ (J (p 44) v5.toNatClampNeg)
                · rw [if_pos h105] at k
                  have k := ly_revb 2 (c' := (6, [(5, .int (v5 + (Int32.ofInt 1))), (6, .int (Int32.ofInt 1)), (0, .ref (p 28)), (1, .int v1), (2, .int v2), (3, .int v3), (4, .int v4)], [], me_w M J)) rfl k
                  have k := nt_rn_w (a := [(5, .int (v5 + (Int32.ofInt 1))), (6, .int (Int32.ofInt 1)), (0, .ref (p 28)), (1, .int v1), (2, .int v2), (3, .int v3), (4, .int v4)]) (b := [(0, .ref (p 28)), (1, .int v1), (2, .int v2), (3, .int v3), (4, .int v4), (5, .int (v5 + (Int32.ofInt 1))), (6, .int (Int32.ofInt 1))]) ⟨rfl, rfl, rfl, rfl, rfl, rfl, rfl, trivial⟩ rfl k
                  have k := ih v4 (v5 + (Int32.ofInt 1)) (Int32.ofInt 1) (lx_dec h15 hc) k
                  rw [k, x23_6, if_neg h15, if_pos h29, if_neg h41, if_neg h55, if_pos h76, if_neg h82, if_pos h105]
                · rw [if_neg h105] at k
                  have k := ly_revb 4 (c' := (6, [(5, .int (v5 + (Int32.ofInt 1))), (4, .int v5), (6, .int (Int32.ofInt 1)), (0, .ref (p 28)), (1, .int v1), (2, .int v2), (3, .int v3)], [], me_w M J)) rfl k
                  have k := nt_rn_w (a := [(5, .int (v5 + (Int32.ofInt 1))), (4, .int v5), (6, .int (Int32.ofInt 1)), (0, .ref (p 28)), (1, .int v1), (2, .int v2), (3, .int v3)]) (b := [(0, .ref (p 28)), (1, .int v1), (2, .int v2), (3, .int v3), (4, .int v5), (5, .int (v5 + (Int32.ofInt 1))), (6, .int (Int32.ofInt 1))]) ⟨rfl, rfl, rfl, rfl, rfl, rfl, rfl, trivial⟩ rfl k
                  have k := ih v5 (v5 + (Int32.ofInt 1)) (Int32.ofInt 1) (lx_dec h15 hc) k
                  rw [k, x23_6, if_neg h15, if_pos h29, if_neg h41, if_neg h55, if_pos h76, if_neg h82, if_neg h105]
            · rw [if_neg h76] at k
              have k := ly_revb 2 (c' := (6, [(5, .int (v5 + (Int32.ofInt 1))), (6, .int (Int32.ofInt 1)), (0, .ref (p 28)), (1, .int v1), (2, .int v2), (3, .int v3), (4, .int v4)], [], me_w M J)) rfl k
              have k := nt_rn_w (a := [(5, .int (v5 + (Int32.ofInt 1))), (6, .int (Int32.ofInt 1)), (0, .ref (p 28)), (1, .int v1), (2, .int v2), (3, .int v3), (4, .int v4)]) (b := [(0, .ref (p 28)), (1, .int v1), (2, .int v2), (3, .int v3), (4, .int v4), (5, .int (v5 + (Int32.ofInt 1))), (6, .int (Int32.ofInt 1))]) ⟨rfl, rfl, rfl, rfl, rfl, rfl, rfl, trivial⟩ rfl k
              have k := ih v4 (v5 + (Int32.ofInt 1)) (Int32.ofInt 1) (lx_dec h15 hc) k
              rw [k, x23_6, if_neg h15, if_pos h29, if_neg h41, if_neg h55, if_neg h76]
      · rw [if_neg h29] at k
        have k := ly_revb 4 (c' := (if (Int32.ofInt 0) = 0 then 112 else 70, [(6, .int (Int32.ofInt 0)), (0, .ref (p 28)), (1, .int v1), (2, .int v2), (3, .int v3), (4, .int v4), (5, .int v5)], [], me_w M J)) rfl k
        rw [if_pos (show (Int32.ofInt 0) = 0 from by decide)] at k
        have k := ly_revb 2 (c' := (6, [(5, .int (v5 + (Int32.ofInt 1))), (6, .int (Int32.ofInt 0)), (0, .ref (p 28)), (1, .int v1), (2, .int v2), (3, .int v3), (4, .int v4)], [], me_w M J)) rfl k
        have k := nt_rn_w (a := [(5, .int (v5 + (Int32.ofInt 1))), (6, .int (Int32.ofInt 0)), (0, .ref (p 28)), (1, .int v1), (2, .int v2), (3, .int v3), (4, .int v4)]) (b := [(0, .ref (p 28)), (1, .int v1), (2, .int v2), (3, .int v3), (4, .int v4), (5, .int (v5 + (Int32.ofInt 1))), (6, .int (Int32.ofInt 0))]) ⟨rfl, rfl, rfl, rfl, rfl, rfl, rfl, trivial⟩ rfl k
        have k := ih v4 (v5 + (Int32.ofInt 1)) (Int32.ofInt 0) (lx_dec h15 hc) k
        rw [k, x23_6, if_neg h15, if_neg h29]
theorem x23_6_rule {p : Nat → Nat} {v1 : Int32} {v2 : Int32} {v3 : Int32} {J : Nat → Nat → Int32} {I : Nat → Int32 → Int32 → Prop} {Q : Int32 → Prop} (h0 : ∀ (v4 : Int32) (v5 : Int32), I 0 v4 v5 → Q v4) (h1 : ∀ (c : Nat) (v4 : Int32) (v5 : Int32), I (c + 1) v4 v5 →
    if (J (p 32) 2) ≤ v5 then (Q v4)
    else if (J (p 34) v5.toNatClampNeg) = v1 then if (x73 (fun i => p (31 + i)) v5 J) = 0 then (I c v4 (v5 + (Int32.ofInt 1)))
        else if (J (p 44) v5.toNatClampNeg) < v2 then (I c v4 (v5 + (Int32.ofInt 1)))
          else if (x14 v3 v5) = 0 then if v4 = (Int32.ofInt (-1)) then (I c v5 (v5 + (Int32.ofInt 1)))
              else if (J (p 44) v4.toNatClampNeg) ≤ (J (p 44) v5.toNatClampNeg) then (I c v4 (v5 + (Int32.ofInt 1)))
                else (I c v5 (v5 + (Int32.ofInt 1)))
            else (I c v4 (v5 + (Int32.ofInt 1)))
      else (I c v4 (v5 + (Int32.ofInt 1)))) : ∀ (c : Nat) (v4 : Int32) (v5 : Int32), I c v4 v5 → Q (x23_6 p v1 v2 v3 J c v4 v5) := by
  intro c
  induction c with
  | zero =>
    intro v4 v5 hi
    rw [x23_6]
    exact h0 v4 v5 hi
  | succ c ih =>
    intro v4 v5 hi
    have hi := h1 c v4 v5 hi
    rw [x23_6]
    by_cases h : (J (p 32) 2) ≤ v5
    · rw [if_pos h] at hi ⊢
      exact hi
    · rw [if_neg h] at hi ⊢
      by_cases h : (J (p 34) v5.toNatClampNeg) = v1
      · rw [if_pos h] at hi ⊢
        by_cases h : (x73 (fun i => p (31 + i)) v5 J) = 0
        · rw [if_pos h] at hi ⊢
          exact ih _ _ hi
        · rw [if_neg h] at hi ⊢
          by_cases h : (J (p 44) v5.toNatClampNeg) < v2
          · rw [if_pos h] at hi ⊢
            exact ih _ _ hi
          · rw [if_neg h] at hi ⊢
            by_cases h : (x14 v3 v5) = 0
            · rw [if_pos h] at hi ⊢
              by_cases h : v4 = (Int32.ofInt (-1))
              · rw [if_pos h] at hi ⊢
                exact ih _ _ hi
              · rw [if_neg h] at hi ⊢
                by_cases h : (J (p 44) v4.toNatClampNeg) ≤ (J (p 44) v5.toNatClampNeg)
                · rw [if_pos h] at hi ⊢
                  exact ih _ _ hi
                · rw [if_neg h] at hi ⊢
                  exact ih _ _ hi
            · rw [if_neg h] at hi ⊢
              exact ih _ _ hi
      · rw [if_neg h] at hi ⊢
        exact ih _ _ hi
def x23 (p : Nat → Nat) (v1 : Int32) (v2 : Int32) (v3 : Int32) (J : Nat → Nat → Int32) : Int32 := (x23_6 p v1 v2 v3 J ((J (p 32) 2).toNatClampNeg) (Int32.ofInt (-1)) (Int32.ofInt 0))
theorem xt23 {X : nt_X} {d : Nat} {M : nt_M} {o : Option Value × nt_M} {p : Nat → Nat} {v1 : Int32} {v2 : Int32} {v3 : Int32} {J : Nat → Nat → Int32} (hp : xs_P M p) (hn : xs_Q M (fun i => p (31 + i))) (hv : xs_V M p) (k : nt_ev X d 23 [.ref (p 28), .int v1, .int v2, .int v3] (me_w M J) o) : o = (some (.int (x23 p v1 v2 v3 J)), me_w M J) := by
  have k : nt_rn X d 23 (0, [(0, .ref (p 28)), (1, .int v1), (2, .int v2), (3, .int v3)], [], me_w M J) o := k
  have k := ly_revb 4 (c' := (6, [(5, .int (Int32.ofInt 0)), (4, .int (Int32.ofInt (-1))), (0, .ref (p 28)), (1, .int v1), (2, .int v2), (3, .int v3)], [], me_w M J)) rfl k
  have k := nt_rn_w (a := [(5, .int (Int32.ofInt 0)), (4, .int (Int32.ofInt (-1))), (0, .ref (p 28)), (1, .int v1), (2, .int v2), (3, .int v3)]) (b := [(0, .ref (p 28)), (1, .int v1), (2, .int v2), (3, .int v3), (4, .int (Int32.ofInt (-1))), (5, .int (Int32.ofInt 0)), (6, .int (Int32.ofInt 0))]) ⟨rfl, rfl, rfl, rfl, rfl, rfl, trivial⟩ rfl k
  have k := xt23_6 hp hn hv  ((J (p 32) 2).toNatClampNeg) (Int32.ofInt (-1)) (Int32.ofInt 0) (Int32.ofInt 0) (lx_beg (by decide)) k
  rw [k, x23]
/-! .most -/
def x117F (p : Nat → Nat) (v1 : Int32) (J : Nat → Nat → Int32) : Int32 := if v1 = 0 then (x20 p (x19 p J) J)
  else (x19 p J)
theorem xt117F {X : nt_X} {d : Nat} {M : nt_M} {o : Option Value × nt_M} {p : Nat → Nat} {v1 : Int32} {J : Nat → Nat → Int32} (hp : xs_P M p) (hn : xs_Q M (fun i => p (31 + i))) (hv : xs_V M p) (k : nt_rn X d 117 (32, [(0, .ref (p 16)), (1, .int v1)], [], me_w M J) o) : o = (some (.int (x117F p v1 J)), me_w M J) := by
  have k : nt_rn X d 117 (32, [(0, .ref (p 16)), (1, .int v1)], [], me_w M J) o := k
  have k := ly_revb 1 (c' := (33, [(0, .ref (p 16)), (1, .int v1)], [.ref (p 16)], me_w M J)) rfl k
  have k := lz_get (a := (p 16)) (g := 1006) (M := me_w M J) (v := .ref (p 28)) rfl (nt_gfR rfl (hp.1 (16, 6, 28) (by decide))) k
  obtain ⟨d1, o1, ed, kc, k⟩ := lz_c (g := 19) (q := 1) (vs := [.ref (p 28)]) (rest := []) rfl rfl (by decide) (Or.inr (Or.inl ⟨_, rfl, rfl⟩)) rfl k
  have e1 := xt19 hp hn hv kc
  subst e1
  have k : nt_rn X _ 117 (39, [(0, .ref (p 16)), (1, .int v1)], [.int (x19 p J)], me_w M J) _ := k
  have k := ly_revb 3 (c' := (if v1 = 0 then 44 else 55, [(2, .int (x19 p J)), (0, .ref (p 16)), (1, .int v1)], [], me_w M J)) rfl k
  by_cases h41 : v1 = 0
  · rw [if_pos h41] at k
    have k := ly_revb 1 (c' := (45, [(2, .int (x19 p J)), (0, .ref (p 16)), (1, .int v1)], [.ref (p 16)], me_w M J)) rfl k
    have k := lz_get (a := (p 16)) (g := 1006) (M := me_w M J) (v := .ref (p 28)) rfl (nt_gfR rfl (hp.1 (16, 6, 28) (by decide))) k
    have k := ly_revb 1 (c' := (49, [(2, .int (x19 p J)), (0, .ref (p 16)), (1, .int v1)], [.int (x19 p J), .ref (p 28)], me_w M J)) rfl k
    obtain ⟨d1, o1, ed, kc, k⟩ := lz_c (g := 20) (q := 1) (vs := [.ref (p 28), .int (x19 p J)]) (rest := []) rfl rfl (by decide) (Or.inr (Or.inl ⟨_, rfl, rfl⟩)) rfl k
    have e1 := xt20 hp hn hv kc
    subst e1
    have k : nt_rn X _ 117 (52, [(2, .int (x19 p J)), (0, .ref (p 16)), (1, .int v1)], [.int (x20 p (x19 p J) J)], me_w M J) _ := k
    have k := ly_revb 1 (c' := (56, [(2, .int (x19 p J)), (0, .ref (p 16)), (1, .int v1)], [.int (x20 p (x19 p J) J)], me_w M J)) rfl k
    have k := lz_ri rfl (by decide) k
    rw [k, x117F, if_pos h41]
  · rw [if_neg h41] at k
    have k := ly_revb 1 (c' := (56, [(2, .int (x19 p J)), (0, .ref (p 16)), (1, .int v1)], [.int (x19 p J)], me_w M J)) rfl k
    have k := lz_ri rfl (by decide) k
    rw [k, x117F, if_neg h41]
/-! .dealt -/
def x122F (p : Nat → Nat) (v1 : Int32) (J : Nat → Nat → Int32) : Int32 := if v1 = 0 then (x25 p (x24 p J) J)
  else (x24 p J)
theorem xt122F {X : nt_X} {d : Nat} {M : nt_M} {o : Option Value × nt_M} {p : Nat → Nat} {v1 : Int32} {J : Nat → Nat → Int32} (hp : xs_P M p) (hn : xs_Q M (fun i => p (31 + i))) (hv : xs_V M p) (k : nt_rn X d 122 (32, [(0, .ref (p 16)), (1, .int v1)], [], me_w M J) o) : o = (some (.int (x122F p v1 J)), me_w M J) := by
  have k : nt_rn X d 122 (32, [(0, .ref (p 16)), (1, .int v1)], [], me_w M J) o := k
  have k := ly_revb 1 (c' := (33, [(0, .ref (p 16)), (1, .int v1)], [.ref (p 16)], me_w M J)) rfl k
  have k := lz_get (a := (p 16)) (g := 1006) (M := me_w M J) (v := .ref (p 28)) rfl (nt_gfR rfl (hp.1 (16, 6, 28) (by decide))) k
  obtain ⟨d1, o1, ed, kc, k⟩ := lz_c (g := 24) (q := 1) (vs := [.ref (p 28)]) (rest := []) rfl rfl (by decide) (Or.inr (Or.inl ⟨_, rfl, rfl⟩)) rfl k
  have e1 := xt24 hp hn hv kc
  subst e1
  have k : nt_rn X _ 122 (39, [(0, .ref (p 16)), (1, .int v1)], [.int (x24 p J)], me_w M J) _ := k
  have k := ly_revb 3 (c' := (if v1 = 0 then 44 else 55, [(2, .int (x24 p J)), (0, .ref (p 16)), (1, .int v1)], [], me_w M J)) rfl k
  by_cases h41 : v1 = 0
  · rw [if_pos h41] at k
    have k := ly_revb 1 (c' := (45, [(2, .int (x24 p J)), (0, .ref (p 16)), (1, .int v1)], [.ref (p 16)], me_w M J)) rfl k
    have k := lz_get (a := (p 16)) (g := 1006) (M := me_w M J) (v := .ref (p 28)) rfl (nt_gfR rfl (hp.1 (16, 6, 28) (by decide))) k
    have k := ly_revb 1 (c' := (49, [(2, .int (x24 p J)), (0, .ref (p 16)), (1, .int v1)], [.int (x24 p J), .ref (p 28)], me_w M J)) rfl k
    obtain ⟨d1, o1, ed, kc, k⟩ := lz_c (g := 25) (q := 1) (vs := [.ref (p 28), .int (x24 p J)]) (rest := []) rfl rfl (by decide) (Or.inr (Or.inl ⟨_, rfl, rfl⟩)) rfl k
    have e1 := xt25 hp hn hv kc
    subst e1
    have k : nt_rn X _ 122 (52, [(2, .int (x24 p J)), (0, .ref (p 16)), (1, .int v1)], [.int (x25 p (x24 p J) J)], me_w M J) _ := k
    have k := ly_revb 1 (c' := (56, [(2, .int (x24 p J)), (0, .ref (p 16)), (1, .int v1)], [.int (x25 p (x24 p J) J)], me_w M J)) rfl k
    have k := lz_ri rfl (by decide) k
    rw [k, x122F, if_pos h41]
  · rw [if_neg h41] at k
    have k := ly_revb 1 (c' := (56, [(2, .int (x24 p J)), (0, .ref (p 16)), (1, .int v1)], [.int (x24 p J)], me_w M J)) rfl k
    have k := lz_ri rfl (by decide) k
    rw [k, x122F, if_neg h41]
