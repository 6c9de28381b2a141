/-! ahead -/
theorem mx_ls {X : nt_X} {d mi pc g t q : Nat} {df : Int} {ps : Array (Int × Int)} {ls : nt_V} {st : List Value} {M : nt_M} {o : Option Value × nt_M} {x : Int32} (hat : nt_at mi pc = some (pc, .lookupswitch df ps, g, t)) (hq : ((pc : Int) + Op.lookupswitch.offset ps.toList df x.toInt) = q) (k : nt_rn X d mi (pc, ls, .int x :: st, M) o) : nt_rn X d mi (q, ls, st, M) o := by
  obtain ⟨c', hs, k⟩ := lz_s hat rfl k
  have hs : (if (ps.toList.zip (ps.toList.drop 1)).all (fun (a, b) => a.1 < b.1) = true then nt_jp pc (Op.lookupswitch.offset ps.toList df x.toInt) fun q => some (q, ls, st, M) else none) = some c' := hs
  obtain ⟨_, hs⟩ := nt_if_some hs
  unfold nt_jp at hs
  rw [hq] at hs
  obtain ⟨_, e⟩ := nt_if_some hs
  cases e
  exact k
theorem mx_lo {a o df k : Int} {r : List (Int × Int)} (h : ¬ k = a) : Op.lookupswitch.offset ((a, o) :: r) df k = Op.lookupswitch.offset r df k := by
  rw [Op.lookupswitch.offset_cons, if_neg]
  intro c
  exact h (by first | exact c | exact c.symm | exact (beq_iff_eq.mp c) | exact (beq_iff_eq.mp c).symm)
theorem xs_d48 {M : nt_M} {p : Nat → Nat} (hp : xs_P M p) : ∀ i j, i < 17 → j < 17 → (fun i => p (48 + i)) i ≠ (fun i => p (31 + i)) j := fun i j hi hj => hp.2.1 (48 + i) (31 + j) (by omega) (by omega) (by omega)
theorem xs_ln {M : nt_M} {q : Nat → Nat} {L : Nat → Nat → Int64} (h : xs_N M q) : xs_N (lw M L) q := h
/-! Model.keeps -/
def x227_2 (p : Nat → Nat) : Nat → Int32 → (Nat → Nat → Int32) → (Nat → Nat → Int32)
  | 0, v1, J => J
  | c + 1, v1, J => if (Int32.ofInt 212) ≤ v1 then J
    else (x227_2 p c (v1 + (Int32.ofInt 1)) (nt_u J (p 7) v1.toNatClampNeg (J (p 4) v1.toNatClampNeg)))
theorem xt227_2 {X : nt_X} {d : Nat} {M : nt_M} {o : Option Value × nt_M} {p : Nat → Nat} (hp : xs_P M p) : ∀ (c : Nat) (v1 : Int32) (J : Nat → Nat → Int32), (Int32.ofInt 212).toInt - v1.toInt ≤ c → nt_rn X d 227 (2, [(0, .ref (p 0)), (1, .int v1)], [], me_w M J) o → o = (none, me_w M (x227_2 p c v1 J)) := by
  intro c
  induction c with
  | zero =>
    intro v1 J hc k
    have k := ly_revb 3 (c' := (if (Int32.ofInt 212) ≤ v1 then 27 else 9, [(0, .ref (p 0)), (1, .int v1)], [], me_w M J)) rfl k
    have h6 : (Int32.ofInt 212) ≤ v1 := lx_end hc
    rw [if_pos h6] at k
    have k := lz_rv rfl rfl k
    rw [k, x227_2]
  | succ c ih =>
    intro v1 J hc k
    have k := ly_revb 3 (c' := (if (Int32.ofInt 212) ≤ v1 then 27 else 9, [(0, .ref (p 0)), (1, .int v1)], [], me_w M J)) rfl k
    by_cases h6 : (Int32.ofInt 212) ≤ v1
    · rw [if_pos h6] at k
      have k := lz_rv rfl rfl k
      rw [k, x227_2, if_pos h6]
    · rw [if_neg h6] at k
      have k := ly_revb 1 (c' := (10, [(0, .ref (p 0)), (1, .int v1)], [.ref (p 0)], me_w M J)) rfl k
      have k := lz_get (a := (p 0)) (g := 1128) (M := me_w M J) (v := .ref (p 7)) rfl (nt_gfR rfl (hp.1 (0, 28, 7) (by decide))) k
      have k := ly_revb 2 (c' := (15, [(0, .ref (p 0)), (1, .int v1)], [.ref (p 0), .int v1, .ref (p 7)], me_w M J)) rfl k
      have k := lz_get (a := (p 0)) (g := 1127) (M := me_w M J) (v := .ref (p 4)) rfl (nt_gfR rfl (hp.1 (0, 27, 4) (by decide))) k
      have k := ly_revb 1 (c' := (19, [(0, .ref (p 0)), (1, .int v1)], [.int v1, .ref (p 4), .int v1, .ref (p 7)], me_w M J)) rfl k
      have k := mx_iald (v := J (p 4) v1.toNatClampNeg) rfl (hp.2.2.1 4 (by omega)) (rfl) k
      have k := mx_iast (q := v1.toNatClampNeg) rfl rfl k
      have k : nt_rn X _ 227 (21, [(0, .ref (p 0)), (1, .int v1)], [], me_w M (nt_u J (p 7) v1.toNatClampNeg (J (p 4) v1.toNatClampNeg))) _ := k
      have k := ly_revb 2 (c' := (2, [(1, .int (v1 + (Int32.ofInt 1))), (0, .ref (p 0))], [], me_w M (nt_u J (p 7) v1.toNatClampNeg (J (p 4) v1.toNatClampNeg)))) rfl k
      have k := nt_rn_w (a := [(1, .int (v1 + (Int32.ofInt 1))), (0, .ref (p 0))]) (b := [(0, .ref (p 0)), (1, .int (v1 + (Int32.ofInt 1)))]) ⟨rfl, rfl, trivial⟩ rfl k
      have k := ih (v1 + (Int32.ofInt 1)) (nt_u J (p 7) v1.toNatClampNeg (J (p 4) v1.toNatClampNeg)) (lx_dec h6 hc) k
      rw [k, x227_2, if_neg h6]
theorem x227_2_rule {p : Nat → Nat} {I : Nat → Int32 → (Nat → Nat → Int32) → Prop} {Q : (Nat → Nat → Int32) → Prop} (h0 : ∀ (v1 : Int32) (J : Nat → Nat → Int32), I 0 v1 J → Q J) (h1 : ∀ (c : Nat) (v1 : Int32) (J : Nat → Nat → Int32), I (c + 1) v1 J →
    if (Int32.ofInt 212) ≤ v1 then (Q J)
    else (I c (v1 + (Int32.ofInt 1)) (nt_u J (p 7) v1.toNatClampNeg (J (p 4) v1.toNatClampNeg)))) : ∀ (c : Nat) (v1 : Int32) (J : Nat → Nat → Int32), I c v1 J → Q (x227_2 p c v1 J) := by
  intro c
  induction c with
  | zero =>
    intro v1 J hi
    rw [x227_2]
    exact h0 v1 J hi
  | succ c ih =>
    intro v1 J hi
    have hi := h1 c v1 J hi
    rw [x227_2]
    by_cases h : (Int32.ofInt 212) ≤ v1
    · rw [if_pos h] at hi ⊢
      exact hi
    · rw [if_neg h] at hi ⊢
      exact ih _ _ hi
def x227 (p : Nat → Nat) (J : Nat → Nat → Int32) : (Nat → Nat → Int32) := (x227_2 p ((Int32.ofInt 212).toNatClampNeg) (Int32.ofInt 0) J)
theorem xt227 {X : nt_X} {d : Nat} {M : nt_M} {o : Option Value × nt_M} {p : Nat → Nat} {J : Nat → Nat → Int32} (hp : xs_P M p) (k : nt_ev X d 227 [.ref (p 0)] (me_w M J) o) : o = (none, me_w M (x227 p J)) := by
  have k : nt_rn X d 227 (0, [(0, .ref (p 0))], [], me_w M J) o := k
  have k := ly_revb 2 (c' := (2, [(1, .int (Int32.ofInt 0)), (0, .ref (p 0))], [], me_w M J)) rfl k
  have k := nt_rn_w (a := [(1, .int (Int32.ofInt 0)), (0, .ref (p 0))]) (b := [(0, .ref (p 0)), (1, .int (Int32.ofInt 0))]) ⟨rfl, rfl, trivial⟩ rfl k
  have k := xt227_2 hp  ((Int32.ofInt 212).toNatClampNeg) (Int32.ofInt 0) J (lx_beg (by decide)) k
  rw [k, x227]
theorem x227_2_frJ {p : Nat → Nat} {b : Nat} : ∀ (c : Nat) (v1 : Int32) (J : Nat → Nat → Int32), b ≠ p 7 → x227_2 p c v1 J b = J b := by
  intro c
  induction c with
  | zero =>
    intro v1 J n0
    rw [x227_2]
    all_goals first | (dsimp only; exact (show J b = J b from rfl)) | exact (show J b = J b from rfl)
  | succ c ih =>
    intro v1 J n0
    rw [x227_2]
    by_cases h : (Int32.ofInt 212) ≤ v1
    · rw [if_pos h]
      all_goals first | (dsimp only; exact (show J b = J b from rfl)) | exact (show J b = J b from rfl)
    · rw [if_neg h]
      exact (ih _ _ n0).trans (mu_o n0)
theorem x227_frJ {p : Nat → Nat} {J : Nat → Nat → Int32} {b : Nat} (n0 : b ≠ p 7) : x227 p J b = J b := by
  unfold x227
  exact (x227_2_frJ _ _ _ n0).trans (rfl)
/-! Model.putsBack -/
def x229_2 (p : Nat → Nat) : Nat → Int32 → (Nat → Nat → Int32) → (Nat → Nat → Int32)
  | 0, v1, J => J
  | c + 1, v1, J => if (Int32.ofInt 212) ≤ v1 then J
    else (x229_2 p c (v1 + (Int32.ofInt 1)) (nt_u J (p 4) v1.toNatClampNeg (J (p 7) v1.toNatClampNeg)))
theorem xt229_2 {X : nt_X} {d : Nat} {M : nt_M} {o : Option Value × nt_M} {p : Nat → Nat} (hp : xs_P M p) : ∀ (c : Nat) (v1 : Int32) (J : Nat → Nat → Int32), (Int32.ofInt 212).toInt - v1.toInt ≤ c → nt_rn X d 229 (2, [(0, .ref (p 0)), (1, .int v1)], [], me_w M J) o → o = (none, me_w M (x229_2 p c v1 J)) := by
  intro c
  induction c with
  | zero =>
    intro v1 J hc k
    have k := ly_revb 3 (c' := (if (Int32.ofInt 212) ≤ v1 then 27 else 9, [(0, .ref (p 0)), (1, .int v1)], [], me_w M J)) rfl k
    have h6 : (Int32.ofInt 212) ≤ v1 := lx_end hc
    rw [if_pos h6] at k
    have k := lz_rv rfl rfl k
    rw [k, x229_2]
  | succ c ih =>
    intro v1 J hc k
    have k := ly_revb 3 (c' := (if (Int32.ofInt 212) ≤ v1 then 27 else 9, [(0, .ref (p 0)), (1, .int v1)], [], me_w M J)) rfl k
    by_cases h6 : (Int32.ofInt 212) ≤ v1
    · rw [if_pos h6] at k
      have k := lz_rv rfl rfl k
      rw [k, x229_2, if_pos h6]
    · rw [if_neg h6] at k
      have k := ly_revb 1 (c' := (10, [(0, .ref (p 0)), (1, .int v1)], [.ref (p 0)], me_w M J)) rfl k
      have k := lz_get (a := (p 0)) (g := 1127) (M := me_w M J) (v := .ref (p 4)) rfl (nt_gfR rfl (hp.1 (0, 27, 4) (by decide))) k
      have k := ly_revb 2 (c' := (15, [(0, .ref (p 0)), (1, .int v1)], [.ref (p 0), .int v1, .ref (p 4)], me_w M J)) rfl k
      have k := lz_get (a := (p 0)) (g := 1128) (M := me_w M J) (v := .ref (p 7)) rfl (nt_gfR rfl (hp.1 (0, 28, 7) (by decide))) k
      have k := ly_revb 1 (c' := (19, [(0, .ref (p 0)), (1, .int v1)], [.int v1, .ref (p 7), .int v1, .ref (p 4)], me_w M J)) rfl k
      have k := mx_iald (v := J (p 7) v1.toNatClampNeg) rfl (hp.2.2.1 7 (by omega)) (rfl) k
      have k := mx_iast (q := v1.toNatClampNeg) rfl rfl k
      have k : nt_rn X _ 229 (21, [(0, .ref (p 0)), (1, .int v1)], [], me_w M (nt_u J (p 4) v1.toNatClampNeg (J (p 7) v1.toNatClampNeg))) _ := k
      have k := ly_revb 2 (c' := (2, [(1, .int (v1 + (Int32.ofInt 1))), (0, .ref (p 0))], [], me_w M (nt_u J (p 4) v1.toNatClampNeg (J (p 7) v1.toNatClampNeg)))) rfl k
      have k := nt_rn_w (a := [(1, .int (v1 + (Int32.ofInt 1))), (0, .ref (p 0))]) (b := [(0, .ref (p 0)), (1, .int (v1 + (Int32.ofInt 1)))]) ⟨rfl, rfl, trivial⟩ rfl k
      have k := ih (v1 + (Int32.ofInt 1)) (nt_u J (p 4) v1.toNatClampNeg (J (p 7) v1.toNatClampNeg)) (lx_dec h6 hc) k
      rw [k, x229_2, if_neg h6]
theorem x229_2_rule {p : Nat → Nat} {I : Nat → Int32 → (Nat → Nat → Int32) → Prop} {Q : (Nat → Nat → Int32) → Prop} (h0 : ∀ (v1 : Int32) (J : Nat → Nat → Int32), I 0 v1 J → Q J) (h1 : ∀ (c : Nat) (v1 : Int32) (J : Nat → Nat → Int32), I (c + 1) v1 J →
    if (Int32.ofInt 212) ≤ v1 then (Q J)
    else (I c (v1 + (Int32.ofInt 1)) (nt_u J (p 4) v1.toNatClampNeg (J (p 7) v1.toNatClampNeg)))) : ∀ (c : Nat) (v1 : Int32) (J : Nat → Nat → Int32), I c v1 J → Q (x229_2 p c v1 J) := by
  intro c
  induction c with
  | zero =>
    intro v1 J hi
    rw [x229_2]
    exact h0 v1 J hi
  | succ c ih =>
    intro v1 J hi
    have hi := h1 c v1 J hi
    rw [x229_2]
    by_cases h : (Int32.ofInt 212) ≤ v1
    · rw [if_pos h] at hi ⊢
      exact hi
    · rw [if_neg h] at hi ⊢
      exact ih _ _ hi
def x229 (p : Nat → Nat) (J : Nat → Nat → Int32) : (Nat → Nat → Int32) := (x229_2 p ((Int32.ofInt 212).toNatClampNeg) (Int32.ofInt 0) J)
theorem xt229 {X : nt_X} {d : Nat} {M : nt_M} {o : Option Value × nt_M} {p : Nat → Nat} {J : Nat → Nat → Int32} (hp : xs_P M p) (k : nt_ev X d 229 [.ref (p 0)] (me_w M J) o) : o = (none, me_w M (x229 p J)) := by
  have k : nt_rn X d 229 (0, [(0, .ref (p 0))], [], me_w M J) o := k
  have k := ly_revb 2 (c' := (2, [(1, .int (Int32.ofInt 0)), (0, .ref (p 0))], [], me_w M J)) rfl k
  have k := nt_rn_w (a := [(1, .int (Int32.ofInt 0)), (0, .ref (p 0))]) (b := [(0, .ref (p 0)), (1, .int (Int32.ofInt 0))]) ⟨rfl, rfl, trivial⟩ rfl k
  have k := xt229_2 hp  ((Int32.ofInt 212).toNatClampNeg) (Int32.ofInt 0) J (lx_beg (by decide)) k
  rw [k, x229]
theorem x229_2_frJ {p : Nat → Nat} {b : Nat} : ∀ (c : Nat) (v1 : Int32) (J : Nat → Nat → Int32), b ≠ p 4 → x229_2 p c v1 J b = J b := by
  intro c
  induction c with
  | zero =>
    intro v1 J n0
    rw [x229_2]
    all_goals first | (dsimp only; exact (show J b = J b from rfl)) | exact (show J b = J b from rfl)
  | succ c ih =>
    intro v1 J n0
    rw [x229_2]
    by_cases h : (Int32.ofInt 212) ≤ v1
    · rw [if_pos h]
      all_goals first | (dsimp only; exact (show J b = J b from rfl)) | exact (show J b = J b from rfl)
    · rw [if_neg h]
      exact (ih _ _ n0).trans (mu_o n0)
theorem x229_frJ {p : Nat → Nat} {J : Nat → Nat → Int32} {b : Nat} (n0 : b ≠ p 4) : x229 p J b = J b := by
  unfold x229
  exact (x229_2_frJ _ _ _ n0).trans (rfl)
/-! Model.ahead -/
def x226_41 (p : Nat → Nat) (v1 : Int32) (v2 : Int32) (v3 : Int32) : Nat → Int32 → (Nat → Nat → Int32) → (Nat → Nat → Int64) → Int32 × (Nat → Nat → Int32) × (Nat → Nat → Int64)
  | 0, v4, J, L => if v3 = 0 then ((J (p 4) 7) - (J (p 7) 7), x229 p J, L)
    else if v3 = (Int32.ofInt 1) then (x228 p J, x229 p J, L)
      else ((J (p 4) 8) - (J (p 7) 8), x229 p J, L)
  | c + 1, v4, J, L => if v2 ≤ v4 then if v3 = 0 then ((J (p 4) 7) - (J (p 7) 7), x229 p J, L)
      else if v3 = (Int32.ofInt 1) then (x228 p J, x229 p J, L)
        else ((J (p 4) 8) - (J (p 7) 8), x229 p J, L)
    else (x226_41 p v1 v2 v3 c (v4 + (Int32.ofInt 1)) ((x190 p v1 J L).1) ((x190 p v1 J L).2))
theorem xt226_41 {X : nt_X} {d : Nat} {M : nt_M} {o : Option Value × nt_M} {p : Nat → Nat} {v1 : Int32} {v2 : Int32} {v3 : Int32} (hp : xs_P M p) : ∀ (c : Nat) (v4 : Int32) (J : Nat → Nat → Int32) (L : Nat → Nat → Int64), (xr_W (J (p 4)) ∧ v2.toInt - v4.toInt ≤ c) → nt_rn X d 226 (41, [(0, .ref (p 0)), (1, .int v1), (2, .int v2), (3, .int v3), (4, .int v4)], [], me_w (lw M L) J) o → o = (some (.int ((x226_41 p v1 v2 v3 c v4 J L).1)), me_w (lw M ((x226_41 p v1 v2 v3 c v4 J L).2.2)) ((x226_41 p v1 v2 v3 c v4 J L).2.1)) := by
  intro c
  induction c with
  | zero =>
    intro v4 J L hc k
    have k := ly_revb 3 (c' := (if v2 ≤ v4 then 58 else 47, [(0, .ref (p 0)), (1, .int v1), (2, .int v2), (3, .int v3), (4, .int v4)], [], me_w (lw M L) J)) rfl k
    have h44 : v2 ≤ v4 := lx_end hc.2
    rw [if_pos h44] at k
    have k := ly_revb 2 (c' := (if v3 = 0 then 62 else 80, [(0, .ref (p 0)), (1, .int v1), (2, .int v2), (3, .int v3), (4, .int v4)], [], me_w (lw M L) J)) rfl k
    by_cases h59 : v3 = 0
    · rw [if_pos h59] at k
      have k := ly_revb 1 (c' := (63, [(0, .ref (p 0)), (1, .int v1), (2, .int v2), (3, .int v3), (4, .int v4)], [.ref (p 0)], me_w (lw M L) J)) rfl k
      have k := lz_get (a := (p 0)) (g := 1127) (M := me_w (lw M L) J) (v := .ref (p 4)) rfl (nt_gfR rfl (hp.1 (0, 27, 4) (by decide))) k
      have k := ly_revb 1 (c' := (68, [(0, .ref (p 0)), (1, .int v1), (2, .int v2), (3, .int v3), (4, .int v4)], [.int (Int32.ofInt 7), .ref (p 4)], me_w (lw M L) J)) rfl k
      have k := mx_iald (v := J (p 4) 7) rfl (hp.2.2.1 4 (by omega)) ((congrArg (J (p 4)) (show (Int32.ofInt 7).toNatClampNeg = 7 from rfl)).trans (rfl)) k
      have k := ly_revb 1 (c' := (70, [(0, .ref (p 0)), (1, .int v1), (2, .int v2), (3, .int v3), (4, .int v4)], [.ref (p 0), .int (J (p 4) 7)], me_w (lw M L) J)) rfl k
      have k := lz_get (a := (p 0)) (g := 1128) (M := me_w (lw M L) J) (v := .ref (p 7)) rfl (nt_gfR rfl (hp.1 (0, 28, 7) (by decide))) k
      have k := ly_revb 1 (c' := (75, [(0, .ref (p 0)), (1, .int v1), (2, .int v2), (3, .int v3), (4, .int v4)], [.int (Int32.ofInt 7), .ref (p 7), .int (J (p 4) 7)], me_w (lw M L) J)) rfl k
      have k := mx_iald (v := J (p 7) 7) rfl (hp.2.2.1 7 (by omega)) ((congrArg (J (p 7)) (show (Int32.ofInt 7).toNatClampNeg = 7 from rfl)).trans (rfl)) k
      have k := ly_revb 4 (c' := (110, [(4, .int ((J (p 4) 7) - (J (p 7) 7))), (0, .ref (p 0)), (1, .int v1), (2, .int v2), (3, .int v3)], [.ref (p 0)], me_w (lw M L) J)) rfl k
      obtain ⟨d1, o1, ed, kc, k⟩ := lz_c (g := 229) (q := 1) (vs := [.ref (p 0)]) (rest := []) rfl rfl (by decide) (Or.inr (Or.inl ⟨_, rfl, rfl⟩)) rfl k
      have e1 := xt229 (xs_lp hp) kc
      subst e1
      have k : nt_rn X _ 226 (113, [(4, .int ((J (p 4) 7) - (J (p 7) 7))), (0, .ref (p 0)), (1, .int v1), (2, .int v2), (3, .int v3)], [], me_w (lw M L) (x229 p J)) _ := k
      have k := ly_revb 1 (c' := (115, [(4, .int ((J (p 4) 7) - (J (p 7) 7))), (0, .ref (p 0)), (1, .int v1), (2, .int v2), (3, .int v3)], [.int ((J (p 4) 7) - (J (p 7) 7))], me_w (lw M L) (x229 p J))) rfl k
      have k := lz_ri rfl (by decide) k
      rw [k, x226_41, if_pos h59]
    · rw [if_neg h59] at k
      have k := ly_revb 3 (c' := (if v3 = (Int32.ofInt 1) then 85 else 92, [(0, .ref (p 0)), (1, .int v1), (2, .int v2), (3, .int v3), (4, .int v4)], [], me_w (lw M L) J)) rfl k
      by_cases h82 : v3 = (Int32.ofInt 1)
      · rw [if_pos h82] at k
        have k := ly_revb 1 (c' := (86, [(0, .ref (p 0)), (1, .int v1), (2, .int v2), (3, .int v3), (4, .int v4)], [.ref (p 0)], me_w (lw M L) J)) rfl k
        obtain ⟨d1, o1, ed, kc, k⟩ := lz_c (g := 228) (q := 1) (vs := [.ref (p 0)]) (rest := []) rfl rfl (by decide) (Or.inr (Or.inl ⟨_, rfl, rfl⟩)) rfl k
        have e1 := xt228 (xs_lp hp) kc
        subst e1
        have k : nt_rn X _ 226 (89, [(0, .ref (p 0)), (1, .int v1), (2, .int v2), (3, .int v3), (4, .int v4)], [.int (x228 p J)], me_w (lw M L) J) _ := k
        have k := ly_revb 3 (c' := (110, [(4, .int (x228 p J)), (0, .ref (p 0)), (1, .int v1), (2, .int v2), (3, .int v3)], [.ref (p 0)], me_w (lw M L) J)) rfl k
        obtain ⟨d1, o1, ed, kc, k⟩ := lz_c (g := 229) (q := 1) (vs := [.ref (p 0)]) (rest := []) rfl rfl (by decide) (Or.inr (Or.inl ⟨_, rfl, rfl⟩)) rfl k
        have e1 := xt229 (xs_lp hp) kc
        subst e1
        have k : nt_rn X _ 226 (113, [(4, .int (x228 p J)), (0, .ref (p 0)), (1, .int v1), (2, .int v2), (3, .int v3)], [], me_w (lw M L) (x229 p J)) _ := k
        have k := ly_revb 1 (c' := (115, [(4, .int (x228 p J)), (0, .ref (p 0)), (1, .int v1), (2, .int v2), (3, .int v3)], [.int (x228 p J)], me_w (lw M L) (x229 p J))) rfl k
        have k := lz_ri rfl (by decide) k
        rw [k, x226_41, if_neg h59, if_pos h82]
      · rw [if_neg h82] at k
        have k := ly_revb 1 (c' := (93, [(0, .ref (p 0)), (1, .int v1), (2, .int v2), (3, .int v3), (4, .int v4)], [.ref (p 0)], me_w (lw M L) J)) rfl k
        have k := lz_get (a := (p 0)) (g := 1127) (M := me_w (lw M L) J) (v := .ref (p 4)) rfl (nt_gfR rfl (hp.1 (0, 27, 4) (by decide))) k
        have k := ly_revb 1 (c' := (98, [(0, .ref (p 0)), (1, .int v1), (2, .int v2), (3, .int v3), (4, .int v4)], [.int (Int32.ofInt 8), .ref (p 4)], me_w (lw M L) J)) rfl k
        have k := mx_iald (v := J (p 4) 8) rfl (hp.2.2.1 4 (by omega)) ((congrArg (J (p 4)) (show (Int32.ofInt 8).toNatClampNeg = 8 from rfl)).trans (rfl)) k
        have k := ly_revb 1 (c' := (100, [(0, .ref (p 0)), (1, .int v1), (2, .int v2), (3, .int v3), (4, .int v4)], [.ref (p 0), .int (J (p 4) 8)], me_w (lw M L) J)) rfl k
        have k := lz_get (a := (p 0)) (g := 1128) (M := me_w (lw M L) J) (v := .ref (p 7)) rfl (nt_gfR rfl (hp.1 (0, 28, 7) (by decide))) k
        have k := ly_revb 1 (c' := (105, [(0, .ref (p 0)), (1, .int v1), (2, .int v2), (3, .int v3), (4, .int v4)], [.int (Int32.ofInt 8), .ref (p 7), .int (J (p 4) 8)], me_w (lw M L) J)) rfl k
        have k := mx_iald (v := J (p 7) 8) rfl (hp.2.2.1 7 (by omega)) ((congrArg (J (p 7)) (show (Int32.ofInt 8).toNatClampNeg = 8 from rfl)).trans (rfl)) k
        have k := ly_revb 3 (c' := (110, [(4, .int ((J (p 4) 8) - (J (p 7) 8))), (0, .ref (p 0)), (1, .int v1), (2, .int v2), (3, .int v3)], [.ref (p 0)], me_w (lw M L) J)) rfl k
        obtain ⟨d1, o1, ed, kc, k⟩ := lz_c (g := 229) (q := 1) (vs := [.ref (p 0)]) (rest := []) rfl rfl (by decide) (Or.inr (Or.inl ⟨_, rfl, rfl⟩)) rfl k
        have e1 := xt229 (xs_lp hp) kc
        subst e1
        have k : nt_rn X _ 226 (113, [(4, .int ((J (p 4) 8) - (J (p 7) 8))), (0, .ref (p 0)), (1, .int v1), (2, .int v2), (3, .int v3)], [], me_w (lw M L) (x229 p J)) _ := k
        have k := ly_revb 1 (c' := (115, [(4, .int ((J (p 4) 8) - (J (p 7) 8))), (0, .ref (p 0)), (1, .int v1), (2, .int v2), (3, .int v3)], [.int ((J (p 4) 8) - (J (p 7) 8))], me_w (lw M L) (x229 p J))) rfl k
        have k := lz_ri rfl (by decide) k
        rw [k, x226_41, if_neg h59, if_neg h82]
  | succ c ih =>
    intro v4 J L hc k
    have k := ly_revb 3 (c' := (if v2 ≤ v4 then 58 else 47, [(0, .ref (p 0)), (1, .int v1), (2, .int v2), (3, .int v3), (4, .int v4)], [], me_w (lw M L) J)) rfl k
    by_cases h44 : v2 ≤ v4
    · rw [if_pos h44] at k
      have k := ly_revb 2 (c' := (if v3 = 0 then 62 else 80, [(0, .ref (p 0)), (1, .int v1), (2, .int v2), (3, .int v3), (4, .int v4)], [], me_w (lw M L) J)) rfl k
      by_cases h59 : v3 = 0
      · rw [if_pos h59] at k
        have k := ly_revb 1 (c' := (63, [(0, .ref (p 0)), (1, .int v1), (2, .int v2), (3, .int v3), (4, .int v4)], [.ref (p 0)], me_w (lw M L) J)) rfl k
        have k := lz_get (a := (p 0)) (g := 1127) (M := me_w (lw M L) J) (v := .ref (p 4)) rfl (nt_gfR rfl (hp.1 (0, 27, 4) (by decide))) k
        have k := ly_revb 1 (c' := (68, [(0, .ref (p 0)), (1, .int v1), (2, .int v2), (3, .int v3), (4, .int v4)], [.int (Int32.ofInt 7), .ref (p 4)], me_w (lw M L) J)) rfl k
        have k := mx_iald (v := J (p 4) 7) rfl (hp.2.2.1 4 (by omega)) ((congrArg (J (p 4)) (show (Int32.ofInt 7).toNatClampNeg = 7 from rfl)).trans (rfl)) k
        have k := ly_revb 1 (c' := (70, [(0, .ref (p 0)), (1, .int v1), (2, .int v2), (3, .int v3), (4, .int v4)], [.ref (p 0), .int (J (p 4) 7)], me_w (lw M L) J)) rfl k
        have k := lz_get (a := (p 0)) (g := 1128) (M := me_w (lw M L) J) (v := .ref (p 7)) rfl (nt_gfR rfl (hp.1 (0, 28, 7) (by decide))) k
        have k := ly_revb 1 (c' := (75, [(0, .ref (p 0)), (1, .int v1), (2, .int v2), (3, .int v3), (4, .int v4)], [.int (Int32.ofInt 7), .ref (p 7), .int (J (p 4) 7)], me_w (lw M L) J)) rfl k
        have k := mx_iald (v := J (p 7) 7) rfl (hp.2.2.1 7 (by omega)) ((congrArg (J (p 7)) (show (Int32.ofInt 7).toNatClampNeg = 7 from rfl)).trans (rfl)) k
        have k := ly_revb 4 (c' := (110, [(4, .int ((J (p 4) 7) - (J (p 7) 7))), (0, .ref (p 0)), (1, .int v1), (2, .int v2), (3, .int v3)], [.ref (p 0)], me_w (lw M L) J)) rfl k
        obtain ⟨d1, o1, ed, kc, k⟩ := lz_c (g := 229) (q := 1) (vs := [.ref (p 0)]) (rest := []) rfl rfl (by decide) (Or.inr (Or.inl ⟨_, rfl, rfl⟩)) rfl k
        have e1 := xt229 (xs_lp hp) kc
        subst e1
        have k : nt_rn X _ 226 (113, [(4, .int ((J (p 4) 7) - (J (p 7) 7))), (0, .ref (p 0)), (1, .int v1), (2, .int v2), (3, .int v3)], [], me_w (lw M L) (x229 p J)) _ := k
        have k := ly_revb 1 (c' := (115, [(4, .int ((J (p 4) 7) - (J (p 7) 7))), (0, .ref (p 0)), (1, .int v1), (2, .int v2), (3, .int v3)], [.int ((J (p 4) 7) - (J (p 7) 7))], me_w (lw M L) (x229 p J))) rfl k
        have k := lz_ri rfl (by decide) k
        rw [k, x226_41, if_pos h44, if_pos h59]
      · rw [if_neg h59] at k
        have k := ly_revb 3 (c' := (if v3 = (Int32.ofInt 1) then 85 else 92, [(0, .ref (p 0)), (1, .int v1), (2, .int v2), (3, .int v3), (4, .int v4)], [], me_w (lw M L) J)) rfl k
        by_cases h82 : v3 = (Int32.ofInt 1)
        · rw [if_pos h82] at k
          have k := ly_revb 1 (c' := (86, [(0, .ref (p 0)), (1, .int v1), (2, .int v2), (3, .int v3), (4, .int v4)], [.ref (p 0)], me_w (lw M L) J)) rfl k
          obtain ⟨d1, o1, ed, kc, k⟩ := lz_c (g := 228) (q := 1) (vs := [.ref (p 0)]) (rest := []) rfl rfl (by decide) (Or.inr (Or.inl ⟨_, rfl, rfl⟩)) rfl k
          have e1 := xt228 (xs_lp hp) kc
          subst e1
          have k : nt_rn X _ 226 (89, [(0, .ref (p 0)), (1, .int v1), (2, .int v2), (3, .int v3), (4, .int v4)], [.int (x228 p J)], me_w (lw M L) J) _ := k
          have k := ly_revb 3 (c' := (110, [(4, .int (x228 p J)), (0, .ref (p 0)), (1, .int v1), (2, .int v2), (3, .int v3)], [.ref (p 0)], me_w (lw M L) J)) rfl k
          obtain ⟨d1, o1, ed, kc, k⟩ := lz_c (g := 229) (q := 1) (vs := [.ref (p 0)]) (rest := []) rfl rfl (by decide) (Or.inr (Or.inl ⟨_, rfl, rfl⟩)) rfl k
          have e1 := xt229 (xs_lp hp) kc
          subst e1
          have k : nt_rn X _ 226 (113, [(4, .int (x228 p J)), (0, .ref (p 0)), (1, .int v1), (2, .int v2), (3, .int v3)], [], me_w (lw M L) (x229 p J)) _ := k
          have k := ly_revb 1 (c' := (115, [(4, .int (x228 p J)), (0, .ref (p 0)), (1, .int v1), (2, .int v2), (3, .int v3)], [.int (x228 p J)], me_w (lw M L) (x229 p J))) rfl k
          have k := lz_ri rfl (by decide) k
          rw [k, x226_41, if_pos h44, if_neg h59, if_pos h82]
        · rw [if_neg h82] at k
          have k := ly_revb 1 (c' := (93, [(0, .ref (p 0)), (1, .int v1), (2, .int v2), (3, .int v3), (4, .int v4)], [.ref (p 0)], me_w (lw M L) J)) rfl k
          have k := lz_get (a := (p 0)) (g := 1127) (M := me_w (lw M L) J) (v := .ref (p 4)) rfl (nt_gfR rfl (hp.1 (0, 27, 4) (by decide))) k
          have k := ly_revb 1 (c' := (98, [(0, .ref (p 0)), (1, .int v1), (2, .int v2), (3, .int v3), (4, .int v4)], [.int (Int32.ofInt 8), .ref (p 4)], me_w (lw M L) J)) rfl k
          have k := mx_iald (v := J (p 4) 8) rfl (hp.2.2.1 4 (by omega)) ((congrArg (J (p 4)) (show (Int32.ofInt 8).toNatClampNeg = 8 from rfl)).trans (rfl)) k
          have k := ly_revb 1 (c' := (100, [(0, .ref (p 0)), (1, .int v1), (2, .int v2), (3, .int v3), (4, .int v4)], [.ref (p 0), .int (J (p 4) 8)], me_w (lw M L) J)) rfl k
          have k := lz_get (a := (p 0)) (g := 1128) (M := me_w (lw M L) J) (v := .ref (p 7)) rfl (nt_gfR rfl (hp.1 (0, 28, 7) (by decide))) k
          have k := ly_revb 1 (c' := (105, [(0, .ref (p 0)), (1, .int v1), (2, .int v2), (3, .int v3), (4, .int v4)], [.int (Int32.ofInt 8), .ref (p 7), .int (J (p 4) 8)], me_w (lw M L) J)) rfl k
          have k := mx_iald (v := J (p 7) 8) rfl (hp.2.2.1 7 (by omega)) ((congrArg (J (p 7)) (show (Int32.ofInt 8).toNatClampNeg = 8 from rfl)).trans (rfl)) k
          have k := ly_revb 3 (c' := (110, [(4, .int ((J (p 4) 8) - (J (p 7) 8))), (0, .ref (p 0)), (1, .int v1), (2, .int v2), (3, .int v3)], [.ref (p 0)], me_w (lw M L) J)) rfl k
          obtain ⟨d1, o1, ed, kc, k⟩ := lz_c (g := 229) (q := 1) (vs := [.ref (p 0)]) (rest := []) rfl rfl (by decide) (Or.inr (Or.inl ⟨_, rfl, rfl⟩)) rfl k
          have e1 := xt229 (xs_lp hp) kc
          subst e1
          have k : nt_rn X _ 226 (113, [(4, .int ((J (p 4) 8) - (J (p 7) 8))), (0, .ref (p 0)), (1, .int v1), (2, .int v2), (3, .int v3)], [], me_w (lw M L) (x229 p J)) _ := k
          have k := ly_revb 1 (c' := (115, [(4, .int ((J (p 4) 8) - (J (p 7) 8))), (0, .ref (p 0)), (1, .int v1), (2, .int v2), (3, .int v3)], [.int ((J (p 4) 8) - (J (p 7) 8))], me_w (lw M L) (x229 p J))) rfl k
          have k := lz_ri rfl (by decide) k
          rw [k, x226_41, if_pos h44, if_neg h59, if_neg h82]
    · rw [if_neg h44] at k
      have k := ly_revb 2 (c' := (49, [(0, .ref (p 0)), (1, .int v1), (2, .int v2), (3, .int v3), (4, .int v4)], [.int v1, .ref (p 0)], me_w (lw M L) J)) rfl k
      obtain ⟨d1, o1, ed, kc, k⟩ := lz_c (g := 190) (q := 1) (vs := [.ref (p 0), .int v1]) (rest := []) rfl rfl (by decide) (Or.inr (Or.inl ⟨_, rfl, rfl⟩)) rfl k
      have e1 := xt190 hp hc.1 kc
      subst e1
      have k : nt_rn X _ 226 (52, [(0, .ref (p 0)), (1, .int v1), (2, .int v2), (3, .int v3), (4, .int v4)], [], me_w (lw M ((x190 p v1 J L).2)) ((x190 p v1 J L).1)) _ := k
      have k := ly_revb 2 (c' := (41, [(4, .int (v4 + (Int32.ofInt 1))), (0, .ref (p 0)), (1, .int v1), (2, .int v2), (3, .int v3)], [], me_w (lw M ((x190 p v1 J L).2)) ((x190 p v1 J L).1))) rfl k
      have k := nt_rn_w (a := [(4, .int (v4 + (Int32.ofInt 1))), (0, .ref (p 0)), (1, .int v1), (2, .int v2), (3, .int v3)]) (b := [(0, .ref (p 0)), (1, .int v1), (2, .int v2), (3, .int v3), (4, .int (v4 + (Int32.ofInt 1)))]) ⟨rfl, rfl, rfl, rfl, rfl, trivial⟩ rfl k
      have k := ih (v4 + (Int32.ofInt 1)) ((x190 p v1 J L).1) ((x190 p v1 J L).2) (⟨xw_190 (hp.2.1 4 0 (by omega) (by omega) (by decide)) hc.1, lx_dec h44 hc.2⟩) k
      rw [k, x226_41, if_neg h44]
theorem x226_41_rule {p : Nat → Nat} {v1 : Int32} {v2 : Int32} {v3 : Int32} {I : Nat → Int32 → (Nat → Nat → Int32) → (Nat → Nat → Int64) → Prop} {Q : Int32 × (Nat → Nat → Int32) × (Nat → Nat → Int64) → Prop} (h0 : ∀ (v4 : Int32) (J : Nat → Nat → Int32) (L : Nat → Nat → Int64), I 0 v4 J L → Q (if v3 = 0 then ((J (p 4) 7) - (J (p 7) 7), x229 p J, L)
    else if v3 = (Int32.ofInt 1) then (x228 p J, x229 p J, L)
      else ((J (p 4) 8) - (J (p 7) 8), x229 p J, L))) (h1 : ∀ (c : Nat) (v4 : Int32) (J : Nat → Nat → Int32) (L : Nat → Nat → Int64), I (c + 1) v4 J L →
    if v2 ≤ v4 then if v3 = 0 then (Q ((J (p 4) 7) - (J (p 7) 7), x229 p J, L))
      else if v3 = (Int32.ofInt 1) then (Q (x228 p J, x229 p J, L))
        else (Q ((J (p 4) 8) - (J (p 7) 8), x229 p J, L))
    else (I c (v4 + (Int32.ofInt 1)) ((x190 p v1 J L).1) ((x190 p v1 J L).2))) : ∀ (c : Nat) (v4 : Int32) (J : Nat → Nat → Int32) (L : Nat → Nat → Int64), I c v4 J L → Q (x226_41 p v1 v2 v3 c v4 J L) := by
  intro c
  induction c with
  | zero =>
    intro v4 J L hi
    rw [x226_41]
    exact h0 v4 J L hi
  | succ c ih =>
    intro v4 J L hi
    have hi := h1 c v4 J L hi
    rw [x226_41]
    by_cases h : v2 ≤ v4
    · rw [if_pos h] at hi ⊢
      by_cases h : v3 = 0
      · rw [if_pos h] at hi ⊢
        exact hi
      · rw [if_neg h] at hi ⊢
        by_cases h : v3 = (Int32.ofInt 1)
        · rw [if_pos h] at hi ⊢
          exact hi
        · rw [if_neg h] at hi ⊢
          exact hi
    · rw [if_neg h] at hi ⊢
      exact ih _ _ _ hi
def x226 (p : Nat → Nat) (v1 : Int32) (v2 : Int32) (v3 : Int32) (J : Nat → Nat → Int32) (L : Nat → Nat → Int64) : Int32 × (Nat → Nat → Int32) × (Nat → Nat → Int64) := if (x187 p v1 J) = 0 then (Int32.ofInt (-1), J, L)
  else if (x145 v2.toInt64 (Int64.ofNat 0) 100) = 0 then (Int32.ofInt (-1), J, L)
    else if (x145 v3.toInt64 (Int64.ofNat 0) 2) = 0 then (Int32.ofInt (-1), J, L)
      else (x226_41 p v1 v2 v3 v2.toNatClampNeg (Int32.ofInt 0) (x227 p J) L)
theorem xt226 {X : nt_X} {d : Nat} {M : nt_M} {o : Option Value × nt_M} {p : Nat → Nat} {v1 : Int32} {v2 : Int32} {v3 : Int32} {J : Nat → Nat → Int32} {L : Nat → Nat → Int64} (hp : xs_P M p) (hw : xr_W (J (p 4))) (k : nt_ev X d 226 [.ref (p 0), .int v1, .int v2, .int v3] (me_w (lw M L) J) o) : o = (some (.int ((x226 p v1 v2 v3 J L).1)), me_w (lw M ((x226 p v1 v2 v3 J L).2.2)) ((x226 p v1 v2 v3 J L).2.1)) := by
  have k : nt_rn X d 226 (0, [(0, .ref (p 0)), (1, .int v1), (2, .int v2), (3, .int v3)], [], me_w (lw M L) J) o := k
  have k := ly_revb 2 (c' := (2, [(0, .ref (p 0)), (1, .int v1), (2, .int v2), (3, .int v3)], [.int v1, .ref (p 0)], me_w (lw M L) J)) rfl k
  obtain ⟨d1, o1, ed, kc, k⟩ := lz_c (g := 187) (q := 1) (vs := [.ref (p 0), .int v1]) (rest := []) rfl rfl (by decide) (Or.inr (Or.inl ⟨_, rfl, rfl⟩)) rfl k
  have e1 := xt187 (xs_lp hp) kc
  subst e1
  have k : nt_rn X _ 226 (5, [(0, .ref (p 0)), (1, .int v1), (2, .int v2), (3, .int v3)], [.int (x187 p v1 J)], me_w (lw M L) J) _ := k
  have k := ly_revb 1 (c' := (if (x187 p v1 J) = 0 then 32 else 8, [(0, .ref (p 0)), (1, .int v1), (2, .int v2), (3, .int v3)], [], me_w (lw M L) J)) rfl k
  by_cases h5 : (x187 p v1 J) = 0
  · rw [if_pos h5] at k
    have k := ly_revb 1 (c' := (33, [(0, .ref (p 0)), (1, .int v1), (2, .int v2), (3, .int v3)], [.int (Int32.ofInt (-1))], me_w (lw M L) J)) rfl k
    have k := lz_ri rfl (by decide) k
    rw [k, x226, if_pos h5]
  · rw [if_neg h5] at k
    have k := ly_revb 4 (c' := (14, [(0, .ref (p 0)), (1, .int v1), (2, .int v2), (3, .int v3)], [.long 100, .long (Int64.ofNat 0), .long v2.toInt64], me_w (lw M L) J)) rfl k
    obtain ⟨d1, o1, ed, kc, k⟩ := lz_c (g := 145) (q := 0) (vs := [.long v2.toInt64, .long (Int64.ofNat 0), .long 100]) (rest := []) rfl rfl (by decide) (Or.inl ⟨_, rfl, rfl⟩) rfl k
    have e1 := xt145  kc
    subst e1
    have k : nt_rn X _ 226 (17, [(0, .ref (p 0)), (1, .int v1), (2, .int v2), (3, .int v3)], [.int (x145 v2.toInt64 (Int64.ofNat 0) 100)], me_w (lw M L) J) _ := k
    have k := ly_revb 1 (c' := (if (x145 v2.toInt64 (Int64.ofNat 0) 100) = 0 then 32 else 20, [(0, .ref (p 0)), (1, .int v1), (2, .int v2), (3, .int v3)], [], me_w (lw M L) J)) rfl k
    by_cases h17 : (x145 v2.toInt64 (Int64.ofNat 0) 100) = 0
    · rw [if_pos h17] at k
      have k := ly_revb 1 (c' := (33, [(0, .ref (p 0)), (1, .int v1), (2, .int v2), (3, .int v3)], [.int (Int32.ofInt (-1))], me_w (lw M L) J)) rfl k
      have k := lz_ri rfl (by decide) k
      rw [k, x226, if_neg h5, if_pos h17]
    · rw [if_neg h17] at k
      have k := ly_revb 4 (c' := (26, [(0, .ref (p 0)), (1, .int v1), (2, .int v2), (3, .int v3)], [.long 2, .long (Int64.ofNat 0), .long v3.toInt64], me_w (lw M L) J)) rfl k
      obtain ⟨d1, o1, ed, kc, k⟩ := lz_c (g := 145) (q := 0) (vs := [.long v3.toInt64, .long (Int64.ofNat 0), .long 2]) (rest := []) rfl rfl (by decide) (Or.inl ⟨_, rfl, rfl⟩) rfl k
      have e1 := xt145  kc
      subst e1
      have k : nt_rn X _ 226 (29, [(0, .ref (p 0)), (1, .int v1), (2, .int v2), (3, .int v3)], [.int (x145 v3.toInt64 (Int64.ofNat 0) 2)], me_w (lw M L) J) _ := k
      have k := ly_revb 1 (c' := (if (x145 v3.toInt64 (Int64.ofNat 0) 2) = 0 then 32 else 34, [(0, .ref (p 0)), (1, .int v1), (2, .int v2), (3, .int v3)], [], me_w (lw M L) J)) rfl k
      by_cases h29 : (x145 v3.toInt64 (Int64.ofNat 0) 2) = 0
      · rw [if_pos h29] at k
        have k := ly_revb 1 (c' := (33, [(0, .ref (p 0)), (1, .int v1), (2, .int v2), (3, .int v3)], [.int (Int32.ofInt (-1))], me_w (lw M L) J)) rfl k
        have k := lz_ri rfl (by decide) k
        rw [k, x226, if_neg h5, if_neg h17, if_pos h29]
      · rw [if_neg h29] at k
        have k := ly_revb 1 (c' := (35, [(0, .ref (p 0)), (1, .int v1), (2, .int v2), (3, .int v3)], [.ref (p 0)], me_w (lw M L) J)) rfl k
        obtain ⟨d1, o1, ed, kc, k⟩ := lz_c (g := 227) (q := 1) (vs := [.ref (p 0)]) (rest := []) rfl rfl (by decide) (Or.inr (Or.inl ⟨_, rfl, rfl⟩)) rfl k
        have e1 := xt227 (xs_lp hp) kc
        subst e1
        have k : nt_rn X _ 226 (38, [(0, .ref (p 0)), (1, .int v1), (2, .int v2), (3, .int v3)], [], me_w (lw M L) (x227 p J)) _ := k
        have k := ly_revb 2 (c' := (41, [(4, .int (Int32.ofInt 0)), (0, .ref (p 0)), (1, .int v1), (2, .int v2), (3, .int v3)], [], me_w (lw M L) (x227 p J))) rfl k
        have k := nt_rn_w (a := [(4, .int (Int32.ofInt 0)), (0, .ref (p 0)), (1, .int v1), (2, .int v2), (3, .int v3)]) (b := [(0, .ref (p 0)), (1, .int v1), (2, .int v2), (3, .int v3), (4, .int (Int32.ofInt 0))]) ⟨rfl, rfl, rfl, rfl, rfl, trivial⟩ rfl k
        have k := xt226_41 hp  v2.toNatClampNeg (Int32.ofInt 0) (x227 p J) L (⟨by rw [x227_frJ (hp.2.1 4 7 (by omega) (by omega) (by decide))]; exact hw, lx_beg (by decide)⟩) k
        rw [k, x226, if_neg h5, if_neg h17, if_neg h29]
theorem x226_41_frJ {p : Nat → Nat} {v1 : Int32} {v2 : Int32} {v3 : Int32} {b : Nat} : ∀ (c : Nat) (v4 : Int32) (J : Nat → Nat → Int32) (L : Nat → Nat → Int64), b ≠ p 0 → b ≠ p 4 → b ≠ p 7 → (x226_41 p v1 v2 v3 c v4 J L).2.1 b = J b := by
  intro c
  induction c with
  | zero =>
    intro v4 J L n0 n1 n2
    rw [x226_41]
    by_cases h : v3 = 0
    · rw [if_pos h]
      all_goals first | (dsimp only; exact (show (x229 p J) b = J b from x229_frJ  n1)) | exact (show (x229 p J) b = J b from x229_frJ  n1)
    · rw [if_neg h]
      by_cases h : v3 = (Int32.ofInt 1)
      · rw [if_pos h]
        all_goals first | (dsimp only; exact (show (x229 p J) b = J b from x229_frJ  n1)) | exact (show (x229 p J) b = J b from x229_frJ  n1)
      · rw [if_neg h]
        all_goals first | (dsimp only; exact (show (x229 p J) b = J b from x229_frJ  n1)) | exact (show (x229 p J) b = J b from x229_frJ  n1)
  | succ c ih =>
    intro v4 J L n0 n1 n2
    rw [x226_41]
    by_cases h : v2 ≤ v4
    · rw [if_pos h]
      by_cases h : v3 = 0
      · rw [if_pos h]
        all_goals first | (dsimp only; exact (show (x229 p J) b = J b from x229_frJ  n1)) | exact (show (x229 p J) b = J b from x229_frJ  n1)
      · rw [if_neg h]
        by_cases h : v3 = (Int32.ofInt 1)
        · rw [if_pos h]
          all_goals first | (dsimp only; exact (show (x229 p J) b = J b from x229_frJ  n1)) | exact (show (x229 p J) b = J b from x229_frJ  n1)
        · rw [if_neg h]
          all_goals first | (dsimp only; exact (show (x229 p J) b = J b from x229_frJ  n1)) | exact (show (x229 p J) b = J b from x229_frJ  n1)
    · rw [if_neg h]
      exact (ih _ _ _ n0 n1 n2).trans (x190_frJ  n0 n1)
theorem x226_frJ {p : Nat → Nat} {v1 : Int32} {v2 : Int32} {v3 : Int32} {J : Nat → Nat → Int32} {L : Nat → Nat → Int64} {b : Nat} (n0 : b ≠ p 0) (n1 : b ≠ p 4) (n2 : b ≠ p 7) : (x226 p v1 v2 v3 J L).2.1 b = J b := by
  unfold x226
  by_cases h : (x187 p v1 J) = 0
  · rw [if_pos h]
    all_goals first | (dsimp only; exact (show J b = J b from rfl)) | exact (show J b = J b from rfl)
  · rw [if_neg h]
    by_cases h : (x145 v2.toInt64 (Int64.ofNat 0) 100) = 0
    · rw [if_pos h]
      all_goals first | (dsimp only; exact (show J b = J b from rfl)) | exact (show J b = J b from rfl)
    · rw [if_neg h]
      by_cases h : (x145 v3.toInt64 (Int64.ofNat 0) 2) = 0
      · rw [if_pos h]
        all_goals first | (dsimp only; exact (show J b = J b from rfl)) | exact (show J b = J b from rfl)
      · rw [if_neg h]
        exact (x226_41_frJ _ _ _ _ n0 n1 n2).trans (x227_frJ  n2)
theorem x226_41_frL {p : Nat → Nat} {v1 : Int32} {v2 : Int32} {v3 : Int32} {b : Nat} : ∀ (c : Nat) (v4 : Int32) (J : Nat → Nat → Int32) (L : Nat → Nat → Int64), b ≠ p 5 → b ≠ p 6 → (x226_41 p v1 v2 v3 c v4 J L).2.2 b = L b := by
  intro c
  induction c with
  | zero =>
    intro v4 J L n0 n1
    rw [x226_41]
    by_cases h : v3 = 0
    · rw [if_pos h]
      all_goals first | (dsimp only; exact (show L b = L b from rfl)) | exact (show L b = L b from rfl)
    · rw [if_neg h]
      by_cases h : v3 = (Int32.ofInt 1)
      · rw [if_pos h]
        all_goals first | (dsimp only; exact (show L b = L b from rfl)) | exact (show L b = L b from rfl)
      · rw [if_neg h]
        all_goals first | (dsimp only; exact (show L b = L b from rfl)) | exact (show L b = L b from rfl)
  | succ c ih =>
    intro v4 J L n0 n1
    rw [x226_41]
    by_cases h : v2 ≤ v4
    · rw [if_pos h]
      by_cases h : v3 = 0
      · rw [if_pos h]
        all_goals first | (dsimp only; exact (show L b = L b from rfl)) | exact (show L b = L b from rfl)
      · rw [if_neg h]
        by_cases h : v3 = (Int32.ofInt 1)
        · rw [if_pos h]
          all_goals first | (dsimp only; exact (show L b = L b from rfl)) | exact (show L b = L b from rfl)
        · rw [if_neg h]
          all_goals first | (dsimp only; exact (show L b = L b from rfl)) | exact (show L b = L b from rfl)
    · rw [if_neg h]
      exact (ih _ _ _ n0 n1).trans (x190_frL n0 n1)
theorem x226_frL {p : Nat → Nat} {v1 : Int32} {v2 : Int32} {v3 : Int32} {J : Nat → Nat → Int32} {L : Nat → Nat → Int64} {b : Nat} (n0 : b ≠ p 5) (n1 : b ≠ p 6) : (x226 p v1 v2 v3 J L).2.2 b = L b := by
  unfold x226
  by_cases h : (x187 p v1 J) = 0
  · rw [if_pos h]
    all_goals first | (dsimp only; exact (show L b = L b from rfl)) | exact (show L b = L b from rfl)
  · rw [if_neg h]
    by_cases h : (x145 v2.toInt64 (Int64.ofNat 0) 100) = 0
    · rw [if_pos h]
      all_goals first | (dsimp only; exact (show L b = L b from rfl)) | exact (show L b = L b from rfl)
    · rw [if_neg h]
      by_cases h : (x145 v3.toInt64 (Int64.ofNat 0) 2) = 0
      · rw [if_pos h]
        all_goals first | (dsimp only; exact (show L b = L b from rfl)) | exact (show L b = L b from rfl)
      · rw [if_neg h]
        exact (x226_41_frL _ _ _ _ n0 n1).trans (rfl)
/-! .ahead -/
def x123_53 (p : Nat → Nat) (sp : Nat) (ln : Nat) (v1 : Int32) (v2 : Int32) (v3 : Int32) : Nat → Int32 → (Nat → Nat → Int32) → (Nat → Nat → Int64) → Int32 × (Nat → Nat → Int32) × (Nat → Nat → Int64)
  | 0, v4, J, L => if v3 = Int32.ofInt 0 then ((J (p 48) 5) - (J (p 31) 5), J, L)
    else if v3 = Int32.ofInt 1 then (x79 (fun i => p (48 + i)) J, J, L)
      else ((J (p 48) 4) - (J (p 31) 4), J, L)
  | c + 1, v4, J, L => if v2 ≤ v4 then if v3 = Int32.ofInt 0 then ((J (p 48) 5) - (J (p 31) 5), J, L)
      else if v3 = Int32.ofInt 1 then (x79 (fun i => p (48 + i)) J, J, L)
        else ((J (p 48) 4) - (J (p 31) 4), J, L)
    else if (Int32.ofInt 99) < (J (p 48) 2) then if v3 = Int32.ofInt 0 then ((J (p 48) 5) - (J (p 31) 5), J, L)
        else if v3 = Int32.ofInt 1 then (x79 (fun i => p (48 + i)) J, J, L)
          else ((J (p 48) 4) - (J (p 31) 4), J, L)
      else (x123_53 p sp ln v1 v2 v3 c (v4 + (Int32.ofInt 1)) ((x1 p (fun i => p (48 + i)) sp ln J L).1) ((x1 p (fun i => p (48 + i)) sp ln J L).2))
theorem xt123_53 {X : nt_X} {d : Nat} {M : nt_M} {o : Option Value × nt_M} {p : Nat → Nat} {sp : Nat} {ln : Nat} {ru : Nat} {v1 : Int32} {v2 : Int32} {v3 : Int32} (hp : xs_P M p) (hn : xs_Q M (fun i => p (31 + i))) (hm : xs_Q M (fun i => p (48 + i))) (hk : xs_N M (fun i => p (48 + i))) (hs : xs_S M p ru sp ln) (h0 : ¬ v1 < 0) (hr : nt_R M (p 23) v1.toNatClampNeg = some ru) : ∀ (c : Nat) (v4 : Int32) (J : Nat → Nat → Int32) (L : Nat → Nat → Int64), (¬ J (p 16) 4 ≤ v1 ∧ v2.toInt - v4.toInt ≤ c) → nt_rn X d 123 (53, [(0, .ref (p 16)), (1, .int v1), (2, .int v2), (3, .int v3), (4, .int v4)], [], me_w (lw M L) J) o → o = (some (.int ((x123_53 p sp ln v1 v2 v3 c v4 J L).1)), me_w (lw M ((x123_53 p sp ln v1 v2 v3 c v4 J L).2.2)) ((x123_53 p sp ln v1 v2 v3 c v4 J L).2.1)) := by
  intro c
  induction c with
  | zero =>
    intro v4 J L hc k
    have k := ly_revb 3 (c' := (if v2 ≤ v4 then 93 else 59, [(0, .ref (p 16)), (1, .int v1), (2, .int v2), (3, .int v3), (4, .int v4)], [], me_w (lw M L) J)) rfl k
    have h56 : v2 ≤ v4 := lx_end hc.2
    rw [if_pos h56] at k
    have k := ly_revb 1 (c' := (94, [(0, .ref (p 16)), (1, .int v1), (2, .int v2), (3, .int v3), (4, .int v4)], [.int v3], me_w (lw M L) J)) rfl k
    by_cases h94_0 : v3 = Int32.ofInt 0
    · have k := mx_ls (q := 120) rfl (by rw [h94_0]; decide) k
      have k : nt_rn X _ 123 (120, [(0, .ref (p 16)), (1, .int v1), (2, .int v2), (3, .int v3), (4, .int v4)], [], me_w (lw M L) J) _ := k
      have k := ly_revb 1 (c' := (121, [(0, .ref (p 16)), (1, .int v1), (2, .int v2), (3, .int v3), (4, .int v4)], [.ref (p 16)], me_w (lw M L) J)) rfl k
      have k := lz_get (a := (p 16)) (g := 1008) (M := me_w (lw M L) J) (v := .ref (p 48)) rfl (nt_gfR rfl (hp.1 (16, 8, 48) (by decide))) k
      have k := lz_get (a := (p 48)) (g := 605) (M := me_w (lw M L) J) (v := .int (J (p 48) 5)) rfl (congrArg Value.int (rfl)) k
      have k := ly_revb 1 (c' := (128, [(0, .ref (p 16)), (1, .int v1), (2, .int v2), (3, .int v3), (4, .int v4)], [.ref (p 16), .int (J (p 48) 5)], me_w (lw M L) J)) rfl k
      have k := lz_get (a := (p 16)) (g := 1007) (M := me_w (lw M L) J) (v := .ref (p 31)) rfl (nt_gfR rfl (hp.1 (16, 7, 31) (by decide))) k
      have k := lz_get (a := (p 31)) (g := 605) (M := me_w (lw M L) J) (v := .int (J (p 31) 5)) rfl (congrArg Value.int (rfl)) k
      have k := ly_revb 1 (c' := (135, [(0, .ref (p 16)), (1, .int v1), (2, .int v2), (3, .int v3), (4, .int v4)], [.int ((J (p 48) 5) - (J (p 31) 5))], me_w (lw M L) J)) rfl k
      have k := lz_ri rfl (by decide) k
      rw [k, x123_53, if_pos h94_0]
    · by_cases h94_1 : v3 = Int32.ofInt 1
      · have k := mx_ls (q := 136) rfl (by rw [h94_1]; decide) k
        have k : nt_rn X _ 123 (136, [(0, .ref (p 16)), (1, .int v1), (2, .int v2), (3, .int v3), (4, .int v4)], [], me_w (lw M L) J) _ := k
        have k := ly_revb 1 (c' := (137, [(0, .ref (p 16)), (1, .int v1), (2, .int v2), (3, .int v3), (4, .int v4)], [.ref (p 16)], me_w (lw M L) J)) rfl k
        have k := lz_get (a := (p 16)) (g := 1008) (M := me_w (lw M L) J) (v := .ref (p 48)) rfl (nt_gfR rfl (hp.1 (16, 8, 48) (by decide))) k
        obtain ⟨d1, o1, ed, kc, k⟩ := lz_c (g := 79) (q := 1) (vs := [.ref (p 48)]) (rest := []) rfl rfl (by decide) (Or.inr (Or.inl ⟨_, rfl, rfl⟩)) rfl k
        have e1 := xt79 (xs_lq hm) kc
        subst e1
        have k : nt_rn X _ 123 (143, [(0, .ref (p 16)), (1, .int v1), (2, .int v2), (3, .int v3), (4, .int v4)], [.int (x79 (fun i => p (48 + i)) J)], me_w (lw M L) J) _ := k
        have k := lz_ri rfl (by decide) k
        rw [k, x123_53, if_neg h94_0, if_pos h94_1]
      · have k := mx_ls (q := 144) rfl (by
          show ((94 : Nat) : Int) + Op.lookupswitch.offset [(0, 26), (1, 42)] 50 _ = _
          rw [mx_lo (fun e => h94_0 (Int32.toInt_inj.mp (e.trans (show (0 : Int) = (Int32.ofInt 0).toInt by decide)))), mx_lo (fun e => h94_1 (Int32.toInt_inj.mp (e.trans (show (1 : Int) = (Int32.ofInt 1).toInt by decide)))), Op.lookupswitch.offset_nil]; decide) k
        have k : nt_rn X _ 123 (144, [(0, .ref (p 16)), (1, .int v1), (2, .int v2), (3, .int v3), (4, .int v4)], [], me_w (lw M L) J) _ := k
        have k := ly_revb 1 (c' := (145, [(0, .ref (p 16)), (1, .int v1), (2, .int v2), (3, .int v3), (4, .int v4)], [.ref (p 16)], me_w (lw M L) J)) rfl k
        have k := lz_get (a := (p 16)) (g := 1008) (M := me_w (lw M L) J) (v := .ref (p 48)) rfl (nt_gfR rfl (hp.1 (16, 8, 48) (by decide))) k
        have k := lz_get (a := (p 48)) (g := 604) (M := me_w (lw M L) J) (v := .int (J (p 48) 4)) rfl (congrArg Value.int (rfl)) k
        have k := ly_revb 1 (c' := (152, [(0, .ref (p 16)), (1, .int v1), (2, .int v2), (3, .int v3), (4, .int v4)], [.ref (p 16), .int (J (p 48) 4)], me_w (lw M L) J)) rfl k
        have k := lz_get (a := (p 16)) (g := 1007) (M := me_w (lw M L) J) (v := .ref (p 31)) rfl (nt_gfR rfl (hp.1 (16, 7, 31) (by decide))) k
        have k := lz_get (a := (p 31)) (g := 604) (M := me_w (lw M L) J) (v := .int (J (p 31) 4)) rfl (congrArg Value.int (rfl)) k
        have k := ly_revb 1 (c' := (159, [(0, .ref (p 16)), (1, .int v1), (2, .int v2), (3, .int v3), (4, .int v4)], [.int ((J (p 48) 4) - (J (p 31) 4))], me_w (lw M L) J)) rfl k
        have k := lz_ri rfl (by decide) k
        rw [k, x123_53, if_neg h94_0, if_neg h94_1]
  | succ c ih =>
    intro v4 J L hc k
    have k := ly_revb 3 (c' := (if v2 ≤ v4 then 93 else 59, [(0, .ref (p 16)), (1, .int v1), (2, .int v2), (3, .int v3), (4, .int v4)], [], me_w (lw M L) J)) rfl k
    by_cases h56 : v2 ≤ v4
    · rw [if_pos h56] at k
      have k := ly_revb 1 (c' := (94, [(0, .ref (p 16)), (1, .int v1), (2, .int v2), (3, .int v3), (4, .int v4)], [.int v3], me_w (lw M L) J)) rfl k
      by_cases h94_0 : v3 = Int32.ofInt 0
      · have k := mx_ls (q := 120) rfl (by rw [h94_0]; decide) k
        have k : nt_rn X _ 123 (120, [(0, .ref (p 16)), (1, .int v1), (2, .int v2), (3, .int v3), (4, .int v4)], [], me_w (lw M L) J) _ := k
        have k := ly_revb 1 (c' := (121, [(0, .ref (p 16)), (1, .int v1), (2, .int v2), (3, .int v3), (4, .int v4)], [.ref (p 16)], me_w (lw M L) J)) rfl k
        have k := lz_get (a := (p 16)) (g := 1008) (M := me_w (lw M L) J) (v := .ref (p 48)) rfl (nt_gfR rfl (hp.1 (16, 8, 48) (by decide))) k
        have k := lz_get (a := (p 48)) (g := 605) (M := me_w (lw M L) J) (v := .int (J (p 48) 5)) rfl (congrArg Value.int (rfl)) k
        have k := ly_revb 1 (c' := (128, [(0, .ref (p 16)), (1, .int v1), (2, .int v2), (3, .int v3), (4, .int v4)], [.ref (p 16), .int (J (p 48) 5)], me_w (lw M L) J)) rfl k
        have k := lz_get (a := (p 16)) (g := 1007) (M := me_w (lw M L) J) (v := .ref (p 31)) rfl (nt_gfR rfl (hp.1 (16, 7, 31) (by decide))) k
        have k := lz_get (a := (p 31)) (g := 605) (M := me_w (lw M L) J) (v := .int (J (p 31) 5)) rfl (congrArg Value.int (rfl)) k
        have k := ly_revb 1 (c' := (135, [(0, .ref (p 16)), (1, .int v1), (2, .int v2), (3, .int v3), (4, .int v4)], [.int ((J (p 48) 5) - (J (p 31) 5))], me_w (lw M L) J)) rfl k
        have k := lz_ri rfl (by decide) k
        rw [k, x123_53, if_pos h56, if_pos h94_0]
      · by_cases h94_1 : v3 = Int32.ofInt 1
        · have k := mx_ls (q := 136) rfl (by rw [h94_1]; decide) k
          have k : nt_rn X _ 123 (136, [(0, .ref (p 16)), (1, .int v1), (2, .int v2), (3, .int v3), (4, .int v4)], [], me_w (lw M L) J) _ := k
          have k := ly_revb 1 (c' := (137, [(0, .ref (p 16)), (1, .int v1), (2, .int v2), (3, .int v3), (4, .int v4)], [.ref (p 16)], me_w (lw M L) J)) rfl k
          have k := lz_get (a := (p 16)) (g := 1008) (M := me_w (lw M L) J) (v := .ref (p 48)) rfl (nt_gfR rfl (hp.1 (16, 8, 48) (by decide))) k
          obtain ⟨d1, o1, ed, kc, k⟩ := lz_c (g := 79) (q := 1) (vs := [.ref (p 48)]) (rest := []) rfl rfl (by decide) (Or.inr (Or.inl ⟨_, rfl, rfl⟩)) rfl k
          have e1 := xt79 (xs_lq hm) kc
          subst e1
          have k : nt_rn X _ 123 (143, [(0, .ref (p 16)), (1, .int v1), (2, .int v2), (3, .int v3), (4, .int v4)], [.int (x79 (fun i => p (48 + i)) J)], me_w (lw M L) J) _ := k
          have k := lz_ri rfl (by decide) k
          rw [k, x123_53, if_pos h56, if_neg h94_0, if_pos h94_1]
        · have k := mx_ls (q := 144) rfl (by
            show ((94 : Nat) : Int) + Op.lookupswitch.offset [(0, 26), (1, 42)] 50 _ = _
            rw [mx_lo (fun e => h94_0 (Int32.toInt_inj.mp (e.trans (show (0 : Int) = (Int32.ofInt 0).toInt by decide)))), mx_lo (fun e => h94_1 (Int32.toInt_inj.mp (e.trans (show (1 : Int) = (Int32.ofInt 1).toInt by decide)))), Op.lookupswitch.offset_nil]; decide) k
          have k : nt_rn X _ 123 (144, [(0, .ref (p 16)), (1, .int v1), (2, .int v2), (3, .int v3), (4, .int v4)], [], me_w (lw M L) J) _ := k
          have k := ly_revb 1 (c' := (145, [(0, .ref (p 16)), (1, .int v1), (2, .int v2), (3, .int v3), (4, .int v4)], [.ref (p 16)], me_w (lw M L) J)) rfl k
          have k := lz_get (a := (p 16)) (g := 1008) (M := me_w (lw M L) J) (v := .ref (p 48)) rfl (nt_gfR rfl (hp.1 (16, 8, 48) (by decide))) k
          have k := lz_get (a := (p 48)) (g := 604) (M := me_w (lw M L) J) (v := .int (J (p 48) 4)) rfl (congrArg Value.int (rfl)) k
          have k := ly_revb 1 (c' := (152, [(0, .ref (p 16)), (1, .int v1), (2, .int v2), (3, .int v3), (4, .int v4)], [.ref (p 16), .int (J (p 48) 4)], me_w (lw M L) J)) rfl k
          have k := lz_get (a := (p 16)) (g := 1007) (M := me_w (lw M L) J) (v := .ref (p 31)) rfl (nt_gfR rfl (hp.1 (16, 7, 31) (by decide))) k
          have k := lz_get (a := (p 31)) (g := 604) (M := me_w (lw M L) J) (v := .int (J (p 31) 4)) rfl (congrArg Value.int (rfl)) k
          have k := ly_revb 1 (c' := (159, [(0, .ref (p 16)), (1, .int v1), (2, .int v2), (3, .int v3), (4, .int v4)], [.int ((J (p 48) 4) - (J (p 31) 4))], me_w (lw M L) J)) rfl k
          have k := lz_ri rfl (by decide) k
          rw [k, x123_53, if_pos h56, if_neg h94_0, if_neg h94_1]
    · rw [if_neg h56] at k
      have k := ly_revb 1 (c' := (60, [(0, .ref (p 16)), (1, .int v1), (2, .int v2), (3, .int v3), (4, .int v4)], [.ref (p 16)], me_w (lw M L) J)) rfl k
      have k := lz_get (a := (p 16)) (g := 1008) (M := me_w (lw M L) J) (v := .ref (p 48)) rfl (nt_gfR rfl (hp.1 (16, 8, 48) (by decide))) k
      have k := lz_get (a := (p 48)) (g := 602) (M := me_w (lw M L) J) (v := .int (J (p 48) 2)) rfl (congrArg Value.int (rfl)) k
      have k := ly_revb 2 (c' := (if (Int32.ofInt 99) < (J (p 48) 2) then 93 else 71, [(0, .ref (p 16)), (1, .int v1), (2, .int v2), (3, .int v3), (4, .int v4)], [], me_w (lw M L) J)) rfl k
      by_cases h68 : (Int32.ofInt 99) < (J (p 48) 2)
      · rw [if_pos h68] at k
        have k := ly_revb 1 (c' := (94, [(0, .ref (p 16)), (1, .int v1), (2, .int v2), (3, .int v3), (4, .int v4)], [.int v3], me_w (lw M L) J)) rfl k
        by_cases h94_0 : v3 = Int32.ofInt 0
        · have k := mx_ls (q := 120) rfl (by rw [h94_0]; decide) k
          have k : nt_rn X _ 123 (120, [(0, .ref (p 16)), (1, .int v1), (2, .int v2), (3, .int v3), (4, .int v4)], [], me_w (lw M L) J) _ := k
          have k := ly_revb 1 (c' := (121, [(0, .ref (p 16)), (1, .int v1), (2, .int v2), (3, .int v3), (4, .int v4)], [.ref (p 16)], me_w (lw M L) J)) rfl k
          have k := lz_get (a := (p 16)) (g := 1008) (M := me_w (lw M L) J) (v := .ref (p 48)) rfl (nt_gfR rfl (hp.1 (16, 8, 48) (by decide))) k
          have k := lz_get (a := (p 48)) (g := 605) (M := me_w (lw M L) J) (v := .int (J (p 48) 5)) rfl (congrArg Value.int (rfl)) k
          have k := ly_revb 1 (c' := (128, [(0, .ref (p 16)), (1, .int v1), (2, .int v2), (3, .int v3), (4, .int v4)], [.ref (p 16), .int (J (p 48) 5)], me_w (lw M L) J)) rfl k
          have k := lz_get (a := (p 16)) (g := 1007) (M := me_w (lw M L) J) (v := .ref (p 31)) rfl (nt_gfR rfl (hp.1 (16, 7, 31) (by decide))) k
          have k := lz_get (a := (p 31)) (g := 605) (M := me_w (lw M L) J) (v := .int (J (p 31) 5)) rfl (congrArg Value.int (rfl)) k
          have k := ly_revb 1 (c' := (135, [(0, .ref (p 16)), (1, .int v1), (2, .int v2), (3, .int v3), (4, .int v4)], [.int ((J (p 48) 5) - (J (p 31) 5))], me_w (lw M L) J)) rfl k
          have k := lz_ri rfl (by decide) k
          rw [k, x123_53, if_neg h56, if_pos h68, if_pos h94_0]
        · by_cases h94_1 : v3 = Int32.ofInt 1
          · have k := mx_ls (q := 136) rfl (by rw [h94_1]; decide) k
            have k : nt_rn X _ 123 (136, [(0, .ref (p 16)), (1, .int v1), (2, .int v2), (3, .int v3), (4, .int v4)], [], me_w (lw M L) J) _ := k
            have k := ly_revb 1 (c' := (137, [(0, .ref (p 16)), (1, .int v1), (2, .int v2), (3, .int v3), (4, .int v4)], [.ref (p 16)], me_w (lw M L) J)) rfl k
            have k := lz_get (a := (p 16)) (g := 1008) (M := me_w (lw M L) J) (v := .ref (p 48)) rfl (nt_gfR rfl (hp.1 (16, 8, 48) (by decide))) k
            obtain ⟨d1, o1, ed, kc, k⟩ := lz_c (g := 79) (q := 1) (vs := [.ref (p 48)]) (rest := []) rfl rfl (by decide) (Or.inr (Or.inl ⟨_, rfl, rfl⟩)) rfl k
            have e1 := xt79 (xs_lq hm) kc
            subst e1
            have k : nt_rn X _ 123 (143, [(0, .ref (p 16)), (1, .int v1), (2, .int v2), (3, .int v3), (4, .int v4)], [.int (x79 (fun i => p (48 + i)) J)], me_w (lw M L) J) _ := k
            have k := lz_ri rfl (by decide) k
            rw [k, x123_53, if_neg h56, if_pos h68, if_neg h94_0, if_pos h94_1]
          · have k := mx_ls (q := 144) rfl (by
              show ((94 : Nat) : Int) + Op.lookupswitch.offset [(0, 26), (1, 42)] 50 _ = _
              rw [mx_lo (fun e => h94_0 (Int32.toInt_inj.mp (e.trans (show (0 : Int) = (Int32.ofInt 0).toInt by decide)))), mx_lo (fun e => h94_1 (Int32.toInt_inj.mp (e.trans (show (1 : Int) = (Int32.ofInt 1).toInt by decide)))), Op.lookupswitch.offset_nil]; decide) k
            have k : nt_rn X _ 123 (144, [(0, .ref (p 16)), (1, .int v1), (2, .int v2), (3, .int v3), (4, .int v4)], [], me_w (lw M L) J) _ := k
            have k := ly_revb 1 (c' := (145, [(0, .ref (p 16)), (1, .int v1), (2, .int v2), (3, .int v3), (4, .int v4)], [.ref (p 16)], me_w (lw M L) J)) rfl k
            have k := lz_get (a := (p 16)) (g := 1008) (M := me_w (lw M L) J) (v := .ref (p 48)) rfl (nt_gfR rfl (hp.1 (16, 8, 48) (by decide))) k
            have k := lz_get (a := (p 48)) (g := 604) (M := me_w (lw M L) J) (v := .int (J (p 48) 4)) rfl (congrArg Value.int (rfl)) k
            have k := ly_revb 1 (c' := (152, [(0, .ref (p 16)), (1, .int v1), (2, .int v2), (3, .int v3), (4, .int v4)], [.ref (p 16), .int (J (p 48) 4)], me_w (lw M L) J)) rfl k
            have k := lz_get (a := (p 16)) (g := 1007) (M := me_w (lw M L) J) (v := .ref (p 31)) rfl (nt_gfR rfl (hp.1 (16, 7, 31) (by decide))) k
            have k := lz_get (a := (p 31)) (g := 604) (M := me_w (lw M L) J) (v := .int (J (p 31) 4)) rfl (congrArg Value.int (rfl)) k
            have k := ly_revb 1 (c' := (159, [(0, .ref (p 16)), (1, .int v1), (2, .int v2), (3, .int v3), (4, .int v4)], [.int ((J (p 48) 4) - (J (p 31) 4))], me_w (lw M L) J)) rfl k
            have k := lz_ri rfl (by decide) k
            rw [k, x123_53, if_neg h56, if_pos h68, if_neg h94_0, if_neg h94_1]
      · rw [if_neg h68] at k
        have k := ly_revb 1 (c' := (72, [(0, .ref (p 16)), (1, .int v1), (2, .int v2), (3, .int v3), (4, .int v4)], [.ref (p 16)], me_w (lw M L) J)) rfl k
        have k := lz_get (a := (p 16)) (g := 1005) (M := me_w (lw M L) J) (v := .ref (p 24)) rfl (nt_gfR rfl (hp.1 (16, 5, 24) (by decide))) k
        have k := ly_revb 1 (c' := (76, [(0, .ref (p 16)), (1, .int v1), (2, .int v2), (3, .int v3), (4, .int v4)], [.ref (p 16), .ref (p 24)], me_w (lw M L) J)) rfl k
        have k := lz_get (a := (p 16)) (g := 1008) (M := me_w (lw M L) J) (v := .ref (p 48)) rfl (nt_gfR rfl (hp.1 (16, 8, 48) (by decide))) k
        have k := ly_revb 2 (c' := (81, [(0, .ref (p 16)), (1, .int v1), (2, .int v2), (3, .int v3), (4, .int v4)], [.int v1, .ref (p 16), .ref (p 48), .ref (p 24)], me_w (lw M L) J)) rfl k
        obtain ⟨d1, o1, ed, kc, k⟩ := lz_c (g := 112) (q := 1) (vs := [.ref (p 16), .int v1]) (rest := [.ref (p 48), .ref (p 24)]) rfl rfl (by decide) (Or.inr (Or.inl ⟨_, rfl, rfl⟩)) rfl k
        have e1 := xr112 (M := lw M L) (xs_lp hp) h0 hc.1 hr kc
        subst e1
        have k : nt_rn X _ 123 (84, [(0, .ref (p 16)), (1, .int v1), (2, .int v2), (3, .int v3), (4, .int v4)], [.ref ru, .ref (p 48), .ref (p 24)], me_w (lw M L) J) _ := k
        obtain ⟨d1, o1, ed, kc, k⟩ := lz_c (g := 1) (q := 1) (vs := [.ref (p 24), .ref (p 48), .ref ru]) (rest := []) rfl rfl (by decide) (Or.inr (Or.inl ⟨_, rfl, rfl⟩)) rfl k
        have e1 := xt1 hp hm (xs_x48 hp) hs kc
        subst e1
        have k : nt_rn X _ 123 (87, [(0, .ref (p 16)), (1, .int v1), (2, .int v2), (3, .int v3), (4, .int v4)], [], me_w (lw M ((x1 p (fun i => p (48 + i)) sp ln J L).2)) ((x1 p (fun i => p (48 + i)) sp ln J L).1)) _ := k
        have k := ly_revb 2 (c' := (53, [(4, .int (v4 + (Int32.ofInt 1))), (0, .ref (p 16)), (1, .int v1), (2, .int v2), (3, .int v3)], [], me_w (lw M ((x1 p (fun i => p (48 + i)) sp ln J L).2)) ((x1 p (fun i => p (48 + i)) sp ln J L).1))) rfl k
        have k := nt_rn_w (a := [(4, .int (v4 + (Int32.ofInt 1))), (0, .ref (p 16)), (1, .int v1), (2, .int v2), (3, .int v3)]) (b := [(0, .ref (p 16)), (1, .int v1), (2, .int v2), (3, .int v3), (4, .int (v4 + (Int32.ofInt 1)))]) ⟨rfl, rfl, rfl, rfl, rfl, trivial⟩ rfl k
        have k := ih (v4 + (Int32.ofInt 1)) ((x1 p (fun i => p (48 + i)) sp ln J L).1) ((x1 p (fun i => p (48 + i)) sp ln J L).2) (⟨by rw [x1_frJ (hp.2.1 16 25 (by omega) (by omega) (by decide)) (hp.2.1 16 48 (by omega) (by omega) (by decide)) (hp.2.1 16 58 (by omega) (by omega) (by decide)) (hp.2.1 16 59 (by omega) (by omega) (by decide)) (hp.2.1 16 60 (by omega) (by omega) (by decide)) (hp.2.1 16 61 (by omega) (by omega) (by decide)) (hp.2.1 16 62 (by omega) (by omega) (by decide)) (hp.2.1 16 63 (by omega) (by omega) (by decide)) (hp.2.1 16 64 (by omega) (by omega) (by decide))]; exact hc.1, lx_dec h56 hc.2⟩) k
        rw [k, x123_53, if_neg h56, if_neg h68]
theorem x123_53_rule {p : Nat → Nat} {sp : Nat} {ln : Nat} {v1 : Int32} {v2 : Int32} {v3 : Int32} {I : Nat → Int32 → (Nat → Nat → Int32) → (Nat → Nat → Int64) → Prop} {Q : Int32 × (Nat → Nat → Int32) × (Nat → Nat → Int64) → Prop} (h0 : ∀ (v4 : Int32) (J : Nat → Nat → Int32) (L : Nat → Nat → Int64), I 0 v4 J L → Q (if v3 = Int32.ofInt 0 then ((J (p 48) 5) - (J (p 31) 5), J, L)
    else if v3 = Int32.ofInt 1 then (x79 (fun i => p (48 + i)) J, J, L)
      else ((J (p 48) 4) - (J (p 31) 4), J, L))) (h1 : ∀ (c : Nat) (v4 : Int32) (J : Nat → Nat → Int32) (L : Nat → Nat → Int64), I (c + 1) v4 J L →
    if v2 ≤ v4 then if v3 = Int32.ofInt 0 then (Q ((J (p 48) 5) - (J (p 31) 5), J, L))
      else if v3 = Int32.ofInt 1 then (Q (x79 (fun i => p (48 + i)) J, J, L))
        else (Q ((J (p 48) 4) - (J (p 31) 4), J, L))
    else if (Int32.ofInt 99) < (J (p 48) 2) then if v3 = Int32.ofInt 0 then (Q ((J (p 48) 5) - (J (p 31) 5), J, L))
        else if v3 = Int32.ofInt 1 then (Q (x79 (fun i => p (48 + i)) J, J, L))
          else (Q ((J (p 48) 4) - (J (p 31) 4), J, L))
      else (I c (v4 + (Int32.ofInt 1)) ((x1 p (fun i => p (48 + i)) sp ln J L).1) ((x1 p (fun i => p (48 + i)) sp ln J L).2))) : ∀ (c : Nat) (v4 : Int32) (J : Nat → Nat → Int32) (L : Nat → Nat → Int64), I c v4 J L → Q (x123_53 p sp ln v1 v2 v3 c v4 J L) := by
  intro c
  induction c with
  | zero =>
    intro v4 J L hi
    rw [x123_53]
    exact h0 v4 J L hi
  | succ c ih =>
    intro v4 J L hi
    have hi := h1 c v4 J L hi
    rw [x123_53]
    by_cases h : v2 ≤ v4
    · rw [if_pos h] at hi ⊢
      by_cases h : v3 = Int32.ofInt 0
      · rw [if_pos h] at hi ⊢
        exact hi
      · rw [if_neg h] at hi ⊢
        by_cases h : v3 = Int32.ofInt 1
        · rw [if_pos h] at hi ⊢
          exact hi
        · rw [if_neg h] at hi ⊢
          exact hi
    · rw [if_neg h] at hi ⊢
      by_cases h : (Int32.ofInt 99) < (J (p 48) 2)
      · rw [if_pos h] at hi ⊢
        by_cases h : v3 = Int32.ofInt 0
        · rw [if_pos h] at hi ⊢
          exact hi
        · rw [if_neg h] at hi ⊢
          by_cases h : v3 = Int32.ofInt 1
          · rw [if_pos h] at hi ⊢
            exact hi
          · rw [if_neg h] at hi ⊢
            exact hi
      · rw [if_neg h] at hi ⊢
        exact ih _ _ _ hi
def x123 (p : Nat → Nat) (sp : Nat) (ln : Nat) (v1 : Int32) (v2 : Int32) (v3 : Int32) (J : Nat → Nat → Int32) (L : Nat → Nat → Int64) : Int32 × (Nat → Nat → Int32) × (Nat → Nat → Int64) := if (J (p 31) 1) = 0 then (Int32.ofInt (-1), J, L)
  else if (x111 p v1 J) = 0 then (Int32.ofInt (-1), J, L)
    else if v2 < 0 then (Int32.ofInt (-1), J, L)
      else if (Int32.ofInt 100) < v2 then (Int32.ofInt (-1), J, L)
        else if v3 < 0 then (Int32.ofInt (-1), J, L)
          else if v3 ≤ (Int32.ofInt 2) then (x123_53 p sp ln v1 v2 v3 v2.toNatClampNeg (Int32.ofInt 0) (x80 (fun i => p (48 + i)) (fun i => p (31 + i)) J) L)
            else (Int32.ofInt (-1), J, L)
theorem xt123 {X : nt_X} {d : Nat} {M : nt_M} {o : Option Value × nt_M} {p : Nat → Nat} {sp : Nat} {ln : Nat} {ru : Nat} {v1 : Int32} {v2 : Int32} {v3 : Int32} {J : Nat → Nat → Int32} {L : Nat → Nat → Int64} (hp : xs_P M p) (hn : xs_Q M (fun i => p (31 + i))) (hm : xs_Q M (fun i => p (48 + i))) (hk : xs_N M (fun i => p (48 + i))) (hs : xs_S M p ru sp ln) (h0 : ¬ v1 < 0) (hr : nt_R M (p 23) v1.toNatClampNeg = some ru) (h1 : ¬ J (p 16) 4 ≤ v1) (k : nt_ev X d 123 [.ref (p 16), .int v1, .int v2, .int v3] (me_w (lw M L) J) o) : o = (some (.int ((x123 p sp ln v1 v2 v3 J L).1)), me_w (lw M ((x123 p sp ln v1 v2 v3 J L).2.2)) ((x123 p sp ln v1 v2 v3 J L).2.1)) := by
  have k : nt_rn X d 123 (0, [(0, .ref (p 16)), (1, .int v1), (2, .int v2), (3, .int v3)], [], me_w (lw M L) J) o := k
  have k := ly_revb 1 (c' := (1, [(0, .ref (p 16)), (1, .int v1), (2, .int v2), (3, .int v3)], [.ref (p 16)], me_w (lw M L) J)) rfl k
  have k := lz_get (a := (p 16)) (g := 1007) (M := me_w (lw M L) J) (v := .ref (p 31)) rfl (nt_gfR rfl (hp.1 (16, 7, 31) (by decide))) k
  have k := lz_get (a := (p 31)) (g := 601) (M := me_w (lw M L) J) (v := .int (J (p 31) 1)) rfl (congrArg Value.int (rfl)) k
  have k := ly_revb 1 (c' := (if (J (p 31) 1) = 0 then 37 else 10, [(0, .ref (p 16)), (1, .int v1), (2, .int v2), (3, .int v3)], [], me_w (lw M L) J)) rfl k
  by_cases h7 : (J (p 31) 1) = 0
  · rw [if_pos h7] at k
    have k := ly_revb 1 (c' := (38, [(0, .ref (p 16)), (1, .int v1), (2, .int v2), (3, .int v3)], [.int (Int32.ofInt (-1))], me_w (lw M L) J)) rfl k
    have k := lz_ri rfl (by decide) k
    rw [k, x123, if_pos h7]
  · rw [if_neg h7] at k
    have k := ly_revb 2 (c' := (12, [(0, .ref (p 16)), (1, .int v1), (2, .int v2), (3, .int v3)], [.int v1, .ref (p 16)], me_w (lw M L) J)) rfl k
    obtain ⟨d1, o1, ed, kc, k⟩ := lz_c (g := 111) (q := 1) (vs := [.ref (p 16), .int v1]) (rest := []) rfl rfl (by decide) (Or.inr (Or.inl ⟨_, rfl, rfl⟩)) rfl k
    have e1 := xt111 (xs_lp hp) kc
    subst e1
    have k : nt_rn X _ 123 (15, [(0, .ref (p 16)), (1, .int v1), (2, .int v2), (3, .int v3)], [.int (x111 p v1 J)], me_w (lw M L) J) _ := k
    have k := ly_revb 1 (c' := (if (x111 p v1 J) = 0 then 37 else 18, [(0, .ref (p 16)), (1, .int v1), (2, .int v2), (3, .int v3)], [], me_w (lw M L) J)) rfl k
    by_cases h15 : (x111 p v1 J) = 0
    · rw [if_pos h15] at k
      have k := ly_revb 1 (c' := (38, [(0, .ref (p 16)), (1, .int v1), (2, .int v2), (3, .int v3)], [.int (Int32.ofInt (-1))], me_w (lw M L) J)) rfl k
      have k := lz_ri rfl (by decide) k
      rw [k, x123, if_neg h7, if_pos h15]
    · rw [if_neg h15] at k
      have k := ly_revb 2 (c' := (if v2 < 0 then 37 else 22, [(0, .ref (p 16)), (1, .int v1), (2, .int v2), (3, .int v3)], [], me_w (lw M L) J)) rfl k
      by_cases h19 : v2 < 0
      · rw [if_pos h19] at k
        have k := ly_revb 1 (c' := (38, [(0, .ref (p 16)), (1, .int v1), (2, .int v2), (3, .int v3)], [.int (Int32.ofInt (-1))], me_w (lw M L) J)) rfl k
        have k := lz_ri rfl (by decide) k
        rw [k, x123, if_neg h7, if_neg h15, if_pos h19]
      · rw [if_neg h19] at k
        have k := ly_revb 3 (c' := (if (Int32.ofInt 100) < v2 then 37 else 28, [(0, .ref (p 16)), (1, .int v1), (2, .int v2), (3, .int v3)], [], me_w (lw M L) J)) rfl k
        by_cases h25 : (Int32.ofInt 100) < v2
        · rw [if_pos h25] at k
          have k := ly_revb 1 (c' := (38, [(0, .ref (p 16)), (1, .int v1), (2, .int v2), (3, .int v3)], [.int (Int32.ofInt (-1))], me_w (lw M L) J)) rfl k
          have k := lz_ri rfl (by decide) k
          rw [k, x123, if_neg h7, if_neg h15, if_neg h19, if_pos h25]
        · rw [if_neg h25] at k
          have k := ly_revb 2 (c' := (if v3 < 0 then 37 else 32, [(0, .ref (p 16)), (1, .int v1), (2, .int v2), (3, .int v3)], [], me_w (lw M L) J)) rfl k
          by_cases h29 : v3 < 0
          · rw [if_pos h29] at k
            have k := ly_revb 1 (c' := (38, [(0, .ref (p 16)), (1, .int v1), (2, .int v2), (3, .int v3)], [.int (Int32.ofInt (-1))], me_w (lw M L) J)) rfl k
            have k := lz_ri rfl (by decide) k
            rw [k, x123, if_neg h7, if_neg h15, if_neg h19, if_neg h25, if_pos h29]
          · rw [if_neg h29] at k
            have k := ly_revb 3 (c' := (if v3 ≤ (Int32.ofInt 2) then 39 else 37, [(0, .ref (p 16)), (1, .int v1), (2, .int v2), (3, .int v3)], [], me_w (lw M L) J)) rfl k
            by_cases h34 : v3 ≤ (Int32.ofInt 2)
            · rw [if_pos h34] at k
              have k := ly_revb 1 (c' := (40, [(0, .ref (p 16)), (1, .int v1), (2, .int v2), (3, .int v3)], [.ref (p 16)], me_w (lw M L) J)) rfl k
              have k := lz_get (a := (p 16)) (g := 1008) (M := me_w (lw M L) J) (v := .ref (p 48)) rfl (nt_gfR rfl (hp.1 (16, 8, 48) (by decide))) k
              have k := ly_revb 1 (c' := (44, [(0, .ref (p 16)), (1, .int v1), (2, .int v2), (3, .int v3)], [.ref (p 16), .ref (p 48)], me_w (lw M L) J)) rfl k
              have k := lz_get (a := (p 16)) (g := 1007) (M := me_w (lw M L) J) (v := .ref (p 31)) rfl (nt_gfR rfl (hp.1 (16, 7, 31) (by decide))) k
              obtain ⟨d1, o1, ed, kc, k⟩ := lz_c (g := 80) (q := 1) (vs := [.ref (p 48), .ref (p 31)]) (rest := []) rfl rfl (by decide) (Or.inr (Or.inl ⟨_, rfl, rfl⟩)) rfl k
              have e1 := xt80 (xs_lq hm) (xs_lq hn) (xs_d48 hp) (xs_ln hk) kc
              subst e1
              have k : nt_rn X _ 123 (50, [(0, .ref (p 16)), (1, .int v1), (2, .int v2), (3, .int v3)], [], me_w (lw M L) (x80 (fun i => p (48 + i)) (fun i => p (31 + i)) J)) _ := k
              have k := ly_revb 2 (c' := (53, [(4, .int (Int32.ofInt 0)), (0, .ref (p 16)), (1, .int v1), (2, .int v2), (3, .int v3)], [], me_w (lw M L) (x80 (fun i => p (48 + i)) (fun i => p (31 + i)) J))) rfl k
              have k := nt_rn_w (a := [(4, .int (Int32.ofInt 0)), (0, .ref (p 16)), (1, .int v1), (2, .int v2), (3, .int v3)]) (b := [(0, .ref (p 16)), (1, .int v1), (2, .int v2), (3, .int v3), (4, .int (Int32.ofInt 0))]) ⟨rfl, rfl, rfl, rfl, rfl, trivial⟩ rfl k
              have k := xt123_53 hp hn hm hk hs h0 hr  v2.toNatClampNeg (Int32.ofInt 0) (x80 (fun i => p (48 + i)) (fun i => p (31 + i)) J) L (⟨by rw [x80_frJ (hp.2.1 16 48 (by omega) (by omega) (by decide)) (hp.2.1 16 49 (by omega) (by omega) (by decide)) (hp.2.1 16 50 (by omega) (by omega) (by decide)) (hp.2.1 16 51 (by omega) (by omega) (by decide)) (hp.2.1 16 52 (by omega) (by omega) (by decide)) (hp.2.1 16 53 (by omega) (by omega) (by decide)) (hp.2.1 16 54 (by omega) (by omega) (by decide)) (hp.2.1 16 55 (by omega) (by omega) (by decide)) (hp.2.1 16 56 (by omega) (by omega) (by decide)) (hp.2.1 16 57 (by omega) (by omega) (by decide)) (hp.2.1 16 58 (by omega) (by omega) (by decide)) (hp.2.1 16 59 (by omega) (by omega) (by decide)) (hp.2.1 16 60 (by omega) (by omega) (by decide)) (hp.2.1 16 61 (by omega) (by omega) (by decide)) (hp.2.1 16 62 (by omega) (by omega) (by decide)) (hp.2.1 16 63 (by omega) (by omega) (by decide)) (hp.2.1 16 64 (by omega) (by omega) (by decide))]; exact h1, lx_beg (by decide)⟩) k
              rw [k, x123, if_neg h7, if_neg h15, if_neg h19, if_neg h25, if_neg h29, if_pos h34]
            · rw [if_neg h34] at k
              have k := ly_revb 1 (c' := (38, [(0, .ref (p 16)), (1, .int v1), (2, .int v2), (3, .int v3)], [.int (Int32.ofInt (-1))], me_w (lw M L) J)) rfl k
              have k := lz_ri rfl (by decide) k
              rw [k, x123, if_neg h7, if_neg h15, if_neg h19, if_neg h25, if_neg h29, if_neg h34]
theorem x123_53_frJ {p : Nat → Nat} {sp : Nat} {ln : Nat} {v1 : Int32} {v2 : Int32} {v3 : Int32} {b : Nat} : ∀ (c : Nat) (v4 : Int32) (J : Nat → Nat → Int32) (L : Nat → Nat → Int64), b ≠ p 25 → b ≠ p 48 → b ≠ p 49 → b ≠ p 50 → b ≠ p 51 → b ≠ p 52 → b ≠ p 53 → b ≠ p 54 → b ≠ p 55 → b ≠ p 56 → b ≠ p 57 → b ≠ p 58 → b ≠ p 59 → b ≠ p 60 → b ≠ p 61 → b ≠ p 62 → b ≠ p 63 → b ≠ p 64 → (x123_53 p sp ln v1 v2 v3 c v4 J L).2.1 b = J b := by
  intro c
  induction c with
  | zero =>
    intro v4 J L n0 n1 n2 n3 n4 n5 n6 n7 n8 n9 n10 n11 n12 n13 n14 n15 n16 n17
    rw [x123_53]
    by_cases h : v3 = Int32.ofInt 0
    · rw [if_pos h]
      all_goals first | (dsimp only; exact (show J b = J b from rfl)) | exact (show J b = J b from rfl)
    · rw [if_neg h]
      by_cases h : v3 = Int32.ofInt 1
      · rw [if_pos h]
        all_goals first | (dsimp only; exact (show J b = J b from rfl)) | exact (show J b = J b from rfl)
      · rw [if_neg h]
        all_goals first | (dsimp only; exact (show J b = J b from rfl)) | exact (show J b = J b from rfl)
  | succ c ih =>
    intro v4 J L n0 n1 n2 n3 n4 n5 n6 n7 n8 n9 n10 n11 n12 n13 n14 n15 n16 n17
    rw [x123_53]
    by_cases h : v2 ≤ v4
    · rw [if_pos h]
      by_cases h : v3 = Int32.ofInt 0
      · rw [if_pos h]
        all_goals first | (dsimp only; exact (show J b = J b from rfl)) | exact (show J b = J b from rfl)
      · rw [if_neg h]
        by_cases h : v3 = Int32.ofInt 1
        · rw [if_pos h]
          all_goals first | (dsimp only; exact (show J b = J b from rfl)) | exact (show J b = J b from rfl)
        · rw [if_neg h]
          all_goals first | (dsimp only; exact (show J b = J b from rfl)) | exact (show J b = J b from rfl)
    · rw [if_neg h]
      by_cases h : (Int32.ofInt 99) < (J (p 48) 2)
      · rw [if_pos h]
        by_cases h : v3 = Int32.ofInt 0
        · rw [if_pos h]
          all_goals first | (dsimp only; exact (show J b = J b from rfl)) | exact (show J b = J b from rfl)
        · rw [if_neg h]
          by_cases h : v3 = Int32.ofInt 1
          · rw [if_pos h]
            all_goals first | (dsimp only; exact (show J b = J b from rfl)) | exact (show J b = J b from rfl)
          · rw [if_neg h]
            all_goals first | (dsimp only; exact (show J b = J b from rfl)) | exact (show J b = J b from rfl)
      · rw [if_neg h]
        exact (ih _ _ _ n0 n1 n2 n3 n4 n5 n6 n7 n8 n9 n10 n11 n12 n13 n14 n15 n16 n17).trans (x1_frJ  n0 n1 n11 n12 n13 n14 n15 n16 n17)
theorem x123_frJ {p : Nat → Nat} {sp : Nat} {ln : Nat} {v1 : Int32} {v2 : Int32} {v3 : Int32} {J : Nat → Nat → Int32} {L : Nat → Nat → Int64} {b : Nat} (n0 : b ≠ p 25) (n1 : b ≠ p 48) (n2 : b ≠ p 49) (n3 : b ≠ p 50) (n4 : b ≠ p 51) (n5 : b ≠ p 52) (n6 : b ≠ p 53) (n7 : b ≠ p 54) (n8 : b ≠ p 55) (n9 : b ≠ p 56) (n10 : b ≠ p 57) (n11 : b ≠ p 58) (n12 : b ≠ p 59) (n13 : b ≠ p 60) (n14 : b ≠ p 61) (n15 : b ≠ p 62) (n16 : b ≠ p 63) (n17 : b ≠ p 64) : (x123 p sp ln v1 v2 v3 J L).2.1 b = J b := by
  unfold x123
  by_cases h : (J (p 31) 1) = 0
  · rw [if_pos h]
    all_goals first | (dsimp only; exact (show J b = J b from rfl)) | exact (show J b = J b from rfl)
  · rw [if_neg h]
    by_cases h : (x111 p v1 J) = 0
    · rw [if_pos h]
      all_goals first | (dsimp only; exact (show J b = J b from rfl)) | exact (show J b = J b from rfl)
    · rw [if_neg h]
      by_cases h : v2 < 0
      · rw [if_pos h]
        all_goals first | (dsimp only; exact (show J b = J b from rfl)) | exact (show J b = J b from rfl)
      · rw [if_neg h]
        by_cases h : (Int32.ofInt 100) < v2
        · rw [if_pos h]
          all_goals first | (dsimp only; exact (show J b = J b from rfl)) | exact (show J b = J b from rfl)
        · rw [if_neg h]
          by_cases h : v3 < 0
          · rw [if_pos h]
            all_goals first | (dsimp only; exact (show J b = J b from rfl)) | exact (show J b = J b from rfl)
          · rw [if_neg h]
            by_cases h : v3 ≤ (Int32.ofInt 2)
            · rw [if_pos h]
              exact (x123_53_frJ _ _ _ _ n0 n1 n2 n3 n4 n5 n6 n7 n8 n9 n10 n11 n12 n13 n14 n15 n16 n17).trans (x80_frJ  n1 n2 n3 n4 n5 n6 n7 n8 n9 n10 n11 n12 n13 n14 n15 n16 n17)
            · rw [if_neg h]
              all_goals first | (dsimp only; exact (show J b = J b from rfl)) | exact (show J b = J b from rfl)
theorem x123_53_frL {p : Nat → Nat} {sp : Nat} {ln : Nat} {v1 : Int32} {v2 : Int32} {v3 : Int32} {b : Nat} : ∀ (c : Nat) (v4 : Int32) (J : Nat → Nat → Int32) (L : Nat → Nat → Int64), b ≠ p 25 → b ≠ p 26 → b ≠ p 27 → (x123_53 p sp ln v1 v2 v3 c v4 J L).2.2 b = L b := by
  intro c
  induction c with
  | zero =>
    intro v4 J L n0 n1 n2
    rw [x123_53]
    by_cases h : v3 = Int32.ofInt 0
    · rw [if_pos h]
      all_goals first | (dsimp only; exact (show L b = L b from rfl)) | exact (show L b = L b from rfl)
    · rw [if_neg h]
      by_cases h : v3 = Int32.ofInt 1
      · rw [if_pos h]
        all_goals first | (dsimp only; exact (show L b = L b from rfl)) | exact (show L b = L b from rfl)
      · rw [if_neg h]
        all_goals first | (dsimp only; exact (show L b = L b from rfl)) | exact (show L b = L b from rfl)
  | succ c ih =>
    intro v4 J L n0 n1 n2
    rw [x123_53]
    by_cases h : v2 ≤ v4
    · rw [if_pos h]
      by_cases h : v3 = Int32.ofInt 0
      · rw [if_pos h]
        all_goals first | (dsimp only; exact (show L b = L b from rfl)) | exact (show L b = L b from rfl)
      · rw [if_neg h]
        by_cases h : v3 = Int32.ofInt 1
        · rw [if_pos h]
          all_goals first | (dsimp only; exact (show L b = L b from rfl)) | exact (show L b = L b from rfl)
        · rw [if_neg h]
          all_goals first | (dsimp only; exact (show L b = L b from rfl)) | exact (show L b = L b from rfl)
    · rw [if_neg h]
      by_cases h : (Int32.ofInt 99) < (J (p 48) 2)
      · rw [if_pos h]
        by_cases h : v3 = Int32.ofInt 0
        · rw [if_pos h]
          all_goals first | (dsimp only; exact (show L b = L b from rfl)) | exact (show L b = L b from rfl)
        · rw [if_neg h]
          by_cases h : v3 = Int32.ofInt 1
          · rw [if_pos h]
            all_goals first | (dsimp only; exact (show L b = L b from rfl)) | exact (show L b = L b from rfl)
          · rw [if_neg h]
            all_goals first | (dsimp only; exact (show L b = L b from rfl)) | exact (show L b = L b from rfl)
      · rw [if_neg h]
        exact (ih _ _ _ n0 n1 n2).trans (x1_frL n0 n1 n2)
theorem x123_frL {p : Nat → Nat} {sp : Nat} {ln : Nat} {v1 : Int32} {v2 : Int32} {v3 : Int32} {J : Nat → Nat → Int32} {L : Nat → Nat → Int64} {b : Nat} (n0 : b ≠ p 25) (n1 : b ≠ p 26) (n2 : b ≠ p 27) : (x123 p sp ln v1 v2 v3 J L).2.2 b = L b := by
  unfold x123
  by_cases h : (J (p 31) 1) = 0
  · rw [if_pos h]
    all_goals first | (dsimp only; exact (show L b = L b from rfl)) | exact (show L b = L b from rfl)
  · rw [if_neg h]
    by_cases h : (x111 p v1 J) = 0
    · rw [if_pos h]
      all_goals first | (dsimp only; exact (show L b = L b from rfl)) | exact (show L b = L b from rfl)
    · rw [if_neg h]
      by_cases h : v2 < 0
      · rw [if_pos h]
        all_goals first | (dsimp only; exact (show L b = L b from rfl)) | exact (show L b = L b from rfl)
      · rw [if_neg h]
        by_cases h : (Int32.ofInt 100) < v2
        · rw [if_pos h]
          all_goals first | (dsimp only; exact (show L b = L b from rfl)) | exact (show L b = L b from rfl)
        · rw [if_neg h]
          by_cases h : v3 < 0
          · rw [if_pos h]
            all_goals first | (dsimp only; exact (show L b = L b from rfl)) | exact (show L b = L b from rfl)
          · rw [if_neg h]
            by_cases h : v3 ≤ (Int32.ofInt 2)
            · rw [if_pos h]
              exact (x123_53_frL _ _ _ _ n0 n1 n2).trans (rfl)
            · rw [if_neg h]
              all_goals first | (dsimp only; exact (show L b = L b from rfl)) | exact (show L b = L b from rfl)
/-! .ahead -/
def x123N_53 (p : Nat → Nat) (v1 : Int32) (v2 : Int32) (v3 : Int32) : Nat → Int32 → (Nat → Nat → Int32) → Int32 × (Nat → Nat → Int32)
  | 0, v4, J => if v3 = Int32.ofInt 0 then ((J (p 48) 5) - (J (p 31) 5), J)
    else if v3 = Int32.ofInt 1 then (x79 (fun i => p (48 + i)) J, J)
      else ((J (p 48) 4) - (J (p 31) 4), J)
  | c + 1, v4, J => if v2 ≤ v4 then if v3 = Int32.ofInt 0 then ((J (p 48) 5) - (J (p 31) 5), J)
      else if v3 = Int32.ofInt 1 then (x79 (fun i => p (48 + i)) J, J)
        else ((J (p 48) 4) - (J (p 31) 4), J)
    else if (Int32.ofInt 99) < (J (p 48) 2) then if v3 = Int32.ofInt 0 then ((J (p 48) 5) - (J (p 31) 5), J)
        else if v3 = Int32.ofInt 1 then (x79 (fun i => p (48 + i)) J, J)
          else ((J (p 48) 4) - (J (p 31) 4), J)
      else (x123N_53 p v1 v2 v3 c (v4 + (Int32.ofInt 1)) (x1N p (fun i => p (48 + i)) J))
theorem xt123N_53 {X : nt_X} {d : Nat} {M : nt_M} {o : Option Value × nt_M} {p : Nat → Nat} {v1 : Int32} {v2 : Int32} {v3 : Int32} (hp : xs_P M p) (hn : xs_Q M (fun i => p (31 + i))) (hm : xs_Q M (fun i => p (48 + i))) (hk : xs_N M (fun i => p (48 + i))) (h0 : v1 < 0) : ∀ (c : Nat) (v4 : Int32) (J : Nat → Nat → Int32), v2.toInt - v4.toInt ≤ c → nt_rn X d 123 (53, [(0, .ref (p 16)), (1, .int v1), (2, .int v2), (3, .int v3), (4, .int v4)], [], me_w M J) o → o = (some (.int ((x123N_53 p v1 v2 v3 c v4 J).1)), me_w M ((x123N_53 p v1 v2 v3 c v4 J).2)) := by
  intro c
  induction c with
  | zero =>
    intro v4 J hc k
    have k := ly_revb 3 (c' := (if v2 ≤ v4 then 93 else 59, [(0, .ref (p 16)), (1, .int v1), (2, .int v2), (3, .int v3), (4, .int v4)], [], me_w M J)) rfl k
    have h56 : v2 ≤ v4 := lx_end hc
    rw [if_pos h56] at k
    have k := ly_revb 1 (c' := (94, [(0, .ref (p 16)), (1, .int v1), (2, .int v2), (3, .int v3), (4, .int v4)], [.int v3], me_w M J)) rfl k
    by_cases h94_0 : v3 = Int32.ofInt 0
    · have k := mx_ls (q := 120) rfl (by rw [h94_0]; decide) k
      have k : nt_rn X _ 123 (120, [(0, .ref (p 16)), (1, .int v1), (2, .int v2), (3, .int v3), (4, .int v4)], [], me_w M J) _ := k
      have k := ly_revb 1 (c' := (121, [(0, .ref (p 16)), (1, .int v1), (2, .int v2), (3, .int v3), (4, .int v4)], [.ref (p 16)], me_w M J)) rfl k
      have k := lz_get (a := (p 16)) (g := 1008) (M := me_w M J) (v := .ref (p 48)) rfl (nt_gfR rfl (hp.1 (16, 8, 48) (by decide))) k
      have k := lz_get (a := (p 48)) (g := 605) (M := me_w M J) (v := .int (J (p 48) 5)) rfl (congrArg Value.int (rfl)) k
      have k := ly_revb 1 (c' := (128, [(0, .ref (p 16)), (1, .int v1), (2, .int v2), (3, .int v3), (4, .int v4)], [.ref (p 16), .int (J (p 48) 5)], me_w M J)) rfl k
      have k := lz_get (a := (p 16)) (g := 1007) (M := me_w M J) (v := .ref (p 31)) rfl (nt_gfR rfl (hp.1 (16, 7, 31) (by decide))) k
      have k := lz_get (a := (p 31)) (g := 605) (M := me_w M J) (v := .int (J (p 31) 5)) rfl (congrArg Value.int (rfl)) k
      have k := ly_revb 1 (c' := (135, [(0, .ref (p 16)), (1, .int v1), (2, .int v2), (3, .int v3), (4, .int v4)], [.int ((J (p 48) 5) - (J (p 31) 5))], me_w M J)) rfl k
      have k := lz_ri rfl (by decide) k
      rw [k, x123N_53, if_pos h94_0]
    · by_cases h94_1 : v3 = Int32.ofInt 1
      · have k := mx_ls (q := 136) rfl (by rw [h94_1]; decide) k
        have k : nt_rn X _ 123 (136, [(0, .ref (p 16)), (1, .int v1), (2, .int v2), (3, .int v3), (4, .int v4)], [], me_w M J) _ := k
        have k := ly_revb 1 (c' := (137, [(0, .ref (p 16)), (1, .int v1), (2, .int v2), (3, .int v3), (4, .int v4)], [.ref (p 16)], me_w M J)) rfl k
        have k := lz_get (a := (p 16)) (g := 1008) (M := me_w M J) (v := .ref (p 48)) rfl (nt_gfR rfl (hp.1 (16, 8, 48) (by decide))) k
        obtain ⟨d1, o1, ed, kc, k⟩ := lz_c (g := 79) (q := 1) (vs := [.ref (p 48)]) (rest := []) rfl rfl (by decide) (Or.inr (Or.inl ⟨_, rfl, rfl⟩)) rfl k
        have e1 := xt79 hm kc
        subst e1
        have k : nt_rn X _ 123 (143, [(0, .ref (p 16)), (1, .int v1), (2, .int v2), (3, .int v3), (4, .int v4)], [.int (x79 (fun i => p (48 + i)) J)], me_w M J) _ := k
        have k := lz_ri rfl (by decide) k
        rw [k, x123N_53, if_neg h94_0, if_pos h94_1]
      · have k := mx_ls (q := 144) rfl (by
          show ((94 : Nat) : Int) + Op.lookupswitch.offset [(0, 26), (1, 42)] 50 _ = _
          rw [mx_lo (fun e => h94_0 (Int32.toInt_inj.mp (e.trans (show (0 : Int) = (Int32.ofInt 0).toInt by decide)))), mx_lo (fun e => h94_1 (Int32.toInt_inj.mp (e.trans (show (1 : Int) = (Int32.ofInt 1).toInt by decide)))), Op.lookupswitch.offset_nil]; decide) k
        have k : nt_rn X _ 123 (144, [(0, .ref (p 16)), (1, .int v1), (2, .int v2), (3, .int v3), (4, .int v4)], [], me_w M J) _ := k
        have k := ly_revb 1 (c' := (145, [(0, .ref (p 16)), (1, .int v1), (2, .int v2), (3, .int v3), (4, .int v4)], [.ref (p 16)], me_w M J)) rfl k
        have k := lz_get (a := (p 16)) (g := 1008) (M := me_w M J) (v := .ref (p 48)) rfl (nt_gfR rfl (hp.1 (16, 8, 48) (by decide))) k
        have k := lz_get (a := (p 48)) (g := 604) (M := me_w M J) (v := .int (J (p 48) 4)) rfl (congrArg Value.int (rfl)) k
        have k := ly_revb 1 (c' := (152, [(0, .ref (p 16)), (1, .int v1), (2, .int v2), (3, .int v3), (4, .int v4)], [.ref (p 16), .int (J (p 48) 4)], me_w M J)) rfl k
        have k := lz_get (a := (p 16)) (g := 1007) (M := me_w M J) (v := .ref (p 31)) rfl (nt_gfR rfl (hp.1 (16, 7, 31) (by decide))) k
        have k := lz_get (a := (p 31)) (g := 604) (M := me_w M J) (v := .int (J (p 31) 4)) rfl (congrArg Value.int (rfl)) k
        have k := ly_revb 1 (c' := (159, [(0, .ref (p 16)), (1, .int v1), (2, .int v2), (3, .int v3), (4, .int v4)], [.int ((J (p 48) 4) - (J (p 31) 4))], me_w M J)) rfl k
        have k := lz_ri rfl (by decide) k
        rw [k, x123N_53, if_neg h94_0, if_neg h94_1]
  | succ c ih =>
    intro v4 J hc k
    have k := ly_revb 3 (c' := (if v2 ≤ v4 then 93 else 59, [(0, .ref (p 16)), (1, .int v1), (2, .int v2), (3, .int v3), (4, .int v4)], [], me_w M J)) rfl k
    by_cases h56 : v2 ≤ v4
    · rw [if_pos h56] at k
      have k := ly_revb 1 (c' := (94, [(0, .ref (p 16)), (1, .int v1), (2, .int v2), (3, .int v3), (4, .int v4)], [.int v3], me_w M J)) rfl k
      by_cases h94_0 : v3 = Int32.ofInt 0
      · have k := mx_ls (q := 120) rfl (by rw [h94_0]; decide) k
        have k : nt_rn X _ 123 (120, [(0, .ref (p 16)), (1, .int v1), (2, .int v2), (3, .int v3), (4, .int v4)], [], me_w M J) _ := k
        have k := ly_revb 1 (c' := (121, [(0, .ref (p 16)), (1, .int v1), (2, .int v2), (3, .int v3), (4, .int v4)], [.ref (p 16)], me_w M J)) rfl k
        have k := lz_get (a := (p 16)) (g := 1008) (M := me_w M J) (v := .ref (p 48)) rfl (nt_gfR rfl (hp.1 (16, 8, 48) (by decide))) k
        have k := lz_get (a := (p 48)) (g := 605) (M := me_w M J) (v := .int (J (p 48) 5)) rfl (congrArg Value.int (rfl)) k
        have k := ly_revb 1 (c' := (128, [(0, .ref (p 16)), (1, .int v1), (2, .int v2), (3, .int v3), (4, .int v4)], [.ref (p 16), .int (J (p 48) 5)], me_w M J)) rfl k
        have k := lz_get (a := (p 16)) (g := 1007) (M := me_w M J) (v := .ref (p 31)) rfl (nt_gfR rfl (hp.1 (16, 7, 31) (by decide))) k
        have k := lz_get (a := (p 31)) (g := 605) (M := me_w M J) (v := .int (J (p 31) 5)) rfl (congrArg Value.int (rfl)) k
        have k := ly_revb 1 (c' := (135, [(0, .ref (p 16)), (1, .int v1), (2, .int v2), (3, .int v3), (4, .int v4)], [.int ((J (p 48) 5) - (J (p 31) 5))], me_w M J)) rfl k
        have k := lz_ri rfl (by decide) k
        rw [k, x123N_53, if_pos h56, if_pos h94_0]
      · by_cases h94_1 : v3 = Int32.ofInt 1
        · have k := mx_ls (q := 136) rfl (by rw [h94_1]; decide) k
          have k : nt_rn X _ 123 (136, [(0, .ref (p 16)), (1, .int v1), (2, .int v2), (3, .int v3), (4, .int v4)], [], me_w M J) _ := k
          have k := ly_revb 1 (c' := (137, [(0, .ref (p 16)), (1, .int v1), (2, .int v2), (3, .int v3), (4, .int v4)], [.ref (p 16)], me_w M J)) rfl k
          have k := lz_get (a := (p 16)) (g := 1008) (M := me_w M J) (v := .ref (p 48)) rfl (nt_gfR rfl (hp.1 (16, 8, 48) (by decide))) k
          obtain ⟨d1, o1, ed, kc, k⟩ := lz_c (g := 79) (q := 1) (vs := [.ref (p 48)]) (rest := []) rfl rfl (by decide) (Or.inr (Or.inl ⟨_, rfl, rfl⟩)) rfl k
          have e1 := xt79 hm kc
          subst e1
          have k : nt_rn X _ 123 (143, [(0, .ref (p 16)), (1, .int v1), (2, .int v2), (3, .int v3), (4, .int v4)], [.int (x79 (fun i => p (48 + i)) J)], me_w M J) _ := k
          have k := lz_ri rfl (by decide) k
          rw [k, x123N_53, if_pos h56, if_neg h94_0, if_pos h94_1]
        · have k := mx_ls (q := 144) rfl (by
            show ((94 : Nat) : Int) + Op.lookupswitch.offset [(0, 26), (1, 42)] 50 _ = _
            rw [mx_lo (fun e => h94_0 (Int32.toInt_inj.mp (e.trans (show (0 : Int) = (Int32.ofInt 0).toInt by decide)))), mx_lo (fun e => h94_1 (Int32.toInt_inj.mp (e.trans (show (1 : Int) = (Int32.ofInt 1).toInt by decide)))), Op.lookupswitch.offset_nil]; decide) k
          have k : nt_rn X _ 123 (144, [(0, .ref (p 16)), (1, .int v1), (2, .int v2), (3, .int v3), (4, .int v4)], [], me_w M J) _ := k
          have k := ly_revb 1 (c' := (145, [(0, .ref (p 16)), (1, .int v1), (2, .int v2), (3, .int v3), (4, .int v4)], [.ref (p 16)], me_w M J)) rfl k
          have k := lz_get (a := (p 16)) (g := 1008) (M := me_w M J) (v := .ref (p 48)) rfl (nt_gfR rfl (hp.1 (16, 8, 48) (by decide))) k
          have k := lz_get (a := (p 48)) (g := 604) (M := me_w M J) (v := .int (J (p 48) 4)) rfl (congrArg Value.int (rfl)) k
          have k := ly_revb 1 (c' := (152, [(0, .ref (p 16)), (1, .int v1), (2, .int v2), (3, .int v3), (4, .int v4)], [.ref (p 16), .int (J (p 48) 4)], me_w M J)) rfl k
          have k := lz_get (a := (p 16)) (g := 1007) (M := me_w M J) (v := .ref (p 31)) rfl (nt_gfR rfl (hp.1 (16, 7, 31) (by decide))) k
          have k := lz_get (a := (p 31)) (g := 604) (M := me_w M J) (v := .int (J (p 31) 4)) rfl (congrArg Value.int (rfl)) k
          have k := ly_revb 1 (c' := (159, [(0, .ref (p 16)), (1, .int v1), (2, .int v2), (3, .int v3), (4, .int v4)], [.int ((J (p 48) 4) - (J (p 31) 4))], me_w M J)) rfl k
          have k := lz_ri rfl (by decide) k
          rw [k, x123N_53, if_pos h56, if_neg h94_0, if_neg h94_1]
    · rw [if_neg h56] at k
      have k := ly_revb 1 (c' := (60, [(0, .ref (p 16)), (1, .int v1), (2, .int v2), (3, .int v3), (4, .int v4)], [.ref (p 16)], me_w M J)) rfl k
      have k := lz_get (a := (p 16)) (g := 1008) (M := me_w M J) (v := .ref (p 48)) rfl (nt_gfR rfl (hp.1 (16, 8, 48) (by decide))) k
      have k := lz_get (a := (p 48)) (g := 602) (M := me_w M J) (v := .int (J (p 48) 2)) rfl (congrArg Value.int (rfl)) k
      have k := ly_revb 2 (c' := (if (Int32.ofInt 99) < (J (p 48) 2) then 93 else 71, [(0, .ref (p 16)), (1, .int v1), (2, .int v2), (3, .int v3), (4, .int v4)], [], me_w M J)) rfl k
      by_cases h68 : (Int32.ofInt 99) < (J (p 48) 2)
      · rw [if_pos h68] at k
        have k := ly_revb 1 (c' := (94, [(0, .ref (p 16)), (1, .int v1), (2, .int v2), (3, .int v3), (4, .int v4)], [.int v3], me_w M J)) rfl k
        by_cases h94_0 : v3 = Int32.ofInt 0
        · have k := mx_ls (q := 120) rfl (by rw [h94_0]; decide) k
          have k : nt_rn X _ 123 (120, [(0, .ref (p 16)), (1, .int v1), (2, .int v2), (3, .int v3), (4, .int v4)], [], me_w M J) _ := k
          have k := ly_revb 1 (c' := (121, [(0, .ref (p 16)), (1, .int v1), (2, .int v2), (3, .int v3), (4, .int v4)], [.ref (p 16)], me_w M J)) rfl k
          have k := lz_get (a := (p 16)) (g := 1008) (M := me_w M J) (v := .ref (p 48)) rfl (nt_gfR rfl (hp.1 (16, 8, 48) (by decide))) k
          have k := lz_get (a := (p 48)) (g := 605) (M := me_w M J) (v := .int (J (p 48) 5)) rfl (congrArg Value.int (rfl)) k
          have k := ly_revb 1 (c' := (128, [(0, .ref (p 16)), (1, .int v1), (2, .int v2), (3, .int v3), (4, .int v4)], [.ref (p 16), .int (J (p 48) 5)], me_w M J)) rfl k
          have k := lz_get (a := (p 16)) (g := 1007) (M := me_w M J) (v := .ref (p 31)) rfl (nt_gfR rfl (hp.1 (16, 7, 31) (by decide))) k
          have k := lz_get (a := (p 31)) (g := 605) (M := me_w M J) (v := .int (J (p 31) 5)) rfl (congrArg Value.int (rfl)) k
          have k := ly_revb 1 (c' := (135, [(0, .ref (p 16)), (1, .int v1), (2, .int v2), (3, .int v3), (4, .int v4)], [.int ((J (p 48) 5) - (J (p 31) 5))], me_w M J)) rfl k
          have k := lz_ri rfl (by decide) k
          rw [k, x123N_53, if_neg h56, if_pos h68, if_pos h94_0]
        · by_cases h94_1 : v3 = Int32.ofInt 1
          · have k := mx_ls (q := 136) rfl (by rw [h94_1]; decide) k
            have k : nt_rn X _ 123 (136, [(0, .ref (p 16)), (1, .int v1), (2, .int v2), (3, .int v3), (4, .int v4)], [], me_w M J) _ := k
            have k := ly_revb 1 (c' := (137, [(0, .ref (p 16)), (1, .int v1), (2, .int v2), (3, .int v3), (4, .int v4)], [.ref (p 16)], me_w M J)) rfl k
            have k := lz_get (a := (p 16)) (g := 1008) (M := me_w M J) (v := .ref (p 48)) rfl (nt_gfR rfl (hp.1 (16, 8, 48) (by decide))) k
            obtain ⟨d1, o1, ed, kc, k⟩ := lz_c (g := 79) (q := 1) (vs := [.ref (p 48)]) (rest := []) rfl rfl (by decide) (Or.inr (Or.inl ⟨_, rfl, rfl⟩)) rfl k
            have e1 := xt79 hm kc
            subst e1
            have k : nt_rn X _ 123 (143, [(0, .ref (p 16)), (1, .int v1), (2, .int v2), (3, .int v3), (4, .int v4)], [.int (x79 (fun i => p (48 + i)) J)], me_w M J) _ := k
            have k := lz_ri rfl (by decide) k
            rw [k, x123N_53, if_neg h56, if_pos h68, if_neg h94_0, if_pos h94_1]
          · have k := mx_ls (q := 144) rfl (by
              show ((94 : Nat) : Int) + Op.lookupswitch.offset [(0, 26), (1, 42)] 50 _ = _
              rw [mx_lo (fun e => h94_0 (Int32.toInt_inj.mp (e.trans (show (0 : Int) = (Int32.ofInt 0).toInt by decide)))), mx_lo (fun e => h94_1 (Int32.toInt_inj.mp (e.trans (show (1 : Int) = (Int32.ofInt 1).toInt by decide)))), Op.lookupswitch.offset_nil]; decide) k
            have k : nt_rn X _ 123 (144, [(0, .ref (p 16)), (1, .int v1), (2, .int v2), (3, .int v3), (4, .int v4)], [], me_w M J) _ := k
            have k := ly_revb 1 (c' := (145, [(0, .ref (p 16)), (1, .int v1), (2, .int v2), (3, .int v3), (4, .int v4)], [.ref (p 16)], me_w M J)) rfl k
            have k := lz_get (a := (p 16)) (g := 1008) (M := me_w M J) (v := .ref (p 48)) rfl (nt_gfR rfl (hp.1 (16, 8, 48) (by decide))) k
            have k := lz_get (a := (p 48)) (g := 604) (M := me_w M J) (v := .int (J (p 48) 4)) rfl (congrArg Value.int (rfl)) k
            have k := ly_revb 1 (c' := (152, [(0, .ref (p 16)), (1, .int v1), (2, .int v2), (3, .int v3), (4, .int v4)], [.ref (p 16), .int (J (p 48) 4)], me_w M J)) rfl k
            have k := lz_get (a := (p 16)) (g := 1007) (M := me_w M J) (v := .ref (p 31)) rfl (nt_gfR rfl (hp.1 (16, 7, 31) (by decide))) k
            have k := lz_get (a := (p 31)) (g := 604) (M := me_w M J) (v := .int (J (p 31) 4)) rfl (congrArg Value.int (rfl)) k
            have k := ly_revb 1 (c' := (159, [(0, .ref (p 16)), (1, .int v1), (2, .int v2), (3, .int v3), (4, .int v4)], [.int ((J (p 48) 4) - (J (p 31) 4))], me_w M J)) rfl k
            have k := lz_ri rfl (by decide) k
            rw [k, x123N_53, if_neg h56, if_pos h68, if_neg h94_0, if_neg h94_1]
      · rw [if_neg h68] at k
        have k := ly_revb 1 (c' := (72, [(0, .ref (p 16)), (1, .int v1), (2, .int v2), (3, .int v3), (4, .int v4)], [.ref (p 16)], me_w M J)) rfl k
        have k := lz_get (a := (p 16)) (g := 1005) (M := me_w M J) (v := .ref (p 24)) rfl (nt_gfR rfl (hp.1 (16, 5, 24) (by decide))) k
        have k := ly_revb 1 (c' := (76, [(0, .ref (p 16)), (1, .int v1), (2, .int v2), (3, .int v3), (4, .int v4)], [.ref (p 16), .ref (p 24)], me_w M J)) rfl k
        have k := lz_get (a := (p 16)) (g := 1008) (M := me_w M J) (v := .ref (p 48)) rfl (nt_gfR rfl (hp.1 (16, 8, 48) (by decide))) k
        have k := ly_revb 2 (c' := (81, [(0, .ref (p 16)), (1, .int v1), (2, .int v2), (3, .int v3), (4, .int v4)], [.int v1, .ref (p 16), .ref (p 48), .ref (p 24)], me_w M J)) rfl k
        obtain ⟨d1, o1, ed, kc, k⟩ := lz_c (g := 112) (q := 1) (vs := [.ref (p 16), .int v1]) (rest := [.ref (p 48), .ref (p 24)]) rfl rfl (by decide) (Or.inr (Or.inl ⟨_, rfl, rfl⟩)) rfl k
        have e1 := xr112N h0 kc
        subst e1
        have k : nt_rn X _ 123 (84, [(0, .ref (p 16)), (1, .int v1), (2, .int v2), (3, .int v3), (4, .int v4)], [.null, .ref (p 48), .ref (p 24)], me_w M J) _ := k
        obtain ⟨d1, o1, ed, kc, k⟩ := lz_c (g := 1) (q := 1) (vs := [.ref (p 24), .ref (p 48), .null]) (rest := []) rfl rfl (by decide) (Or.inr (Or.inl ⟨_, rfl, rfl⟩)) rfl k
        have e1 := xt1N hp hm (xs_x48 hp) kc
        subst e1
        have k : nt_rn X _ 123 (87, [(0, .ref (p 16)), (1, .int v1), (2, .int v2), (3, .int v3), (4, .int v4)], [], me_w M (x1N p (fun i => p (48 + i)) J)) _ := k
        have k := ly_revb 2 (c' := (53, [(4, .int (v4 + (Int32.ofInt 1))), (0, .ref (p 16)), (1, .int v1), (2, .int v2), (3, .int v3)], [], me_w M (x1N p (fun i => p (48 + i)) J))) rfl k
        have k := nt_rn_w (a := [(4, .int (v4 + (Int32.ofInt 1))), (0, .ref (p 16)), (1, .int v1), (2, .int v2), (3, .int v3)]) (b := [(0, .ref (p 16)), (1, .int v1), (2, .int v2), (3, .int v3), (4, .int (v4 + (Int32.ofInt 1)))]) ⟨rfl, rfl, rfl, rfl, rfl, trivial⟩ rfl k
        have k := ih (v4 + (Int32.ofInt 1)) (x1N p (fun i => p (48 + i)) J) (lx_dec h56 hc) k
        rw [k, x123N_53, if_neg h56, if_neg h68]
theorem x123N_53_rule {p : Nat → Nat} {v1 : Int32} {v2 : Int32} {v3 : Int32} {I : Nat → Int32 → (Nat → Nat → Int32) → Prop} {Q : Int32 × (Nat → Nat → Int32) → Prop} (h0 : ∀ (v4 : Int32) (J : Nat → Nat → Int32), I 0 v4 J → Q (if v3 = Int32.ofInt 0 then ((J (p 48) 5) - (J (p 31) 5), J)
    else if v3 = Int32.ofInt 1 then (x79 (fun i => p (48 + i)) J, J)
      else ((J (p 48) 4) - (J (p 31) 4), J))) (h1 : ∀ (c : Nat) (v4 : Int32) (J : Nat → Nat → Int32), I (c + 1) v4 J →
    if v2 ≤ v4 then if v3 = Int32.ofInt 0 then (Q ((J (p 48) 5) - (J (p 31) 5), J))
      else if v3 = Int32.ofInt 1 then (Q (x79 (fun i => p (48 + i)) J, J))
        else (Q ((J (p 48) 4) - (J (p 31) 4), J))
    else if (Int32.ofInt 99) < (J (p 48) 2) then if v3 = Int32.ofInt 0 then (Q ((J (p 48) 5) - (J (p 31) 5), J))
        else if v3 = Int32.ofInt 1 then (Q (x79 (fun i => p (48 + i)) J, J))
          else (Q ((J (p 48) 4) - (J (p 31) 4), J))
      else (I c (v4 + (Int32.ofInt 1)) (x1N p (fun i => p (48 + i)) J))) : ∀ (c : Nat) (v4 : Int32) (J : Nat → Nat → Int32), I c v4 J → Q (x123N_53 p v1 v2 v3 c v4 J) := by
  intro c
  induction c with
  | zero =>
    intro v4 J hi
    rw [x123N_53]
    exact h0 v4 J hi
  | succ c ih =>
    intro v4 J hi
    have hi := h1 c v4 J hi
    rw [x123N_53]
    by_cases h : v2 ≤ v4
    · rw [if_pos h] at hi ⊢
      by_cases h : v3 = Int32.ofInt 0
      · rw [if_pos h] at hi ⊢
        exact hi
      · rw [if_neg h] at hi ⊢
        by_cases h : v3 = Int32.ofInt 1
        · rw [if_pos h] at hi ⊢
          exact hi
        · rw [if_neg h] at hi ⊢
          exact hi
    · rw [if_neg h] at hi ⊢
      by_cases h : (Int32.ofInt 99) < (J (p 48) 2)
      · rw [if_pos h] at hi ⊢
        by_cases h : v3 = Int32.ofInt 0
        · rw [if_pos h] at hi ⊢
          exact hi
        · rw [if_neg h] at hi ⊢
          by_cases h : v3 = Int32.ofInt 1
          · rw [if_pos h] at hi ⊢
            exact hi
          · rw [if_neg h] at hi ⊢
            exact hi
      · rw [if_neg h] at hi ⊢
        exact ih _ _ hi
def x123N (p : Nat → Nat) (v1 : Int32) (v2 : Int32) (v3 : Int32) (J : Nat → Nat → Int32) : Int32 × (Nat → Nat → Int32) := if (J (p 31) 1) = 0 then (Int32.ofInt (-1), J)
  else if (x111 p v1 J) = 0 then (Int32.ofInt (-1), J)
    else if v2 < 0 then (Int32.ofInt (-1), J)
      else if (Int32.ofInt 100) < v2 then (Int32.ofInt (-1), J)
        else if v3 < 0 then (Int32.ofInt (-1), J)
          else if v3 ≤ (Int32.ofInt 2) then (x123N_53 p v1 v2 v3 v2.toNatClampNeg (Int32.ofInt 0) (x80 (fun i => p (48 + i)) (fun i => p (31 + i)) J))
            else (Int32.ofInt (-1), J)
theorem xt123N {X : nt_X} {d : Nat} {M : nt_M} {o : Option Value × nt_M} {p : Nat → Nat} {v1 : Int32} {v2 : Int32} {v3 : Int32} {J : Nat → Nat → Int32} (hp : xs_P M p) (hn : xs_Q M (fun i => p (31 + i))) (hm : xs_Q M (fun i => p (48 + i))) (hk : xs_N M (fun i => p (48 + i))) (h0 : v1 < 0) (k : nt_ev X d 123 [.ref (p 16), .int v1, .int v2, .int v3] (me_w M J) o) : o = (some (.int ((x123N p v1 v2 v3 J).1)), me_w M ((x123N p v1 v2 v3 J).2)) := by
  have k : nt_rn X d 123 (0, [(0, .ref (p 16)), (1, .int v1), (2, .int v2), (3, .int v3)], [], me_w M J) o := k
  have k := ly_revb 1 (c' := (1, [(0, .ref (p 16)), (1, .int v1), (2, .int v2), (3, .int v3)], [.ref (p 16)], me_w M J)) rfl k
  have k := lz_get (a := (p 16)) (g := 1007) (M := me_w M J) (v := .ref (p 31)) rfl (nt_gfR rfl (hp.1 (16, 7, 31) (by decide))) k
  have k := lz_get (a := (p 31)) (g := 601) (M := me_w M J) (v := .int (J (p 31) 1)) rfl (congrArg Value.int (rfl)) k
  have k := ly_revb 1 (c' := (if (J (p 31) 1) = 0 then 37 else 10, [(0, .ref (p 16)), (1, .int v1), (2, .int v2), (3, .int v3)], [], me_w M J)) rfl k
  by_cases h7 : (J (p 31) 1) = 0
  · rw [if_pos h7] at k
    have k := ly_revb 1 (c' := (38, [(0, .ref (p 16)), (1, .int v1), (2, .int v2), (3, .int v3)], [.int (Int32.ofInt (-1))], me_w M J)) rfl k
    have k := lz_ri rfl (by decide) k
    rw [k, x123N, if_pos h7]
  · rw [if_neg h7] at k
    have k := ly_revb 2 (c' := (12, [(0, .ref (p 16)), (1, .int v1), (2, .int v2), (3, .int v3)], [.int v1, .ref (p 16)], me_w M J)) rfl k
    obtain ⟨d1, o1, ed, kc, k⟩ := lz_c (g := 111) (q := 1) (vs := [.ref (p 16), .int v1]) (rest := []) rfl rfl (by decide) (Or.inr (Or.inl ⟨_, rfl, rfl⟩)) rfl k
    have e1 := xt111 hp kc
    subst e1
    have k : nt_rn X _ 123 (15, [(0, .ref (p 16)), (1, .int v1), (2, .int v2), (3, .int v3)], [.int (x111 p v1 J)], me_w M J) _ := k
    have k := ly_revb 1 (c' := (if (x111 p v1 J) = 0 then 37 else 18, [(0, .ref (p 16)), (1, .int v1), (2, .int v2), (3, .int v3)], [], me_w M J)) rfl k
    by_cases h15 : (x111 p v1 J) = 0
    · rw [if_pos h15] at k
      have k := ly_revb 1 (c' := (38, [(0, .ref (p 16)), (1, .int v1), (2, .int v2), (3, .int v3)], [.int (Int32.ofInt (-1))], me_w M J)) rfl k
      have k := lz_ri rfl (by decide) k
      rw [k, x123N, if_neg h7, if_pos h15]
    · rw [if_neg h15] at k
      have k := ly_revb 2 (c' := (if v2 < 0 then 37 else 22, [(0, .ref (p 16)), (1, .int v1), (2, .int v2), (3, .int v3)], [], me_w M J)) rfl k
      by_cases h19 : v2 < 0
      · rw [if_pos h19] at k
        have k := ly_revb 1 (c' := (38, [(0, .ref (p 16)), (1, .int v1), (2, .int v2), (3, .int v3)], [.int (Int32.ofInt (-1))], me_w M J)) rfl k
        have k := lz_ri rfl (by decide) k
        rw [k, x123N, if_neg h7, if_neg h15, if_pos h19]
      · rw [if_neg h19] at k
        have k := ly_revb 3 (c' := (if (Int32.ofInt 100) < v2 then 37 else 28, [(0, .ref (p 16)), (1, .int v1), (2, .int v2), (3, .int v3)], [], me_w M J)) rfl k
        by_cases h25 : (Int32.ofInt 100) < v2
        · rw [if_pos h25] at k
          have k := ly_revb 1 (c' := (38, [(0, .ref (p 16)), (1, .int v1), (2, .int v2), (3, .int v3)], [.int (Int32.ofInt (-1))], me_w M J)) rfl k
          have k := lz_ri rfl (by decide) k
          rw [k, x123N, if_neg h7, if_neg h15, if_neg h19, if_pos h25]
        · rw [if_neg h25] at k
          have k := ly_revb 2 (c' := (if v3 < 0 then 37 else 32, [(0, .ref (p 16)), (1, .int v1), (2, .int v2), (3, .int v3)], [], me_w M J)) rfl k
          by_cases h29 : v3 < 0
          · rw [if_pos h29] at k
            have k := ly_revb 1 (c' := (38, [(0, .ref (p 16)), (1, .int v1), (2, .int v2), (3, .int v3)], [.int (Int32.ofInt (-1))], me_w M J)) rfl k
            have k := lz_ri rfl (by decide) k
            rw [k, x123N, if_neg h7, if_neg h15, if_neg h19, if_neg h25, if_pos h29]
          · rw [if_neg h29] at k
            have k := ly_revb 3 (c' := (if v3 ≤ (Int32.ofInt 2) then 39 else 37, [(0, .ref (p 16)), (1, .int v1), (2, .int v2), (3, .int v3)], [], me_w M J)) rfl k
            by_cases h34 : v3 ≤ (Int32.ofInt 2)
            · rw [if_pos h34] at k
              have k := ly_revb 1 (c' := (40, [(0, .ref (p 16)), (1, .int v1), (2, .int v2), (3, .int v3)], [.ref (p 16)], me_w M J)) rfl k
              have k := lz_get (a := (p 16)) (g := 1008) (M := me_w M J) (v := .ref (p 48)) rfl (nt_gfR rfl (hp.1 (16, 8, 48) (by decide))) k
              have k := ly_revb 1 (c' := (44, [(0, .ref (p 16)), (1, .int v1), (2, .int v2), (3, .int v3)], [.ref (p 16), .ref (p 48)], me_w M J)) rfl k
              have k := lz_get (a := (p 16)) (g := 1007) (M := me_w M J) (v := .ref (p 31)) rfl (nt_gfR rfl (hp.1 (16, 7, 31) (by decide))) k
              obtain ⟨d1, o1, ed, kc, k⟩ := lz_c (g := 80) (q := 1) (vs := [.ref (p 48), .ref (p 31)]) (rest := []) rfl rfl (by decide) (Or.inr (Or.inl ⟨_, rfl, rfl⟩)) rfl k
              have e1 := xt80 hm hn (xs_d48 hp) hk kc
              subst e1
              have k : nt_rn X _ 123 (50, [(0, .ref (p 16)), (1, .int v1), (2, .int v2), (3, .int v3)], [], me_w M (x80 (fun i => p (48 + i)) (fun i => p (31 + i)) J)) _ := k
              have k := ly_revb 2 (c' := (53, [(4, .int (Int32.ofInt 0)), (0, .ref (p 16)), (1, .int v1), (2, .int v2), (3, .int v3)], [], me_w M (x80 (fun i => p (48 + i)) (fun i => p (31 + i)) J))) rfl k
              have k := nt_rn_w (a := [(4, .int (Int32.ofInt 0)), (0, .ref (p 16)), (1, .int v1), (2, .int v2), (3, .int v3)]) (b := [(0, .ref (p 16)), (1, .int v1), (2, .int v2), (3, .int v3), (4, .int (Int32.ofInt 0))]) ⟨rfl, rfl, rfl, rfl, rfl, trivial⟩ rfl k
              have k := xt123N_53 hp hn hm hk h0  v2.toNatClampNeg (Int32.ofInt 0) (x80 (fun i => p (48 + i)) (fun i => p (31 + i)) J) (lx_beg (by decide)) k
              rw [k, x123N, if_neg h7, if_neg h15, if_neg h19, if_neg h25, if_neg h29, if_pos h34]
            · rw [if_neg h34] at k
              have k := ly_revb 1 (c' := (38, [(0, .ref (p 16)), (1, .int v1), (2, .int v2), (3, .int v3)], [.int (Int32.ofInt (-1))], me_w M J)) rfl k
              have k := lz_ri rfl (by decide) k
              rw [k, x123N, if_neg h7, if_neg h15, if_neg h19, if_neg h25, if_neg h29, if_neg h34]
theorem x123N_53_frJ {p : Nat → Nat} {v1 : Int32} {v2 : Int32} {v3 : Int32} {b : Nat} : ∀ (c : Nat) (v4 : Int32) (J : Nat → Nat → Int32), b ≠ p 48 → b ≠ p 49 → b ≠ p 50 → b ≠ p 51 → b ≠ p 52 → b ≠ p 53 → b ≠ p 54 → b ≠ p 55 → b ≠ p 56 → b ≠ p 57 → b ≠ p 58 → b ≠ p 59 → b ≠ p 60 → b ≠ p 61 → b ≠ p 62 → b ≠ p 63 → b ≠ p 64 → (x123N_53 p v1 v2 v3 c v4 J).2 b = J b := by
  intro c
  induction c with
  | zero =>
    intro v4 J n0 n1 n2 n3 n4 n5 n6 n7 n8 n9 n10 n11 n12 n13 n14 n15 n16
    rw [x123N_53]
    by_cases h : v3 = Int32.ofInt 0
    · rw [if_pos h]
      all_goals first | (dsimp only; exact (show J b = J b from rfl)) | exact (show J b = J b from rfl)
    · rw [if_neg h]
      by_cases h : v3 = Int32.ofInt 1
      · rw [if_pos h]
        all_goals first | (dsimp only; exact (show J b = J b from rfl)) | exact (show J b = J b from rfl)
      · rw [if_neg h]
        all_goals first | (dsimp only; exact (show J b = J b from rfl)) | exact (show J b = J b from rfl)
  | succ c ih =>
    intro v4 J n0 n1 n2 n3 n4 n5 n6 n7 n8 n9 n10 n11 n12 n13 n14 n15 n16
    rw [x123N_53]
    by_cases h : v2 ≤ v4
    · rw [if_pos h]
      by_cases h : v3 = Int32.ofInt 0
      · rw [if_pos h]
        all_goals first | (dsimp only; exact (show J b = J b from rfl)) | exact (show J b = J b from rfl)
      · rw [if_neg h]
        by_cases h : v3 = Int32.ofInt 1
        · rw [if_pos h]
          all_goals first | (dsimp only; exact (show J b = J b from rfl)) | exact (show J b = J b from rfl)
        · rw [if_neg h]
          all_goals first | (dsimp only; exact (show J b = J b from rfl)) | exact (show J b = J b from rfl)
    · rw [if_neg h]
      by_cases h : (Int32.ofInt 99) < (J (p 48) 2)
      · rw [if_pos h]
        by_cases h : v3 = Int32.ofInt 0
        · rw [if_pos h]
          all_goals first | (dsimp only; exact (show J b = J b from rfl)) | exact (show J b = J b from rfl)
        · rw [if_neg h]
          by_cases h : v3 = Int32.ofInt 1
          · rw [if_pos h]
            all_goals first | (dsimp only; exact (show J b = J b from rfl)) | exact (show J b = J b from rfl)
          · rw [if_neg h]
            all_goals first | (dsimp only; exact (show J b = J b from rfl)) | exact (show J b = J b from rfl)
      · rw [if_neg h]
        exact (ih _ _ n0 n1 n2 n3 n4 n5 n6 n7 n8 n9 n10 n11 n12 n13 n14 n15 n16).trans (x1N_frJ  n0 n10 n11 n12 n13 n15 n16)
theorem x123N_frJ {p : Nat → Nat} {v1 : Int32} {v2 : Int32} {v3 : Int32} {J : Nat → Nat → Int32} {b : Nat} (n0 : b ≠ p 48) (n1 : b ≠ p 49) (n2 : b ≠ p 50) (n3 : b ≠ p 51) (n4 : b ≠ p 52) (n5 : b ≠ p 53) (n6 : b ≠ p 54) (n7 : b ≠ p 55) (n8 : b ≠ p 56) (n9 : b ≠ p 57) (n10 : b ≠ p 58) (n11 : b ≠ p 59) (n12 : b ≠ p 60) (n13 : b ≠ p 61) (n14 : b ≠ p 62) (n15 : b ≠ p 63) (n16 : b ≠ p 64) : (x123N p v1 v2 v3 J).2 b = J b := by
  unfold x123N
  by_cases h : (J (p 31) 1) = 0
  · rw [if_pos h]
    all_goals first | (dsimp only; exact (show J b = J b from rfl)) | exact (show J b = J b from rfl)
  · rw [if_neg h]
    by_cases h : (x111 p v1 J) = 0
    · rw [if_pos h]
      all_goals first | (dsimp only; exact (show J b = J b from rfl)) | exact (show J b = J b from rfl)
    · rw [if_neg h]
      by_cases h : v2 < 0
      · rw [if_pos h]
        all_goals first | (dsimp only; exact (show J b = J b from rfl)) | exact (show J b = J b from rfl)
      · rw [if_neg h]
        by_cases h : (Int32.ofInt 100) < v2
        · rw [if_pos h]
          all_goals first | (dsimp only; exact (show J b = J b from rfl)) | exact (show J b = J b from rfl)
        · rw [if_neg h]
          by_cases h : v3 < 0
          · rw [if_pos h]
            all_goals first | (dsimp only; exact (show J b = J b from rfl)) | exact (show J b = J b from rfl)
          · rw [if_neg h]
            by_cases h : v3 ≤ (Int32.ofInt 2)
            · rw [if_pos h]
              exact (x123N_53_frJ _ _ _ n0 n1 n2 n3 n4 n5 n6 n7 n8 n9 n10 n11 n12 n13 n14 n15 n16).trans (x80_frJ  n0 n1 n2 n3 n4 n5 n6 n7 n8 n9 n10 n11 n12 n13 n14 n15 n16)
            · rw [if_neg h]
              all_goals first | (dsimp only; exact (show J b = J b from rfl)) | exact (show J b = J b from rfl)
