section
/-! copies of a state -/
def xs_NL : List (Nat × Nat) := [(2, 24), (3, 24), (4, 24), (5, 24), (6, 8), (7, 8), (8, 8), (9, 8), (10, 6), (11, 6), (12, 6), (13, 24), (14, 24), (15, 24), (16, 8)]
def xs_N (M : nt_M) (q : Nat → Nat) : Prop := ∀ t ∈ xs_NL, nt_l M (q t.1) = t.2
theorem mu_1 {J : Nat → Nat → Int32} {D b : Nat} {f : Nat → Int32} (h : b ≠ D) : nt_u1 J D f b = J b := if_neg h
theorem mx_cpy {X : nt_X} {d mi pc i t D S N : Nat} {ls : nt_V} {st : List Value} {M : nt_M} {J : Nat → Nat → Int32} {o : Option Value × nt_M} {n : Int32} {fS fD : Nat → Int32} (hat : nt_at mi pc = some (pc, .invokestatic i, 1001, t)) (hS : J S = fS) (hD : J D = fD) (hn : n.toNatClampNeg = N) (k : nt_rn X d mi (pc, ls, .int n :: .int (Int32.ofInt 0) :: .ref D :: .int (Int32.ofInt 0) :: .ref S :: st, me_w M J) o) : nt_rn X d mi (pc + 3, ls, st, me_w M (nt_u1 J D (va_cpy fS fD 0 0 N))) o := by
  obtain ⟨c', hs, k⟩ := lz_n (g := 1001) hat rfl (by decide) (Or.inl ⟨_, rfl, rfl⟩) k
  have hs : (if 1 ≤ d ∧ nt_ct st ≤ 8 ∧ S < nt_n M ∧ D < nt_n M ∧ nt_k M S = nt_k M D ∧ (nt_k M S = 13 ∨ nt_k M S = 15) ∧ ¬ Int32.ofInt 0 < 0 ∧ ¬ Int32.ofInt 0 < 0 ∧ ¬ n < 0 ∧ (Int32.ofInt 0).toNatClampNeg + n.toNatClampNeg ≤ nt_l M S ∧ (Int32.ofInt 0).toNatClampNeg + n.toNatClampNeg ≤ nt_l M D then some (pc + 3, ls, st, nt_wI (me_w M J) D (va_cpy (J S) (J D) (Int32.ofInt 0).toNatClampNeg (Int32.ofInt 0).toNatClampNeg n.toNatClampNeg)) else none) = some c' := hs
  obtain ⟨_, e⟩ := nt_if_some hs
  rw [hS, hD, hn] at e
  cases e
  exact k
/-! $Yard.copy -/
def x90 (q : Nat → Nat) (r : Nat → Nat) (J : Nat → Nat → Int32) : (Nat → Nat → Int32) := (nt_u1 (nt_u1 (nt_u1 (nt_u1 (nt_u1 (nt_u1 (nt_u1 (nt_u1 (nt_u (nt_u (nt_u (nt_u (nt_u J (q 1) 0 (J (r 1) 0)) (q 1) 1 (J (r 1) 1)) (q 1) 2 (J (r 1) 2)) (q 1) 3 (J (r 1) 3)) (q 1) 4 (J (r 1) 4)) (q 2) (va_cpy (J (r 2)) (J (q 2)) 0 0 24)) (q 3) (va_cpy (J (r 3)) (J (q 3)) 0 0 24)) (q 4) (va_cpy (J (r 4)) (J (q 4)) 0 0 24)) (q 5) (va_cpy (J (r 5)) (J (q 5)) 0 0 24)) (q 6) (va_cpy (J (r 6)) (J (q 6)) 0 0 8)) (q 7) (va_cpy (J (r 7)) (J (q 7)) 0 0 8)) (q 8) (va_cpy (J (r 8)) (J (q 8)) 0 0 8)) (q 9) (va_cpy (J (r 9)) (J (q 9)) 0 0 8))
theorem xt90 {X : nt_X} {d : Nat} {M : nt_M} {o : Option Value × nt_M} {q : Nat → Nat} {r : Nat → Nat} {J : Nat → Nat → Int32} (hq : xs_Q M q) (hr : xs_Q M r) (hd : ∀ i j, i < 17 → j < 17 → q i ≠ r j) (hl : xs_N M q) (k : nt_ev X d 90 [.ref (q 1), .ref (r 1)] (me_w M J) o) : o = (none, me_w M (x90 q r J)) := by
  have k : nt_rn X d 90 (0, [(0, .ref (q 1)), (1, .ref (r 1))], [], me_w M J) o := k
  have k := ly_revb 2 (c' := (2, [(0, .ref (q 1)), (1, .ref (r 1))], [.ref (r 1), .ref (q 1)], me_w M J)) rfl k
  have k := lz_get (a := (r 1)) (g := 800) (M := me_w M J) (v := .int (J (r 1) 0)) rfl (congrArg Value.int (rfl)) k
  have k := me_put rfl (by decide) k
  have k : nt_rn X _ 90 (8, [(0, .ref (q 1)), (1, .ref (r 1))], [], me_w M (nt_u J (q 1) 0 (J (r 1) 0))) _ := k
  have k := ly_revb 2 (c' := (10, [(0, .ref (q 1)), (1, .ref (r 1))], [.ref (r 1), .ref (q 1)], me_w M (nt_u J (q 1) 0 (J (r 1) 0)))) rfl k
  have k := lz_get (a := (r 1)) (g := 801) (M := me_w M (nt_u J (q 1) 0 (J (r 1) 0))) (v := .int (J (r 1) 1)) rfl (congrArg Value.int (mu_j (Ne.symm (hd 1 1 (by omega) (by omega))))) k
  have k := me_put rfl (by decide) k
  have k : nt_rn X _ 90 (16, [(0, .ref (q 1)), (1, .ref (r 1))], [], me_w M (nt_u (nt_u J (q 1) 0 (J (r 1) 0)) (q 1) 1 (J (r 1) 1))) _ := k
  have k := ly_revb 2 (c' := (18, [(0, .ref (q 1)), (1, .ref (r 1))], [.ref (r 1), .ref (q 1)], me_w M (nt_u (nt_u J (q 1) 0 (J (r 1) 0)) (q 1) 1 (J (r 1) 1)))) rfl k
  have k := lz_get (a := (r 1)) (g := 802) (M := me_w M (nt_u (nt_u J (q 1) 0 (J (r 1) 0)) (q 1) 1 (J (r 1) 1))) (v := .int (J (r 1) 2)) rfl (congrArg Value.int ((mu_j (Ne.symm (hd 1 1 (by omega) (by omega)))).trans (mu_j (Ne.symm (hd 1 1 (by omega) (by omega)))))) k
  have k := me_put rfl (by decide) k
  have k : nt_rn X _ 90 (24, [(0, .ref (q 1)), (1, .ref (r 1))], [], me_w M (nt_u (nt_u (nt_u J (q 1) 0 (J (r 1) 0)) (q 1) 1 (J (r 1) 1)) (q 1) 2 (J (r 1) 2))) _ := k
  have k := ly_revb 2 (c' := (26, [(0, .ref (q 1)), (1, .ref (r 1))], [.ref (r 1), .ref (q 1)], me_w M (nt_u (nt_u (nt_u J (q 1) 0 (J (r 1) 0)) (q 1) 1 (J (r 1) 1)) (q 1) 2 (J (r 1) 2)))) rfl k
  have k := lz_get (a := (r 1)) (g := 803) (M := me_w M (nt_u (nt_u (nt_u J (q 1) 0 (J (r 1) 0)) (q 1) 1 (J (r 1) 1)) (q 1) 2 (J (r 1) 2))) (v := .int (J (r 1) 3)) rfl (congrArg Value.int ((mu_j (Ne.symm (hd 1 1 (by omega) (by omega)))).trans ((mu_j (Ne.symm (hd 1 1 (by omega) (by omega)))).trans (mu_j (Ne.symm (hd 1 1 (by omega) (by omega))))))) k
  have k := me_put rfl (by decide) k
  have k : nt_rn X _ 90 (32, [(0, .ref (q 1)), (1, .ref (r 1))], [], me_w M (nt_u (nt_u (nt_u (nt_u J (q 1) 0 (J (r 1) 0)) (q 1) 1 (J (r 1) 1)) (q 1) 2 (J (r 1) 2)) (q 1) 3 (J (r 1) 3))) _ := k
  have k := ly_revb 2 (c' := (34, [(0, .ref (q 1)), (1, .ref (r 1))], [.ref (r 1), .ref (q 1)], me_w M (nt_u (nt_u (nt_u (nt_u J (q 1) 0 (J (r 1) 0)) (q 1) 1 (J (r 1) 1)) (q 1) 2 (J (r 1) 2)) (q 1) 3 (J (r 1) 3)))) rfl k
  have k := lz_get (a := (r 1)) (g := 804) (M := me_w M (nt_u (nt_u (nt_u (nt_u J (q 1) 0 (J (r 1) 0)) (q 1) 1 (J (r 1) 1)) (q 1) 2 (J (r 1) 2)) (q 1) 3 (J (r 1) 3))) (v := .int (J (r 1) 4)) rfl (congrArg Value.int ((mu_j (Ne.symm (hd 1 1 (by omega) (by omega)))).trans ((mu_j (Ne.symm (hd 1 1 (by omega) (by omega)))).trans ((mu_j (Ne.symm (hd 1 1 (by omega) (by omega)))).trans (mu_j (Ne.symm (hd 1 1 (by omega) (by omega)))))))) k
  have k := me_put rfl (by decide) k
  have k : nt_rn X _ 90 (40, [(0, .ref (q 1)), (1, .ref (r 1))], [], me_w M (nt_u (nt_u (nt_u (nt_u (nt_u J (q 1) 0 (J (r 1) 0)) (q 1) 1 (J (r 1) 1)) (q 1) 2 (J (r 1) 2)) (q 1) 3 (J (r 1) 3)) (q 1) 4 (J (r 1) 4))) _ := k
  have k := ly_revb 1 (c' := (41, [(0, .ref (q 1)), (1, .ref (r 1))], [.ref (r 1)], me_w M (nt_u (nt_u (nt_u (nt_u (nt_u J (q 1) 0 (J (r 1) 0)) (q 1) 1 (J (r 1) 1)) (q 1) 2 (J (r 1) 2)) (q 1) 3 (J (r 1) 3)) (q 1) 4 (J (r 1) 4)))) rfl k
  have k := lz_get (a := (r 1)) (g := 805) (M := me_w M (nt_u (nt_u (nt_u (nt_u (nt_u J (q 1) 0 (J (r 1) 0)) (q 1) 1 (J (r 1) 1)) (q 1) 2 (J (r 1) 2)) (q 1) 3 (J (r 1) 3)) (q 1) 4 (J (r 1) 4))) (v := .ref (r 2)) rfl (nt_gfR rfl (hr.1 (1, 5, 2) (by decide))) k
  have k := ly_revb 2 (c' := (46, [(0, .ref (q 1)), (1, .ref (r 1))], [.ref (q 1), .int (Int32.ofInt 0), .ref (r 2)], me_w M (nt_u (nt_u (nt_u (nt_u (nt_u J (q 1) 0 (J (r 1) 0)) (q 1) 1 (J (r 1) 1)) (q 1) 2 (J (r 1) 2)) (q 1) 3 (J (r 1) 3)) (q 1) 4 (J (r 1) 4)))) rfl k
  have k := lz_get (a := (q 1)) (g := 805) (M := me_w M (nt_u (nt_u (nt_u (nt_u (nt_u J (q 1) 0 (J (r 1) 0)) (q 1) 1 (J (r 1) 1)) (q 1) 2 (J (r 1) 2)) (q 1) 3 (J (r 1) 3)) (q 1) 4 (J (r 1) 4))) (v := .ref (q 2)) rfl (nt_gfR rfl (hq.1 (1, 5, 2) (by decide))) k
  have k := ly_revb 2 (c' := (51, [(0, .ref (q 1)), (1, .ref (r 1))], [.ref (q 1), .int (Int32.ofInt 0), .ref (q 2), .int (Int32.ofInt 0), .ref (r 2)], me_w M (nt_u (nt_u (nt_u (nt_u (nt_u J (q 1) 0 (J (r 1) 0)) (q 1) 1 (J (r 1) 1)) (q 1) 2 (J (r 1) 2)) (q 1) 3 (J (r 1) 3)) (q 1) 4 (J (r 1) 4)))) rfl k
  have k := lz_get (a := (q 1)) (g := 805) (M := me_w M (nt_u (nt_u (nt_u (nt_u (nt_u J (q 1) 0 (J (r 1) 0)) (q 1) 1 (J (r 1) 1)) (q 1) 2 (J (r 1) 2)) (q 1) 3 (J (r 1) 3)) (q 1) 4 (J (r 1) 4))) (v := .ref (q 2)) rfl (nt_gfR rfl (hq.1 (1, 5, 2) (by decide))) k
  have k := lz_len rfl (hq.2.2.1 2 (by omega)) k
  rw [show nt_l (me_w M (nt_u (nt_u (nt_u (nt_u (nt_u J (q 1) 0 (J (r 1) 0)) (q 1) 1 (J (r 1) 1)) (q 1) 2 (J (r 1) 2)) (q 1) 3 (J (r 1) 3)) (q 1) 4 (J (r 1) 4))) (q 2) = 24 from (hl (2, 24) (by decide))] at k
  have k : nt_rn X _ 90 (55, [(0, .ref (q 1)), (1, .ref (r 1))], [.int (Int32.ofNat 24), .int (Int32.ofInt 0), .ref (q 2), .int (Int32.ofInt 0), .ref (r 2)], me_w M (nt_u (nt_u (nt_u (nt_u (nt_u J (q 1) 0 (J (r 1) 0)) (q 1) 1 (J (r 1) 1)) (q 1) 2 (J (r 1) 2)) (q 1) 3 (J (r 1) 3)) (q 1) 4 (J (r 1) 4))) _ := k
  have k := mx_cpy (N := 24) (fS := J (r 2)) (fD := J (q 2)) rfl ((mu_o (Ne.symm (hd 1 2 (by omega) (by omega)))).trans ((mu_o (Ne.symm (hd 1 2 (by omega) (by omega)))).trans ((mu_o (Ne.symm (hd 1 2 (by omega) (by omega)))).trans ((mu_o (Ne.symm (hd 1 2 (by omega) (by omega)))).trans (mu_o (Ne.symm (hd 1 2 (by omega) (by omega)))))))) ((mu_o (hq.2.1 2 1 (by omega) (by omega) (by decide))).trans ((mu_o (hq.2.1 2 1 (by omega) (by omega) (by decide))).trans ((mu_o (hq.2.1 2 1 (by omega) (by omega) (by decide))).trans ((mu_o (hq.2.1 2 1 (by omega) (by omega) (by decide))).trans (mu_o (hq.2.1 2 1 (by omega) (by omega) (by decide))))))) rfl k
  have k : nt_rn X _ 90 (58, [(0, .ref (q 1)), (1, .ref (r 1))], [], me_w M (nt_u1 (nt_u (nt_u (nt_u (nt_u (nt_u J (q 1) 0 (J (r 1) 0)) (q 1) 1 (J (r 1) 1)) (q 1) 2 (J (r 1) 2)) (q 1) 3 (J (r 1) 3)) (q 1) 4 (J (r 1) 4)) (q 2) (va_cpy (J (r 2)) (J (q 2)) 0 0 24))) _ := k
  have k := ly_revb 1 (c' := (59, [(0, .ref (q 1)), (1, .ref (r 1))], [.ref (r 1)], me_w M (nt_u1 (nt_u (nt_u (nt_u (nt_u (nt_u J (q 1) 0 (J (r 1) 0)) (q 1) 1 (J (r 1) 1)) (q 1) 2 (J (r 1) 2)) (q 1) 3 (J (r 1) 3)) (q 1) 4 (J (r 1) 4)) (q 2) (va_cpy (J (r 2)) (J (q 2)) 0 0 24)))) rfl k
  have k := lz_get (a := (r 1)) (g := 806) (M := me_w M (nt_u1 (nt_u (nt_u (nt_u (nt_u (nt_u J (q 1) 0 (J (r 1) 0)) (q 1) 1 (J (r 1) 1)) (q 1) 2 (J (r 1) 2)) (q 1) 3 (J (r 1) 3)) (q 1) 4 (J (r 1) 4)) (q 2) (va_cpy (J (r 2)) (J (q 2)) 0 0 24))) (v := .ref (r 3)) rfl (nt_gfR rfl (hr.1 (1, 6, 3) (by decide))) k
  have k := ly_revb 2 (c' := (64, [(0, .ref (q 1)), (1, .ref (r 1))], [.ref (q 1), .int (Int32.ofInt 0), .ref (r 3)], me_w M (nt_u1 (nt_u (nt_u (nt_u (nt_u (nt_u J (q 1) 0 (J (r 1) 0)) (q 1) 1 (J (r 1) 1)) (q 1) 2 (J (r 1) 2)) (q 1) 3 (J (r 1) 3)) (q 1) 4 (J (r 1) 4)) (q 2) (va_cpy (J (r 2)) (J (q 2)) 0 0 24)))) rfl k
  have k := lz_get (a := (q 1)) (g := 806) (M := me_w M (nt_u1 (nt_u (nt_u (nt_u (nt_u (nt_u J (q 1) 0 (J (r 1) 0)) (q 1) 1 (J (r 1) 1)) (q 1) 2 (J (r 1) 2)) (q 1) 3 (J (r 1) 3)) (q 1) 4 (J (r 1) 4)) (q 2) (va_cpy (J (r 2)) (J (q 2)) 0 0 24))) (v := .ref (q 3)) rfl (nt_gfR rfl (hq.1 (1, 6, 3) (by decide))) k
  have k := ly_revb 2 (c' := (69, [(0, .ref (q 1)), (1, .ref (r 1))], [.ref (q 1), .int (Int32.ofInt 0), .ref (q 3), .int (Int32.ofInt 0), .ref (r 3)], me_w M (nt_u1 (nt_u (nt_u (nt_u (nt_u (nt_u J (q 1) 0 (J (r 1) 0)) (q 1) 1 (J (r 1) 1)) (q 1) 2 (J (r 1) 2)) (q 1) 3 (J (r 1) 3)) (q 1) 4 (J (r 1) 4)) (q 2) (va_cpy (J (r 2)) (J (q 2)) 0 0 24)))) rfl k
  have k := lz_get (a := (q 1)) (g := 806) (M := me_w M (nt_u1 (nt_u (nt_u (nt_u (nt_u (nt_u J (q 1) 0 (J (r 1) 0)) (q 1) 1 (J (r 1) 1)) (q 1) 2 (J (r 1) 2)) (q 1) 3 (J (r 1) 3)) (q 1) 4 (J (r 1) 4)) (q 2) (va_cpy (J (r 2)) (J (q 2)) 0 0 24))) (v := .ref (q 3)) rfl (nt_gfR rfl (hq.1 (1, 6, 3) (by decide))) k
  have k := lz_len rfl (hq.2.2.1 3 (by omega)) k
  rw [show nt_l (me_w M (nt_u1 (nt_u (nt_u (nt_u (nt_u (nt_u J (q 1) 0 (J (r 1) 0)) (q 1) 1 (J (r 1) 1)) (q 1) 2 (J (r 1) 2)) (q 1) 3 (J (r 1) 3)) (q 1) 4 (J (r 1) 4)) (q 2) (va_cpy (J (r 2)) (J (q 2)) 0 0 24))) (q 3) = 24 from (hl (3, 24) (by decide))] at k
  have k : nt_rn X _ 90 (73, [(0, .ref (q 1)), (1, .ref (r 1))], [.int (Int32.ofNat 24), .int (Int32.ofInt 0), .ref (q 3), .int (Int32.ofInt 0), .ref (r 3)], me_w M (nt_u1 (nt_u (nt_u (nt_u (nt_u (nt_u J (q 1) 0 (J (r 1) 0)) (q 1) 1 (J (r 1) 1)) (q 1) 2 (J (r 1) 2)) (q 1) 3 (J (r 1) 3)) (q 1) 4 (J (r 1) 4)) (q 2) (va_cpy (J (r 2)) (J (q 2)) 0 0 24))) _ := k
  have k := mx_cpy (N := 24) (fS := J (r 3)) (fD := J (q 3)) rfl ((mu_1 (Ne.symm (hd 2 3 (by omega) (by omega)))).trans ((mu_o (Ne.symm (hd 1 3 (by omega) (by omega)))).trans ((mu_o (Ne.symm (hd 1 3 (by omega) (by omega)))).trans ((mu_o (Ne.symm (hd 1 3 (by omega) (by omega)))).trans ((mu_o (Ne.symm (hd 1 3 (by omega) (by omega)))).trans (mu_o (Ne.symm (hd 1 3 (by omega) (by omega))))))))) ((mu_1 (hq.2.1 3 2 (by omega) (by omega) (by decide))).trans ((mu_o (hq.2.1 3 1 (by omega) (by omega) (by decide))).trans ((mu_o (hq.2.1 3 1 (by omega) (by omega) (by decide))).trans ((mu_o (hq.2.1 3 1 (by omega) (by omega) (by decide))).trans ((mu_o (hq.2.1 3 1 (by omega) (by omega) (by decide))).trans (mu_o (hq.2.1 3 1 (by omega) (by omega) (by decide)))))))) rfl k
  have k : nt_rn X _ 90 (76, [(0, .ref (q 1)), (1, .ref (r 1))], [], me_w M (nt_u1 (nt_u1 (nt_u (nt_u (nt_u (nt_u (nt_u J (q 1) 0 (J (r 1) 0)) (q 1) 1 (J (r 1) 1)) (q 1) 2 (J (r 1) 2)) (q 1) 3 (J (r 1) 3)) (q 1) 4 (J (r 1) 4)) (q 2) (va_cpy (J (r 2)) (J (q 2)) 0 0 24)) (q 3) (va_cpy (J (r 3)) (J (q 3)) 0 0 24))) _ := k
  have k := ly_revb 1 (c' := (77, [(0, .ref (q 1)), (1, .ref (r 1))], [.ref (r 1)], me_w M (nt_u1 (nt_u1 (nt_u (nt_u (nt_u (nt_u (nt_u J (q 1) 0 (J (r 1) 0)) (q 1) 1 (J (r 1) 1)) (q 1) 2 (J (r 1) 2)) (q 1) 3 (J (r 1) 3)) (q 1) 4 (J (r 1) 4)) (q 2) (va_cpy (J (r 2)) (J (q 2)) 0 0 24)) (q 3) (va_cpy (J (r 3)) (J (q 3)) 0 0 24)))) rfl k
  have k := lz_get (a := (r 1)) (g := 807) (M := me_w M (nt_u1 (nt_u1 (nt_u (nt_u (nt_u (nt_u (nt_u J (q 1) 0 (J (r 1) 0)) (q 1) 1 (J (r 1) 1)) (q 1) 2 (J (r 1) 2)) (q 1) 3 (J (r 1) 3)) (q 1) 4 (J (r 1) 4)) (q 2) (va_cpy (J (r 2)) (J (q 2)) 0 0 24)) (q 3) (va_cpy (J (r 3)) (J (q 3)) 0 0 24))) (v := .ref (r 4)) rfl (nt_gfR rfl (hr.1 (1, 7, 4) (by decide))) k
  have k := ly_revb 2 (c' := (82, [(0, .ref (q 1)), (1, .ref (r 1))], [.ref (q 1), .int (Int32.ofInt 0), .ref (r 4)], me_w M (nt_u1 (nt_u1 (nt_u (nt_u (nt_u (nt_u (nt_u J (q 1) 0 (J (r 1) 0)) (q 1) 1 (J (r 1) 1)) (q 1) 2 (J (r 1) 2)) (q 1) 3 (J (r 1) 3)) (q 1) 4 (J (r 1) 4)) (q 2) (va_cpy (J (r 2)) (J (q 2)) 0 0 24)) (q 3) (va_cpy (J (r 3)) (J (q 3)) 0 0 24)))) rfl k
  have k := lz_get (a := (q 1)) (g := 807) (M := me_w M (nt_u1 (nt_u1 (nt_u (nt_u (nt_u (nt_u (nt_u J (q 1) 0 (J (r 1) 0)) (q 1) 1 (J (r 1) 1)) (q 1) 2 (J (r 1) 2)) (q 1) 3 (J (r 1) 3)) (q 1) 4 (J (r 1) 4)) (q 2) (va_cpy (J (r 2)) (J (q 2)) 0 0 24)) (q 3) (va_cpy (J (r 3)) (J (q 3)) 0 0 24))) (v := .ref (q 4)) rfl (nt_gfR rfl (hq.1 (1, 7, 4) (by decide))) k
  have k := ly_revb 2 (c' := (87, [(0, .ref (q 1)), (1, .ref (r 1))], [.ref (q 1), .int (Int32.ofInt 0), .ref (q 4), .int (Int32.ofInt 0), .ref (r 4)], me_w M (nt_u1 (nt_u1 (nt_u (nt_u (nt_u (nt_u (nt_u J (q 1) 0 (J (r 1) 0)) (q 1) 1 (J (r 1) 1)) (q 1) 2 (J (r 1) 2)) (q 1) 3 (J (r 1) 3)) (q 1) 4 (J (r 1) 4)) (q 2) (va_cpy (J (r 2)) (J (q 2)) 0 0 24)) (q 3) (va_cpy (J (r 3)) (J (q 3)) 0 0 24)))) rfl k
  have k := lz_get (a := (q 1)) (g := 807) (M := me_w M (nt_u1 (nt_u1 (nt_u (nt_u (nt_u (nt_u (nt_u J (q 1) 0 (J (r 1) 0)) (q 1) 1 (J (r 1) 1)) (q 1) 2 (J (r 1) 2)) (q 1) 3 (J (r 1) 3)) (q 1) 4 (J (r 1) 4)) (q 2) (va_cpy (J (r 2)) (J (q 2)) 0 0 24)) (q 3) (va_cpy (J (r 3)) (J (q 3)) 0 0 24))) (v := .ref (q 4)) rfl (nt_gfR rfl (hq.1 (1, 7, 4) (by decide))) k
  have k := lz_len rfl (hq.2.2.1 4 (by omega)) k
  rw [show nt_l (me_w M (nt_u1 (nt_u1 (nt_u (nt_u (nt_u (nt_u (nt_u J (q 1) 0 (J (r 1) 0)) (q 1) 1 (J (r 1) 1)) (q 1) 2 (J (r 1) 2)) (q 1) 3 (J (r 1) 3)) (q 1) 4 (J (r 1) 4)) (q 2) (va_cpy (J (r 2)) (J (q 2)) 0 0 24)) (q 3) (va_cpy (J (r 3)) (J (q 3)) 0 0 24))) (q 4) = 24 from (hl (4, 24) (by decide))] at k
  have k : nt_rn X _ 90 (91, [(0, .ref (q 1)), (1, .ref (r 1))], [.int (Int32.ofNat 24), .int (Int32.ofInt 0), .ref (q 4), .int (Int32.ofInt 0), .ref (r 4)], me_w M (nt_u1 (nt_u1 (nt_u (nt_u (nt_u (nt_u (nt_u J (q 1) 0 (J (r 1) 0)) (q 1) 1 (J (r 1) 1)) (q 1) 2 (J (r 1) 2)) (q 1) 3 (J (r 1) 3)) (q 1) 4 (J (r 1) 4)) (q 2) (va_cpy (J (r 2)) (J (q 2)) 0 0 24)) (q 3) (va_cpy (J (r 3)) (J (q 3)) 0 0 24))) _ := k
  have k := mx_cpy (N := 24) (fS := J (r 4)) (fD := J (q 4)) rfl ((mu_1 (Ne.symm (hd 3 4 (by omega) (by omega)))).trans ((mu_1 (Ne.symm (hd 2 4 (by omega) (by omega)))).trans ((mu_o (Ne.symm (hd 1 4 (by omega) (by omega)))).trans ((mu_o (Ne.symm (hd 1 4 (by omega) (by omega)))).trans ((mu_o (Ne.symm (hd 1 4 (by omega) (by omega)))).trans ((mu_o (Ne.symm (hd 1 4 (by omega) (by omega)))).trans (mu_o (Ne.symm (hd 1 4 (by omega) (by omega)))))))))) ((mu_1 (hq.2.1 4 3 (by omega) (by omega) (by decide))).trans ((mu_1 (hq.2.1 4 2 (by omega) (by omega) (by decide))).trans ((mu_o (hq.2.1 4 1 (by omega) (by omega) (by decide))).trans ((mu_o (hq.2.1 4 1 (by omega) (by omega) (by decide))).trans ((mu_o (hq.2.1 4 1 (by omega) (by omega) (by decide))).trans ((mu_o (hq.2.1 4 1 (by omega) (by omega) (by decide))).trans (mu_o (hq.2.1 4 1 (by omega) (by omega) (by decide))))))))) rfl k
  have k : nt_rn X _ 90 (94, [(0, .ref (q 1)), (1, .ref (r 1))], [], me_w M (nt_u1 (nt_u1 (nt_u1 (nt_u (nt_u (nt_u (nt_u (nt_u J (q 1) 0 (J (r 1) 0)) (q 1) 1 (J (r 1) 1)) (q 1) 2 (J (r 1) 2)) (q 1) 3 (J (r 1) 3)) (q 1) 4 (J (r 1) 4)) (q 2) (va_cpy (J (r 2)) (J (q 2)) 0 0 24)) (q 3) (va_cpy (J (r 3)) (J (q 3)) 0 0 24)) (q 4) (va_cpy (J (r 4)) (J (q 4)) 0 0 24))) _ := k
  have k := ly_revb 1 (c' := (95, [(0, .ref (q 1)), (1, .ref (r 1))], [.ref (r 1)], me_w M (nt_u1 (nt_u1 (nt_u1 (nt_u (nt_u (nt_u (nt_u (nt_u J (q 1) 0 (J (r 1) 0)) (q 1) 1 (J (r 1) 1)) (q 1) 2 (J (r 1) 2)) (q 1) 3 (J (r 1) 3)) (q 1) 4 (J (r 1) 4)) (q 2) (va_cpy (J (r 2)) (J (q 2)) 0 0 24)) (q 3) (va_cpy (J (r 3)) (J (q 3)) 0 0 24)) (q 4) (va_cpy (J (r 4)) (J (q 4)) 0 0 24)))) rfl k
  have k := lz_get (a := (r 1)) (g := 808) (M := me_w M (nt_u1 (nt_u1 (nt_u1 (nt_u (nt_u (nt_u (nt_u (nt_u J (q 1) 0 (J (r 1) 0)) (q 1) 1 (J (r 1) 1)) (q 1) 2 (J (r 1) 2)) (q 1) 3 (J (r 1) 3)) (q 1) 4 (J (r 1) 4)) (q 2) (va_cpy (J (r 2)) (J (q 2)) 0 0 24)) (q 3) (va_cpy (J (r 3)) (J (q 3)) 0 0 24)) (q 4) (va_cpy (J (r 4)) (J (q 4)) 0 0 24))) (v := .ref (r 5)) rfl (nt_gfR rfl (hr.1 (1, 8, 5) (by decide))) k
  have k := ly_revb 2 (c' := (100, [(0, .ref (q 1)), (1, .ref (r 1))], [.ref (q 1), .int (Int32.ofInt 0), .ref (r 5)], me_w M (nt_u1 (nt_u1 (nt_u1 (nt_u (nt_u (nt_u (nt_u (nt_u J (q 1) 0 (J (r 1) 0)) (q 1) 1 (J (r 1) 1)) (q 1) 2 (J (r 1) 2)) (q 1) 3 (J (r 1) 3)) (q 1) 4 (J (r 1) 4)) (q 2) (va_cpy (J (r 2)) (J (q 2)) 0 0 24)) (q 3) (va_cpy (J (r 3)) (J (q 3)) 0 0 24)) (q 4) (va_cpy (J (r 4)) (J (q 4)) 0 0 24)))) rfl k
  have k := lz_get (a := (q 1)) (g := 808) (M := me_w M (nt_u1 (nt_u1 (nt_u1 (nt_u (nt_u (nt_u (nt_u (nt_u J (q 1) 0 (J (r 1) 0)) (q 1) 1 (J (r 1) 1)) (q 1) 2 (J (r 1) 2)) (q 1) 3 (J (r 1) 3)) (q 1) 4 (J (r 1) 4)) (q 2) (va_cpy (J (r 2)) (J (q 2)) 0 0 24)) (q 3) (va_cpy (J (r 3)) (J (q 3)) 0 0 24)) (q 4) (va_cpy (J (r 4)) (J (q 4)) 0 0 24))) (v := .ref (q 5)) rfl (nt_gfR rfl (hq.1 (1, 8, 5) (by decide))) k
  have k := ly_revb 2 (c' := (105, [(0, .ref (q 1)), (1, .ref (r 1))], [.ref (q 1), .int (Int32.ofInt 0), .ref (q 5), .int (Int32.ofInt 0), .ref (r 5)], me_w M (nt_u1 (nt_u1 (nt_u1 (nt_u (nt_u (nt_u (nt_u (nt_u J (q 1) 0 (J (r 1) 0)) (q 1) 1 (J (r 1) 1)) (q 1) 2 (J (r 1) 2)) (q 1) 3 (J (r 1) 3)) (q 1) 4 (J (r 1) 4)) (q 2) (va_cpy (J (r 2)) (J (q 2)) 0 0 24)) (q 3) (va_cpy (J (r 3)) (J (q 3)) 0 0 24)) (q 4) (va_cpy (J (r 4)) (J (q 4)) 0 0 24)))) rfl k
  have k := lz_get (a := (q 1)) (g := 808) (M := me_w M (nt_u1 (nt_u1 (nt_u1 (nt_u (nt_u (nt_u (nt_u (nt_u J (q 1) 0 (J (r 1) 0)) (q 1) 1 (J (r 1) 1)) (q 1) 2 (J (r 1) 2)) (q 1) 3 (J (r 1) 3)) (q 1) 4 (J (r 1) 4)) (q 2) (va_cpy (J (r 2)) (J (q 2)) 0 0 24)) (q 3) (va_cpy (J (r 3)) (J (q 3)) 0 0 24)) (q 4) (va_cpy (J (r 4)) (J (q 4)) 0 0 24))) (v := .ref (q 5)) rfl (nt_gfR rfl (hq.1 (1, 8, 5) (by decide))) k
  have k := lz_len rfl (hq.2.2.1 5 (by omega)) k
  rw [show nt_l (me_w M (nt_u1 (nt_u1 (nt_u1 (nt_u (nt_u (nt_u (nt_u (nt_u J (q 1) 0 (J (r 1) 0)) (q 1) 1 (J (r 1) 1)) (q 1) 2 (J (r 1) 2)) (q 1) 3 (J (r 1) 3)) (q 1) 4 (J (r 1) 4)) (q 2) (va_cpy (J (r 2)) (J (q 2)) 0 0 24)) (q 3) (va_cpy (J (r 3)) (J (q 3)) 0 0 24)) (q 4) (va_cpy (J (r 4)) (J (q 4)) 0 0 24))) (q 5) = 24 from (hl (5, 24) (by decide))] at k
  have k : nt_rn X _ 90 (109, [(0, .ref (q 1)), (1, .ref (r 1))], [.int (Int32.ofNat 24), .int (Int32.ofInt 0), .ref (q 5), .int (Int32.ofInt 0), .ref (r 5)], me_w M (nt_u1 (nt_u1 (nt_u1 (nt_u (nt_u (nt_u (nt_u (nt_u J (q 1) 0 (J (r 1) 0)) (q 1) 1 (J (r 1) 1)) (q 1) 2 (J (r 1) 2)) (q 1) 3 (J (r 1) 3)) (q 1) 4 (J (r 1) 4)) (q 2) (va_cpy (J (r 2)) (J (q 2)) 0 0 24)) (q 3) (va_cpy (J (r 3)) (J (q 3)) 0 0 24)) (q 4) (va_cpy (J (r 4)) (J (q 4)) 0 0 24))) _ := k
  have k := mx_cpy (N := 24) (fS := J (r 5)) (fD := J (q 5)) rfl ((mu_1 (Ne.symm (hd 4 5 (by omega) (by omega)))).trans ((mu_1 (Ne.symm (hd 3 5 (by omega) (by omega)))).trans ((mu_1 (Ne.symm (hd 2 5 (by omega) (by omega)))).trans ((mu_o (Ne.symm (hd 1 5 (by omega) (by omega)))).trans ((mu_o (Ne.symm (hd 1 5 (by omega) (by omega)))).trans ((mu_o (Ne.symm (hd 1 5 (by omega) (by omega)))).trans ((mu_o (Ne.symm (hd 1 5 (by omega) (by omega)))).trans (mu_o (Ne.symm (hd 1 5 (by omega) (by omega))))))))))) ((mu_1 (hq.2.1 5 4 (by omega) (by omega) (by decide))).trans ((mu_1 (hq.2.1 5 3 (by omega) (by omega) (by decide))).trans ((mu_1 (hq.2.1 5 2 (by omega) (by omega) (by decide))).trans ((mu_o (hq.2.1 5 1 (by omega) (by omega) (by decide))).trans ((mu_o (hq.2.1 5 1 (by omega) (by omega) (by decide))).trans ((mu_o (hq.2.1 5 1 (by omega) (by omega) (by decide))).trans ((mu_o (hq.2.1 5 1 (by omega) (by omega) (by decide))).trans (mu_o (hq.2.1 5 1 (by omega) (by omega) (by decide)))))))))) rfl k
  have k : nt_rn X _ 90 (112, [(0, .ref (q 1)), (1, .ref (r 1))], [], me_w M (nt_u1 (nt_u1 (nt_u1 (nt_u1 (nt_u (nt_u (nt_u (nt_u (nt_u J (q 1) 0 (J (r 1) 0)) (q 1) 1 (J (r 1) 1)) (q 1) 2 (J (r 1) 2)) (q 1) 3 (J (r 1) 3)) (q 1) 4 (J (r 1) 4)) (q 2) (va_cpy (J (r 2)) (J (q 2)) 0 0 24)) (q 3) (va_cpy (J (r 3)) (J (q 3)) 0 0 24)) (q 4) (va_cpy (J (r 4)) (J (q 4)) 0 0 24)) (q 5) (va_cpy (J (r 5)) (J (q 5)) 0 0 24))) _ := k
  have k := ly_revb 1 (c' := (113, [(0, .ref (q 1)), (1, .ref (r 1))], [.ref (r 1)], me_w M (nt_u1 (nt_u1 (nt_u1 (nt_u1 (nt_u (nt_u (nt_u (nt_u (nt_u J (q 1) 0 (J (r 1) 0)) (q 1) 1 (J (r 1) 1)) (q 1) 2 (J (r 1) 2)) (q 1) 3 (J (r 1) 3)) (q 1) 4 (J (r 1) 4)) (q 2) (va_cpy (J (r 2)) (J (q 2)) 0 0 24)) (q 3) (va_cpy (J (r 3)) (J (q 3)) 0 0 24)) (q 4) (va_cpy (J (r 4)) (J (q 4)) 0 0 24)) (q 5) (va_cpy (J (r 5)) (J (q 5)) 0 0 24)))) rfl k
  have k := lz_get (a := (r 1)) (g := 809) (M := me_w M (nt_u1 (nt_u1 (nt_u1 (nt_u1 (nt_u (nt_u (nt_u (nt_u (nt_u J (q 1) 0 (J (r 1) 0)) (q 1) 1 (J (r 1) 1)) (q 1) 2 (J (r 1) 2)) (q 1) 3 (J (r 1) 3)) (q 1) 4 (J (r 1) 4)) (q 2) (va_cpy (J (r 2)) (J (q 2)) 0 0 24)) (q 3) (va_cpy (J (r 3)) (J (q 3)) 0 0 24)) (q 4) (va_cpy (J (r 4)) (J (q 4)) 0 0 24)) (q 5) (va_cpy (J (r 5)) (J (q 5)) 0 0 24))) (v := .ref (r 6)) rfl (nt_gfR rfl (hr.1 (1, 9, 6) (by decide))) k
  have k := ly_revb 2 (c' := (118, [(0, .ref (q 1)), (1, .ref (r 1))], [.ref (q 1), .int (Int32.ofInt 0), .ref (r 6)], me_w M (nt_u1 (nt_u1 (nt_u1 (nt_u1 (nt_u (nt_u (nt_u (nt_u (nt_u J (q 1) 0 (J (r 1) 0)) (q 1) 1 (J (r 1) 1)) (q 1) 2 (J (r 1) 2)) (q 1) 3 (J (r 1) 3)) (q 1) 4 (J (r 1) 4)) (q 2) (va_cpy (J (r 2)) (J (q 2)) 0 0 24)) (q 3) (va_cpy (J (r 3)) (J (q 3)) 0 0 24)) (q 4) (va_cpy (J (r 4)) (J (q 4)) 0 0 24)) (q 5) (va_cpy (J (r 5)) (J (q 5)) 0 0 24)))) rfl k
  have k := lz_get (a := (q 1)) (g := 809) (M := me_w M (nt_u1 (nt_u1 (nt_u1 (nt_u1 (nt_u (nt_u (nt_u (nt_u (nt_u J (q 1) 0 (J (r 1) 0)) (q 1) 1 (J (r 1) 1)) (q 1) 2 (J (r 1) 2)) (q 1) 3 (J (r 1) 3)) (q 1) 4 (J (r 1) 4)) (q 2) (va_cpy (J (r 2)) (J (q 2)) 0 0 24)) (q 3) (va_cpy (J (r 3)) (J (q 3)) 0 0 24)) (q 4) (va_cpy (J (r 4)) (J (q 4)) 0 0 24)) (q 5) (va_cpy (J (r 5)) (J (q 5)) 0 0 24))) (v := .ref (q 6)) rfl (nt_gfR rfl (hq.1 (1, 9, 6) (by decide))) k
  have k := ly_revb 2 (c' := (123, [(0, .ref (q 1)), (1, .ref (r 1))], [.ref (q 1), .int (Int32.ofInt 0), .ref (q 6), .int (Int32.ofInt 0), .ref (r 6)], me_w M (nt_u1 (nt_u1 (nt_u1 (nt_u1 (nt_u (nt_u (nt_u (nt_u (nt_u J (q 1) 0 (J (r 1) 0)) (q 1) 1 (J (r 1) 1)) (q 1) 2 (J (r 1) 2)) (q 1) 3 (J (r 1) 3)) (q 1) 4 (J (r 1) 4)) (q 2) (va_cpy (J (r 2)) (J (q 2)) 0 0 24)) (q 3) (va_cpy (J (r 3)) (J (q 3)) 0 0 24)) (q 4) (va_cpy (J (r 4)) (J (q 4)) 0 0 24)) (q 5) (va_cpy (J (r 5)) (J (q 5)) 0 0 24)))) rfl k
  have k := lz_get (a := (q 1)) (g := 809) (M := me_w M (nt_u1 (nt_u1 (nt_u1 (nt_u1 (nt_u (nt_u (nt_u (nt_u (nt_u J (q 1) 0 (J (r 1) 0)) (q 1) 1 (J (r 1) 1)) (q 1) 2 (J (r 1) 2)) (q 1) 3 (J (r 1) 3)) (q 1) 4 (J (r 1) 4)) (q 2) (va_cpy (J (r 2)) (J (q 2)) 0 0 24)) (q 3) (va_cpy (J (r 3)) (J (q 3)) 0 0 24)) (q 4) (va_cpy (J (r 4)) (J (q 4)) 0 0 24)) (q 5) (va_cpy (J (r 5)) (J (q 5)) 0 0 24))) (v := .ref (q 6)) rfl (nt_gfR rfl (hq.1 (1, 9, 6) (by decide))) k
  have k := lz_len rfl (hq.2.2.1 6 (by omega)) k
  rw [show nt_l (me_w M (nt_u1 (nt_u1 (nt_u1 (nt_u1 (nt_u (nt_u (nt_u (nt_u (nt_u J (q 1) 0 (J (r 1) 0)) (q 1) 1 (J (r 1) 1)) (q 1) 2 (J (r 1) 2)) (q 1) 3 (J (r 1) 3)) (q 1) 4 (J (r 1) 4)) (q 2) (va_cpy (J (r 2)) (J (q 2)) 0 0 24)) (q 3) (va_cpy (J (r 3)) (J (q 3)) 0 0 24)) (q 4) (va_cpy (J (r 4)) (J (q 4)) 0 0 24)) (q 5) (va_cpy (J (r 5)) (J (q 5)) 0 0 24))) (q 6) = 8 from (hl (6, 8) (by decide))] at k
  have k : nt_rn X _ 90 (127, [(0, .ref (q 1)), (1, .ref (r 1))], [.int (Int32.ofNat 8), .int (Int32.ofInt 0), .ref (q 6), .int (Int32.ofInt 0), .ref (r 6)], me_w M (nt_u1 (nt_u1 (nt_u1 (nt_u1 (nt_u (nt_u (nt_u (nt_u (nt_u J (q 1) 0 (J (r 1) 0)) (q 1) 1 (J (r 1) 1)) (q 1) 2 (J (r 1) 2)) (q 1) 3 (J (r 1) 3)) (q 1) 4 (J (r 1) 4)) (q 2) (va_cpy (J (r 2)) (J (q 2)) 0 0 24)) (q 3) (va_cpy (J (r 3)) (J (q 3)) 0 0 24)) (q 4) (va_cpy (J (r 4)) (J (q 4)) 0 0 24)) (q 5) (va_cpy (J (r 5)) (J (q 5)) 0 0 24))) _ := k
  have k := mx_cpy (N := 8) (fS := J (r 6)) (fD := J (q 6)) rfl ((mu_1 (Ne.symm (hd 5 6 (by omega) (by omega)))).trans ((mu_1 (Ne.symm (hd 4 6 (by omega) (by omega)))).trans ((mu_1 (Ne.symm (hd 3 6 (by omega) (by omega)))).trans ((mu_1 (Ne.symm (hd 2 6 (by omega) (by omega)))).trans ((mu_o (Ne.symm (hd 1 6 (by omega) (by omega)))).trans ((mu_o (Ne.symm (hd 1 6 (by omega) (by omega)))).trans ((mu_o (Ne.symm (hd 1 6 (by omega) (by omega)))).trans ((mu_o (Ne.symm (hd 1 6 (by omega) (by omega)))).trans (mu_o (Ne.symm (hd 1 6 (by omega) (by omega)))))))))))) ((mu_1 (hq.2.1 6 5 (by omega) (by omega) (by decide))).trans ((mu_1 (hq.2.1 6 4 (by omega) (by omega) (by decide))).trans ((mu_1 (hq.2.1 6 3 (by omega) (by omega) (by decide))).trans ((mu_1 (hq.2.1 6 2 (by omega) (by omega) (by decide))).trans ((mu_o (hq.2.1 6 1 (by omega) (by omega) (by decide))).trans ((mu_o (hq.2.1 6 1 (by omega) (by omega) (by decide))).trans ((mu_o (hq.2.1 6 1 (by omega) (by omega) (by decide))).trans ((mu_o (hq.2.1 6 1 (by omega) (by omega) (by decide))).trans (mu_o (hq.2.1 6 1 (by omega) (by omega) (by decide))))))))))) rfl k
  have k : nt_rn X _ 90 (130, [(0, .ref (q 1)), (1, .ref (r 1))], [], me_w M (nt_u1 (nt_u1 (nt_u1 (nt_u1 (nt_u1 (nt_u (nt_u (nt_u (nt_u (nt_u J (q 1) 0 (J (r 1) 0)) (q 1) 1 (J (r 1) 1)) (q 1) 2 (J (r 1) 2)) (q 1) 3 (J (r 1) 3)) (q 1) 4 (J (r 1) 4)) (q 2) (va_cpy (J (r 2)) (J (q 2)) 0 0 24)) (q 3) (va_cpy (J (r 3)) (J (q 3)) 0 0 24)) (q 4) (va_cpy (J (r 4)) (J (q 4)) 0 0 24)) (q 5) (va_cpy (J (r 5)) (J (q 5)) 0 0 24)) (q 6) (va_cpy (J (r 6)) (J (q 6)) 0 0 8))) _ := k
  have k := ly_revb 1 (c' := (131, [(0, .ref (q 1)), (1, .ref (r 1))], [.ref (r 1)], me_w M (nt_u1 (nt_u1 (nt_u1 (nt_u1 (nt_u1 (nt_u (nt_u (nt_u (nt_u (nt_u J (q 1) 0 (J (r 1) 0)) (q 1) 1 (J (r 1) 1)) (q 1) 2 (J (r 1) 2)) (q 1) 3 (J (r 1) 3)) (q 1) 4 (J (r 1) 4)) (q 2) (va_cpy (J (r 2)) (J (q 2)) 0 0 24)) (q 3) (va_cpy (J (r 3)) (J (q 3)) 0 0 24)) (q 4) (va_cpy (J (r 4)) (J (q 4)) 0 0 24)) (q 5) (va_cpy (J (r 5)) (J (q 5)) 0 0 24)) (q 6) (va_cpy (J (r 6)) (J (q 6)) 0 0 8)))) rfl k
  have k := lz_get (a := (r 1)) (g := 810) (M := me_w M (nt_u1 (nt_u1 (nt_u1 (nt_u1 (nt_u1 (nt_u (nt_u (nt_u (nt_u (nt_u J (q 1) 0 (J (r 1) 0)) (q 1) 1 (J (r 1) 1)) (q 1) 2 (J (r 1) 2)) (q 1) 3 (J (r 1) 3)) (q 1) 4 (J (r 1) 4)) (q 2) (va_cpy (J (r 2)) (J (q 2)) 0 0 24)) (q 3) (va_cpy (J (r 3)) (J (q 3)) 0 0 24)) (q 4) (va_cpy (J (r 4)) (J (q 4)) 0 0 24)) (q 5) (va_cpy (J (r 5)) (J (q 5)) 0 0 24)) (q 6) (va_cpy (J (r 6)) (J (q 6)) 0 0 8))) (v := .ref (r 7)) rfl (nt_gfR rfl (hr.1 (1, 10, 7) (by decide))) k
  have k := ly_revb 2 (c' := (136, [(0, .ref (q 1)), (1, .ref (r 1))], [.ref (q 1), .int (Int32.ofInt 0), .ref (r 7)], me_w M (nt_u1 (nt_u1 (nt_u1 (nt_u1 (nt_u1 (nt_u (nt_u (nt_u (nt_u (nt_u J (q 1) 0 (J (r 1) 0)) (q 1) 1 (J (r 1) 1)) (q 1) 2 (J (r 1) 2)) (q 1) 3 (J (r 1) 3)) (q 1) 4 (J (r 1) 4)) (q 2) (va_cpy (J (r 2)) (J (q 2)) 0 0 24)) (q 3) (va_cpy (J (r 3)) (J (q 3)) 0 0 24)) (q 4) (va_cpy (J (r 4)) (J (q 4)) 0 0 24)) (q 5) (va_cpy (J (r 5)) (J (q 5)) 0 0 24)) (q 6) (va_cpy (J (r 6)) (J (q 6)) 0 0 8)))) rfl k
  have k := lz_get (a := (q 1)) (g := 810) (M := me_w M (nt_u1 (nt_u1 (nt_u1 (nt_u1 (nt_u1 (nt_u (nt_u (nt_u (nt_u (nt_u J (q 1) 0 (J (r 1) 0)) (q 1) 1 (J (r 1) 1)) (q 1) 2 (J (r 1) 2)) (q 1) 3 (J (r 1) 3)) (q 1) 4 (J (r 1) 4)) (q 2) (va_cpy (J (r 2)) (J (q 2)) 0 0 24)) (q 3) (va_cpy (J (r 3)) (J (q 3)) 0 0 24)) (q 4) (va_cpy (J (r 4)) (J (q 4)) 0 0 24)) (q 5) (va_cpy (J (r 5)) (J (q 5)) 0 0 24)) (q 6) (va_cpy (J (r 6)) (J (q 6)) 0 0 8))) (v := .ref (q 7)) rfl (nt_gfR rfl (hq.1 (1, 10, 7) (by decide))) k
  have k := ly_revb 2 (c' := (141, [(0, .ref (q 1)), (1, .ref (r 1))], [.ref (q 1), .int (Int32.ofInt 0), .ref (q 7), .int (Int32.ofInt 0), .ref (r 7)], me_w M (nt_u1 (nt_u1 (nt_u1 (nt_u1 (nt_u1 (nt_u (nt_u (nt_u (nt_u (nt_u J (q 1) 0 (J (r 1) 0)) (q 1) 1 (J (r 1) 1)) (q 1) 2 (J (r 1) 2)) (q 1) 3 (J (r 1) 3)) (q 1) 4 (J (r 1) 4)) (q 2) (va_cpy (J (r 2)) (J (q 2)) 0 0 24)) (q 3) (va_cpy (J (r 3)) (J (q 3)) 0 0 24)) (q 4) (va_cpy (J (r 4)) (J (q 4)) 0 0 24)) (q 5) (va_cpy (J (r 5)) (J (q 5)) 0 0 24)) (q 6) (va_cpy (J (r 6)) (J (q 6)) 0 0 8)))) rfl k
  have k := lz_get (a := (q 1)) (g := 810) (M := me_w M (nt_u1 (nt_u1 (nt_u1 (nt_u1 (nt_u1 (nt_u (nt_u (nt_u (nt_u (nt_u J (q 1) 0 (J (r 1) 0)) (q 1) 1 (J (r 1) 1)) (q 1) 2 (J (r 1) 2)) (q 1) 3 (J (r 1) 3)) (q 1) 4 (J (r 1) 4)) (q 2) (va_cpy (J (r 2)) (J (q 2)) 0 0 24)) (q 3) (va_cpy (J (r 3)) (J (q 3)) 0 0 24)) (q 4) (va_cpy (J (r 4)) (J (q 4)) 0 0 24)) (q 5) (va_cpy (J (r 5)) (J (q 5)) 0 0 24)) (q 6) (va_cpy (J (r 6)) (J (q 6)) 0 0 8))) (v := .ref (q 7)) rfl (nt_gfR rfl (hq.1 (1, 10, 7) (by decide))) k
  have k := lz_len rfl (hq.2.2.1 7 (by omega)) k
  rw [show nt_l (me_w M (nt_u1 (nt_u1 (nt_u1 (nt_u1 (nt_u1 (nt_u (nt_u (nt_u (nt_u (nt_u J (q 1) 0 (J (r 1) 0)) (q 1) 1 (J (r 1) 1)) (q 1) 2 (J (r 1) 2)) (q 1) 3 (J (r 1) 3)) (q 1) 4 (J (r 1) 4)) (q 2) (va_cpy (J (r 2)) (J (q 2)) 0 0 24)) (q 3) (va_cpy (J (r 3)) (J (q 3)) 0 0 24)) (q 4) (va_cpy (J (r 4)) (J (q 4)) 0 0 24)) (q 5) (va_cpy (J (r 5)) (J (q 5)) 0 0 24)) (q 6) (va_cpy (J (r 6)) (J (q 6)) 0 0 8))) (q 7) = 8 from (hl (7, 8) (by decide))] at k
  have k : nt_rn X _ 90 (145, [(0, .ref (q 1)), (1, .ref (r 1))], [.int (Int32.ofNat 8), .int (Int32.ofInt 0), .ref (q 7), .int (Int32.ofInt 0), .ref (r 7)], me_w M (nt_u1 (nt_u1 (nt_u1 (nt_u1 (nt_u1 (nt_u (nt_u (nt_u (nt_u (nt_u J (q 1) 0 (J (r 1) 0)) (q 1) 1 (J (r 1) 1)) (q 1) 2 (J (r 1) 2)) (q 1) 3 (J (r 1) 3)) (q 1) 4 (J (r 1) 4)) (q 2) (va_cpy (J (r 2)) (J (q 2)) 0 0 24)) (q 3) (va_cpy (J (r 3)) (J (q 3)) 0 0 24)) (q 4) (va_cpy (J (r 4)) (J (q 4)) 0 0 24)) (q 5) (va_cpy (J (r 5)) (J (q 5)) 0 0 24)) (q 6) (va_cpy (J (r 6)) (J (q 6)) 0 0 8))) _ := k
  have k := mx_cpy (N := 8) (fS := J (r 7)) (fD := J (q 7)) rfl ((mu_1 (Ne.symm (hd 6 7 (by omega) (by omega)))).trans ((mu_1 (Ne.symm (hd 5 7 (by omega) (by omega)))).trans ((mu_1 (Ne.symm (hd 4 7 (by omega) (by omega)))).trans ((mu_1 (Ne.symm (hd 3 7 (by omega) (by omega)))).trans ((mu_1 (Ne.symm (hd 2 7 (by omega) (by omega)))).trans ((mu_o (Ne.symm (hd 1 7 (by omega) (by omega)))).trans ((mu_o (Ne.symm (hd 1 7 (by omega) (by omega)))).trans ((mu_o (Ne.symm (hd 1 7 (by omega) (by omega)))).trans ((mu_o (Ne.symm (hd 1 7 (by omega) (by omega)))).trans (mu_o (Ne.symm (hd 1 7 (by omega) (by omega))))))))))))) ((mu_1 (hq.2.1 7 6 (by omega) (by omega) (by decide))).trans ((mu_1 (hq.2.1 7 5 (by omega) (by omega) (by decide))).trans ((mu_1 (hq.2.1 7 4 (by omega) (by omega) (by decide))).trans ((mu_1 (hq.2.1 7 3 (by omega) (by omega) (by decide))).trans ((mu_1 (hq.2.1 7 2 (by omega) (by omega) (by decide))).trans ((mu_o (hq.2.1 7 1 (by omega) (by omega) (by decide))).trans ((mu_o (hq.2.1 7 1 (by omega) (by omega) (by decide))).trans ((mu_o (hq.2.1 7 1 (by omega) (by omega) (by decide))).trans ((mu_o (hq.2.1 7 1 (by omega) (by omega) (by decide))).trans (mu_o (hq.2.1 7 1 (by omega) (by omega) (by decide)))))))))))) rfl k
  have k : nt_rn X _ 90 (148, [(0, .ref (q 1)), (1, .ref (r 1))], [], me_w M (nt_u1 (nt_u1 (nt_u1 (nt_u1 (nt_u1 (nt_u1 (nt_u (nt_u (nt_u (nt_u (nt_u J (q 1) 0 (J (r 1) 0)) (q 1) 1 (J (r 1) 1)) (q 1) 2 (J (r 1) 2)) (q 1) 3 (J (r 1) 3)) (q 1) 4 (J (r 1) 4)) (q 2) (va_cpy (J (r 2)) (J (q 2)) 0 0 24)) (q 3) (va_cpy (J (r 3)) (J (q 3)) 0 0 24)) (q 4) (va_cpy (J (r 4)) (J (q 4)) 0 0 24)) (q 5) (va_cpy (J (r 5)) (J (q 5)) 0 0 24)) (q 6) (va_cpy (J (r 6)) (J (q 6)) 0 0 8)) (q 7) (va_cpy (J (r 7)) (J (q 7)) 0 0 8))) _ := k
  have k := ly_revb 1 (c' := (149, [(0, .ref (q 1)), (1, .ref (r 1))], [.ref (r 1)], me_w M (nt_u1 (nt_u1 (nt_u1 (nt_u1 (nt_u1 (nt_u1 (nt_u (nt_u (nt_u (nt_u (nt_u J (q 1) 0 (J (r 1) 0)) (q 1) 1 (J (r 1) 1)) (q 1) 2 (J (r 1) 2)) (q 1) 3 (J (r 1) 3)) (q 1) 4 (J (r 1) 4)) (q 2) (va_cpy (J (r 2)) (J (q 2)) 0 0 24)) (q 3) (va_cpy (J (r 3)) (J (q 3)) 0 0 24)) (q 4) (va_cpy (J (r 4)) (J (q 4)) 0 0 24)) (q 5) (va_cpy (J (r 5)) (J (q 5)) 0 0 24)) (q 6) (va_cpy (J (r 6)) (J (q 6)) 0 0 8)) (q 7) (va_cpy (J (r 7)) (J (q 7)) 0 0 8)))) rfl k
  have k := lz_get (a := (r 1)) (g := 811) (M := me_w M (nt_u1 (nt_u1 (nt_u1 (nt_u1 (nt_u1 (nt_u1 (nt_u (nt_u (nt_u (nt_u (nt_u J (q 1) 0 (J (r 1) 0)) (q 1) 1 (J (r 1) 1)) (q 1) 2 (J (r 1) 2)) (q 1) 3 (J (r 1) 3)) (q 1) 4 (J (r 1) 4)) (q 2) (va_cpy (J (r 2)) (J (q 2)) 0 0 24)) (q 3) (va_cpy (J (r 3)) (J (q 3)) 0 0 24)) (q 4) (va_cpy (J (r 4)) (J (q 4)) 0 0 24)) (q 5) (va_cpy (J (r 5)) (J (q 5)) 0 0 24)) (q 6) (va_cpy (J (r 6)) (J (q 6)) 0 0 8)) (q 7) (va_cpy (J (r 7)) (J (q 7)) 0 0 8))) (v := .ref (r 8)) rfl (nt_gfR rfl (hr.1 (1, 11, 8) (by decide))) k
  have k := ly_revb 2 (c' := (154, [(0, .ref (q 1)), (1, .ref (r 1))], [.ref (q 1), .int (Int32.ofInt 0), .ref (r 8)], me_w M (nt_u1 (nt_u1 (nt_u1 (nt_u1 (nt_u1 (nt_u1 (nt_u (nt_u (nt_u (nt_u (nt_u J (q 1) 0 (J (r 1) 0)) (q 1) 1 (J (r 1) 1)) (q 1) 2 (J (r 1) 2)) (q 1) 3 (J (r 1) 3)) (q 1) 4 (J (r 1) 4)) (q 2) (va_cpy (J (r 2)) (J (q 2)) 0 0 24)) (q 3) (va_cpy (J (r 3)) (J (q 3)) 0 0 24)) (q 4) (va_cpy (J (r 4)) (J (q 4)) 0 0 24)) (q 5) (va_cpy (J (r 5)) (J (q 5)) 0 0 24)) (q 6) (va_cpy (J (r 6)) (J (q 6)) 0 0 8)) (q 7) (va_cpy (J (r 7)) (J (q 7)) 0 0 8)))) rfl k
  have k := lz_get (a := (q 1)) (g := 811) (M := me_w M (nt_u1 (nt_u1 (nt_u1 (nt_u1 (nt_u1 (nt_u1 (nt_u (nt_u (nt_u (nt_u (nt_u J (q 1) 0 (J (r 1) 0)) (q 1) 1 (J (r 1) 1)) (q 1) 2 (J (r 1) 2)) (q 1) 3 (J (r 1) 3)) (q 1) 4 (J (r 1) 4)) (q 2) (va_cpy (J (r 2)) (J (q 2)) 0 0 24)) (q 3) (va_cpy (J (r 3)) (J (q 3)) 0 0 24)) (q 4) (va_cpy (J (r 4)) (J (q 4)) 0 0 24)) (q 5) (va_cpy (J (r 5)) (J (q 5)) 0 0 24)) (q 6) (va_cpy (J (r 6)) (J (q 6)) 0 0 8)) (q 7) (va_cpy (J (r 7)) (J (q 7)) 0 0 8))) (v := .ref (q 8)) rfl (nt_gfR rfl (hq.1 (1, 11, 8) (by decide))) k
  have k := ly_revb 2 (c' := (159, [(0, .ref (q 1)), (1, .ref (r 1))], [.ref (q 1), .int (Int32.ofInt 0), .ref (q 8), .int (Int32.ofInt 0), .ref (r 8)], me_w M (nt_u1 (nt_u1 (nt_u1 (nt_u1 (nt_u1 (nt_u1 (nt_u (nt_u (nt_u (nt_u (nt_u J (q 1) 0 (J (r 1) 0)) (q 1) 1 (J (r 1) 1)) (q 1) 2 (J (r 1) 2)) (q 1) 3 (J (r 1) 3)) (q 1) 4 (J (r 1) 4)) (q 2) (va_cpy (J (r 2)) (J (q 2)) 0 0 24)) (q 3) (va_cpy (J (r 3)) (J (q 3)) 0 0 24)) (q 4) (va_cpy (J (r 4)) (J (q 4)) 0 0 24)) (q 5) (va_cpy (J (r 5)) (J (q 5)) 0 0 24)) (q 6) (va_cpy (J (r 6)) (J (q 6)) 0 0 8)) (q 7) (va_cpy (J (r 7)) (J (q 7)) 0 0 8)))) rfl k
  have k := lz_get (a := (q 1)) (g := 811) (M := me_w M (nt_u1 (nt_u1 (nt_u1 (nt_u1 (nt_u1 (nt_u1 (nt_u (nt_u (nt_u (nt_u (nt_u J (q 1) 0 (J (r 1) 0)) (q 1) 1 (J (r 1) 1)) (q 1) 2 (J (r 1) 2)) (q 1) 3 (J (r 1) 3)) (q 1) 4 (J (r 1) 4)) (q 2) (va_cpy (J (r 2)) (J (q 2)) 0 0 24)) (q 3) (va_cpy (J (r 3)) (J (q 3)) 0 0 24)) (q 4) (va_cpy (J (r 4)) (J (q 4)) 0 0 24)) (q 5) (va_cpy (J (r 5)) (J (q 5)) 0 0 24)) (q 6) (va_cpy (J (r 6)) (J (q 6)) 0 0 8)) (q 7) (va_cpy (J (r 7)) (J (q 7)) 0 0 8))) (v := .ref (q 8)) rfl (nt_gfR rfl (hq.1 (1, 11, 8) (by decide))) k
  have k := lz_len rfl (hq.2.2.1 8 (by omega)) k
  rw [show nt_l (me_w M (nt_u1 (nt_u1 (nt_u1 (nt_u1 (nt_u1 (nt_u1 (nt_u (nt_u (nt_u (nt_u (nt_u J (q 1) 0 (J (r 1) 0)) (q 1) 1 (J (r 1) 1)) (q 1) 2 (J (r 1) 2)) (q 1) 3 (J (r 1) 3)) (q 1) 4 (J (r 1) 4)) (q 2) (va_cpy (J (r 2)) (J (q 2)) 0 0 24)) (q 3) (va_cpy (J (r 3)) (J (q 3)) 0 0 24)) (q 4) (va_cpy (J (r 4)) (J (q 4)) 0 0 24)) (q 5) (va_cpy (J (r 5)) (J (q 5)) 0 0 24)) (q 6) (va_cpy (J (r 6)) (J (q 6)) 0 0 8)) (q 7) (va_cpy (J (r 7)) (J (q 7)) 0 0 8))) (q 8) = 8 from (hl (8, 8) (by decide))] at k
  have k : nt_rn X _ 90 (163, [(0, .ref (q 1)), (1, .ref (r 1))], [.int (Int32.ofNat 8), .int (Int32.ofInt 0), .ref (q 8), .int (Int32.ofInt 0), .ref (r 8)], me_w M (nt_u1 (nt_u1 (nt_u1 (nt_u1 (nt_u1 (nt_u1 (nt_u (nt_u (nt_u (nt_u (nt_u J (q 1) 0 (J (r 1) 0)) (q 1) 1 (J (r 1) 1)) (q 1) 2 (J (r 1) 2)) (q 1) 3 (J (r 1) 3)) (q 1) 4 (J (r 1) 4)) (q 2) (va_cpy (J (r 2)) (J (q 2)) 0 0 24)) (q 3) (va_cpy (J (r 3)) (J (q 3)) 0 0 24)) (q 4) (va_cpy (J (r 4)) (J (q 4)) 0 0 24)) (q 5) (va_cpy (J (r 5)) (J (q 5)) 0 0 24)) (q 6) (va_cpy (J (r 6)) (J (q 6)) 0 0 8)) (q 7) (va_cpy (J (r 7)) (J (q 7)) 0 0 8))) _ := k
  have k := mx_cpy (N := 8) (fS := J (r 8)) (fD := J (q 8)) rfl ((mu_1 (Ne.symm (hd 7 8 (by omega) (by omega)))).trans ((mu_1 (Ne.symm (hd 6 8 (by omega) (by omega)))).trans ((mu_1 (Ne.symm (hd 5 8 (by omega) (by omega)))).trans ((mu_1 (Ne.symm (hd 4 8 (by omega) (by omega)))).trans ((mu_1 (Ne.symm (hd 3 8 (by omega) (by omega)))).trans ((mu_1 (Ne.symm (hd 2 8 (by omega) (by omega)))).trans ((mu_o (Ne.symm (hd 1 8 (by omega) (by omega)))).trans ((mu_o (Ne.symm (hd 1 8 (by omega) (by omega)))).trans ((mu_o (Ne.symm (hd 1 8 (by omega) (by omega)))).trans ((mu_o (Ne.symm (hd 1 8 (by omega) (by omega)))).trans (mu_o (Ne.symm (hd 1 8 (by omega) (by omega)))))))))))))) ((mu_1 (hq.2.1 8 7 (by omega) (by omega) (by decide))).trans ((mu_1 (hq.2.1 8 6 (by omega) (by omega) (by decide))).trans ((mu_1 (hq.2.1 8 5 (by omega) (by omega) (by decide))).trans ((mu_1 (hq.2.1 8 4 (by omega) (by omega) (by decide))).trans ((mu_1 (hq.2.1 8 3 (by omega) (by omega) (by decide))).trans ((mu_1 (hq.2.1 8 2 (by omega) (by omega) (by decide))).trans ((mu_o (hq.2.1 8 1 (by omega) (by omega) (by decide))).trans ((mu_o (hq.2.1 8 1 (by omega) (by omega) (by decide))).trans ((mu_o (hq.2.1 8 1 (by omega) (by omega) (by decide))).trans ((mu_o (hq.2.1 8 1 (by omega) (by omega) (by decide))).trans (mu_o (hq.2.1 8 1 (by omega) (by omega) (by decide))))))))))))) rfl k
  have k : nt_rn X _ 90 (166, [(0, .ref (q 1)), (1, .ref (r 1))], [], me_w M (nt_u1 (nt_u1 (nt_u1 (nt_u1 (nt_u1 (nt_u1 (nt_u1 (nt_u (nt_u (nt_u (nt_u (nt_u J (q 1) 0 (J (r 1) 0)) (q 1) 1 (J (r 1) 1)) (q 1) 2 (J (r 1) 2)) (q 1) 3 (J (r 1) 3)) (q 1) 4 (J (r 1) 4)) (q 2) (va_cpy (J (r 2)) (J (q 2)) 0 0 24)) (q 3) (va_cpy (J (r 3)) (J (q 3)) 0 0 24)) (q 4) (va_cpy (J (r 4)) (J (q 4)) 0 0 24)) (q 5) (va_cpy (J (r 5)) (J (q 5)) 0 0 24)) (q 6) (va_cpy (J (r 6)) (J (q 6)) 0 0 8)) (q 7) (va_cpy (J (r 7)) (J (q 7)) 0 0 8)) (q 8) (va_cpy (J (r 8)) (J (q 8)) 0 0 8))) _ := k
  have k := ly_revb 1 (c' := (167, [(0, .ref (q 1)), (1, .ref (r 1))], [.ref (r 1)], me_w M (nt_u1 (nt_u1 (nt_u1 (nt_u1 (nt_u1 (nt_u1 (nt_u1 (nt_u (nt_u (nt_u (nt_u (nt_u J (q 1) 0 (J (r 1) 0)) (q 1) 1 (J (r 1) 1)) (q 1) 2 (J (r 1) 2)) (q 1) 3 (J (r 1) 3)) (q 1) 4 (J (r 1) 4)) (q 2) (va_cpy (J (r 2)) (J (q 2)) 0 0 24)) (q 3) (va_cpy (J (r 3)) (J (q 3)) 0 0 24)) (q 4) (va_cpy (J (r 4)) (J (q 4)) 0 0 24)) (q 5) (va_cpy (J (r 5)) (J (q 5)) 0 0 24)) (q 6) (va_cpy (J (r 6)) (J (q 6)) 0 0 8)) (q 7) (va_cpy (J (r 7)) (J (q 7)) 0 0 8)) (q 8) (va_cpy (J (r 8)) (J (q 8)) 0 0 8)))) rfl k
  have k := lz_get (a := (r 1)) (g := 812) (M := me_w M (nt_u1 (nt_u1 (nt_u1 (nt_u1 (nt_u1 (nt_u1 (nt_u1 (nt_u (nt_u (nt_u (nt_u (nt_u J (q 1) 0 (J (r 1) 0)) (q 1) 1 (J (r 1) 1)) (q 1) 2 (J (r 1) 2)) (q 1) 3 (J (r 1) 3)) (q 1) 4 (J (r 1) 4)) (q 2) (va_cpy (J (r 2)) (J (q 2)) 0 0 24)) (q 3) (va_cpy (J (r 3)) (J (q 3)) 0 0 24)) (q 4) (va_cpy (J (r 4)) (J (q 4)) 0 0 24)) (q 5) (va_cpy (J (r 5)) (J (q 5)) 0 0 24)) (q 6) (va_cpy (J (r 6)) (J (q 6)) 0 0 8)) (q 7) (va_cpy (J (r 7)) (J (q 7)) 0 0 8)) (q 8) (va_cpy (J (r 8)) (J (q 8)) 0 0 8))) (v := .ref (r 9)) rfl (nt_gfR rfl (hr.1 (1, 12, 9) (by decide))) k
  have k := ly_revb 2 (c' := (172, [(0, .ref (q 1)), (1, .ref (r 1))], [.ref (q 1), .int (Int32.ofInt 0), .ref (r 9)], me_w M (nt_u1 (nt_u1 (nt_u1 (nt_u1 (nt_u1 (nt_u1 (nt_u1 (nt_u (nt_u (nt_u (nt_u (nt_u J (q 1) 0 (J (r 1) 0)) (q 1) 1 (J (r 1) 1)) (q 1) 2 (J (r 1) 2)) (q 1) 3 (J (r 1) 3)) (q 1) 4 (J (r 1) 4)) (q 2) (va_cpy (J (r 2)) (J (q 2)) 0 0 24)) (q 3) (va_cpy (J (r 3)) (J (q 3)) 0 0 24)) (q 4) (va_cpy (J (r 4)) (J (q 4)) 0 0 24)) (q 5) (va_cpy (J (r 5)) (J (q 5)) 0 0 24)) (q 6) (va_cpy (J (r 6)) (J (q 6)) 0 0 8)) (q 7) (va_cpy (J (r 7)) (J (q 7)) 0 0 8)) (q 8) (va_cpy (J (r 8)) (J (q 8)) 0 0 8)))) rfl k
  have k := lz_get (a := (q 1)) (g := 812) (M := me_w M (nt_u1 (nt_u1 (nt_u1 (nt_u1 (nt_u1 (nt_u1 (nt_u1 (nt_u (nt_u (nt_u (nt_u (nt_u J (q 1) 0 (J (r 1) 0)) (q 1) 1 (J (r 1) 1)) (q 1) 2 (J (r 1) 2)) (q 1) 3 (J (r 1) 3)) (q 1) 4 (J (r 1) 4)) (q 2) (va_cpy (J (r 2)) (J (q 2)) 0 0 24)) (q 3) (va_cpy (J (r 3)) (J (q 3)) 0 0 24)) (q 4) (va_cpy (J (r 4)) (J (q 4)) 0 0 24)) (q 5) (va_cpy (J (r 5)) (J (q 5)) 0 0 24)) (q 6) (va_cpy (J (r 6)) (J (q 6)) 0 0 8)) (q 7) (va_cpy (J (r 7)) (J (q 7)) 0 0 8)) (q 8) (va_cpy (J (r 8)) (J (q 8)) 0 0 8))) (v := .ref (q 9)) rfl (nt_gfR rfl (hq.1 (1, 12, 9) (by decide))) k
  have k := ly_revb 2 (c' := (177, [(0, .ref (q 1)), (1, .ref (r 1))], [.ref (q 1), .int (Int32.ofInt 0), .ref (q 9), .int (Int32.ofInt 0), .ref (r 9)], me_w M (nt_u1 (nt_u1 (nt_u1 (nt_u1 (nt_u1 (nt_u1 (nt_u1 (nt_u (nt_u (nt_u (nt_u (nt_u J (q 1) 0 (J (r 1) 0)) (q 1) 1 (J (r 1) 1)) (q 1) 2 (J (r 1) 2)) (q 1) 3 (J (r 1) 3)) (q 1) 4 (J (r 1) 4)) (q 2) (va_cpy (J (r 2)) (J (q 2)) 0 0 24)) (q 3) (va_cpy (J (r 3)) (J (q 3)) 0 0 24)) (q 4) (va_cpy (J (r 4)) (J (q 4)) 0 0 24)) (q 5) (va_cpy (J (r 5)) (J (q 5)) 0 0 24)) (q 6) (va_cpy (J (r 6)) (J (q 6)) 0 0 8)) (q 7) (va_cpy (J (r 7)) (J (q 7)) 0 0 8)) (q 8) (va_cpy (J (r 8)) (J (q 8)) 0 0 8)))) rfl k
  have k := lz_get (a := (q 1)) (g := 812) (M := me_w M (nt_u1 (nt_u1 (nt_u1 (nt_u1 (nt_u1 (nt_u1 (nt_u1 (nt_u (nt_u (nt_u (nt_u (nt_u J (q 1) 0 (J (r 1) 0)) (q 1) 1 (J (r 1) 1)) (q 1) 2 (J (r 1) 2)) (q 1) 3 (J (r 1) 3)) (q 1) 4 (J (r 1) 4)) (q 2) (va_cpy (J (r 2)) (J (q 2)) 0 0 24)) (q 3) (va_cpy (J (r 3)) (J (q 3)) 0 0 24)) (q 4) (va_cpy (J (r 4)) (J (q 4)) 0 0 24)) (q 5) (va_cpy (J (r 5)) (J (q 5)) 0 0 24)) (q 6) (va_cpy (J (r 6)) (J (q 6)) 0 0 8)) (q 7) (va_cpy (J (r 7)) (J (q 7)) 0 0 8)) (q 8) (va_cpy (J (r 8)) (J (q 8)) 0 0 8))) (v := .ref (q 9)) rfl (nt_gfR rfl (hq.1 (1, 12, 9) (by decide))) k
  have k := lz_len rfl (hq.2.2.1 9 (by omega)) k
  rw [show nt_l (me_w M (nt_u1 (nt_u1 (nt_u1 (nt_u1 (nt_u1 (nt_u1 (nt_u1 (nt_u (nt_u (nt_u (nt_u (nt_u J (q 1) 0 (J (r 1) 0)) (q 1) 1 (J (r 1) 1)) (q 1) 2 (J (r 1) 2)) (q 1) 3 (J (r 1) 3)) (q 1) 4 (J (r 1) 4)) (q 2) (va_cpy (J (r 2)) (J (q 2)) 0 0 24)) (q 3) (va_cpy (J (r 3)) (J (q 3)) 0 0 24)) (q 4) (va_cpy (J (r 4)) (J (q 4)) 0 0 24)) (q 5) (va_cpy (J (r 5)) (J (q 5)) 0 0 24)) (q 6) (va_cpy (J (r 6)) (J (q 6)) 0 0 8)) (q 7) (va_cpy (J (r 7)) (J (q 7)) 0 0 8)) (q 8) (va_cpy (J (r 8)) (J (q 8)) 0 0 8))) (q 9) = 8 from (hl (9, 8) (by decide))] at k
  have k : nt_rn X _ 90 (181, [(0, .ref (q 1)), (1, .ref (r 1))], [.int (Int32.ofNat 8), .int (Int32.ofInt 0), .ref (q 9), .int (Int32.ofInt 0), .ref (r 9)], me_w M (nt_u1 (nt_u1 (nt_u1 (nt_u1 (nt_u1 (nt_u1 (nt_u1 (nt_u (nt_u (nt_u (nt_u (nt_u J (q 1) 0 (J (r 1) 0)) (q 1) 1 (J (r 1) 1)) (q 1) 2 (J (r 1) 2)) (q 1) 3 (J (r 1) 3)) (q 1) 4 (J (r 1) 4)) (q 2) (va_cpy (J (r 2)) (J (q 2)) 0 0 24)) (q 3) (va_cpy (J (r 3)) (J (q 3)) 0 0 24)) (q 4) (va_cpy (J (r 4)) (J (q 4)) 0 0 24)) (q 5) (va_cpy (J (r 5)) (J (q 5)) 0 0 24)) (q 6) (va_cpy (J (r 6)) (J (q 6)) 0 0 8)) (q 7) (va_cpy (J (r 7)) (J (q 7)) 0 0 8)) (q 8) (va_cpy (J (r 8)) (J (q 8)) 0 0 8))) _ := k
  have k := mx_cpy (N := 8) (fS := J (r 9)) (fD := J (q 9)) rfl ((mu_1 (Ne.symm (hd 8 9 (by omega) (by omega)))).trans ((mu_1 (Ne.symm (hd 7 9 (by omega) (by omega)))).trans ((mu_1 (Ne.symm (hd 6 9 (by omega) (by omega)))).trans ((mu_1 (Ne.symm (hd 5 9 (by omega) (by omega)))).trans ((mu_1 (Ne.symm (hd 4 9 (by omega) (by omega)))).trans ((mu_1 (Ne.symm (hd 3 9 (by omega) (by omega)))).trans ((mu_1 (Ne.symm (hd 2 9 (by omega) (by omega)))).trans ((mu_o (Ne.symm (hd 1 9 (by omega) (by omega)))).trans ((mu_o (Ne.symm (hd 1 9 (by omega) (by omega)))).trans ((mu_o (Ne.symm (hd 1 9 (by omega) (by omega)))).trans ((mu_o (Ne.symm (hd 1 9 (by omega) (by omega)))).trans (mu_o (Ne.symm (hd 1 9 (by omega) (by omega))))))))))))))) ((mu_1 (hq.2.1 9 8 (by omega) (by omega) (by decide))).trans ((mu_1 (hq.2.1 9 7 (by omega) (by omega) (by decide))).trans ((mu_1 (hq.2.1 9 6 (by omega) (by omega) (by decide))).trans ((mu_1 (hq.2.1 9 5 (by omega) (by omega) (by decide))).trans ((mu_1 (hq.2.1 9 4 (by omega) (by omega) (by decide))).trans ((mu_1 (hq.2.1 9 3 (by omega) (by omega) (by decide))).trans ((mu_1 (hq.2.1 9 2 (by omega) (by omega) (by decide))).trans ((mu_o (hq.2.1 9 1 (by omega) (by omega) (by decide))).trans ((mu_o (hq.2.1 9 1 (by omega) (by omega) (by decide))).trans ((mu_o (hq.2.1 9 1 (by omega) (by omega) (by decide))).trans ((mu_o (hq.2.1 9 1 (by omega) (by omega) (by decide))).trans (mu_o (hq.2.1 9 1 (by omega) (by omega) (by decide)))))))))))))) rfl k
  have k : nt_rn X _ 90 (184, [(0, .ref (q 1)), (1, .ref (r 1))], [], me_w M (nt_u1 (nt_u1 (nt_u1 (nt_u1 (nt_u1 (nt_u1 (nt_u1 (nt_u1 (nt_u (nt_u (nt_u (nt_u (nt_u J (q 1) 0 (J (r 1) 0)) (q 1) 1 (J (r 1) 1)) (q 1) 2 (J (r 1) 2)) (q 1) 3 (J (r 1) 3)) (q 1) 4 (J (r 1) 4)) (q 2) (va_cpy (J (r 2)) (J (q 2)) 0 0 24)) (q 3) (va_cpy (J (r 3)) (J (q 3)) 0 0 24)) (q 4) (va_cpy (J (r 4)) (J (q 4)) 0 0 24)) (q 5) (va_cpy (J (r 5)) (J (q 5)) 0 0 24)) (q 6) (va_cpy (J (r 6)) (J (q 6)) 0 0 8)) (q 7) (va_cpy (J (r 7)) (J (q 7)) 0 0 8)) (q 8) (va_cpy (J (r 8)) (J (q 8)) 0 0 8)) (q 9) (va_cpy (J (r 9)) (J (q 9)) 0 0 8))) _ := k
  have k := lz_rv rfl rfl k
  rw [k, x90]
theorem x90_frJ {q : Nat → Nat} {r : Nat → Nat} {J : Nat → Nat → Int32} {b : Nat} (n0 : b ≠ q 1) (n1 : b ≠ q 2) (n2 : b ≠ q 3) (n3 : b ≠ q 4) (n4 : b ≠ q 5) (n5 : b ≠ q 6) (n6 : b ≠ q 7) (n7 : b ≠ q 8) (n8 : b ≠ q 9) : x90 q r J b = J b := by
  unfold x90
  all_goals first | (dsimp only; exact (show (nt_u1 (nt_u1 (nt_u1 (nt_u1 (nt_u1 (nt_u1 (nt_u1 (nt_u1 (nt_u (nt_u (nt_u (nt_u (nt_u J (q 1) 0 (J (r 1) 0)) (q 1) 1 (J (r 1) 1)) (q 1) 2 (J (r 1) 2)) (q 1) 3 (J (r 1) 3)) (q 1) 4 (J (r 1) 4)) (q 2) (va_cpy (J (r 2)) (J (q 2)) 0 0 24)) (q 3) (va_cpy (J (r 3)) (J (q 3)) 0 0 24)) (q 4) (va_cpy (J (r 4)) (J (q 4)) 0 0 24)) (q 5) (va_cpy (J (r 5)) (J (q 5)) 0 0 24)) (q 6) (va_cpy (J (r 6)) (J (q 6)) 0 0 8)) (q 7) (va_cpy (J (r 7)) (J (q 7)) 0 0 8)) (q 8) (va_cpy (J (r 8)) (J (q 8)) 0 0 8)) (q 9) (va_cpy (J (r 9)) (J (q 9)) 0 0 8)) b = J b from (mu_1 n8).trans ((mu_1 n7).trans ((mu_1 n6).trans ((mu_1 n5).trans ((mu_1 n4).trans ((mu_1 n3).trans ((mu_1 n2).trans ((mu_1 n1).trans ((mu_o n0).trans ((mu_o n0).trans ((mu_o n0).trans ((mu_o n0).trans (mu_o n0)))))))))))))) | exact (show (nt_u1 (nt_u1 (nt_u1 (nt_u1 (nt_u1 (nt_u1 (nt_u1 (nt_u1 (nt_u (nt_u (nt_u (nt_u (nt_u J (q 1) 0 (J (r 1) 0)) (q 1) 1 (J (r 1) 1)) (q 1) 2 (J (r 1) 2)) (q 1) 3 (J (r 1) 3)) (q 1) 4 (J (r 1) 4)) (q 2) (va_cpy (J (r 2)) (J (q 2)) 0 0 24)) (q 3) (va_cpy (J (r 3)) (J (q 3)) 0 0 24)) (q 4) (va_cpy (J (r 4)) (J (q 4)) 0 0 24)) (q 5) (va_cpy (J (r 5)) (J (q 5)) 0 0 24)) (q 6) (va_cpy (J (r 6)) (J (q 6)) 0 0 8)) (q 7) (va_cpy (J (r 7)) (J (q 7)) 0 0 8)) (q 8) (va_cpy (J (r 8)) (J (q 8)) 0 0 8)) (q 9) (va_cpy (J (r 9)) (J (q 9)) 0 0 8)) b = J b from (mu_1 n8).trans ((mu_1 n7).trans ((mu_1 n6).trans ((mu_1 n5).trans ((mu_1 n4).trans ((mu_1 n3).trans ((mu_1 n2).trans ((mu_1 n1).trans ((mu_o n0).trans ((mu_o n0).trans ((mu_o n0).trans ((mu_o n0).trans (mu_o n0)))))))))))))
/-! $State.copy -/
def x80 (q : Nat → Nat) (r : Nat → Nat) (J : Nat → Nat → Int32) : (Nat → Nat → Int32) := (nt_u1 (nt_u1 (nt_u1 (nt_u1 (nt_u1 (nt_u1 (nt_u1 (nt_u (nt_u (nt_u (nt_u (nt_u (nt_u (x90 q r J) (q 0) 1 (J (r 0) 1)) (q 0) 2 (J (r 0) 2)) (q 0) 3 (J (r 0) 3)) (q 0) 4 (J (r 0) 4)) (q 0) 5 (J (r 0) 5)) (q 0) 6 (J (r 0) 6)) (q 10) (va_cpy (J (r 10)) (J (q 10)) 0 0 6)) (q 11) (va_cpy (J (r 11)) (J (q 11)) 0 0 6)) (q 12) (va_cpy (J (r 12)) (J (q 12)) 0 0 6)) (q 13) (va_cpy (J (r 13)) (J (q 13)) 0 0 24)) (q 14) (va_cpy (J (r 14)) (J (q 14)) 0 0 24)) (q 15) (va_cpy (J (r 15)) (J (q 15)) 0 0 24)) (q 16) (va_cpy (J (r 16)) (J (q 16)) 0 0 8))
theorem xt80 {X : nt_X} {d : Nat} {M : nt_M} {o : Option Value × nt_M} {q : Nat → Nat} {r : Nat → Nat} {J : Nat → Nat → Int32} (hq : xs_Q M q) (hr : xs_Q M r) (hd : ∀ i j, i < 17 → j < 17 → q i ≠ r j) (hl : xs_N M q) (k : nt_ev X d 80 [.ref (q 0), .ref (r 0)] (me_w M J) o) : o = (none, me_w M (x80 q r J)) := by
  have k : nt_rn X d 80 (0, [(0, .ref (q 0)), (1, .ref (r 0))], [], me_w M J) o := k
  have k := ly_revb 1 (c' := (1, [(0, .ref (q 0)), (1, .ref (r 0))], [.ref (q 0)], me_w M J)) rfl k
  have k := lz_get (a := (q 0)) (g := 600) (M := me_w M J) (v := .ref (q 1)) rfl (nt_gfR rfl (hq.1 (0, 0, 1) (by decide))) k
  have k := ly_revb 1 (c' := (5, [(0, .ref (q 0)), (1, .ref (r 0))], [.ref (r 0), .ref (q 1)], me_w M J)) rfl k
  have k := lz_get (a := (r 0)) (g := 600) (M := me_w M J) (v := .ref (r 1)) rfl (nt_gfR rfl (hr.1 (0, 0, 1) (by decide))) k
  obtain ⟨d1, o1, ed, kc, k⟩ := lz_c (g := 90) (q := 1) (vs := [.ref (q 1), .ref (r 1)]) (rest := []) rfl rfl (by decide) (Or.inr (Or.inl ⟨_, rfl, rfl⟩)) rfl k
  have e1 := xt90 hq hr hd hl kc
  subst e1
  have k : nt_rn X _ 80 (11, [(0, .ref (q 0)), (1, .ref (r 0))], [], me_w M (x90 q r J)) _ := k
  have k := ly_revb 2 (c' := (13, [(0, .ref (q 0)), (1, .ref (r 0))], [.ref (r 0), .ref (q 0)], me_w M (x90 q r J))) rfl k
  have k := lz_get (a := (r 0)) (g := 601) (M := me_w M (x90 q r J)) (v := .int (J (r 0) 1)) rfl (congrArg Value.int (congrFun (x90_frJ  (Ne.symm (hd 1 0 (by omega) (by omega))) (Ne.symm (hd 2 0 (by omega) (by omega))) (Ne.symm (hd 3 0 (by omega) (by omega))) (Ne.symm (hd 4 0 (by omega) (by omega))) (Ne.symm (hd 5 0 (by omega) (by omega))) (Ne.symm (hd 6 0 (by omega) (by omega))) (Ne.symm (hd 7 0 (by omega) (by omega))) (Ne.symm (hd 8 0 (by omega) (by omega))) (Ne.symm (hd 9 0 (by omega) (by omega)))) 1)) k
  have k := me_put rfl (by decide) k
  have k : nt_rn X _ 80 (19, [(0, .ref (q 0)), (1, .ref (r 0))], [], me_w M (nt_u (x90 q r J) (q 0) 1 (J (r 0) 1))) _ := k
  have k := ly_revb 2 (c' := (21, [(0, .ref (q 0)), (1, .ref (r 0))], [.ref (r 0), .ref (q 0)], me_w M (nt_u (x90 q r J) (q 0) 1 (J (r 0) 1)))) rfl k
  have k := lz_get (a := (r 0)) (g := 602) (M := me_w M (nt_u (x90 q r J) (q 0) 1 (J (r 0) 1))) (v := .int (J (r 0) 2)) rfl (congrArg Value.int ((mu_j (Ne.symm (hd 0 0 (by omega) (by omega)))).trans (congrFun (x90_frJ  (Ne.symm (hd 1 0 (by omega) (by omega))) (Ne.symm (hd 2 0 (by omega) (by omega))) (Ne.symm (hd 3 0 (by omega) (by omega))) (Ne.symm (hd 4 0 (by omega) (by omega))) (Ne.symm (hd 5 0 (by omega) (by omega))) (Ne.symm (hd 6 0 (by omega) (by omega))) (Ne.symm (hd 7 0 (by omega) (by omega))) (Ne.symm (hd 8 0 (by omega) (by omega))) (Ne.symm (hd 9 0 (by omega) (by omega)))) 2))) k
  have k := me_put rfl (by decide) k
  have k : nt_rn X _ 80 (27, [(0, .ref (q 0)), (1, .ref (r 0))], [], me_w M (nt_u (nt_u (x90 q r J) (q 0) 1 (J (r 0) 1)) (q 0) 2 (J (r 0) 2))) _ := k
  have k := ly_revb 2 (c' := (29, [(0, .ref (q 0)), (1, .ref (r 0))], [.ref (r 0), .ref (q 0)], me_w M (nt_u (nt_u (x90 q r J) (q 0) 1 (J (r 0) 1)) (q 0) 2 (J (r 0) 2)))) rfl k
  have k := lz_get (a := (r 0)) (g := 603) (M := me_w M (nt_u (nt_u (x90 q r J) (q 0) 1 (J (r 0) 1)) (q 0) 2 (J (r 0) 2))) (v := .int (J (r 0) 3)) rfl (congrArg Value.int ((mu_j (Ne.symm (hd 0 0 (by omega) (by omega)))).trans ((mu_j (Ne.symm (hd 0 0 (by omega) (by omega)))).trans (congrFun (x90_frJ  (Ne.symm (hd 1 0 (by omega) (by omega))) (Ne.symm (hd 2 0 (by omega) (by omega))) (Ne.symm (hd 3 0 (by omega) (by omega))) (Ne.symm (hd 4 0 (by omega) (by omega))) (Ne.symm (hd 5 0 (by omega) (by omega))) (Ne.symm (hd 6 0 (by omega) (by omega))) (Ne.symm (hd 7 0 (by omega) (by omega))) (Ne.symm (hd 8 0 (by omega) (by omega))) (Ne.symm (hd 9 0 (by omega) (by omega)))) 3)))) k
  have k := me_put rfl (by decide) k
  have k : nt_rn X _ 80 (35, [(0, .ref (q 0)), (1, .ref (r 0))], [], me_w M (nt_u (nt_u (nt_u (x90 q r J) (q 0) 1 (J (r 0) 1)) (q 0) 2 (J (r 0) 2)) (q 0) 3 (J (r 0) 3))) _ := k
  have k := ly_revb 2 (c' := (37, [(0, .ref (q 0)), (1, .ref (r 0))], [.ref (r 0), .ref (q 0)], me_w M (nt_u (nt_u (nt_u (x90 q r J) (q 0) 1 (J (r 0) 1)) (q 0) 2 (J (r 0) 2)) (q 0) 3 (J (r 0) 3)))) rfl k
  have k := lz_get (a := (r 0)) (g := 604) (M := me_w M (nt_u (nt_u (nt_u (x90 q r J) (q 0) 1 (J (r 0) 1)) (q 0) 2 (J (r 0) 2)) (q 0) 3 (J (r 0) 3))) (v := .int (J (r 0) 4)) rfl (congrArg Value.int ((mu_j (Ne.symm (hd 0 0 (by omega) (by omega)))).trans ((mu_j (Ne.symm (hd 0 0 (by omega) (by omega)))).trans ((mu_j (Ne.symm (hd 0 0 (by omega) (by omega)))).trans (congrFun (x90_frJ  (Ne.symm (hd 1 0 (by omega) (by omega))) (Ne.symm (hd 2 0 (by omega) (by omega))) (Ne.symm (hd 3 0 (by omega) (by omega))) (Ne.symm (hd 4 0 (by omega) (by omega))) (Ne.symm (hd 5 0 (by omega) (by omega))) (Ne.symm (hd 6 0 (by omega) (by omega))) (Ne.symm (hd 7 0 (by omega) (by omega))) (Ne.symm (hd 8 0 (by omega) (by omega))) (Ne.symm (hd 9 0 (by omega) (by omega)))) 4))))) k
  have k := me_put rfl (by decide) k
  have k : nt_rn X _ 80 (43, [(0, .ref (q 0)), (1, .ref (r 0))], [], me_w M (nt_u (nt_u (nt_u (nt_u (x90 q r J) (q 0) 1 (J (r 0) 1)) (q 0) 2 (J (r 0) 2)) (q 0) 3 (J (r 0) 3)) (q 0) 4 (J (r 0) 4))) _ := k
  have k := ly_revb 2 (c' := (45, [(0, .ref (q 0)), (1, .ref (r 0))], [.ref (r 0), .ref (q 0)], me_w M (nt_u (nt_u (nt_u (nt_u (x90 q r J) (q 0) 1 (J (r 0) 1)) (q 0) 2 (J (r 0) 2)) (q 0) 3 (J (r 0) 3)) (q 0) 4 (J (r 0) 4)))) rfl k
  have k := lz_get (a := (r 0)) (g := 605) (M := me_w M (nt_u (nt_u (nt_u (nt_u (x90 q r J) (q 0) 1 (J (r 0) 1)) (q 0) 2 (J (r 0) 2)) (q 0) 3 (J (r 0) 3)) (q 0) 4 (J (r 0) 4))) (v := .int (J (r 0) 5)) rfl (congrArg Value.int ((mu_j (Ne.symm (hd 0 0 (by omega) (by omega)))).trans ((mu_j (Ne.symm (hd 0 0 (by omega) (by omega)))).trans ((mu_j (Ne.symm (hd 0 0 (by omega) (by omega)))).trans ((mu_j (Ne.symm (hd 0 0 (by omega) (by omega)))).trans (congrFun (x90_frJ  (Ne.symm (hd 1 0 (by omega) (by omega))) (Ne.symm (hd 2 0 (by omega) (by omega))) (Ne.symm (hd 3 0 (by omega) (by omega))) (Ne.symm (hd 4 0 (by omega) (by omega))) (Ne.symm (hd 5 0 (by omega) (by omega))) (Ne.symm (hd 6 0 (by omega) (by omega))) (Ne.symm (hd 7 0 (by omega) (by omega))) (Ne.symm (hd 8 0 (by omega) (by omega))) (Ne.symm (hd 9 0 (by omega) (by omega)))) 5)))))) k
  have k := me_put rfl (by decide) k
  have k : nt_rn X _ 80 (51, [(0, .ref (q 0)), (1, .ref (r 0))], [], me_w M (nt_u (nt_u (nt_u (nt_u (nt_u (x90 q r J) (q 0) 1 (J (r 0) 1)) (q 0) 2 (J (r 0) 2)) (q 0) 3 (J (r 0) 3)) (q 0) 4 (J (r 0) 4)) (q 0) 5 (J (r 0) 5))) _ := k
  have k := ly_revb 2 (c' := (53, [(0, .ref (q 0)), (1, .ref (r 0))], [.ref (r 0), .ref (q 0)], me_w M (nt_u (nt_u (nt_u (nt_u (nt_u (x90 q r J) (q 0) 1 (J (r 0) 1)) (q 0) 2 (J (r 0) 2)) (q 0) 3 (J (r 0) 3)) (q 0) 4 (J (r 0) 4)) (q 0) 5 (J (r 0) 5)))) rfl k
  have k := lz_get (a := (r 0)) (g := 606) (M := me_w M (nt_u (nt_u (nt_u (nt_u (nt_u (x90 q r J) (q 0) 1 (J (r 0) 1)) (q 0) 2 (J (r 0) 2)) (q 0) 3 (J (r 0) 3)) (q 0) 4 (J (r 0) 4)) (q 0) 5 (J (r 0) 5))) (v := .int (J (r 0) 6)) rfl (congrArg Value.int ((mu_j (Ne.symm (hd 0 0 (by omega) (by omega)))).trans ((mu_j (Ne.symm (hd 0 0 (by omega) (by omega)))).trans ((mu_j (Ne.symm (hd 0 0 (by omega) (by omega)))).trans ((mu_j (Ne.symm (hd 0 0 (by omega) (by omega)))).trans ((mu_j (Ne.symm (hd 0 0 (by omega) (by omega)))).trans (congrFun (x90_frJ  (Ne.symm (hd 1 0 (by omega) (by omega))) (Ne.symm (hd 2 0 (by omega) (by omega))) (Ne.symm (hd 3 0 (by omega) (by omega))) (Ne.symm (hd 4 0 (by omega) (by omega))) (Ne.symm (hd 5 0 (by omega) (by omega))) (Ne.symm (hd 6 0 (by omega) (by omega))) (Ne.symm (hd 7 0 (by omega) (by omega))) (Ne.symm (hd 8 0 (by omega) (by omega))) (Ne.symm (hd 9 0 (by omega) (by omega)))) 6))))))) k
  have k := me_put rfl (by decide) k
  have k : nt_rn X _ 80 (59, [(0, .ref (q 0)), (1, .ref (r 0))], [], me_w M (nt_u (nt_u (nt_u (nt_u (nt_u (nt_u (x90 q r J) (q 0) 1 (J (r 0) 1)) (q 0) 2 (J (r 0) 2)) (q 0) 3 (J (r 0) 3)) (q 0) 4 (J (r 0) 4)) (q 0) 5 (J (r 0) 5)) (q 0) 6 (J (r 0) 6))) _ := k
  have k := ly_revb 1 (c' := (60, [(0, .ref (q 0)), (1, .ref (r 0))], [.ref (r 0)], me_w M (nt_u (nt_u (nt_u (nt_u (nt_u (nt_u (x90 q r J) (q 0) 1 (J (r 0) 1)) (q 0) 2 (J (r 0) 2)) (q 0) 3 (J (r 0) 3)) (q 0) 4 (J (r 0) 4)) (q 0) 5 (J (r 0) 5)) (q 0) 6 (J (r 0) 6)))) rfl k
  have k := lz_get (a := (r 0)) (g := 607) (M := me_w M (nt_u (nt_u (nt_u (nt_u (nt_u (nt_u (x90 q r J) (q 0) 1 (J (r 0) 1)) (q 0) 2 (J (r 0) 2)) (q 0) 3 (J (r 0) 3)) (q 0) 4 (J (r 0) 4)) (q 0) 5 (J (r 0) 5)) (q 0) 6 (J (r 0) 6))) (v := .ref (r 10)) rfl (nt_gfR rfl (hr.1 (0, 7, 10) (by decide))) k
  have k := ly_revb 2 (c' := (65, [(0, .ref (q 0)), (1, .ref (r 0))], [.ref (q 0), .int (Int32.ofInt 0), .ref (r 10)], me_w M (nt_u (nt_u (nt_u (nt_u (nt_u (nt_u (x90 q r J) (q 0) 1 (J (r 0) 1)) (q 0) 2 (J (r 0) 2)) (q 0) 3 (J (r 0) 3)) (q 0) 4 (J (r 0) 4)) (q 0) 5 (J (r 0) 5)) (q 0) 6 (J (r 0) 6)))) rfl k
  have k := lz_get (a := (q 0)) (g := 607) (M := me_w M (nt_u (nt_u (nt_u (nt_u (nt_u (nt_u (x90 q r J) (q 0) 1 (J (r 0) 1)) (q 0) 2 (J (r 0) 2)) (q 0) 3 (J (r 0) 3)) (q 0) 4 (J (r 0) 4)) (q 0) 5 (J (r 0) 5)) (q 0) 6 (J (r 0) 6))) (v := .ref (q 10)) rfl (nt_gfR rfl (hq.1 (0, 7, 10) (by decide))) k
  have k := ly_revb 2 (c' := (70, [(0, .ref (q 0)), (1, .ref (r 0))], [.ref (q 0), .int (Int32.ofInt 0), .ref (q 10), .int (Int32.ofInt 0), .ref (r 10)], me_w M (nt_u (nt_u (nt_u (nt_u (nt_u (nt_u (x90 q r J) (q 0) 1 (J (r 0) 1)) (q 0) 2 (J (r 0) 2)) (q 0) 3 (J (r 0) 3)) (q 0) 4 (J (r 0) 4)) (q 0) 5 (J (r 0) 5)) (q 0) 6 (J (r 0) 6)))) rfl k
  have k := lz_get (a := (q 0)) (g := 607) (M := me_w M (nt_u (nt_u (nt_u (nt_u (nt_u (nt_u (x90 q r J) (q 0) 1 (J (r 0) 1)) (q 0) 2 (J (r 0) 2)) (q 0) 3 (J (r 0) 3)) (q 0) 4 (J (r 0) 4)) (q 0) 5 (J (r 0) 5)) (q 0) 6 (J (r 0) 6))) (v := .ref (q 10)) rfl (nt_gfR rfl (hq.1 (0, 7, 10) (by decide))) k
  have k := lz_len rfl (hq.2.2.1 10 (by omega)) k
  rw [show nt_l (me_w M (nt_u (nt_u (nt_u (nt_u (nt_u (nt_u (x90 q r J) (q 0) 1 (J (r 0) 1)) (q 0) 2 (J (r 0) 2)) (q 0) 3 (J (r 0) 3)) (q 0) 4 (J (r 0) 4)) (q 0) 5 (J (r 0) 5)) (q 0) 6 (J (r 0) 6))) (q 10) = 6 from (hl (10, 6) (by decide))] at k
  have k : nt_rn X _ 80 (74, [(0, .ref (q 0)), (1, .ref (r 0))], [.int (Int32.ofNat 6), .int (Int32.ofInt 0), .ref (q 10), .int (Int32.ofInt 0), .ref (r 10)], me_w M (nt_u (nt_u (nt_u (nt_u (nt_u (nt_u (x90 q r J) (q 0) 1 (J (r 0) 1)) (q 0) 2 (J (r 0) 2)) (q 0) 3 (J (r 0) 3)) (q 0) 4 (J (r 0) 4)) (q 0) 5 (J (r 0) 5)) (q 0) 6 (J (r 0) 6))) _ := k
  have k := mx_cpy (N := 6) (fS := J (r 10)) (fD := J (q 10)) rfl ((mu_o (Ne.symm (hd 0 10 (by omega) (by omega)))).trans ((mu_o (Ne.symm (hd 0 10 (by omega) (by omega)))).trans ((mu_o (Ne.symm (hd 0 10 (by omega) (by omega)))).trans ((mu_o (Ne.symm (hd 0 10 (by omega) (by omega)))).trans ((mu_o (Ne.symm (hd 0 10 (by omega) (by omega)))).trans ((mu_o (Ne.symm (hd 0 10 (by omega) (by omega)))).trans (x90_frJ  (Ne.symm (hd 1 10 (by omega) (by omega))) (Ne.symm (hd 2 10 (by omega) (by omega))) (Ne.symm (hd 3 10 (by omega) (by omega))) (Ne.symm (hd 4 10 (by omega) (by omega))) (Ne.symm (hd 5 10 (by omega) (by omega))) (Ne.symm (hd 6 10 (by omega) (by omega))) (Ne.symm (hd 7 10 (by omega) (by omega))) (Ne.symm (hd 8 10 (by omega) (by omega))) (Ne.symm (hd 9 10 (by omega) (by omega)))))))))) ((mu_o (hq.2.1 10 0 (by omega) (by omega) (by decide))).trans ((mu_o (hq.2.1 10 0 (by omega) (by omega) (by decide))).trans ((mu_o (hq.2.1 10 0 (by omega) (by omega) (by decide))).trans ((mu_o (hq.2.1 10 0 (by omega) (by omega) (by decide))).trans ((mu_o (hq.2.1 10 0 (by omega) (by omega) (by decide))).trans ((mu_o (hq.2.1 10 0 (by omega) (by omega) (by decide))).trans (x90_frJ  (hq.2.1 10 1 (by omega) (by omega) (by decide)) (hq.2.1 10 2 (by omega) (by omega) (by decide)) (hq.2.1 10 3 (by omega) (by omega) (by decide)) (hq.2.1 10 4 (by omega) (by omega) (by decide)) (hq.2.1 10 5 (by omega) (by omega) (by decide)) (hq.2.1 10 6 (by omega) (by omega) (by decide)) (hq.2.1 10 7 (by omega) (by omega) (by decide)) (hq.2.1 10 8 (by omega) (by omega) (by decide)) (hq.2.1 10 9 (by omega) (by omega) (by decide))))))))) rfl k
  have k : nt_rn X _ 80 (77, [(0, .ref (q 0)), (1, .ref (r 0))], [], me_w M (nt_u1 (nt_u (nt_u (nt_u (nt_u (nt_u (nt_u (x90 q r J) (q 0) 1 (J (r 0) 1)) (q 0) 2 (J (r 0) 2)) (q 0) 3 (J (r 0) 3)) (q 0) 4 (J (r 0) 4)) (q 0) 5 (J (r 0) 5)) (q 0) 6 (J (r 0) 6)) (q 10) (va_cpy (J (r 10)) (J (q 10)) 0 0 6))) _ := k
  have k := ly_revb 1 (c' := (78, [(0, .ref (q 0)), (1, .ref (r 0))], [.ref (r 0)], me_w M (nt_u1 (nt_u (nt_u (nt_u (nt_u (nt_u (nt_u (x90 q r J) (q 0) 1 (J (r 0) 1)) (q 0) 2 (J (r 0) 2)) (q 0) 3 (J (r 0) 3)) (q 0) 4 (J (r 0) 4)) (q 0) 5 (J (r 0) 5)) (q 0) 6 (J (r 0) 6)) (q 10) (va_cpy (J (r 10)) (J (q 10)) 0 0 6)))) rfl k
  have k := lz_get (a := (r 0)) (g := 608) (M := me_w M (nt_u1 (nt_u (nt_u (nt_u (nt_u (nt_u (nt_u (x90 q r J) (q 0) 1 (J (r 0) 1)) (q 0) 2 (J (r 0) 2)) (q 0) 3 (J (r 0) 3)) (q 0) 4 (J (r 0) 4)) (q 0) 5 (J (r 0) 5)) (q 0) 6 (J (r 0) 6)) (q 10) (va_cpy (J (r 10)) (J (q 10)) 0 0 6))) (v := .ref (r 11)) rfl (nt_gfR rfl (hr.1 (0, 8, 11) (by decide))) k
  have k := ly_revb 2 (c' := (83, [(0, .ref (q 0)), (1, .ref (r 0))], [.ref (q 0), .int (Int32.ofInt 0), .ref (r 11)], me_w M (nt_u1 (nt_u (nt_u (nt_u (nt_u (nt_u (nt_u (x90 q r J) (q 0) 1 (J (r 0) 1)) (q 0) 2 (J (r 0) 2)) (q 0) 3 (J (r 0) 3)) (q 0) 4 (J (r 0) 4)) (q 0) 5 (J (r 0) 5)) (q 0) 6 (J (r 0) 6)) (q 10) (va_cpy (J (r 10)) (J (q 10)) 0 0 6)))) rfl k
  have k := lz_get (a := (q 0)) (g := 608) (M := me_w M (nt_u1 (nt_u (nt_u (nt_u (nt_u (nt_u (nt_u (x90 q r J) (q 0) 1 (J (r 0) 1)) (q 0) 2 (J (r 0) 2)) (q 0) 3 (J (r 0) 3)) (q 0) 4 (J (r 0) 4)) (q 0) 5 (J (r 0) 5)) (q 0) 6 (J (r 0) 6)) (q 10) (va_cpy (J (r 10)) (J (q 10)) 0 0 6))) (v := .ref (q 11)) rfl (nt_gfR rfl (hq.1 (0, 8, 11) (by decide))) k
  have k := ly_revb 2 (c' := (88, [(0, .ref (q 0)), (1, .ref (r 0))], [.ref (q 0), .int (Int32.ofInt 0), .ref (q 11), .int (Int32.ofInt 0), .ref (r 11)], me_w M (nt_u1 (nt_u (nt_u (nt_u (nt_u (nt_u (nt_u (x90 q r J) (q 0) 1 (J (r 0) 1)) (q 0) 2 (J (r 0) 2)) (q 0) 3 (J (r 0) 3)) (q 0) 4 (J (r 0) 4)) (q 0) 5 (J (r 0) 5)) (q 0) 6 (J (r 0) 6)) (q 10) (va_cpy (J (r 10)) (J (q 10)) 0 0 6)))) rfl k
  have k := lz_get (a := (q 0)) (g := 608) (M := me_w M (nt_u1 (nt_u (nt_u (nt_u (nt_u (nt_u (nt_u (x90 q r J) (q 0) 1 (J (r 0) 1)) (q 0) 2 (J (r 0) 2)) (q 0) 3 (J (r 0) 3)) (q 0) 4 (J (r 0) 4)) (q 0) 5 (J (r 0) 5)) (q 0) 6 (J (r 0) 6)) (q 10) (va_cpy (J (r 10)) (J (q 10)) 0 0 6))) (v := .ref (q 11)) rfl (nt_gfR rfl (hq.1 (0, 8, 11) (by decide))) k
  have k := lz_len rfl (hq.2.2.1 11 (by omega)) k
  rw [show nt_l (me_w M (nt_u1 (nt_u (nt_u (nt_u (nt_u (nt_u (nt_u (x90 q r J) (q 0) 1 (J (r 0) 1)) (q 0) 2 (J (r 0) 2)) (q 0) 3 (J (r 0) 3)) (q 0) 4 (J (r 0) 4)) (q 0) 5 (J (r 0) 5)) (q 0) 6 (J (r 0) 6)) (q 10) (va_cpy (J (r 10)) (J (q 10)) 0 0 6))) (q 11) = 6 from (hl (11, 6) (by decide))] at k
  have k : nt_rn X _ 80 (92, [(0, .ref (q 0)), (1, .ref (r 0))], [.int (Int32.ofNat 6), .int (Int32.ofInt 0), .ref (q 11), .int (Int32.ofInt 0), .ref (r 11)], me_w M (nt_u1 (nt_u (nt_u (nt_u (nt_u (nt_u (nt_u (x90 q r J) (q 0) 1 (J (r 0) 1)) (q 0) 2 (J (r 0) 2)) (q 0) 3 (J (r 0) 3)) (q 0) 4 (J (r 0) 4)) (q 0) 5 (J (r 0) 5)) (q 0) 6 (J (r 0) 6)) (q 10) (va_cpy (J (r 10)) (J (q 10)) 0 0 6))) _ := k
  have k := mx_cpy (N := 6) (fS := J (r 11)) (fD := J (q 11)) rfl ((mu_1 (Ne.symm (hd 10 11 (by omega) (by omega)))).trans ((mu_o (Ne.symm (hd 0 11 (by omega) (by omega)))).trans ((mu_o (Ne.symm (hd 0 11 (by omega) (by omega)))).trans ((mu_o (Ne.symm (hd 0 11 (by omega) (by omega)))).trans ((mu_o (Ne.symm (hd 0 11 (by omega) (by omega)))).trans ((mu_o (Ne.symm (hd 0 11 (by omega) (by omega)))).trans ((mu_o (Ne.symm (hd 0 11 (by omega) (by omega)))).trans (x90_frJ  (Ne.symm (hd 1 11 (by omega) (by omega))) (Ne.symm (hd 2 11 (by omega) (by omega))) (Ne.symm (hd 3 11 (by omega) (by omega))) (Ne.symm (hd 4 11 (by omega) (by omega))) (Ne.symm (hd 5 11 (by omega) (by omega))) (Ne.symm (hd 6 11 (by omega) (by omega))) (Ne.symm (hd 7 11 (by omega) (by omega))) (Ne.symm (hd 8 11 (by omega) (by omega))) (Ne.symm (hd 9 11 (by omega) (by omega))))))))))) ((mu_1 (hq.2.1 11 10 (by omega) (by omega) (by decide))).trans ((mu_o (hq.2.1 11 0 (by omega) (by omega) (by decide))).trans ((mu_o (hq.2.1 11 0 (by omega) (by omega) (by decide))).trans ((mu_o (hq.2.1 11 0 (by omega) (by omega) (by decide))).trans ((mu_o (hq.2.1 11 0 (by omega) (by omega) (by decide))).trans ((mu_o (hq.2.1 11 0 (by omega) (by omega) (by decide))).trans ((mu_o (hq.2.1 11 0 (by omega) (by omega) (by decide))).trans (x90_frJ  (hq.2.1 11 1 (by omega) (by omega) (by decide)) (hq.2.1 11 2 (by omega) (by omega) (by decide)) (hq.2.1 11 3 (by omega) (by omega) (by decide)) (hq.2.1 11 4 (by omega) (by omega) (by decide)) (hq.2.1 11 5 (by omega) (by omega) (by decide)) (hq.2.1 11 6 (by omega) (by omega) (by decide)) (hq.2.1 11 7 (by omega) (by omega) (by decide)) (hq.2.1 11 8 (by omega) (by omega) (by decide)) (hq.2.1 11 9 (by omega) (by omega) (by decide)))))))))) rfl k
  have k : nt_rn X _ 80 (95, [(0, .ref (q 0)), (1, .ref (r 0))], [], me_w M (nt_u1 (nt_u1 (nt_u (nt_u (nt_u (nt_u (nt_u (nt_u (x90 q r J) (q 0) 1 (J (r 0) 1)) (q 0) 2 (J (r 0) 2)) (q 0) 3 (J (r 0) 3)) (q 0) 4 (J (r 0) 4)) (q 0) 5 (J (r 0) 5)) (q 0) 6 (J (r 0) 6)) (q 10) (va_cpy (J (r 10)) (J (q 10)) 0 0 6)) (q 11) (va_cpy (J (r 11)) (J (q 11)) 0 0 6))) _ := k
  have k := ly_revb 1 (c' := (96, [(0, .ref (q 0)), (1, .ref (r 0))], [.ref (r 0)], me_w M (nt_u1 (nt_u1 (nt_u (nt_u (nt_u (nt_u (nt_u (nt_u (x90 q r J) (q 0) 1 (J (r 0) 1)) (q 0) 2 (J (r 0) 2)) (q 0) 3 (J (r 0) 3)) (q 0) 4 (J (r 0) 4)) (q 0) 5 (J (r 0) 5)) (q 0) 6 (J (r 0) 6)) (q 10) (va_cpy (J (r 10)) (J (q 10)) 0 0 6)) (q 11) (va_cpy (J (r 11)) (J (q 11)) 0 0 6)))) rfl k
  have k := lz_get (a := (r 0)) (g := 609) (M := me_w M (nt_u1 (nt_u1 (nt_u (nt_u (nt_u (nt_u (nt_u (nt_u (x90 q r J) (q 0) 1 (J (r 0) 1)) (q 0) 2 (J (r 0) 2)) (q 0) 3 (J (r 0) 3)) (q 0) 4 (J (r 0) 4)) (q 0) 5 (J (r 0) 5)) (q 0) 6 (J (r 0) 6)) (q 10) (va_cpy (J (r 10)) (J (q 10)) 0 0 6)) (q 11) (va_cpy (J (r 11)) (J (q 11)) 0 0 6))) (v := .ref (r 12)) rfl (nt_gfR rfl (hr.1 (0, 9, 12) (by decide))) k
  have k := ly_revb 2 (c' := (101, [(0, .ref (q 0)), (1, .ref (r 0))], [.ref (q 0), .int (Int32.ofInt 0), .ref (r 12)], me_w M (nt_u1 (nt_u1 (nt_u (nt_u (nt_u (nt_u (nt_u (nt_u (x90 q r J) (q 0) 1 (J (r 0) 1)) (q 0) 2 (J (r 0) 2)) (q 0) 3 (J (r 0) 3)) (q 0) 4 (J (r 0) 4)) (q 0) 5 (J (r 0) 5)) (q 0) 6 (J (r 0) 6)) (q 10) (va_cpy (J (r 10)) (J (q 10)) 0 0 6)) (q 11) (va_cpy (J (r 11)) (J (q 11)) 0 0 6)))) rfl k
  have k := lz_get (a := (q 0)) (g := 609) (M := me_w M (nt_u1 (nt_u1 (nt_u (nt_u (nt_u (nt_u (nt_u (nt_u (x90 q r J) (q 0) 1 (J (r 0) 1)) (q 0) 2 (J (r 0) 2)) (q 0) 3 (J (r 0) 3)) (q 0) 4 (J (r 0) 4)) (q 0) 5 (J (r 0) 5)) (q 0) 6 (J (r 0) 6)) (q 10) (va_cpy (J (r 10)) (J (q 10)) 0 0 6)) (q 11) (va_cpy (J (r 11)) (J (q 11)) 0 0 6))) (v := .ref (q 12)) rfl (nt_gfR rfl (hq.1 (0, 9, 12) (by decide))) k
  have k := ly_revb 2 (c' := (106, [(0, .ref (q 0)), (1, .ref (r 0))], [.ref (q 0), .int (Int32.ofInt 0), .ref (q 12), .int (Int32.ofInt 0), .ref (r 12)], me_w M (nt_u1 (nt_u1 (nt_u (nt_u (nt_u (nt_u (nt_u (nt_u (x90 q r J) (q 0) 1 (J (r 0) 1)) (q 0) 2 (J (r 0) 2)) (q 0) 3 (J (r 0) 3)) (q 0) 4 (J (r 0) 4)) (q 0) 5 (J (r 0) 5)) (q 0) 6 (J (r 0) 6)) (q 10) (va_cpy (J (r 10)) (J (q 10)) 0 0 6)) (q 11) (va_cpy (J (r 11)) (J (q 11)) 0 0 6)))) rfl k
  have k := lz_get (a := (q 0)) (g := 609) (M := me_w M (nt_u1 (nt_u1 (nt_u (nt_u (nt_u (nt_u (nt_u (nt_u (x90 q r J) (q 0) 1 (J (r 0) 1)) (q 0) 2 (J (r 0) 2)) (q 0) 3 (J (r 0) 3)) (q 0) 4 (J (r 0) 4)) (q 0) 5 (J (r 0) 5)) (q 0) 6 (J (r 0) 6)) (q 10) (va_cpy (J (r 10)) (J (q 10)) 0 0 6)) (q 11) (va_cpy (J (r 11)) (J (q 11)) 0 0 6))) (v := .ref (q 12)) rfl (nt_gfR rfl (hq.1 (0, 9, 12) (by decide))) k
  have k := lz_len rfl (hq.2.2.1 12 (by omega)) k
  rw [show nt_l (me_w M (nt_u1 (nt_u1 (nt_u (nt_u (nt_u (nt_u (nt_u (nt_u (x90 q r J) (q 0) 1 (J (r 0) 1)) (q 0) 2 (J (r 0) 2)) (q 0) 3 (J (r 0) 3)) (q 0) 4 (J (r 0) 4)) (q 0) 5 (J (r 0) 5)) (q 0) 6 (J (r 0) 6)) (q 10) (va_cpy (J (r 10)) (J (q 10)) 0 0 6)) (q 11) (va_cpy (J (r 11)) (J (q 11)) 0 0 6))) (q 12) = 6 from (hl (12, 6) (by decide))] at k
  have k : nt_rn X _ 80 (110, [(0, .ref (q 0)), (1, .ref (r 0))], [.int (Int32.ofNat 6), .int (Int32.ofInt 0), .ref (q 12), .int (Int32.ofInt 0), .ref (r 12)], me_w M (nt_u1 (nt_u1 (nt_u (nt_u (nt_u (nt_u (nt_u (nt_u (x90 q r J) (q 0) 1 (J (r 0) 1)) (q 0) 2 (J (r 0) 2)) (q 0) 3 (J (r 0) 3)) (q 0) 4 (J (r 0) 4)) (q 0) 5 (J (r 0) 5)) (q 0) 6 (J (r 0) 6)) (q 10) (va_cpy (J (r 10)) (J (q 10)) 0 0 6)) (q 11) (va_cpy (J (r 11)) (J (q 11)) 0 0 6))) _ := k
  have k := mx_cpy (N := 6) (fS := J (r 12)) (fD := J (q 12)) rfl ((mu_1 (Ne.symm (hd 11 12 (by omega) (by omega)))).trans ((mu_1 (Ne.symm (hd 10 12 (by omega) (by omega)))).trans ((mu_o (Ne.symm (hd 0 12 (by omega) (by omega)))).trans ((mu_o (Ne.symm (hd 0 12 (by omega) (by omega)))).trans ((mu_o (Ne.symm (hd 0 12 (by omega) (by omega)))).trans ((mu_o (Ne.symm (hd 0 12 (by omega) (by omega)))).trans ((mu_o (Ne.symm (hd 0 12 (by omega) (by omega)))).trans ((mu_o (Ne.symm (hd 0 12 (by omega) (by omega)))).trans (x90_frJ  (Ne.symm (hd 1 12 (by omega) (by omega))) (Ne.symm (hd 2 12 (by omega) (by omega))) (Ne.symm (hd 3 12 (by omega) (by omega))) (Ne.symm (hd 4 12 (by omega) (by omega))) (Ne.symm (hd 5 12 (by omega) (by omega))) (Ne.symm (hd 6 12 (by omega) (by omega))) (Ne.symm (hd 7 12 (by omega) (by omega))) (Ne.symm (hd 8 12 (by omega) (by omega))) (Ne.symm (hd 9 12 (by omega) (by omega)))))))))))) ((mu_1 (hq.2.1 12 11 (by omega) (by omega) (by decide))).trans ((mu_1 (hq.2.1 12 10 (by omega) (by omega) (by decide))).trans ((mu_o (hq.2.1 12 0 (by omega) (by omega) (by decide))).trans ((mu_o (hq.2.1 12 0 (by omega) (by omega) (by decide))).trans ((mu_o (hq.2.1 12 0 (by omega) (by omega) (by decide))).trans ((mu_o (hq.2.1 12 0 (by omega) (by omega) (by decide))).trans ((mu_o (hq.2.1 12 0 (by omega) (by omega) (by decide))).trans ((mu_o (hq.2.1 12 0 (by omega) (by omega) (by decide))).trans (x90_frJ  (hq.2.1 12 1 (by omega) (by omega) (by decide)) (hq.2.1 12 2 (by omega) (by omega) (by decide)) (hq.2.1 12 3 (by omega) (by omega) (by decide)) (hq.2.1 12 4 (by omega) (by omega) (by decide)) (hq.2.1 12 5 (by omega) (by omega) (by decide)) (hq.2.1 12 6 (by omega) (by omega) (by decide)) (hq.2.1 12 7 (by omega) (by omega) (by decide)) (hq.2.1 12 8 (by omega) (by omega) (by decide)) (hq.2.1 12 9 (by omega) (by omega) (by decide))))))))))) rfl k
  have k : nt_rn X _ 80 (113, [(0, .ref (q 0)), (1, .ref (r 0))], [], me_w M (nt_u1 (nt_u1 (nt_u1 (nt_u (nt_u (nt_u (nt_u (nt_u (nt_u (x90 q r J) (q 0) 1 (J (r 0) 1)) (q 0) 2 (J (r 0) 2)) (q 0) 3 (J (r 0) 3)) (q 0) 4 (J (r 0) 4)) (q 0) 5 (J (r 0) 5)) (q 0) 6 (J (r 0) 6)) (q 10) (va_cpy (J (r 10)) (J (q 10)) 0 0 6)) (q 11) (va_cpy (J (r 11)) (J (q 11)) 0 0 6)) (q 12) (va_cpy (J (r 12)) (J (q 12)) 0 0 6))) _ := k
  have k := ly_revb 1 (c' := (114, [(0, .ref (q 0)), (1, .ref (r 0))], [.ref (r 0)], me_w M (nt_u1 (nt_u1 (nt_u1 (nt_u (nt_u (nt_u (nt_u (nt_u (nt_u (x90 q r J) (q 0) 1 (J (r 0) 1)) (q 0) 2 (J (r 0) 2)) (q 0) 3 (J (r 0) 3)) (q 0) 4 (J (r 0) 4)) (q 0) 5 (J (r 0) 5)) (q 0) 6 (J (r 0) 6)) (q 10) (va_cpy (J (r 10)) (J (q 10)) 0 0 6)) (q 11) (va_cpy (J (r 11)) (J (q 11)) 0 0 6)) (q 12) (va_cpy (J (r 12)) (J (q 12)) 0 0 6)))) rfl k
  have k := lz_get (a := (r 0)) (g := 610) (M := me_w M (nt_u1 (nt_u1 (nt_u1 (nt_u (nt_u (nt_u (nt_u (nt_u (nt_u (x90 q r J) (q 0) 1 (J (r 0) 1)) (q 0) 2 (J (r 0) 2)) (q 0) 3 (J (r 0) 3)) (q 0) 4 (J (r 0) 4)) (q 0) 5 (J (r 0) 5)) (q 0) 6 (J (r 0) 6)) (q 10) (va_cpy (J (r 10)) (J (q 10)) 0 0 6)) (q 11) (va_cpy (J (r 11)) (J (q 11)) 0 0 6)) (q 12) (va_cpy (J (r 12)) (J (q 12)) 0 0 6))) (v := .ref (r 13)) rfl (nt_gfR rfl (hr.1 (0, 10, 13) (by decide))) k
  have k := ly_revb 2 (c' := (119, [(0, .ref (q 0)), (1, .ref (r 0))], [.ref (q 0), .int (Int32.ofInt 0), .ref (r 13)], me_w M (nt_u1 (nt_u1 (nt_u1 (nt_u (nt_u (nt_u (nt_u (nt_u (nt_u (x90 q r J) (q 0) 1 (J (r 0) 1)) (q 0) 2 (J (r 0) 2)) (q 0) 3 (J (r 0) 3)) (q 0) 4 (J (r 0) 4)) (q 0) 5 (J (r 0) 5)) (q 0) 6 (J (r 0) 6)) (q 10) (va_cpy (J (r 10)) (J (q 10)) 0 0 6)) (q 11) (va_cpy (J (r 11)) (J (q 11)) 0 0 6)) (q 12) (va_cpy (J (r 12)) (J (q 12)) 0 0 6)))) rfl k
  have k := lz_get (a := (q 0)) (g := 610) (M := me_w M (nt_u1 (nt_u1 (nt_u1 (nt_u (nt_u (nt_u (nt_u (nt_u (nt_u (x90 q r J) (q 0) 1 (J (r 0) 1)) (q 0) 2 (J (r 0) 2)) (q 0) 3 (J (r 0) 3)) (q 0) 4 (J (r 0) 4)) (q 0) 5 (J (r 0) 5)) (q 0) 6 (J (r 0) 6)) (q 10) (va_cpy (J (r 10)) (J (q 10)) 0 0 6)) (q 11) (va_cpy (J (r 11)) (J (q 11)) 0 0 6)) (q 12) (va_cpy (J (r 12)) (J (q 12)) 0 0 6))) (v := .ref (q 13)) rfl (nt_gfR rfl (hq.1 (0, 10, 13) (by decide))) k
  have k := ly_revb 2 (c' := (124, [(0, .ref (q 0)), (1, .ref (r 0))], [.ref (q 0), .int (Int32.ofInt 0), .ref (q 13), .int (Int32.ofInt 0), .ref (r 13)], me_w M (nt_u1 (nt_u1 (nt_u1 (nt_u (nt_u (nt_u (nt_u (nt_u (nt_u (x90 q r J) (q 0) 1 (J (r 0) 1)) (q 0) 2 (J (r 0) 2)) (q 0) 3 (J (r 0) 3)) (q 0) 4 (J (r 0) 4)) (q 0) 5 (J (r 0) 5)) (q 0) 6 (J (r 0) 6)) (q 10) (va_cpy (J (r 10)) (J (q 10)) 0 0 6)) (q 11) (va_cpy (J (r 11)) (J (q 11)) 0 0 6)) (q 12) (va_cpy (J (r 12)) (J (q 12)) 0 0 6)))) rfl k
  have k := lz_get (a := (q 0)) (g := 610) (M := me_w M (nt_u1 (nt_u1 (nt_u1 (nt_u (nt_u (nt_u (nt_u (nt_u (nt_u (x90 q r J) (q 0) 1 (J (r 0) 1)) (q 0) 2 (J (r 0) 2)) (q 0) 3 (J (r 0) 3)) (q 0) 4 (J (r 0) 4)) (q 0) 5 (J (r 0) 5)) (q 0) 6 (J (r 0) 6)) (q 10) (va_cpy (J (r 10)) (J (q 10)) 0 0 6)) (q 11) (va_cpy (J (r 11)) (J (q 11)) 0 0 6)) (q 12) (va_cpy (J (r 12)) (J (q 12)) 0 0 6))) (v := .ref (q 13)) rfl (nt_gfR rfl (hq.1 (0, 10, 13) (by decide))) k
  have k := lz_len rfl (hq.2.2.1 13 (by omega)) k
  rw [show nt_l (me_w M (nt_u1 (nt_u1 (nt_u1 (nt_u (nt_u (nt_u (nt_u (nt_u (nt_u (x90 q r J) (q 0) 1 (J (r 0) 1)) (q 0) 2 (J (r 0) 2)) (q 0) 3 (J (r 0) 3)) (q 0) 4 (J (r 0) 4)) (q 0) 5 (J (r 0) 5)) (q 0) 6 (J (r 0) 6)) (q 10) (va_cpy (J (r 10)) (J (q 10)) 0 0 6)) (q 11) (va_cpy (J (r 11)) (J (q 11)) 0 0 6)) (q 12) (va_cpy (J (r 12)) (J (q 12)) 0 0 6))) (q 13) = 24 from (hl (13, 24) (by decide))] at k
  have k : nt_rn X _ 80 (128, [(0, .ref (q 0)), (1, .ref (r 0))], [.int (Int32.ofNat 24), .int (Int32.ofInt 0), .ref (q 13), .int (Int32.ofInt 0), .ref (r 13)], me_w M (nt_u1 (nt_u1 (nt_u1 (nt_u (nt_u (nt_u (nt_u (nt_u (nt_u (x90 q r J) (q 0) 1 (J (r 0) 1)) (q 0) 2 (J (r 0) 2)) (q 0) 3 (J (r 0) 3)) (q 0) 4 (J (r 0) 4)) (q 0) 5 (J (r 0) 5)) (q 0) 6 (J (r 0) 6)) (q 10) (va_cpy (J (r 10)) (J (q 10)) 0 0 6)) (q 11) (va_cpy (J (r 11)) (J (q 11)) 0 0 6)) (q 12) (va_cpy (J (r 12)) (J (q 12)) 0 0 6))) _ := k
  have k := mx_cpy (N := 24) (fS := J (r 13)) (fD := J (q 13)) rfl ((mu_1 (Ne.symm (hd 12 13 (by omega) (by omega)))).trans ((mu_1 (Ne.symm (hd 11 13 (by omega) (by omega)))).trans ((mu_1 (Ne.symm (hd 10 13 (by omega) (by omega)))).trans ((mu_o (Ne.symm (hd 0 13 (by omega) (by omega)))).trans ((mu_o (Ne.symm (hd 0 13 (by omega) (by omega)))).trans ((mu_o (Ne.symm (hd 0 13 (by omega) (by omega)))).trans ((mu_o (Ne.symm (hd 0 13 (by omega) (by omega)))).trans ((mu_o (Ne.symm (hd 0 13 (by omega) (by omega)))).trans ((mu_o (Ne.symm (hd 0 13 (by omega) (by omega)))).trans (x90_frJ  (Ne.symm (hd 1 13 (by omega) (by omega))) (Ne.symm (hd 2 13 (by omega) (by omega))) (Ne.symm (hd 3 13 (by omega) (by omega))) (Ne.symm (hd 4 13 (by omega) (by omega))) (Ne.symm (hd 5 13 (by omega) (by omega))) (Ne.symm (hd 6 13 (by omega) (by omega))) (Ne.symm (hd 7 13 (by omega) (by omega))) (Ne.symm (hd 8 13 (by omega) (by omega))) (Ne.symm (hd 9 13 (by omega) (by omega))))))))))))) ((mu_1 (hq.2.1 13 12 (by omega) (by omega) (by decide))).trans ((mu_1 (hq.2.1 13 11 (by omega) (by omega) (by decide))).trans ((mu_1 (hq.2.1 13 10 (by omega) (by omega) (by decide))).trans ((mu_o (hq.2.1 13 0 (by omega) (by omega) (by decide))).trans ((mu_o (hq.2.1 13 0 (by omega) (by omega) (by decide))).trans ((mu_o (hq.2.1 13 0 (by omega) (by omega) (by decide))).trans ((mu_o (hq.2.1 13 0 (by omega) (by omega) (by decide))).trans ((mu_o (hq.2.1 13 0 (by omega) (by omega) (by decide))).trans ((mu_o (hq.2.1 13 0 (by omega) (by omega) (by decide))).trans (x90_frJ  (hq.2.1 13 1 (by omega) (by omega) (by decide)) (hq.2.1 13 2 (by omega) (by omega) (by decide)) (hq.2.1 13 3 (by omega) (by omega) (by decide)) (hq.2.1 13 4 (by omega) (by omega) (by decide)) (hq.2.1 13 5 (by omega) (by omega) (by decide)) (hq.2.1 13 6 (by omega) (by omega) (by decide)) (hq.2.1 13 7 (by omega) (by omega) (by decide)) (hq.2.1 13 8 (by omega) (by omega) (by decide)) (hq.2.1 13 9 (by omega) (by omega) (by decide)))))))))))) rfl k
  have k : nt_rn X _ 80 (131, [(0, .ref (q 0)), (1, .ref (r 0))], [], me_w M (nt_u1 (nt_u1 (nt_u1 (nt_u1 (nt_u (nt_u (nt_u (nt_u (nt_u (nt_u (x90 q r J) (q 0) 1 (J (r 0) 1)) (q 0) 2 (J (r 0) 2)) (q 0) 3 (J (r 0) 3)) (q 0) 4 (J (r 0) 4)) (q 0) 5 (J (r 0) 5)) (q 0) 6 (J (r 0) 6)) (q 10) (va_cpy (J (r 10)) (J (q 10)) 0 0 6)) (q 11) (va_cpy (J (r 11)) (J (q 11)) 0 0 6)) (q 12) (va_cpy (J (r 12)) (J (q 12)) 0 0 6)) (q 13) (va_cpy (J (r 13)) (J (q 13)) 0 0 24))) _ := k
  have k := ly_revb 1 (c' := (132, [(0, .ref (q 0)), (1, .ref (r 0))], [.ref (r 0)], me_w M (nt_u1 (nt_u1 (nt_u1 (nt_u1 (nt_u (nt_u (nt_u (nt_u (nt_u (nt_u (x90 q r J) (q 0) 1 (J (r 0) 1)) (q 0) 2 (J (r 0) 2)) (q 0) 3 (J (r 0) 3)) (q 0) 4 (J (r 0) 4)) (q 0) 5 (J (r 0) 5)) (q 0) 6 (J (r 0) 6)) (q 10) (va_cpy (J (r 10)) (J (q 10)) 0 0 6)) (q 11) (va_cpy (J (r 11)) (J (q 11)) 0 0 6)) (q 12) (va_cpy (J (r 12)) (J (q 12)) 0 0 6)) (q 13) (va_cpy (J (r 13)) (J (q 13)) 0 0 24)))) rfl k
  have k := lz_get (a := (r 0)) (g := 611) (M := me_w M (nt_u1 (nt_u1 (nt_u1 (nt_u1 (nt_u (nt_u (nt_u (nt_u (nt_u (nt_u (x90 q r J) (q 0) 1 (J (r 0) 1)) (q 0) 2 (J (r 0) 2)) (q 0) 3 (J (r 0) 3)) (q 0) 4 (J (r 0) 4)) (q 0) 5 (J (r 0) 5)) (q 0) 6 (J (r 0) 6)) (q 10) (va_cpy (J (r 10)) (J (q 10)) 0 0 6)) (q 11) (va_cpy (J (r 11)) (J (q 11)) 0 0 6)) (q 12) (va_cpy (J (r 12)) (J (q 12)) 0 0 6)) (q 13) (va_cpy (J (r 13)) (J (q 13)) 0 0 24))) (v := .ref (r 14)) rfl (nt_gfR rfl (hr.1 (0, 11, 14) (by decide))) k
  have k := ly_revb 2 (c' := (137, [(0, .ref (q 0)), (1, .ref (r 0))], [.ref (q 0), .int (Int32.ofInt 0), .ref (r 14)], me_w M (nt_u1 (nt_u1 (nt_u1 (nt_u1 (nt_u (nt_u (nt_u (nt_u (nt_u (nt_u (x90 q r J) (q 0) 1 (J (r 0) 1)) (q 0) 2 (J (r 0) 2)) (q 0) 3 (J (r 0) 3)) (q 0) 4 (J (r 0) 4)) (q 0) 5 (J (r 0) 5)) (q 0) 6 (J (r 0) 6)) (q 10) (va_cpy (J (r 10)) (J (q 10)) 0 0 6)) (q 11) (va_cpy (J (r 11)) (J (q 11)) 0 0 6)) (q 12) (va_cpy (J (r 12)) (J (q 12)) 0 0 6)) (q 13) (va_cpy (J (r 13)) (J (q 13)) 0 0 24)))) rfl k
  have k := lz_get (a := (q 0)) (g := 611) (M := me_w M (nt_u1 (nt_u1 (nt_u1 (nt_u1 (nt_u (nt_u (nt_u (nt_u (nt_u (nt_u (x90 q r J) (q 0) 1 (J (r 0) 1)) (q 0) 2 (J (r 0) 2)) (q 0) 3 (J (r 0) 3)) (q 0) 4 (J (r 0) 4)) (q 0) 5 (J (r 0) 5)) (q 0) 6 (J (r 0) 6)) (q 10) (va_cpy (J (r 10)) (J (q 10)) 0 0 6)) (q 11) (va_cpy (J (r 11)) (J (q 11)) 0 0 6)) (q 12) (va_cpy (J (r 12)) (J (q 12)) 0 0 6)) (q 13) (va_cpy (J (r 13)) (J (q 13)) 0 0 24))) (v := .ref (q 14)) rfl (nt_gfR rfl (hq.1 (0, 11, 14) (by decide))) k
  have k := ly_revb 2 (c' := (142, [(0, .ref (q 0)), (1, .ref (r 0))], [.ref (q 0), .int (Int32.ofInt 0), .ref (q 14), .int (Int32.ofInt 0), .ref (r 14)], me_w M (nt_u1 (nt_u1 (nt_u1 (nt_u1 (nt_u (nt_u (nt_u (nt_u (nt_u (nt_u (x90 q r J) (q 0) 1 (J (r 0) 1)) (q 0) 2 (J (r 0) 2)) (q 0) 3 (J (r 0) 3)) (q 0) 4 (J (r 0) 4)) (q 0) 5 (J (r 0) 5)) (q 0) 6 (J (r 0) 6)) (q 10) (va_cpy (J (r 10)) (J (q 10)) 0 0 6)) (q 11) (va_cpy (J (r 11)) (J (q 11)) 0 0 6)) (q 12) (va_cpy (J (r 12)) (J (q 12)) 0 0 6)) (q 13) (va_cpy (J (r 13)) (J (q 13)) 0 0 24)))) rfl k
  have k := lz_get (a := (q 0)) (g := 611) (M := me_w M (nt_u1 (nt_u1 (nt_u1 (nt_u1 (nt_u (nt_u (nt_u (nt_u (nt_u (nt_u (x90 q r J) (q 0) 1 (J (r 0) 1)) (q 0) 2 (J (r 0) 2)) (q 0) 3 (J (r 0) 3)) (q 0) 4 (J (r 0) 4)) (q 0) 5 (J (r 0) 5)) (q 0) 6 (J (r 0) 6)) (q 10) (va_cpy (J (r 10)) (J (q 10)) 0 0 6)) (q 11) (va_cpy (J (r 11)) (J (q 11)) 0 0 6)) (q 12) (va_cpy (J (r 12)) (J (q 12)) 0 0 6)) (q 13) (va_cpy (J (r 13)) (J (q 13)) 0 0 24))) (v := .ref (q 14)) rfl (nt_gfR rfl (hq.1 (0, 11, 14) (by decide))) k
  have k := lz_len rfl (hq.2.2.1 14 (by omega)) k
  rw [show nt_l (me_w M (nt_u1 (nt_u1 (nt_u1 (nt_u1 (nt_u (nt_u (nt_u (nt_u (nt_u (nt_u (x90 q r J) (q 0) 1 (J (r 0) 1)) (q 0) 2 (J (r 0) 2)) (q 0) 3 (J (r 0) 3)) (q 0) 4 (J (r 0) 4)) (q 0) 5 (J (r 0) 5)) (q 0) 6 (J (r 0) 6)) (q 10) (va_cpy (J (r 10)) (J (q 10)) 0 0 6)) (q 11) (va_cpy (J (r 11)) (J (q 11)) 0 0 6)) (q 12) (va_cpy (J (r 12)) (J (q 12)) 0 0 6)) (q 13) (va_cpy (J (r 13)) (J (q 13)) 0 0 24))) (q 14) = 24 from (hl (14, 24) (by decide))] at k
  have k : nt_rn X _ 80 (146, [(0, .ref (q 0)), (1, .ref (r 0))], [.int (Int32.ofNat 24), .int (Int32.ofInt 0), .ref (q 14), .int (Int32.ofInt 0), .ref (r 14)], me_w M (nt_u1 (nt_u1 (nt_u1 (nt_u1 (nt_u (nt_u (nt_u (nt_u (nt_u (nt_u (x90 q r J) (q 0) 1 (J (r 0) 1)) (q 0) 2 (J (r 0) 2)) (q 0) 3 (J (r 0) 3)) (q 0) 4 (J (r 0) 4)) (q 0) 5 (J (r 0) 5)) (q 0) 6 (J (r 0) 6)) (q 10) (va_cpy (J (r 10)) (J (q 10)) 0 0 6)) (q 11) (va_cpy (J (r 11)) (J (q 11)) 0 0 6)) (q 12) (va_cpy (J (r 12)) (J (q 12)) 0 0 6)) (q 13) (va_cpy (J (r 13)) (J (q 13)) 0 0 24))) _ := k
  have k := mx_cpy (N := 24) (fS := J (r 14)) (fD := J (q 14)) rfl ((mu_1 (Ne.symm (hd 13 14 (by omega) (by omega)))).trans ((mu_1 (Ne.symm (hd 12 14 (by omega) (by omega)))).trans ((mu_1 (Ne.symm (hd 11 14 (by omega) (by omega)))).trans ((mu_1 (Ne.symm (hd 10 14 (by omega) (by omega)))).trans ((mu_o (Ne.symm (hd 0 14 (by omega) (by omega)))).trans ((mu_o (Ne.symm (hd 0 14 (by omega) (by omega)))).trans ((mu_o (Ne.symm (hd 0 14 (by omega) (by omega)))).trans ((mu_o (Ne.symm (hd 0 14 (by omega) (by omega)))).trans ((mu_o (Ne.symm (hd 0 14 (by omega) (by omega)))).trans ((mu_o (Ne.symm (hd 0 14 (by omega) (by omega)))).trans (x90_frJ  (Ne.symm (hd 1 14 (by omega) (by omega))) (Ne.symm (hd 2 14 (by omega) (by omega))) (Ne.symm (hd 3 14 (by omega) (by omega))) (Ne.symm (hd 4 14 (by omega) (by omega))) (Ne.symm (hd 5 14 (by omega) (by omega))) (Ne.symm (hd 6 14 (by omega) (by omega))) (Ne.symm (hd 7 14 (by omega) (by omega))) (Ne.symm (hd 8 14 (by omega) (by omega))) (Ne.symm (hd 9 14 (by omega) (by omega)))))))))))))) ((mu_1 (hq.2.1 14 13 (by omega) (by omega) (by decide))).trans ((mu_1 (hq.2.1 14 12 (by omega) (by omega) (by decide))).trans ((mu_1 (hq.2.1 14 11 (by omega) (by omega) (by decide))).trans ((mu_1 (hq.2.1 14 10 (by omega) (by omega) (by decide))).trans ((mu_o (hq.2.1 14 0 (by omega) (by omega) (by decide))).trans ((mu_o (hq.2.1 14 0 (by omega) (by omega) (by decide))).trans ((mu_o (hq.2.1 14 0 (by omega) (by omega) (by decide))).trans ((mu_o (hq.2.1 14 0 (by omega) (by omega) (by decide))).trans ((mu_o (hq.2.1 14 0 (by omega) (by omega) (by decide))).trans ((mu_o (hq.2.1 14 0 (by omega) (by omega) (by decide))).trans (x90_frJ  (hq.2.1 14 1 (by omega) (by omega) (by decide)) (hq.2.1 14 2 (by omega) (by omega) (by decide)) (hq.2.1 14 3 (by omega) (by omega) (by decide)) (hq.2.1 14 4 (by omega) (by omega) (by decide)) (hq.2.1 14 5 (by omega) (by omega) (by decide)) (hq.2.1 14 6 (by omega) (by omega) (by decide)) (hq.2.1 14 7 (by omega) (by omega) (by decide)) (hq.2.1 14 8 (by omega) (by omega) (by decide)) (hq.2.1 14 9 (by omega) (by omega) (by decide))))))))))))) rfl k
  have k : nt_rn X _ 80 (149, [(0, .ref (q 0)), (1, .ref (r 0))], [], me_w M (nt_u1 (nt_u1 (nt_u1 (nt_u1 (nt_u1 (nt_u (nt_u (nt_u (nt_u (nt_u (nt_u (x90 q r J) (q 0) 1 (J (r 0) 1)) (q 0) 2 (J (r 0) 2)) (q 0) 3 (J (r 0) 3)) (q 0) 4 (J (r 0) 4)) (q 0) 5 (J (r 0) 5)) (q 0) 6 (J (r 0) 6)) (q 10) (va_cpy (J (r 10)) (J (q 10)) 0 0 6)) (q 11) (va_cpy (J (r 11)) (J (q 11)) 0 0 6)) (q 12) (va_cpy (J (r 12)) (J (q 12)) 0 0 6)) (q 13) (va_cpy (J (r 13)) (J (q 13)) 0 0 24)) (q 14) (va_cpy (J (r 14)) (J (q 14)) 0 0 24))) _ := k
  have k := ly_revb 1 (c' := (150, [(0, .ref (q 0)), (1, .ref (r 0))], [.ref (r 0)], me_w M (nt_u1 (nt_u1 (nt_u1 (nt_u1 (nt_u1 (nt_u (nt_u (nt_u (nt_u (nt_u (nt_u (x90 q r J) (q 0) 1 (J (r 0) 1)) (q 0) 2 (J (r 0) 2)) (q 0) 3 (J (r 0) 3)) (q 0) 4 (J (r 0) 4)) (q 0) 5 (J (r 0) 5)) (q 0) 6 (J (r 0) 6)) (q 10) (va_cpy (J (r 10)) (J (q 10)) 0 0 6)) (q 11) (va_cpy (J (r 11)) (J (q 11)) 0 0 6)) (q 12) (va_cpy (J (r 12)) (J (q 12)) 0 0 6)) (q 13) (va_cpy (J (r 13)) (J (q 13)) 0 0 24)) (q 14) (va_cpy (J (r 14)) (J (q 14)) 0 0 24)))) rfl k
  have k := lz_get (a := (r 0)) (g := 612) (M := me_w M (nt_u1 (nt_u1 (nt_u1 (nt_u1 (nt_u1 (nt_u (nt_u (nt_u (nt_u (nt_u (nt_u (x90 q r J) (q 0) 1 (J (r 0) 1)) (q 0) 2 (J (r 0) 2)) (q 0) 3 (J (r 0) 3)) (q 0) 4 (J (r 0) 4)) (q 0) 5 (J (r 0) 5)) (q 0) 6 (J (r 0) 6)) (q 10) (va_cpy (J (r 10)) (J (q 10)) 0 0 6)) (q 11) (va_cpy (J (r 11)) (J (q 11)) 0 0 6)) (q 12) (va_cpy (J (r 12)) (J (q 12)) 0 0 6)) (q 13) (va_cpy (J (r 13)) (J (q 13)) 0 0 24)) (q 14) (va_cpy (J (r 14)) (J (q 14)) 0 0 24))) (v := .ref (r 15)) rfl (nt_gfR rfl (hr.1 (0, 12, 15) (by decide))) k
  have k := ly_revb 2 (c' := (155, [(0, .ref (q 0)), (1, .ref (r 0))], [.ref (q 0), .int (Int32.ofInt 0), .ref (r 15)], me_w M (nt_u1 (nt_u1 (nt_u1 (nt_u1 (nt_u1 (nt_u (nt_u (nt_u (nt_u (nt_u (nt_u (x90 q r J) (q 0) 1 (J (r 0) 1)) (q 0) 2 (J (r 0) 2)) (q 0) 3 (J (r 0) 3)) (q 0) 4 (J (r 0) 4)) (q 0) 5 (J (r 0) 5)) (q 0) 6 (J (r 0) 6)) (q 10) (va_cpy (J (r 10)) (J (q 10)) 0 0 6)) (q 11) (va_cpy (J (r 11)) (J (q 11)) 0 0 6)) (q 12) (va_cpy (J (r 12)) (J (q 12)) 0 0 6)) (q 13) (va_cpy (J (r 13)) (J (q 13)) 0 0 24)) (q 14) (va_cpy (J (r 14)) (J (q 14)) 0 0 24)))) rfl k
  have k := lz_get (a := (q 0)) (g := 612) (M := me_w M (nt_u1 (nt_u1 (nt_u1 (nt_u1 (nt_u1 (nt_u (nt_u (nt_u (nt_u (nt_u (nt_u (x90 q r J) (q 0) 1 (J (r 0) 1)) (q 0) 2 (J (r 0) 2)) (q 0) 3 (J (r 0) 3)) (q 0) 4 (J (r 0) 4)) (q 0) 5 (J (r 0) 5)) (q 0) 6 (J (r 0) 6)) (q 10) (va_cpy (J (r 10)) (J (q 10)) 0 0 6)) (q 11) (va_cpy (J (r 11)) (J (q 11)) 0 0 6)) (q 12) (va_cpy (J (r 12)) (J (q 12)) 0 0 6)) (q 13) (va_cpy (J (r 13)) (J (q 13)) 0 0 24)) (q 14) (va_cpy (J (r 14)) (J (q 14)) 0 0 24))) (v := .ref (q 15)) rfl (nt_gfR rfl (hq.1 (0, 12, 15) (by decide))) k
  have k := ly_revb 2 (c' := (160, [(0, .ref (q 0)), (1, .ref (r 0))], [.ref (q 0), .int (Int32.ofInt 0), .ref (q 15), .int (Int32.ofInt 0), .ref (r 15)], me_w M (nt_u1 (nt_u1 (nt_u1 (nt_u1 (nt_u1 (nt_u (nt_u (nt_u (nt_u (nt_u (nt_u (x90 q r J) (q 0) 1 (J (r 0) 1)) (q 0) 2 (J (r 0) 2)) (q 0) 3 (J (r 0) 3)) (q 0) 4 (J (r 0) 4)) (q 0) 5 (J (r 0) 5)) (q 0) 6 (J (r 0) 6)) (q 10) (va_cpy (J (r 10)) (J (q 10)) 0 0 6)) (q 11) (va_cpy (J (r 11)) (J (q 11)) 0 0 6)) (q 12) (va_cpy (J (r 12)) (J (q 12)) 0 0 6)) (q 13) (va_cpy (J (r 13)) (J (q 13)) 0 0 24)) (q 14) (va_cpy (J (r 14)) (J (q 14)) 0 0 24)))) rfl k
  have k := lz_get (a := (q 0)) (g := 612) (M := me_w M (nt_u1 (nt_u1 (nt_u1 (nt_u1 (nt_u1 (nt_u (nt_u (nt_u (nt_u (nt_u (nt_u (x90 q r J) (q 0) 1 (J (r 0) 1)) (q 0) 2 (J (r 0) 2)) (q 0) 3 (J (r 0) 3)) (q 0) 4 (J (r 0) 4)) (q 0) 5 (J (r 0) 5)) (q 0) 6 (J (r 0) 6)) (q 10) (va_cpy (J (r 10)) (J (q 10)) 0 0 6)) (q 11) (va_cpy (J (r 11)) (J (q 11)) 0 0 6)) (q 12) (va_cpy (J (r 12)) (J (q 12)) 0 0 6)) (q 13) (va_cpy (J (r 13)) (J (q 13)) 0 0 24)) (q 14) (va_cpy (J (r 14)) (J (q 14)) 0 0 24))) (v := .ref (q 15)) rfl (nt_gfR rfl (hq.1 (0, 12, 15) (by decide))) k
  have k := lz_len rfl (hq.2.2.1 15 (by omega)) k
  rw [show nt_l (me_w M (nt_u1 (nt_u1 (nt_u1 (nt_u1 (nt_u1 (nt_u (nt_u (nt_u (nt_u (nt_u (nt_u (x90 q r J) (q 0) 1 (J (r 0) 1)) (q 0) 2 (J (r 0) 2)) (q 0) 3 (J (r 0) 3)) (q 0) 4 (J (r 0) 4)) (q 0) 5 (J (r 0) 5)) (q 0) 6 (J (r 0) 6)) (q 10) (va_cpy (J (r 10)) (J (q 10)) 0 0 6)) (q 11) (va_cpy (J (r 11)) (J (q 11)) 0 0 6)) (q 12) (va_cpy (J (r 12)) (J (q 12)) 0 0 6)) (q 13) (va_cpy (J (r 13)) (J (q 13)) 0 0 24)) (q 14) (va_cpy (J (r 14)) (J (q 14)) 0 0 24))) (q 15) = 24 from (hl (15, 24) (by decide))] at k
  have k : nt_rn X _ 80 (164, [(0, .ref (q 0)), (1, .ref (r 0))], [.int (Int32.ofNat 24), .int (Int32.ofInt 0), .ref (q 15), .int (Int32.ofInt 0), .ref (r 15)], me_w M (nt_u1 (nt_u1 (nt_u1 (nt_u1 (nt_u1 (nt_u (nt_u (nt_u (nt_u (nt_u (nt_u (x90 q r J) (q 0) 1 (J (r 0) 1)) (q 0) 2 (J (r 0) 2)) (q 0) 3 (J (r 0) 3)) (q 0) 4 (J (r 0) 4)) (q 0) 5 (J (r 0) 5)) (q 0) 6 (J (r 0) 6)) (q 10) (va_cpy (J (r 10)) (J (q 10)) 0 0 6)) (q 11) (va_cpy (J (r 11)) (J (q 11)) 0 0 6)) (q 12) (va_cpy (J (r 12)) (J (q 12)) 0 0 6)) (q 13) (va_cpy (J (r 13)) (J (q 13)) 0 0 24)) (q 14) (va_cpy (J (r 14)) (J (q 14)) 0 0 24))) _ := k
  have k := mx_cpy (N := 24) (fS := J (r 15)) (fD := J (q 15)) rfl ((mu_1 (Ne.symm (hd 14 15 (by omega) (by omega)))).trans ((mu_1 (Ne.symm (hd 13 15 (by omega) (by omega)))).trans ((mu_1 (Ne.symm (hd 12 15 (by omega) (by omega)))).trans ((mu_1 (Ne.symm (hd 11 15 (by omega) (by omega)))).trans ((mu_1 (Ne.symm (hd 10 15 (by omega) (by omega)))).trans ((mu_o (Ne.symm (hd 0 15 (by omega) (by omega)))).trans ((mu_o (Ne.symm (hd 0 15 (by omega) (by omega)))).trans ((mu_o (Ne.symm (hd 0 15 (by omega) (by omega)))).trans ((mu_o (Ne.symm (hd 0 15 (by omega) (by omega)))).trans ((mu_o (Ne.symm (hd 0 15 (by omega) (by omega)))).trans ((mu_o (Ne.symm (hd 0 15 (by omega) (by omega)))).trans (x90_frJ  (Ne.symm (hd 1 15 (by omega) (by omega))) (Ne.symm (hd 2 15 (by omega) (by omega))) (Ne.symm (hd 3 15 (by omega) (by omega))) (Ne.symm (hd 4 15 (by omega) (by omega))) (Ne.symm (hd 5 15 (by omega) (by omega))) (Ne.symm (hd 6 15 (by omega) (by omega))) (Ne.symm (hd 7 15 (by omega) (by omega))) (Ne.symm (hd 8 15 (by omega) (by omega))) (Ne.symm (hd 9 15 (by omega) (by omega))))))))))))))) ((mu_1 (hq.2.1 15 14 (by omega) (by omega) (by decide))).trans ((mu_1 (hq.2.1 15 13 (by omega) (by omega) (by decide))).trans ((mu_1 (hq.2.1 15 12 (by omega) (by omega) (by decide))).trans ((mu_1 (hq.2.1 15 11 (by omega) (by omega) (by decide))).trans ((mu_1 (hq.2.1 15 10 (by omega) (by omega) (by decide))).trans ((mu_o (hq.2.1 15 0 (by omega) (by omega) (by decide))).trans ((mu_o (hq.2.1 15 0 (by omega) (by omega) (by decide))).trans ((mu_o (hq.2.1 15 0 (by omega) (by omega) (by decide))).trans ((mu_o (hq.2.1 15 0 (by omega) (by omega) (by decide))).trans ((mu_o (hq.2.1 15 0 (by omega) (by omega) (by decide))).trans ((mu_o (hq.2.1 15 0 (by omega) (by omega) (by decide))).trans (x90_frJ  (hq.2.1 15 1 (by omega) (by omega) (by decide)) (hq.2.1 15 2 (by omega) (by omega) (by decide)) (hq.2.1 15 3 (by omega) (by omega) (by decide)) (hq.2.1 15 4 (by omega) (by omega) (by decide)) (hq.2.1 15 5 (by omega) (by omega) (by decide)) (hq.2.1 15 6 (by omega) (by omega) (by decide)) (hq.2.1 15 7 (by omega) (by omega) (by decide)) (hq.2.1 15 8 (by omega) (by omega) (by decide)) (hq.2.1 15 9 (by omega) (by omega) (by decide)))))))))))))) rfl k
  have k : nt_rn X _ 80 (167, [(0, .ref (q 0)), (1, .ref (r 0))], [], me_w M (nt_u1 (nt_u1 (nt_u1 (nt_u1 (nt_u1 (nt_u1 (nt_u (nt_u (nt_u (nt_u (nt_u (nt_u (x90 q r J) (q 0) 1 (J (r 0) 1)) (q 0) 2 (J (r 0) 2)) (q 0) 3 (J (r 0) 3)) (q 0) 4 (J (r 0) 4)) (q 0) 5 (J (r 0) 5)) (q 0) 6 (J (r 0) 6)) (q 10) (va_cpy (J (r 10)) (J (q 10)) 0 0 6)) (q 11) (va_cpy (J (r 11)) (J (q 11)) 0 0 6)) (q 12) (va_cpy (J (r 12)) (J (q 12)) 0 0 6)) (q 13) (va_cpy (J (r 13)) (J (q 13)) 0 0 24)) (q 14) (va_cpy (J (r 14)) (J (q 14)) 0 0 24)) (q 15) (va_cpy (J (r 15)) (J (q 15)) 0 0 24))) _ := k
  have k := ly_revb 1 (c' := (168, [(0, .ref (q 0)), (1, .ref (r 0))], [.ref (r 0)], me_w M (nt_u1 (nt_u1 (nt_u1 (nt_u1 (nt_u1 (nt_u1 (nt_u (nt_u (nt_u (nt_u (nt_u (nt_u (x90 q r J) (q 0) 1 (J (r 0) 1)) (q 0) 2 (J (r 0) 2)) (q 0) 3 (J (r 0) 3)) (q 0) 4 (J (r 0) 4)) (q 0) 5 (J (r 0) 5)) (q 0) 6 (J (r 0) 6)) (q 10) (va_cpy (J (r 10)) (J (q 10)) 0 0 6)) (q 11) (va_cpy (J (r 11)) (J (q 11)) 0 0 6)) (q 12) (va_cpy (J (r 12)) (J (q 12)) 0 0 6)) (q 13) (va_cpy (J (r 13)) (J (q 13)) 0 0 24)) (q 14) (va_cpy (J (r 14)) (J (q 14)) 0 0 24)) (q 15) (va_cpy (J (r 15)) (J (q 15)) 0 0 24)))) rfl k
  have k := lz_get (a := (r 0)) (g := 613) (M := me_w M (nt_u1 (nt_u1 (nt_u1 (nt_u1 (nt_u1 (nt_u1 (nt_u (nt_u (nt_u (nt_u (nt_u (nt_u (x90 q r J) (q 0) 1 (J (r 0) 1)) (q 0) 2 (J (r 0) 2)) (q 0) 3 (J (r 0) 3)) (q 0) 4 (J (r 0) 4)) (q 0) 5 (J (r 0) 5)) (q 0) 6 (J (r 0) 6)) (q 10) (va_cpy (J (r 10)) (J (q 10)) 0 0 6)) (q 11) (va_cpy (J (r 11)) (J (q 11)) 0 0 6)) (q 12) (va_cpy (J (r 12)) (J (q 12)) 0 0 6)) (q 13) (va_cpy (J (r 13)) (J (q 13)) 0 0 24)) (q 14) (va_cpy (J (r 14)) (J (q 14)) 0 0 24)) (q 15) (va_cpy (J (r 15)) (J (q 15)) 0 0 24))) (v := .ref (r 16)) rfl (nt_gfR rfl (hr.1 (0, 13, 16) (by decide))) k
  have k := ly_revb 2 (c' := (173, [(0, .ref (q 0)), (1, .ref (r 0))], [.ref (q 0), .int (Int32.ofInt 0), .ref (r 16)], me_w M (nt_u1 (nt_u1 (nt_u1 (nt_u1 (nt_u1 (nt_u1 (nt_u (nt_u (nt_u (nt_u (nt_u (nt_u (x90 q r J) (q 0) 1 (J (r 0) 1)) (q 0) 2 (J (r 0) 2)) (q 0) 3 (J (r 0) 3)) (q 0) 4 (J (r 0) 4)) (q 0) 5 (J (r 0) 5)) (q 0) 6 (J (r 0) 6)) (q 10) (va_cpy (J (r 10)) (J (q 10)) 0 0 6)) (q 11) (va_cpy (J (r 11)) (J (q 11)) 0 0 6)) (q 12) (va_cpy (J (r 12)) (J (q 12)) 0 0 6)) (q 13) (va_cpy (J (r 13)) (J (q 13)) 0 0 24)) (q 14) (va_cpy (J (r 14)) (J (q 14)) 0 0 24)) (q 15) (va_cpy (J (r 15)) (J (q 15)) 0 0 24)))) rfl k
  have k := lz_get (a := (q 0)) (g := 613) (M := me_w M (nt_u1 (nt_u1 (nt_u1 (nt_u1 (nt_u1 (nt_u1 (nt_u (nt_u (nt_u (nt_u (nt_u (nt_u (x90 q r J) (q 0) 1 (J (r 0) 1)) (q 0) 2 (J (r 0) 2)) (q 0) 3 (J (r 0) 3)) (q 0) 4 (J (r 0) 4)) (q 0) 5 (J (r 0) 5)) (q 0) 6 (J (r 0) 6)) (q 10) (va_cpy (J (r 10)) (J (q 10)) 0 0 6)) (q 11) (va_cpy (J (r 11)) (J (q 11)) 0 0 6)) (q 12) (va_cpy (J (r 12)) (J (q 12)) 0 0 6)) (q 13) (va_cpy (J (r 13)) (J (q 13)) 0 0 24)) (q 14) (va_cpy (J (r 14)) (J (q 14)) 0 0 24)) (q 15) (va_cpy (J (r 15)) (J (q 15)) 0 0 24))) (v := .ref (q 16)) rfl (nt_gfR rfl (hq.1 (0, 13, 16) (by decide))) k
  have k := ly_revb 2 (c' := (178, [(0, .ref (q 0)), (1, .ref (r 0))], [.ref (q 0), .int (Int32.ofInt 0), .ref (q 16), .int (Int32.ofInt 0), .ref (r 16)], me_w M (nt_u1 (nt_u1 (nt_u1 (nt_u1 (nt_u1 (nt_u1 (nt_u (nt_u (nt_u (nt_u (nt_u (nt_u (x90 q r J) (q 0) 1 (J (r 0) 1)) (q 0) 2 (J (r 0) 2)) (q 0) 3 (J (r 0) 3)) (q 0) 4 (J (r 0) 4)) (q 0) 5 (J (r 0) 5)) (q 0) 6 (J (r 0) 6)) (q 10) (va_cpy (J (r 10)) (J (q 10)) 0 0 6)) (q 11) (va_cpy (J (r 11)) (J (q 11)) 0 0 6)) (q 12) (va_cpy (J (r 12)) (J (q 12)) 0 0 6)) (q 13) (va_cpy (J (r 13)) (J (q 13)) 0 0 24)) (q 14) (va_cpy (J (r 14)) (J (q 14)) 0 0 24)) (q 15) (va_cpy (J (r 15)) (J (q 15)) 0 0 24)))) rfl k
  have k := lz_get (a := (q 0)) (g := 613) (M := me_w M (nt_u1 (nt_u1 (nt_u1 (nt_u1 (nt_u1 (nt_u1 (nt_u (nt_u (nt_u (nt_u (nt_u (nt_u (x90 q r J) (q 0) 1 (J (r 0) 1)) (q 0) 2 (J (r 0) 2)) (q 0) 3 (J (r 0) 3)) (q 0) 4 (J (r 0) 4)) (q 0) 5 (J (r 0) 5)) (q 0) 6 (J (r 0) 6)) (q 10) (va_cpy (J (r 10)) (J (q 10)) 0 0 6)) (q 11) (va_cpy (J (r 11)) (J (q 11)) 0 0 6)) (q 12) (va_cpy (J (r 12)) (J (q 12)) 0 0 6)) (q 13) (va_cpy (J (r 13)) (J (q 13)) 0 0 24)) (q 14) (va_cpy (J (r 14)) (J (q 14)) 0 0 24)) (q 15) (va_cpy (J (r 15)) (J (q 15)) 0 0 24))) (v := .ref (q 16)) rfl (nt_gfR rfl (hq.1 (0, 13, 16) (by decide))) k
  have k := lz_len rfl (hq.2.2.1 16 (by omega)) k
  rw [show nt_l (me_w M (nt_u1 (nt_u1 (nt_u1 (nt_u1 (nt_u1 (nt_u1 (nt_u (nt_u (nt_u (nt_u (nt_u (nt_u (x90 q r J) (q 0) 1 (J (r 0) 1)) (q 0) 2 (J (r 0) 2)) (q 0) 3 (J (r 0) 3)) (q 0) 4 (J (r 0) 4)) (q 0) 5 (J (r 0) 5)) (q 0) 6 (J (r 0) 6)) (q 10) (va_cpy (J (r 10)) (J (q 10)) 0 0 6)) (q 11) (va_cpy (J (r 11)) (J (q 11)) 0 0 6)) (q 12) (va_cpy (J (r 12)) (J (q 12)) 0 0 6)) (q 13) (va_cpy (J (r 13)) (J (q 13)) 0 0 24)) (q 14) (va_cpy (J (r 14)) (J (q 14)) 0 0 24)) (q 15) (va_cpy (J (r 15)) (J (q 15)) 0 0 24))) (q 16) = 8 from (hl (16, 8) (by decide))] at k
  have k : nt_rn X _ 80 (182, [(0, .ref (q 0)), (1, .ref (r 0))], [.int (Int32.ofNat 8), .int (Int32.ofInt 0), .ref (q 16), .int (Int32.ofInt 0), .ref (r 16)], me_w M (nt_u1 (nt_u1 (nt_u1 (nt_u1 (nt_u1 (nt_u1 (nt_u (nt_u (nt_u (nt_u (nt_u (nt_u (x90 q r J) (q 0) 1 (J (r 0) 1)) (q 0) 2 (J (r 0) 2)) (q 0) 3 (J (r 0) 3)) (q 0) 4 (J (r 0) 4)) (q 0) 5 (J (r 0) 5)) (q 0) 6 (J (r 0) 6)) (q 10) (va_cpy (J (r 10)) (J (q 10)) 0 0 6)) (q 11) (va_cpy (J (r 11)) (J (q 11)) 0 0 6)) (q 12) (va_cpy (J (r 12)) (J (q 12)) 0 0 6)) (q 13) (va_cpy (J (r 13)) (J (q 13)) 0 0 24)) (q 14) (va_cpy (J (r 14)) (J (q 14)) 0 0 24)) (q 15) (va_cpy (J (r 15)) (J (q 15)) 0 0 24))) _ := k
  have k := mx_cpy (N := 8) (fS := J (r 16)) (fD := J (q 16)) rfl ((mu_1 (Ne.symm (hd 15 16 (by omega) (by omega)))).trans ((mu_1 (Ne.symm (hd 14 16 (by omega) (by omega)))).trans ((mu_1 (Ne.symm (hd 13 16 (by omega) (by omega)))).trans ((mu_1 (Ne.symm (hd 12 16 (by omega) (by omega)))).trans ((mu_1 (Ne.symm (hd 11 16 (by omega) (by omega)))).trans ((mu_1 (Ne.symm (hd 10 16 (by omega) (by omega)))).trans ((mu_o (Ne.symm (hd 0 16 (by omega) (by omega)))).trans ((mu_o (Ne.symm (hd 0 16 (by omega) (by omega)))).trans ((mu_o (Ne.symm (hd 0 16 (by omega) (by omega)))).trans ((mu_o (Ne.symm (hd 0 16 (by omega) (by omega)))).trans ((mu_o (Ne.symm (hd 0 16 (by omega) (by omega)))).trans ((mu_o (Ne.symm (hd 0 16 (by omega) (by omega)))).trans (x90_frJ  (Ne.symm (hd 1 16 (by omega) (by omega))) (Ne.symm (hd 2 16 (by omega) (by omega))) (Ne.symm (hd 3 16 (by omega) (by omega))) (Ne.symm (hd 4 16 (by omega) (by omega))) (Ne.symm (hd 5 16 (by omega) (by omega))) (Ne.symm (hd 6 16 (by omega) (by omega))) (Ne.symm (hd 7 16 (by omega) (by omega))) (Ne.symm (hd 8 16 (by omega) (by omega))) (Ne.symm (hd 9 16 (by omega) (by omega)))))))))))))))) ((mu_1 (hq.2.1 16 15 (by omega) (by omega) (by decide))).trans ((mu_1 (hq.2.1 16 14 (by omega) (by omega) (by decide))).trans ((mu_1 (hq.2.1 16 13 (by omega) (by omega) (by decide))).trans ((mu_1 (hq.2.1 16 12 (by omega) (by omega) (by decide))).trans ((mu_1 (hq.2.1 16 11 (by omega) (by omega) (by decide))).trans ((mu_1 (hq.2.1 16 10 (by omega) (by omega) (by decide))).trans ((mu_o (hq.2.1 16 0 (by omega) (by omega) (by decide))).trans ((mu_o (hq.2.1 16 0 (by omega) (by omega) (by decide))).trans ((mu_o (hq.2.1 16 0 (by omega) (by omega) (by decide))).trans ((mu_o (hq.2.1 16 0 (by omega) (by omega) (by decide))).trans ((mu_o (hq.2.1 16 0 (by omega) (by omega) (by decide))).trans ((mu_o (hq.2.1 16 0 (by omega) (by omega) (by decide))).trans (x90_frJ  (hq.2.1 16 1 (by omega) (by omega) (by decide)) (hq.2.1 16 2 (by omega) (by omega) (by decide)) (hq.2.1 16 3 (by omega) (by omega) (by decide)) (hq.2.1 16 4 (by omega) (by omega) (by decide)) (hq.2.1 16 5 (by omega) (by omega) (by decide)) (hq.2.1 16 6 (by omega) (by omega) (by decide)) (hq.2.1 16 7 (by omega) (by omega) (by decide)) (hq.2.1 16 8 (by omega) (by omega) (by decide)) (hq.2.1 16 9 (by omega) (by omega) (by decide))))))))))))))) rfl k
  have k : nt_rn X _ 80 (185, [(0, .ref (q 0)), (1, .ref (r 0))], [], me_w M (nt_u1 (nt_u1 (nt_u1 (nt_u1 (nt_u1 (nt_u1 (nt_u1 (nt_u (nt_u (nt_u (nt_u (nt_u (nt_u (x90 q r J) (q 0) 1 (J (r 0) 1)) (q 0) 2 (J (r 0) 2)) (q 0) 3 (J (r 0) 3)) (q 0) 4 (J (r 0) 4)) (q 0) 5 (J (r 0) 5)) (q 0) 6 (J (r 0) 6)) (q 10) (va_cpy (J (r 10)) (J (q 10)) 0 0 6)) (q 11) (va_cpy (J (r 11)) (J (q 11)) 0 0 6)) (q 12) (va_cpy (J (r 12)) (J (q 12)) 0 0 6)) (q 13) (va_cpy (J (r 13)) (J (q 13)) 0 0 24)) (q 14) (va_cpy (J (r 14)) (J (q 14)) 0 0 24)) (q 15) (va_cpy (J (r 15)) (J (q 15)) 0 0 24)) (q 16) (va_cpy (J (r 16)) (J (q 16)) 0 0 8))) _ := k
  have k := lz_rv rfl rfl k
  rw [k, x80]
theorem x80_frJ {q : Nat → Nat} {r : Nat → Nat} {J : Nat → Nat → Int32} {b : Nat} (n0 : b ≠ q 0) (n1 : b ≠ q 1) (n2 : b ≠ q 2) (n3 : b ≠ q 3) (n4 : b ≠ q 4) (n5 : b ≠ q 5) (n6 : b ≠ q 6) (n7 : b ≠ q 7) (n8 : b ≠ q 8) (n9 : b ≠ q 9) (n10 : b ≠ q 10) (n11 : b ≠ q 11) (n12 : b ≠ q 12) (n13 : b ≠ q 13) (n14 : b ≠ q 14) (n15 : b ≠ q 15) (n16 : b ≠ q 16) : x80 q r J b = J b := by
  unfold x80
  all_goals first | (dsimp only; exact (show (nt_u1 (nt_u1 (nt_u1 (nt_u1 (nt_u1 (nt_u1 (nt_u1 (nt_u (nt_u (nt_u (nt_u (nt_u (nt_u (x90 q r J) (q 0) 1 (J (r 0) 1)) (q 0) 2 (J (r 0) 2)) (q 0) 3 (J (r 0) 3)) (q 0) 4 (J (r 0) 4)) (q 0) 5 (J (r 0) 5)) (q 0) 6 (J (r 0) 6)) (q 10) (va_cpy (J (r 10)) (J (q 10)) 0 0 6)) (q 11) (va_cpy (J (r 11)) (J (q 11)) 0 0 6)) (q 12) (va_cpy (J (r 12)) (J (q 12)) 0 0 6)) (q 13) (va_cpy (J (r 13)) (J (q 13)) 0 0 24)) (q 14) (va_cpy (J (r 14)) (J (q 14)) 0 0 24)) (q 15) (va_cpy (J (r 15)) (J (q 15)) 0 0 24)) (q 16) (va_cpy (J (r 16)) (J (q 16)) 0 0 8)) b = J b from (mu_1 n16).trans ((mu_1 n15).trans ((mu_1 n14).trans ((mu_1 n13).trans ((mu_1 n12).trans ((mu_1 n11).trans ((mu_1 n10).trans ((mu_o n0).trans ((mu_o n0).trans ((mu_o n0).trans ((mu_o n0).trans ((mu_o n0).trans ((mu_o n0).trans (x90_frJ  n1 n2 n3 n4 n5 n6 n7 n8 n9))))))))))))))) | exact (show (nt_u1 (nt_u1 (nt_u1 (nt_u1 (nt_u1 (nt_u1 (nt_u1 (nt_u (nt_u (nt_u (nt_u (nt_u (nt_u (x90 q r J) (q 0) 1 (J (r 0) 1)) (q 0) 2 (J (r 0) 2)) (q 0) 3 (J (r 0) 3)) (q 0) 4 (J (r 0) 4)) (q 0) 5 (J (r 0) 5)) (q 0) 6 (J (r 0) 6)) (q 10) (va_cpy (J (r 10)) (J (q 10)) 0 0 6)) (q 11) (va_cpy (J (r 11)) (J (q 11)) 0 0 6)) (q 12) (va_cpy (J (r 12)) (J (q 12)) 0 0 6)) (q 13) (va_cpy (J (r 13)) (J (q 13)) 0 0 24)) (q 14) (va_cpy (J (r 14)) (J (q 14)) 0 0 24)) (q 15) (va_cpy (J (r 15)) (J (q 15)) 0 0 24)) (q 16) (va_cpy (J (r 16)) (J (q 16)) 0 0 8)) b = J b from (mu_1 n16).trans ((mu_1 n15).trans ((mu_1 n14).trans ((mu_1 n13).trans ((mu_1 n12).trans ((mu_1 n11).trans ((mu_1 n10).trans ((mu_o n0).trans ((mu_o n0).trans ((mu_o n0).trans ((mu_o n0).trans ((mu_o n0).trans ((mu_o n0).trans (x90_frJ  n1 n2 n3 n4 n5 n6 n7 n8 n9))))))))))))))
end
section
/-! whose ship is whose -/
/-! $State.heaviestLoser -/
def x77_7 (q : Nat → Nat) (v1 : Int32) (J : Nat → Nat → Int32) : Nat → Int32 → Int32 → Int32 → Int32
  | 0, v2, v3, v4 => v2
  | c + 1, v2, v3, v4 => if (J (q 1) 1) ≤ v4 then v2
    else if (x75 q v1 v4 J) ≤ v3 then (x77_7 q v1 J c v2 v3 (v4 + (Int32.ofInt 1)))
      else (x77_7 q v1 J c v4 (x75 q v1 v4 J) (v4 + (Int32.ofInt 1)))
theorem xt77_7 {X : nt_X} {d : Nat} {M : nt_M} {o : Option Value × nt_M} {q : Nat → Nat} {v1 : Int32} {J : Nat → Nat → Int32} (hq : xs_Q M q) : ∀ (c : Nat) (v2 : Int32) (v3 : Int32) (v4 : Int32) (v5 : Int32), (J (q 1) 1).toInt - v4.toInt ≤ c → nt_rn X d 77 (7, [(0, .ref (q 0)), (1, .int v1), (2, .int v2), (3, .int v3), (4, .int v4), (5, .int v5)], [], me_w M J) o → o = (some (.int (x77_7 q v1 J c v2 v3 v4)), me_w M J) := by
  intro c
  induction c with
  | zero =>
    intro v2 v3 v4 v5 hc k
    have k := ly_revb 2 (c' := (10, [(0, .ref (q 0)), (1, .int v1), (2, .int v2), (3, .int v3), (4, .int v4), (5, .int v5)], [.ref (q 0), .int v4], me_w M J)) rfl k
    have k := lz_get (a := (q 0)) (g := 600) (M := me_w M J) (v := .ref (q 1)) rfl (nt_gfR rfl (hq.1 (0, 0, 1) (by decide))) k
    have k := lz_get (a := (q 1)) (g := 801) (M := me_w M J) (v := .int (J (q 1) 1)) rfl (congrArg Value.int (rfl)) k
    have k := ly_revb 1 (c' := (if (J (q 1) 1) ≤ v4 then 46 else 19, [(0, .ref (q 0)), (1, .int v1), (2, .int v2), (3, .int v3), (4, .int v4), (5, .int v5)], [], me_w M J)) rfl k
    have h16 : (J (q 1) 1) ≤ v4 := lx_end hc
    rw [if_pos h16] at k
    have k := ly_revb 1 (c' := (47, [(0, .ref (q 0)), (1, .int v1), (2, .int v2), (3, .int v3), (4, .int v4), (5, .int v5)], [.int v2], me_w M J)) rfl k
    have k := lz_ri rfl (by decide) k
    rw [k, x77_7]
  | succ c ih =>
    intro v2 v3 v4 v5 hc k
    have k := ly_revb 2 (c' := (10, [(0, .ref (q 0)), (1, .int v1), (2, .int v2), (3, .int v3), (4, .int v4), (5, .int v5)], [.ref (q 0), .int v4], me_w M J)) rfl k
    have k := lz_get (a := (q 0)) (g := 600) (M := me_w M J) (v := .ref (q 1)) rfl (nt_gfR rfl (hq.1 (0, 0, 1) (by decide))) k
    have k := lz_get (a := (q 1)) (g := 801) (M := me_w M J) (v := .int (J (q 1) 1)) rfl (congrArg Value.int (rfl)) k
    have k := ly_revb 1 (c' := (if (J (q 1) 1) ≤ v4 then 46 else 19, [(0, .ref (q 0)), (1, .int v1), (2, .int v2), (3, .int v3), (4, .int v4), (5, .int v5)], [], me_w M J)) rfl k
    by_cases h16 : (J (q 1) 1) ≤ v4
    · rw [if_pos h16] at k
      have k := ly_revb 1 (c' := (47, [(0, .ref (q 0)), (1, .int v1), (2, .int v2), (3, .int v3), (4, .int v4), (5, .int v5)], [.int v2], me_w M J)) rfl k
      have k := lz_ri rfl (by decide) k
      rw [k, x77_7, if_pos h16]
    · rw [if_neg h16] at k
      have k := ly_revb 3 (c' := (23, [(0, .ref (q 0)), (1, .int v1), (2, .int v2), (3, .int v3), (4, .int v4), (5, .int v5)], [.int v4, .int v1, .ref (q 0)], me_w M J)) rfl k
      obtain ⟨d1, o1, ed, kc, k⟩ := lz_c (g := 75) (q := 1) (vs := [.ref (q 0), .int v1, .int v4]) (rest := []) rfl rfl (by decide) (Or.inr (Or.inl ⟨_, rfl, rfl⟩)) rfl k
      have e1 := xt75 hq kc
      subst e1
      have k : nt_rn X _ 77 (26, [(0, .ref (q 0)), (1, .int v1), (2, .int v2), (3, .int v3), (4, .int v4), (5, .int v5)], [.int (x75 q v1 v4 J)], me_w M J) _ := k
      have k := ly_revb 4 (c' := (if (x75 q v1 v4 J) ≤ v3 then 40 else 34, [(5, .int (x75 q v1 v4 J)), (0, .ref (q 0)), (1, .int v1), (2, .int v2), (3, .int v3), (4, .int v4)], [], me_w M J)) rfl k
      by_cases h31 : (x75 q v1 v4 J) ≤ v3
      · rw [if_pos h31] at k
        have k := ly_revb 2 (c' := (7, [(4, .int (v4 + (Int32.ofInt 1))), (5, .int (x75 q v1 v4 J)), (0, .ref (q 0)), (1, .int v1), (2, .int v2), (3, .int v3)], [], me_w M J)) rfl k
        have k := nt_rn_w (a := [(4, .int (v4 + (Int32.ofInt 1))), (5, .int (x75 q v1 v4 J)), (0, .ref (q 0)), (1, .int v1), (2, .int v2), (3, .int v3)]) (b := [(0, .ref (q 0)), (1, .int v1), (2, .int v2), (3, .int v3), (4, .int (v4 + (Int32.ofInt 1))), (5, .int (x75 q v1 v4 J))]) ⟨rfl, rfl, rfl, rfl, rfl, rfl, trivial⟩ rfl k
        have k := ih v2 v3 (v4 + (Int32.ofInt 1)) (x75 q v1 v4 J) (lx_dec h16 hc) k
        rw [k, x77_7, if_neg h16, if_pos h31]
      · rw [if_neg h31] at k
        have k := ly_revb 6 (c' := (7, [(4, .int (v4 + (Int32.ofInt 1))), (2, .int v4), (3, .int (x75 q v1 v4 J)), (5, .int (x75 q v1 v4 J)), (0, .ref (q 0)), (1, .int v1)], [], me_w M J)) rfl k
        have k := nt_rn_w (a := [(4, .int (v4 + (Int32.ofInt 1))), (2, .int v4), (3, .int (x75 q v1 v4 J)), (5, .int (x75 q v1 v4 J)), (0, .ref (q 0)), (1, .int v1)]) (b := [(0, .ref (q 0)), (1, .int v1), (2, .int v4), (3, .int (x75 q v1 v4 J)), (4, .int (v4 + (Int32.ofInt 1))), (5, .int (x75 q v1 v4 J))]) ⟨rfl, rfl, rfl, rfl, rfl, rfl, trivial⟩ rfl k
        have k := ih v4 (x75 q v1 v4 J) (v4 + (Int32.ofInt 1)) (x75 q v1 v4 J) (lx_dec h16 hc) k
        rw [k, x77_7, if_neg h16, if_neg h31]
theorem x77_7_rule {q : Nat → Nat} {v1 : Int32} {J : Nat → Nat → Int32} {I : Nat → Int32 → Int32 → Int32 → Prop} {Q : Int32 → Prop} (h0 : ∀ (v2 : Int32) (v3 : Int32) (v4 : Int32), I 0 v2 v3 v4 → Q v2) (h1 : ∀ (c : Nat) (v2 : Int32) (v3 : Int32) (v4 : Int32), I (c + 1) v2 v3 v4 →
    if (J (q 1) 1) ≤ v4 then (Q v2)
    else if (x75 q v1 v4 J) ≤ v3 then (I c v2 v3 (v4 + (Int32.ofInt 1)))
      else (I c v4 (x75 q v1 v4 J) (v4 + (Int32.ofInt 1)))) : ∀ (c : Nat) (v2 : Int32) (v3 : Int32) (v4 : Int32), I c v2 v3 v4 → Q (x77_7 q v1 J c v2 v3 v4) := by
  intro c
  induction c with
  | zero =>
    intro v2 v3 v4 hi
    rw [x77_7]
    exact h0 v2 v3 v4 hi
  | succ c ih =>
    intro v2 v3 v4 hi
    have hi := h1 c v2 v3 v4 hi
    rw [x77_7]
    by_cases h : (J (q 1) 1) ≤ v4
    · rw [if_pos h] at hi ⊢
      exact hi
    · rw [if_neg h] at hi ⊢
      by_cases h : (x75 q v1 v4 J) ≤ v3
      · rw [if_pos h] at hi ⊢
        exact ih _ _ _ hi
      · rw [if_neg h] at hi ⊢
        exact ih _ _ _ hi
def x77 (q : Nat → Nat) (v1 : Int32) (J : Nat → Nat → Int32) : Int32 := (x77_7 q v1 J ((J (q 1) 1).toNatClampNeg) (Int32.ofInt (-1)) (Int32.ofInt 0) (Int32.ofInt 0))
theorem xt77 {X : nt_X} {d : Nat} {M : nt_M} {o : Option Value × nt_M} {q : Nat → Nat} {v1 : Int32} {J : Nat → Nat → Int32} (hq : xs_Q M q) (k : nt_ev X d 77 [.ref (q 0), .int v1] (me_w M J) o) : o = (some (.int (x77 q v1 J)), me_w M J) := by
  have k : nt_rn X d 77 (0, [(0, .ref (q 0)), (1, .int v1)], [], me_w M J) o := k
  have k := ly_revb 6 (c' := (7, [(4, .int (Int32.ofInt 0)), (3, .int (Int32.ofInt 0)), (2, .int (Int32.ofInt (-1))), (0, .ref (q 0)), (1, .int v1)], [], me_w M J)) rfl k
  have k := nt_rn_w (a := [(4, .int (Int32.ofInt 0)), (3, .int (Int32.ofInt 0)), (2, .int (Int32.ofInt (-1))), (0, .ref (q 0)), (1, .int v1)]) (b := [(0, .ref (q 0)), (1, .int v1), (2, .int (Int32.ofInt (-1))), (3, .int (Int32.ofInt 0)), (4, .int (Int32.ofInt 0)), (5, .int (Int32.ofInt 0))]) ⟨rfl, rfl, rfl, rfl, rfl, trivial⟩ rfl k
  have k := xt77_7 hq  ((J (q 1) 1).toNatClampNeg) (Int32.ofInt (-1)) (Int32.ofInt 0) (Int32.ofInt 0) (Int32.ofInt 0) (lx_beg (by decide)) k
  rw [k, x77]
/-! $State.keelOwner -/
def x78_2 (q : Nat → Nat) (v1 : Int32) (J : Nat → Nat → Int32) : Nat → Int32 → Int32
  | 0, v2 => (Int32.ofInt (-1))
  | c + 1, v2 => if (J (q 1) 2) ≤ v2 then (Int32.ofInt (-1))
    else if (J (q 14) v2.toNatClampNeg) = v1 then if (J (q 13) v2.toNatClampNeg) ≤ 0 then (x78_2 q v1 J c (v2 + (Int32.ofInt 1)))
        else if (J (q 3) v2.toNatClampNeg) = 0 then (J (q 5) v2.toNatClampNeg)
          else (x78_2 q v1 J c (v2 + (Int32.ofInt 1)))
      else (x78_2 q v1 J c (v2 + (Int32.ofInt 1)))
theorem xt78_2 {X : nt_X} {d : Nat} {M : nt_M} {o : Option Value × nt_M} {q : Nat → Nat} {v1 : Int32} {J : Nat → Nat → Int32} (hq : xs_Q M q) : ∀ (c : Nat) (v2 : Int32), (J (q 1) 2).toInt - v2.toInt ≤ c → nt_rn X d 78 (2, [(0, .ref (q 0)), (1, .int v1), (2, .int v2)], [], me_w M J) o → o = (some (.int (x78_2 q v1 J c v2)), me_w M J) := by
  intro c
  induction c with
  | zero =>
    intro v2 hc k
    have k := ly_revb 2 (c' := (4, [(0, .ref (q 0)), (1, .int v1), (2, .int v2)], [.ref (q 0), .int v2], me_w M J)) rfl k
    have k := lz_get (a := (q 0)) (g := 600) (M := me_w M J) (v := .ref (q 1)) rfl (nt_gfR rfl (hq.1 (0, 0, 1) (by decide))) k
    have k := lz_get (a := (q 1)) (g := 802) (M := me_w M J) (v := .int (J (q 1) 2)) rfl (congrArg Value.int (rfl)) k
    have k := ly_revb 1 (c' := (if (J (q 1) 2) ≤ v2 then 60 else 13, [(0, .ref (q 0)), (1, .int v1), (2, .int v2)], [], me_w M J)) rfl k
    have h10 : (J (q 1) 2) ≤ v2 := lx_end hc
    rw [if_pos h10] at k
    have k := ly_revb 1 (c' := (61, [(0, .ref (q 0)), (1, .int v1), (2, .int v2)], [.int (Int32.ofInt (-1))], me_w M J)) rfl k
    have k := lz_ri rfl (by decide) k
    rw [k, x78_2]
  | succ c ih =>
    intro v2 hc k
    have k := ly_revb 2 (c' := (4, [(0, .ref (q 0)), (1, .int v1), (2, .int v2)], [.ref (q 0), .int v2], me_w M J)) rfl k
    have k := lz_get (a := (q 0)) (g := 600) (M := me_w M J) (v := .ref (q 1)) rfl (nt_gfR rfl (hq.1 (0, 0, 1) (by decide))) k
    have k := lz_get (a := (q 1)) (g := 802) (M := me_w M J) (v := .int (J (q 1) 2)) rfl (congrArg Value.int (rfl)) k
    have k := ly_revb 1 (c' := (if (J (q 1) 2) ≤ v2 then 60 else 13, [(0, .ref (q 0)), (1, .int v1), (2, .int v2)], [], me_w M J)) rfl k
    by_cases h10 : (J (q 1) 2) ≤ v2
    · rw [if_pos h10] at k
      have k := ly_revb 1 (c' := (61, [(0, .ref (q 0)), (1, .int v1), (2, .int v2)], [.int (Int32.ofInt (-1))], me_w M J)) rfl k
      have k := lz_ri rfl (by decide) k
      rw [k, x78_2, if_pos h10]
    · rw [if_neg h10] at k
      have k := ly_revb 1 (c' := (14, [(0, .ref (q 0)), (1, .int v1), (2, .int v2)], [.ref (q 0)], me_w M J)) rfl k
      have k := lz_get (a := (q 0)) (g := 611) (M := me_w M J) (v := .ref (q 14)) rfl (nt_gfR rfl (hq.1 (0, 11, 14) (by decide))) k
      have k := ly_revb 1 (c' := (18, [(0, .ref (q 0)), (1, .int v1), (2, .int v2)], [.int v2, .ref (q 14)], me_w M J)) rfl k
      have k := mx_iald (v := J (q 14) v2.toNatClampNeg) rfl (hq.2.2.1 14 (by omega)) (rfl) k
      have k := ly_revb 2 (c' := (if (J (q 14) v2.toNatClampNeg) = v1 then 23 else 54, [(0, .ref (q 0)), (1, .int v1), (2, .int v2)], [], me_w M J)) rfl k
      by_cases h20 : (J (q 14) v2.toNatClampNeg) = v1
      · rw [if_pos h20] at k
        have k := ly_revb 1 (c' := (24, [(0, .ref (q 0)), (1, .int v1), (2, .int v2)], [.ref (q 0)], me_w M J)) rfl k
        have k := lz_get (a := (q 0)) (g := 610) (M := me_w M J) (v := .ref (q 13)) rfl (nt_gfR rfl (hq.1 (0, 10, 13) (by decide))) k
        have k := ly_revb 1 (c' := (28, [(0, .ref (q 0)), (1, .int v1), (2, .int v2)], [.int v2, .ref (q 13)], me_w M J)) rfl k
        have k := mx_iald (v := J (q 13) v2.toNatClampNeg) rfl (hq.2.2.1 13 (by omega)) (rfl) k
        have k := ly_revb 1 (c' := (if (J (q 13) v2.toNatClampNeg) ≤ 0 then 54 else 32, [(0, .ref (q 0)), (1, .int v1), (2, .int v2)], [], me_w M J)) rfl k
        by_cases h29 : (J (q 13) v2.toNatClampNeg) ≤ 0
        · rw [if_pos h29] at k
          have k := ly_revb 2 (c' := (2, [(2, .int (v2 + (Int32.ofInt 1))), (0, .ref (q 0)), (1, .int v1)], [], me_w M J)) rfl k
          have k := nt_rn_w (a := [(2, .int (v2 + (Int32.ofInt 1))), (0, .ref (q 0)), (1, .int v1)]) (b := [(0, .ref (q 0)), (1, .int v1), (2, .int (v2 + (Int32.ofInt 1)))]) ⟨rfl, rfl, rfl, trivial⟩ rfl k
          have k := ih (v2 + (Int32.ofInt 1)) (lx_dec h10 hc) k
          rw [k, x78_2, if_neg h10, if_pos h20, if_pos h29]
        · rw [if_neg h29] at k
          have k := ly_revb 1 (c' := (33, [(0, .ref (q 0)), (1, .int v1), (2, .int v2)], [.ref (q 0)], me_w M J)) rfl k
          have k := lz_get (a := (q 0)) (g := 600) (M := me_w M J) (v := .ref (q 1)) rfl (nt_gfR rfl (hq.1 (0, 0, 1) (by decide))) k
          have k := lz_get (a := (q 1)) (g := 806) (M := me_w M J) (v := .ref (q 3)) rfl (nt_gfR rfl (hq.1 (1, 6, 3) (by decide))) k
          have k := ly_revb 1 (c' := (40, [(0, .ref (q 0)), (1, .int v1), (2, .int v2)], [.int v2, .ref (q 3)], me_w M J)) rfl k
          have k := mx_iald (v := J (q 3) v2.toNatClampNeg) rfl (hq.2.2.1 3 (by omega)) (rfl) k
          have k := ly_revb 1 (c' := (if (J (q 3) v2.toNatClampNeg) = 0 then 44 else 54, [(0, .ref (q 0)), (1, .int v1), (2, .int v2)], [], me_w M J)) rfl k
          by_cases h41 : (J (q 3) v2.toNatClampNeg) = 0
          · rw [if_pos h41] at k
            have k := ly_revb 1 (c' := (45, [(0, .ref (q 0)), (1, .int v1), (2, .int v2)], [.ref (q 0)], me_w M J)) rfl k
            have k := lz_get (a := (q 0)) (g := 600) (M := me_w M J) (v := .ref (q 1)) rfl (nt_gfR rfl (hq.1 (0, 0, 1) (by decide))) k
            have k := lz_get (a := (q 1)) (g := 808) (M := me_w M J) (v := .ref (q 5)) rfl (nt_gfR rfl (hq.1 (1, 8, 5) (by decide))) k
            have k := ly_revb 1 (c' := (52, [(0, .ref (q 0)), (1, .int v1), (2, .int v2)], [.int v2, .ref (q 5)], me_w M J)) rfl k
            have k := mx_iald (v := J (q 5) v2.toNatClampNeg) rfl (hq.2.2.1 5 (by omega)) (rfl) k
            have k := lz_ri rfl (by decide) k
            rw [k, x78_2, if_neg h10, if_pos h20, if_neg h29, if_pos h41]
          · rw [if_neg h41] at k
            have k := ly_revb 2 (c' := (2, [(2, .int (v2 + (Int32.ofInt 1))), (0, .ref (q 0)), (1, .int v1)], [], me_w M J)) rfl k
            have k := nt_rn_w (a := [(2, .int (v2 + (Int32.ofInt 1))), (0, .ref (q 0)), (1, .int v1)]) (b := [(0, .ref (q 0)), (1, .int v1), (2, .int (v2 + (Int32.ofInt 1)))]) ⟨rfl, rfl, rfl, trivial⟩ rfl k
            have k := ih (v2 + (Int32.ofInt 1)) (lx_dec h10 hc) k
            rw [k, x78_2, if_neg h10, if_pos h20, if_neg h29, if_neg h41]
      · rw [if_neg h20] at k
        have k := ly_revb 2 (c' := (2, [(2, .int (v2 + (Int32.ofInt 1))), (0, .ref (q 0)), (1, .int v1)], [], me_w M J)) rfl k
        have k := nt_rn_w (a := [(2, .int (v2 + (Int32.ofInt 1))), (0, .ref (q 0)), (1, .int v1)]) (b := [(0, .ref (q 0)), (1, .int v1), (2, .int (v2 + (Int32.ofInt 1)))]) ⟨rfl, rfl, rfl, trivial⟩ rfl k
        have k := ih (v2 + (Int32.ofInt 1)) (lx_dec h10 hc) k
        rw [k, x78_2, if_neg h10, if_neg h20]
theorem x78_2_rule {q : Nat → Nat} {v1 : Int32} {J : Nat → Nat → Int32} {I : Nat → Int32 → Prop} {Q : Int32 → Prop} (h0 : ∀ (v2 : Int32), I 0 v2 → Q (Int32.ofInt (-1))) (h1 : ∀ (c : Nat) (v2 : Int32), I (c + 1) v2 →
    if (J (q 1) 2) ≤ v2 then (Q (Int32.ofInt (-1)))
    else if (J (q 14) v2.toNatClampNeg) = v1 then if (J (q 13) v2.toNatClampNeg) ≤ 0 then (I c (v2 + (Int32.ofInt 1)))
        else if (J (q 3) v2.toNatClampNeg) = 0 then (Q (J (q 5) v2.toNatClampNeg))
          else (I c (v2 + (Int32.ofInt 1)))
      else (I c (v2 + (Int32.ofInt 1)))) : ∀ (c : Nat) (v2 : Int32), I c v2 → Q (x78_2 q v1 J c v2) := by
  intro c
  induction c with
  | zero =>
    intro v2 hi
    rw [x78_2]
    exact h0 v2 hi
  | succ c ih =>
    intro v2 hi
    have hi := h1 c v2 hi
    rw [x78_2]
    by_cases h : (J (q 1) 2) ≤ v2
    · rw [if_pos h] at hi ⊢
      exact hi
    · rw [if_neg h] at hi ⊢
      by_cases h : (J (q 14) v2.toNatClampNeg) = v1
      · rw [if_pos h] at hi ⊢
        by_cases h : (J (q 13) v2.toNatClampNeg) ≤ 0
        · rw [if_pos h] at hi ⊢
          exact ih _ hi
        · rw [if_neg h] at hi ⊢
          by_cases h : (J (q 3) v2.toNatClampNeg) = 0
          · rw [if_pos h] at hi ⊢
            exact hi
          · rw [if_neg h] at hi ⊢
            exact ih _ hi
      · rw [if_neg h] at hi ⊢
        exact ih _ hi
def x78 (q : Nat → Nat) (v1 : Int32) (J : Nat → Nat → Int32) : Int32 := (x78_2 q v1 J ((J (q 1) 2).toNatClampNeg) (Int32.ofInt 0))
theorem xt78 {X : nt_X} {d : Nat} {M : nt_M} {o : Option Value × nt_M} {q : Nat → Nat} {v1 : Int32} {J : Nat → Nat → Int32} (hq : xs_Q M q) (k : nt_ev X d 78 [.ref (q 0), .int v1] (me_w M J) o) : o = (some (.int (x78 q v1 J)), me_w M J) := by
  have k : nt_rn X d 78 (0, [(0, .ref (q 0)), (1, .int v1)], [], me_w M J) o := k
  have k := ly_revb 2 (c' := (2, [(2, .int (Int32.ofInt 0)), (0, .ref (q 0)), (1, .int v1)], [], me_w M J)) rfl k
  have k := nt_rn_w (a := [(2, .int (Int32.ofInt 0)), (0, .ref (q 0)), (1, .int v1)]) (b := [(0, .ref (q 0)), (1, .int v1), (2, .int (Int32.ofInt 0))]) ⟨rfl, rfl, rfl, trivial⟩ rfl k
  have k := xt78_2 hq  ((J (q 1) 2).toNatClampNeg) (Int32.ofInt 0) (lx_beg (by decide)) k
  rw [k, x78]
/-! $State.identity -/
def x76 (q : Nat → Nat) (v1 : Int32) (v2 : Int32) (J : Nat → Nat → Int32) : Int32 := if v1 = (Int32.ofInt 2) then v2
  else if (J (q 10) v2.toNatClampNeg) = (Int32.ofInt 2) then (Int32.ofInt (-1))
    else if v1 = (Int32.ofInt 1) then (x77 q v2 J)
      else (x78 q v2 J)
theorem xt76 {X : nt_X} {d : Nat} {M : nt_M} {o : Option Value × nt_M} {q : Nat → Nat} {v1 : Int32} {v2 : Int32} {J : Nat → Nat → Int32} (hq : xs_Q M q) (k : nt_ev X d 76 [.ref (q 0), .int v1, .int v2] (me_w M J) o) : o = (some (.int (x76 q v1 v2 J)), me_w M J) := by
  have k : nt_rn X d 76 (0, [(0, .ref (q 0)), (1, .int v1), (2, .int v2)], [], me_w M J) o := k
  have k := ly_revb 3 (c' := (if v1 = (Int32.ofInt 2) then 5 else 7, [(0, .ref (q 0)), (1, .int v1), (2, .int v2)], [], me_w M J)) rfl k
  by_cases h2 : v1 = (Int32.ofInt 2)
  · rw [if_pos h2] at k
    have k := ly_revb 1 (c' := (6, [(0, .ref (q 0)), (1, .int v1), (2, .int v2)], [.int v2], me_w M J)) rfl k
    have k := lz_ri rfl (by decide) k
    rw [k, x76, if_pos h2]
  · rw [if_neg h2] at k
    have k := ly_revb 1 (c' := (8, [(0, .ref (q 0)), (1, .int v1), (2, .int v2)], [.ref (q 0)], me_w M J)) rfl k
    have k := lz_get (a := (q 0)) (g := 607) (M := me_w M J) (v := .ref (q 10)) rfl (nt_gfR rfl (hq.1 (0, 7, 10) (by decide))) k
    have k := ly_revb 1 (c' := (12, [(0, .ref (q 0)), (1, .int v1), (2, .int v2)], [.int v2, .ref (q 10)], me_w M J)) rfl k
    have k := mx_iald (v := J (q 10) v2.toNatClampNeg) rfl (hq.2.2.1 10 (by omega)) (rfl) k
    have k := ly_revb 2 (c' := (if (J (q 10) v2.toNatClampNeg) = (Int32.ofInt 2) then 17 else 19, [(0, .ref (q 0)), (1, .int v1), (2, .int v2)], [], me_w M J)) rfl k
    by_cases h14 : (J (q 10) v2.toNatClampNeg) = (Int32.ofInt 2)
    · rw [if_pos h14] at k
      have k := ly_revb 1 (c' := (18, [(0, .ref (q 0)), (1, .int v1), (2, .int v2)], [.int (Int32.ofInt (-1))], me_w M J)) rfl k
      have k := lz_ri rfl (by decide) k
      rw [k, x76, if_neg h2, if_pos h14]
    · rw [if_neg h14] at k
      have k := ly_revb 3 (c' := (if v1 = (Int32.ofInt 1) then 24 else 32, [(0, .ref (q 0)), (1, .int v1), (2, .int v2)], [], me_w M J)) rfl k
      by_cases h21 : v1 = (Int32.ofInt 1)
      · rw [if_pos h21] at k
        have k := ly_revb 2 (c' := (26, [(0, .ref (q 0)), (1, .int v1), (2, .int v2)], [.int v2, .ref (q 0)], me_w M J)) rfl k
        obtain ⟨d1, o1, ed, kc, k⟩ := lz_c (g := 77) (q := 1) (vs := [.ref (q 0), .int v2]) (rest := []) rfl rfl (by decide) (Or.inr (Or.inl ⟨_, rfl, rfl⟩)) rfl k
        have e1 := xt77 hq kc
        subst e1
        have k : nt_rn X _ 76 (29, [(0, .ref (q 0)), (1, .int v1), (2, .int v2)], [.int (x77 q v2 J)], me_w M J) _ := k
        have k := ly_revb 1 (c' := (37, [(0, .ref (q 0)), (1, .int v1), (2, .int v2)], [.int (x77 q v2 J)], me_w M J)) rfl k
        have k := lz_ri rfl (by decide) k
        rw [k, x76, if_neg h2, if_neg h14, if_pos h21]
      · rw [if_neg h21] at k
        have k := ly_revb 2 (c' := (34, [(0, .ref (q 0)), (1, .int v1), (2, .int v2)], [.int v2, .ref (q 0)], me_w M J)) rfl k
        obtain ⟨d1, o1, ed, kc, k⟩ := lz_c (g := 78) (q := 1) (vs := [.ref (q 0), .int v2]) (rest := []) rfl rfl (by decide) (Or.inr (Or.inl ⟨_, rfl, rfl⟩)) rfl k
        have e1 := xt78 hq kc
        subst e1
        have k : nt_rn X _ 76 (37, [(0, .ref (q 0)), (1, .int v1), (2, .int v2)], [.int (x78 q v2 J)], me_w M J) _ := k
        have k := lz_ri rfl (by decide) k
        rw [k, x76, if_neg h2, if_neg h14, if_neg h21]
/-! $State.lostShips -/
def x79_4 (q : Nat → Nat) (J : Nat → Nat → Int32) : Nat → Int32 → Int32 → Int32
  | 0, v1, v2 => v1
  | c + 1, v1, v2 => if (J (q 1) 1) ≤ v2 then v1
    else if (J (q 10) v2.toNatClampNeg) = (Int32.ofInt 2) then (x79_4 q J c (v1 ||| ((Int32.ofInt 1) <<< (v2 &&& 31))) (v2 + (Int32.ofInt 1)))
      else (x79_4 q J c v1 (v2 + (Int32.ofInt 1)))
theorem xt79_4 {X : nt_X} {d : Nat} {M : nt_M} {o : Option Value × nt_M} {q : Nat → Nat} {J : Nat → Nat → Int32} (hq : xs_Q M q) : ∀ (c : Nat) (v1 : Int32) (v2 : Int32), (J (q 1) 1).toInt - v2.toInt ≤ c → nt_rn X d 79 (4, [(0, .ref (q 0)), (1, .int v1), (2, .int v2)], [], me_w M J) o → o = (some (.int (x79_4 q J c v1 v2)), me_w M J) := by
  intro c
  induction c with
  | zero =>
    intro v1 v2 hc k
    have k := ly_revb 2 (c' := (6, [(0, .ref (q 0)), (1, .int v1), (2, .int v2)], [.ref (q 0), .int v2], me_w M J)) rfl k
    have k := lz_get (a := (q 0)) (g := 600) (M := me_w M J) (v := .ref (q 1)) rfl (nt_gfR rfl (hq.1 (0, 0, 1) (by decide))) k
    have k := lz_get (a := (q 1)) (g := 801) (M := me_w M J) (v := .int (J (q 1) 1)) rfl (congrArg Value.int (rfl)) k
    have k := ly_revb 1 (c' := (if (J (q 1) 1) ≤ v2 then 37 else 15, [(0, .ref (q 0)), (1, .int v1), (2, .int v2)], [], me_w M J)) rfl k
    have h12 : (J (q 1) 1) ≤ v2 := lx_end hc
    rw [if_pos h12] at k
    have k := ly_revb 1 (c' := (38, [(0, .ref (q 0)), (1, .int v1), (2, .int v2)], [.int v1], me_w M J)) rfl k
    have k := lz_ri rfl (by decide) k
    rw [k, x79_4]
  | succ c ih =>
    intro v1 v2 hc k
    have k := ly_revb 2 (c' := (6, [(0, .ref (q 0)), (1, .int v1), (2, .int v2)], [.ref (q 0), .int v2], me_w M J)) rfl k
    have k := lz_get (a := (q 0)) (g := 600) (M := me_w M J) (v := .ref (q 1)) rfl (nt_gfR rfl (hq.1 (0, 0, 1) (by decide))) k
    have k := lz_get (a := (q 1)) (g := 801) (M := me_w M J) (v := .int (J (q 1) 1)) rfl (congrArg Value.int (rfl)) k
    have k := ly_revb 1 (c' := (if (J (q 1) 1) ≤ v2 then 37 else 15, [(0, .ref (q 0)), (1, .int v1), (2, .int v2)], [], me_w M J)) rfl k
    by_cases h12 : (J (q 1) 1) ≤ v2
    · rw [if_pos h12] at k
      have k := ly_revb 1 (c' := (38, [(0, .ref (q 0)), (1, .int v1), (2, .int v2)], [.int v1], me_w M J)) rfl k
      have k := lz_ri rfl (by decide) k
      rw [k, x79_4, if_pos h12]
    · rw [if_neg h12] at k
      have k := ly_revb 1 (c' := (16, [(0, .ref (q 0)), (1, .int v1), (2, .int v2)], [.ref (q 0)], me_w M J)) rfl k
      have k := lz_get (a := (q 0)) (g := 607) (M := me_w M J) (v := .ref (q 10)) rfl (nt_gfR rfl (hq.1 (0, 7, 10) (by decide))) k
      have k := ly_revb 1 (c' := (20, [(0, .ref (q 0)), (1, .int v1), (2, .int v2)], [.int v2, .ref (q 10)], me_w M J)) rfl k
      have k := mx_iald (v := J (q 10) v2.toNatClampNeg) rfl (hq.2.2.1 10 (by omega)) (rfl) k
      have k := ly_revb 2 (c' := (if (J (q 10) v2.toNatClampNeg) = (Int32.ofInt 2) then 25 else 31, [(0, .ref (q 0)), (1, .int v1), (2, .int v2)], [], me_w M J)) rfl k
      by_cases h22 : (J (q 10) v2.toNatClampNeg) = (Int32.ofInt 2)
      · rw [if_pos h22] at k
        have k := ly_revb 8 (c' := (4, [(2, .int (v2 + (Int32.ofInt 1))), (1, .int (v1 ||| ((Int32.ofInt 1) <<< (v2 &&& 31)))), (0, .ref (q 0))], [], me_w M J)) rfl k
        have k := nt_rn_w (a := [(2, .int (v2 + (Int32.ofInt 1))), (1, .int (v1 ||| ((Int32.ofInt 1) <<< (v2 &&& 31)))), (0, .ref (q 0))]) (b := [(0, .ref (q 0)), (1, .int (v1 ||| ((Int32.ofInt 1) <<< (v2 &&& 31)))), (2, .int (v2 + (Int32.ofInt 1)))]) ⟨rfl, rfl, rfl, trivial⟩ rfl k
        have k := ih (v1 ||| ((Int32.ofInt 1) <<< (v2 &&& 31))) (v2 + (Int32.ofInt 1)) (lx_dec h12 hc) k
        rw [k, x79_4, if_neg h12, if_pos h22]
      · rw [if_neg h22] at k
        have k := ly_revb 2 (c' := (4, [(2, .int (v2 + (Int32.ofInt 1))), (0, .ref (q 0)), (1, .int v1)], [], me_w M J)) rfl k
        have k := nt_rn_w (a := [(2, .int (v2 + (Int32.ofInt 1))), (0, .ref (q 0)), (1, .int v1)]) (b := [(0, .ref (q 0)), (1, .int v1), (2, .int (v2 + (Int32.ofInt 1)))]) ⟨rfl, rfl, rfl, trivial⟩ rfl k
        have k := ih v1 (v2 + (Int32.ofInt 1)) (lx_dec h12 hc) k
        rw [k, x79_4, if_neg h12, if_neg h22]
theorem x79_4_rule {q : Nat → Nat} {J : Nat → Nat → Int32} {I : Nat → Int32 → Int32 → Prop} {Q : Int32 → Prop} (h0 : ∀ (v1 : Int32) (v2 : Int32), I 0 v1 v2 → Q v1) (h1 : ∀ (c : Nat) (v1 : Int32) (v2 : Int32), I (c + 1) v1 v2 →
    if (J (q 1) 1) ≤ v2 then (Q v1)
    else if (J (q 10) v2.toNatClampNeg) = (Int32.ofInt 2) then (I c (v1 ||| ((Int32.ofInt 1) <<< (v2 &&& 31))) (v2 + (Int32.ofInt 1)))
      else (I c v1 (v2 + (Int32.ofInt 1)))) : ∀ (c : Nat) (v1 : Int32) (v2 : Int32), I c v1 v2 → Q (x79_4 q J c v1 v2) := by
  intro c
  induction c with
  | zero =>
    intro v1 v2 hi
    rw [x79_4]
    exact h0 v1 v2 hi
  | succ c ih =>
    intro v1 v2 hi
    have hi := h1 c v1 v2 hi
    rw [x79_4]
    by_cases h : (J (q 1) 1) ≤ v2
    · rw [if_pos h] at hi ⊢
      exact hi
    · rw [if_neg h] at hi ⊢
      by_cases h : (J (q 10) v2.toNatClampNeg) = (Int32.ofInt 2)
      · rw [if_pos h] at hi ⊢
        exact ih _ _ hi
      · rw [if_neg h] at hi ⊢
        exact ih _ _ hi
def x79 (q : Nat → Nat) (J : Nat → Nat → Int32) : Int32 := (x79_4 q J ((J (q 1) 1).toNatClampNeg) (Int32.ofInt 0) (Int32.ofInt 0))
theorem xt79 {X : nt_X} {d : Nat} {M : nt_M} {o : Option Value × nt_M} {q : Nat → Nat} {J : Nat → Nat → Int32} (hq : xs_Q M q) (k : nt_ev X d 79 [.ref (q 0)] (me_w M J) o) : o = (some (.int (x79 q J)), me_w M J) := by
  have k : nt_rn X d 79 (0, [(0, .ref (q 0))], [], me_w M J) o := k
  have k := ly_revb 4 (c' := (4, [(2, .int (Int32.ofInt 0)), (1, .int (Int32.ofInt 0)), (0, .ref (q 0))], [], me_w M J)) rfl k
  have k := nt_rn_w (a := [(2, .int (Int32.ofInt 0)), (1, .int (Int32.ofInt 0)), (0, .ref (q 0))]) (b := [(0, .ref (q 0)), (1, .int (Int32.ofInt 0)), (2, .int (Int32.ofInt 0))]) ⟨rfl, rfl, rfl, trivial⟩ rfl k
  have k := xt79_4 hq  ((J (q 1) 1).toNatClampNeg) (Int32.ofInt 0) (Int32.ofInt 0) (lx_beg (by decide)) k
  rw [k, x79]
/-! Model.ofOwner -/
def x220_5 (p : Nat → Nat) (v1 : Int32) (v2 : Int32) (J : Nat → Nat → Int32) : Nat → Int32 → Int32 → Int32
  | 0, v3, v4 => v3
  | c + 1, v3, v4 => if (J (p 4) 2) ≤ v4 then v3
    else if (x171 p v4 v1 J) = 0 then (x220_5 p v1 v2 J c (v3 + (Int32.ofInt 0)) (v4 + (Int32.ofInt 1)))
      else if (x173 p v4 (Int32.ofInt 2) J) = v2 then (x220_5 p v1 v2 J c (v3 + (Int32.ofInt 1)) (v4 + (Int32.ofInt 1)))
        else (x220_5 p v1 v2 J c (v3 + (Int32.ofInt 0)) (v4 + (Int32.ofInt 1)))
theorem xt220_5 {X : nt_X} {d : Nat} {M : nt_M} {o : Option Value × nt_M} {p : Nat → Nat} {v1 : Int32} {v2 : Int32} {J : Nat → Nat → Int32} (hp : xs_P M p) : ∀ (c : Nat) (v3 : Int32) (v4 : Int32), (J (p 4) 2).toInt - v4.toInt ≤ c → nt_rn X d 220 (5, [(0, .ref (p 0)), (1, .int v1), (2, .int v2), (3, .int v3), (4, .int v4)], [], me_w M J) o → o = (some (.int (x220_5 p v1 v2 J c v3 v4)), me_w M J) := by
  intro c
  induction c with
  | zero =>
    intro v3 v4 hc k
    have k := ly_revb 2 (c' := (8, [(0, .ref (p 0)), (1, .int v1), (2, .int v2), (3, .int v3), (4, .int v4)], [.ref (p 0), .int v4], me_w M J)) rfl k
    have k := lz_get (a := (p 0)) (g := 1127) (M := me_w M J) (v := .ref (p 4)) rfl (nt_gfR rfl (hp.1 (0, 27, 4) (by decide))) k
    have k := ly_revb 1 (c' := (12, [(0, .ref (p 0)), (1, .int v1), (2, .int v2), (3, .int v3), (4, .int v4)], [.int (Int32.ofInt 2), .ref (p 4), .int v4], me_w M J)) rfl k
    have k := mx_iald (v := J (p 4) 2) rfl (hp.2.2.1 4 (by omega)) ((congrArg (J (p 4)) (show (Int32.ofInt 2).toNatClampNeg = 2 from rfl)).trans (rfl)) k
    have k := ly_revb 1 (c' := (if (J (p 4) 2) ≤ v4 then 51 else 16, [(0, .ref (p 0)), (1, .int v1), (2, .int v2), (3, .int v3), (4, .int v4)], [], me_w M J)) rfl k
    have h13 : (J (p 4) 2) ≤ v4 := lx_end hc
    rw [if_pos h13] at k
    have k := ly_revb 1 (c' := (52, [(0, .ref (p 0)), (1, .int v1), (2, .int v2), (3, .int v3), (4, .int v4)], [.int v3], me_w M J)) rfl k
    have k := lz_ri rfl (by decide) k
    rw [k, x220_5]
  | succ c ih =>
    intro v3 v4 hc k
    have k := ly_revb 2 (c' := (8, [(0, .ref (p 0)), (1, .int v1), (2, .int v2), (3, .int v3), (4, .int v4)], [.ref (p 0), .int v4], me_w M J)) rfl k
    have k := lz_get (a := (p 0)) (g := 1127) (M := me_w M J) (v := .ref (p 4)) rfl (nt_gfR rfl (hp.1 (0, 27, 4) (by decide))) k
    have k := ly_revb 1 (c' := (12, [(0, .ref (p 0)), (1, .int v1), (2, .int v2), (3, .int v3), (4, .int v4)], [.int (Int32.ofInt 2), .ref (p 4), .int v4], me_w M J)) rfl k
    have k := mx_iald (v := J (p 4) 2) rfl (hp.2.2.1 4 (by omega)) ((congrArg (J (p 4)) (show (Int32.ofInt 2).toNatClampNeg = 2 from rfl)).trans (rfl)) k
    have k := ly_revb 1 (c' := (if (J (p 4) 2) ≤ v4 then 51 else 16, [(0, .ref (p 0)), (1, .int v1), (2, .int v2), (3, .int v3), (4, .int v4)], [], me_w M J)) rfl k
    by_cases h13 : (J (p 4) 2) ≤ v4
    · rw [if_pos h13] at k
      have k := ly_revb 1 (c' := (52, [(0, .ref (p 0)), (1, .int v1), (2, .int v2), (3, .int v3), (4, .int v4)], [.int v3], me_w M J)) rfl k
      have k := lz_ri rfl (by decide) k
      rw [k, x220_5, if_pos h13]
    · rw [if_neg h13] at k
      have k := ly_revb 4 (c' := (21, [(0, .ref (p 0)), (1, .int v1), (2, .int v2), (3, .int v3), (4, .int v4)], [.int v1, .int v4, .ref (p 0), .int v3], me_w M J)) rfl k
      obtain ⟨d1, o1, ed, kc, k⟩ := lz_c (g := 171) (q := 1) (vs := [.ref (p 0), .int v4, .int v1]) (rest := [.int v3]) rfl rfl (by decide) (Or.inr (Or.inl ⟨_, rfl, rfl⟩)) rfl k
      have e1 := xt171 hp kc
      subst e1
      have k : nt_rn X _ 220 (24, [(0, .ref (p 0)), (1, .int v1), (2, .int v2), (3, .int v3), (4, .int v4)], [.int (x171 p v4 v1 J), .int v3], me_w M J) _ := k
      have k := ly_revb 1 (c' := (if (x171 p v4 v1 J) = 0 then 42 else 27, [(0, .ref (p 0)), (1, .int v1), (2, .int v2), (3, .int v3), (4, .int v4)], [.int v3], me_w M J)) rfl k
      by_cases h24 : (x171 p v4 v1 J) = 0
      · rw [if_pos h24] at k
        have k := ly_revb 5 (c' := (5, [(4, .int (v4 + (Int32.ofInt 1))), (3, .int (v3 + (Int32.ofInt 0))), (0, .ref (p 0)), (1, .int v1), (2, .int v2)], [], me_w M J)) rfl k
        have k := nt_rn_w (a := [(4, .int (v4 + (Int32.ofInt 1))), (3, .int (v3 + (Int32.ofInt 0))), (0, .ref (p 0)), (1, .int v1), (2, .int v2)]) (b := [(0, .ref (p 0)), (1, .int v1), (2, .int v2), (3, .int (v3 + (Int32.ofInt 0))), (4, .int (v4 + (Int32.ofInt 1)))]) ⟨rfl, rfl, rfl, rfl, rfl, trivial⟩ rfl k
        have k := ih (v3 + (Int32.ofInt 0)) (v4 + (Int32.ofInt 1)) (lx_dec h13 hc) k
        rw [k, x220_5, if_neg h13, if_pos h24]
      · rw [if_neg h24] at k
        have k := ly_revb 3 (c' := (31, [(0, .ref (p 0)), (1, .int v1), (2, .int v2), (3, .int v3), (4, .int v4)], [.int (Int32.ofInt 2), .int v4, .ref (p 0), .int v3], me_w M J)) rfl k
        obtain ⟨d1, o1, ed, kc, k⟩ := lz_c (g := 173) (q := 1) (vs := [.ref (p 0), .int v4, .int (Int32.ofInt 2)]) (rest := [.int v3]) rfl rfl (by decide) (Or.inr (Or.inl ⟨_, rfl, rfl⟩)) rfl k
        have e1 := xt173 hp kc
        subst e1
        have k : nt_rn X _ 220 (34, [(0, .ref (p 0)), (1, .int v1), (2, .int v2), (3, .int v3), (4, .int v4)], [.int (x173 p v4 (Int32.ofInt 2) J), .int v3], me_w M J) _ := k
        have k := ly_revb 2 (c' := (if (x173 p v4 (Int32.ofInt 2) J) = v2 then 38 else 42, [(0, .ref (p 0)), (1, .int v1), (2, .int v2), (3, .int v3), (4, .int v4)], [.int v3], me_w M J)) rfl k
        by_cases h35 : (x173 p v4 (Int32.ofInt 2) J) = v2
        · rw [if_pos h35] at k
          have k := ly_revb 6 (c' := (5, [(4, .int (v4 + (Int32.ofInt 1))), (3, .int (v3 + (Int32.ofInt 1))), (0, .ref (p 0)), (1, .int v1), (2, .int v2)], [], me_w M J)) rfl k
          have k := nt_rn_w (a := [(4, .int (v4 + (Int32.ofInt 1))), (3, .int (v3 + (Int32.ofInt 1))), (0, .ref (p 0)), (1, .int v1), (2, .int v2)]) (b := [(0, .ref (p 0)), (1, .int v1), (2, .int v2), (3, .int (v3 + (Int32.ofInt 1))), (4, .int (v4 + (Int32.ofInt 1)))]) ⟨rfl, rfl, rfl, rfl, rfl, trivial⟩ rfl k
          have k := ih (v3 + (Int32.ofInt 1)) (v4 + (Int32.ofInt 1)) (lx_dec h13 hc) k
          rw [k, x220_5, if_neg h13, if_neg h24, if_pos h35]
        · rw [if_neg h35] at k
          have k := ly_revb 5 (c' := (5, [(4, .int (v4 + (Int32.ofInt 1))), (3, .int (v3 + (Int32.ofInt 0))), (0, .ref (p 0)), (1, .int v1), (2, .int v2)], [], me_w M J)) rfl k
          have k := nt_rn_w (a := [(4, .int (v4 + (Int32.ofInt 1))), (3, .int (v3 + (Int32.ofInt 0))), (0, .ref (p 0)), (1, .int v1), (2, .int v2)]) (b := [(0, .ref (p 0)), (1, .int v1), (2, .int v2), (3, .int (v3 + (Int32.ofInt 0))), (4, .int (v4 + (Int32.ofInt 1)))]) ⟨rfl, rfl, rfl, rfl, rfl, trivial⟩ rfl k
          have k := ih (v3 + (Int32.ofInt 0)) (v4 + (Int32.ofInt 1)) (lx_dec h13 hc) k
          rw [k, x220_5, if_neg h13, if_neg h24, if_neg h35]
theorem x220_5_rule {p : Nat → Nat} {v1 : Int32} {v2 : Int32} {J : Nat → Nat → Int32} {I : Nat → Int32 → Int32 → Prop} {Q : Int32 → Prop} (h0 : ∀ (v3 : Int32) (v4 : Int32), I 0 v3 v4 → Q v3) (h1 : ∀ (c : Nat) (v3 : Int32) (v4 : Int32), I (c + 1) v3 v4 →
    if (J (p 4) 2) ≤ v4 then (Q v3)
    else if (x171 p v4 v1 J) = 0 then (I c (v3 + (Int32.ofInt 0)) (v4 + (Int32.ofInt 1)))
      else if (x173 p v4 (Int32.ofInt 2) J) = v2 then (I c (v3 + (Int32.ofInt 1)) (v4 + (Int32.ofInt 1)))
        else (I c (v3 + (Int32.ofInt 0)) (v4 + (Int32.ofInt 1)))) : ∀ (c : Nat) (v3 : Int32) (v4 : Int32), I c v3 v4 → Q (x220_5 p v1 v2 J c v3 v4) := by
  intro c
  induction c with
  | zero =>
    intro v3 v4 hi
    rw [x220_5]
    exact h0 v3 v4 hi
  | succ c ih =>
    intro v3 v4 hi
    have hi := h1 c v3 v4 hi
    rw [x220_5]
    by_cases h : (J (p 4) 2) ≤ v4
    · rw [if_pos h] at hi ⊢
      exact hi
    · rw [if_neg h] at hi ⊢
      by_cases h : (x171 p v4 v1 J) = 0
      · rw [if_pos h] at hi ⊢
        exact ih _ _ hi
      · rw [if_neg h] at hi ⊢
        by_cases h : (x173 p v4 (Int32.ofInt 2) J) = v2
        · rw [if_pos h] at hi ⊢
          exact ih _ _ hi
        · rw [if_neg h] at hi ⊢
          exact ih _ _ hi
def x220 (p : Nat → Nat) (v1 : Int32) (v2 : Int32) (J : Nat → Nat → Int32) : Int32 := (x220_5 p v1 v2 J ((J (p 4) 2).toNatClampNeg) (Int32.ofInt 0) (Int32.ofInt 0))
theorem xt220 {X : nt_X} {d : Nat} {M : nt_M} {o : Option Value × nt_M} {p : Nat → Nat} {v1 : Int32} {v2 : Int32} {J : Nat → Nat → Int32} (hp : xs_P M p) (k : nt_ev X d 220 [.ref (p 0), .int v1, .int v2] (me_w M J) o) : o = (some (.int (x220 p v1 v2 J)), me_w M J) := by
  have k : nt_rn X d 220 (0, [(0, .ref (p 0)), (1, .int v1), (2, .int v2)], [], me_w M J) o := k
  have k := ly_revb 4 (c' := (5, [(4, .int (Int32.ofInt 0)), (3, .int (Int32.ofInt 0)), (0, .ref (p 0)), (1, .int v1), (2, .int v2)], [], me_w M J)) rfl k
  have k := nt_rn_w (a := [(4, .int (Int32.ofInt 0)), (3, .int (Int32.ofInt 0)), (0, .ref (p 0)), (1, .int v1), (2, .int v2)]) (b := [(0, .ref (p 0)), (1, .int v1), (2, .int v2), (3, .int (Int32.ofInt 0)), (4, .int (Int32.ofInt 0))]) ⟨rfl, rfl, rfl, rfl, rfl, trivial⟩ rfl k
  have k := xt220_5 hp  ((J (p 4) 2).toNatClampNeg) (Int32.ofInt 0) (Int32.ofInt 0) (lx_beg (by decide)) k
  rw [k, x220]
/-! Model.mostIn -/
def x219_7 (p : Nat → Nat) (v1 : Int32) (J : Nat → Nat → Int32) : Nat → Int32 → Int32 → Int32 → Int32
  | 0, v2, v3, v4 => v2
  | c + 1, v2, v3, v4 => if (J (p 4) 1) ≤ v4 then v2
    else if (x220 p v1 v4 J) ≤ v3 then if (x220 p v1 v4 J) ≤ v3 then (x219_7 p v1 J c v2 v3 (v4 + (Int32.ofInt 1)))
        else (x219_7 p v1 J c v2 (x220 p v1 v4 J) (v4 + (Int32.ofInt 1)))
      else if (x220 p v1 v4 J) ≤ v3 then (x219_7 p v1 J c v4 v3 (v4 + (Int32.ofInt 1)))
        else (x219_7 p v1 J c v4 (x220 p v1 v4 J) (v4 + (Int32.ofInt 1)))
theorem xt219_7 {X : nt_X} {d : Nat} {M : nt_M} {o : Option Value × nt_M} {p : Nat → Nat} {v1 : Int32} {J : Nat → Nat → Int32} (hp : xs_P M p) : ∀ (c : Nat) (v2 : Int32) (v3 : Int32) (v4 : Int32) (v5 : Int32), (J (p 4) 1).toInt - v4.toInt ≤ c → nt_rn X d 219 (7, [(0, .ref (p 0)), (1, .int v1), (2, .int v2), (3, .int v3), (4, .int v4), (5, .int v5)], [], me_w M J) o → o = (some (.int (x219_7 p v1 J c v2 v3 v4)), me_w M J) := by
  intro c
  induction c with
  | zero =>
    intro v2 v3 v4 v5 hc k
    have k := ly_revb 2 (c' := (10, [(0, .ref (p 0)), (1, .int v1), (2, .int v2), (3, .int v3), (4, .int v4), (5, .int v5)], [.ref (p 0), .int v4], me_w M J)) rfl k
    have k := lz_get (a := (p 0)) (g := 1127) (M := me_w M J) (v := .ref (p 4)) rfl (nt_gfR rfl (hp.1 (0, 27, 4) (by decide))) k
    have k := ly_revb 1 (c' := (14, [(0, .ref (p 0)), (1, .int v1), (2, .int v2), (3, .int v3), (4, .int v4), (5, .int v5)], [.int (Int32.ofInt 1), .ref (p 4), .int v4], me_w M J)) rfl k
    have k := mx_iald (v := J (p 4) 1) rfl (hp.2.2.1 4 (by omega)) ((congrArg (J (p 4)) (show (Int32.ofInt 1).toNatClampNeg = 1 from rfl)).trans (rfl)) k
    have k := ly_revb 1 (c' := (if (J (p 4) 1) ≤ v4 then 59 else 18, [(0, .ref (p 0)), (1, .int v1), (2, .int v2), (3, .int v3), (4, .int v4), (5, .int v5)], [], me_w M J)) rfl k
    have h15 : (J (p 4) 1) ≤ v4 := lx_end hc
    rw [if_pos h15] at k
    have k := ly_revb 1 (c' := (60, [(0, .ref (p 0)), (1, .int v1), (2, .int v2), (3, .int v3), (4, .int v4), (5, .int v5)], [.int v2], me_w M J)) rfl k
    have k := lz_ri rfl (by decide) k
    rw [k, x219_7]
  | succ c ih =>
    intro v2 v3 v4 v5 hc k
    have k := ly_revb 2 (c' := (10, [(0, .ref (p 0)), (1, .int v1), (2, .int v2), (3, .int v3), (4, .int v4), (5, .int v5)], [.ref (p 0), .int v4], me_w M J)) rfl k
    have k := lz_get (a := (p 0)) (g := 1127) (M := me_w M J) (v := .ref (p 4)) rfl (nt_gfR rfl (hp.1 (0, 27, 4) (by decide))) k
    have k := ly_revb 1 (c' := (14, [(0, .ref (p 0)), (1, .int v1), (2, .int v2), (3, .int v3), (4, .int v4), (5, .int v5)], [.int (Int32.ofInt 1), .ref (p 4), .int v4], me_w M J)) rfl k
    have k := mx_iald (v := J (p 4) 1) rfl (hp.2.2.1 4 (by omega)) ((congrArg (J (p 4)) (show (Int32.ofInt 1).toNatClampNeg = 1 from rfl)).trans (rfl)) k
    have k := ly_revb 1 (c' := (if (J (p 4) 1) ≤ v4 then 59 else 18, [(0, .ref (p 0)), (1, .int v1), (2, .int v2), (3, .int v3), (4, .int v4), (5, .int v5)], [], me_w M J)) rfl k
    by_cases h15 : (J (p 4) 1) ≤ v4
    · rw [if_pos h15] at k
      have k := ly_revb 1 (c' := (60, [(0, .ref (p 0)), (1, .int v1), (2, .int v2), (3, .int v3), (4, .int v4), (5, .int v5)], [.int v2], me_w M J)) rfl k
      have k := lz_ri rfl (by decide) k
      rw [k, x219_7, if_pos h15]
    · rw [if_neg h15] at k
      have k := ly_revb 3 (c' := (22, [(0, .ref (p 0)), (1, .int v1), (2, .int v2), (3, .int v3), (4, .int v4), (5, .int v5)], [.int v4, .int v1, .ref (p 0)], me_w M J)) rfl k
      obtain ⟨d1, o1, ed, kc, k⟩ := lz_c (g := 220) (q := 1) (vs := [.ref (p 0), .int v1, .int v4]) (rest := []) rfl rfl (by decide) (Or.inr (Or.inl ⟨_, rfl, rfl⟩)) rfl k
      have e1 := xt220 hp kc
      subst e1
      have k : nt_rn X _ 219 (25, [(0, .ref (p 0)), (1, .int v1), (2, .int v2), (3, .int v3), (4, .int v4), (5, .int v5)], [.int (x220 p v1 v4 J)], me_w M J) _ := k
      have k := ly_revb 4 (c' := (if (x220 p v1 v4 J) ≤ v3 then 38 else 33, [(5, .int (x220 p v1 v4 J)), (0, .ref (p 0)), (1, .int v1), (2, .int v2), (3, .int v3), (4, .int v4)], [], me_w M J)) rfl k
      by_cases h30 : (x220 p v1 v4 J) ≤ v3
      · rw [if_pos h30] at k
        have k := ly_revb 5 (c' := (if (x220 p v1 v4 J) ≤ v3 then 51 else 46, [(2, .int v2), (5, .int (x220 p v1 v4 J)), (0, .ref (p 0)), (1, .int v1), (3, .int v3), (4, .int v4)], [], me_w M J)) rfl k
        by_cases h43 : (x220 p v1 v4 J) ≤ v3
        · rw [if_pos h43] at k
          have k := ly_revb 4 (c' := (7, [(4, .int (v4 + (Int32.ofInt 1))), (3, .int v3), (2, .int v2), (5, .int (x220 p v1 v4 J)), (0, .ref (p 0)), (1, .int v1)], [], me_w M J)) rfl k
          have k := nt_rn_w (a := [(4, .int (v4 + (Int32.ofInt 1))), (3, .int v3), (2, .int v2), (5, .int (x220 p v1 v4 J)), (0, .ref (p 0)), (1, .int v1)]) (b := [(0, .ref (p 0)), (1, .int v1), (2, .int v2), (3, .int v3), (4, .int (v4 + (Int32.ofInt 1))), (5, .int (x220 p v1 v4 J))]) ⟨rfl, rfl, rfl, rfl, rfl, rfl, trivial⟩ rfl k
          have k := ih v2 v3 (v4 + (Int32.ofInt 1)) (x220 p v1 v4 J) (lx_dec h15 hc) k
          rw [k, x219_7, if_neg h15, if_pos h30, if_pos h43]
        · rw [if_neg h43] at k
          have k := ly_revb 5 (c' := (7, [(4, .int (v4 + (Int32.ofInt 1))), (3, .int (x220 p v1 v4 J)), (2, .int v2), (5, .int (x220 p v1 v4 J)), (0, .ref (p 0)), (1, .int v1)], [], me_w M J)) rfl k
          have k := nt_rn_w (a := [(4, .int (v4 + (Int32.ofInt 1))), (3, .int (x220 p v1 v4 J)), (2, .int v2), (5, .int (x220 p v1 v4 J)), (0, .ref (p 0)), (1, .int v1)]) (b := [(0, .ref (p 0)), (1, .int v1), (2, .int v2), (3, .int (x220 p v1 v4 J)), (4, .int (v4 + (Int32.ofInt 1))), (5, .int (x220 p v1 v4 J))]) ⟨rfl, rfl, rfl, rfl, rfl, rfl, trivial⟩ rfl k
          have k := ih v2 (x220 p v1 v4 J) (v4 + (Int32.ofInt 1)) (x220 p v1 v4 J) (lx_dec h15 hc) k
          rw [k, x219_7, if_neg h15, if_pos h30, if_neg h43]
      · rw [if_neg h30] at k
        have k := ly_revb 6 (c' := (if (x220 p v1 v4 J) ≤ v3 then 51 else 46, [(2, .int v4), (5, .int (x220 p v1 v4 J)), (0, .ref (p 0)), (1, .int v1), (3, .int v3), (4, .int v4)], [], me_w M J)) rfl k
        by_cases h43 : (x220 p v1 v4 J) ≤ v3
        · rw [if_pos h43] at k
          have k := ly_revb 4 (c' := (7, [(4, .int (v4 + (Int32.ofInt 1))), (3, .int v3), (2, .int v4), (5, .int (x220 p v1 v4 J)), (0, .ref (p 0)), (1, .int v1)], [], me_w M J)) rfl k
          have k := nt_rn_w (a := [(4, .int (v4 + (Int32.ofInt 1))), (3, .int v3), (2, .int v4), (5, .int (x220 p v1 v4 J)), (0, .ref (p 0)), (1, .int v1)]) (b := [(0, .ref (p 0)), (1, .int v1), (2, .int v4), (3, .int v3), (4, .int (v4 + (Int32.ofInt 1))), (5, .int (x220 p v1 v4 J))]) ⟨rfl, rfl, rfl, rfl, rfl, rfl, trivial⟩ rfl k
          have k := ih v4 v3 (v4 + (Int32.ofInt 1)) (x220 p v1 v4 J) (lx_dec h15 hc) k
          rw [k, x219_7, if_neg h15, if_neg h30, if_pos h43]
        · rw [if_neg h43] at k
          have k := ly_revb 5 (c' := (7, [(4, .int (v4 + (Int32.ofInt 1))), (3, .int (x220 p v1 v4 J)), (2, .int v4), (5, .int (x220 p v1 v4 J)), (0, .ref (p 0)), (1, .int v1)], [], me_w M J)) rfl k
          have k := nt_rn_w (a := [(4, .int (v4 + (Int32.ofInt 1))), (3, .int (x220 p v1 v4 J)), (2, .int v4), (5, .int (x220 p v1 v4 J)), (0, .ref (p 0)), (1, .int v1)]) (b := [(0, .ref (p 0)), (1, .int v1), (2, .int v4), (3, .int (x220 p v1 v4 J)), (4, .int (v4 + (Int32.ofInt 1))), (5, .int (x220 p v1 v4 J))]) ⟨rfl, rfl, rfl, rfl, rfl, rfl, trivial⟩ rfl k
          have k := ih v4 (x220 p v1 v4 J) (v4 + (Int32.ofInt 1)) (x220 p v1 v4 J) (lx_dec h15 hc) k
          rw [k, x219_7, if_neg h15, if_neg h30, if_neg h43]
theorem x219_7_rule {p : Nat → Nat} {v1 : Int32} {J : Nat → Nat → Int32} {I : Nat → Int32 → Int32 → Int32 → Prop} {Q : Int32 → Prop} (h0 : ∀ (v2 : Int32) (v3 : Int32) (v4 : Int32), I 0 v2 v3 v4 → Q v2) (h1 : ∀ (c : Nat) (v2 : Int32) (v3 : Int32) (v4 : Int32), I (c + 1) v2 v3 v4 →
    if (J (p 4) 1) ≤ v4 then (Q v2)
    else if (x220 p v1 v4 J) ≤ v3 then if (x220 p v1 v4 J) ≤ v3 then (I c v2 v3 (v4 + (Int32.ofInt 1)))
        else (I c v2 (x220 p v1 v4 J) (v4 + (Int32.ofInt 1)))
      else if (x220 p v1 v4 J) ≤ v3 then (I c v4 v3 (v4 + (Int32.ofInt 1)))
        else (I c v4 (x220 p v1 v4 J) (v4 + (Int32.ofInt 1)))) : ∀ (c : Nat) (v2 : Int32) (v3 : Int32) (v4 : Int32), I c v2 v3 v4 → Q (x219_7 p v1 J c v2 v3 v4) := by
  intro c
  induction c with
  | zero =>
    intro v2 v3 v4 hi
    rw [x219_7]
    exact h0 v2 v3 v4 hi
  | succ c ih =>
    intro v2 v3 v4 hi
    have hi := h1 c v2 v3 v4 hi
    rw [x219_7]
    by_cases h : (J (p 4) 1) ≤ v4
    · rw [if_pos h] at hi ⊢
      exact hi
    · rw [if_neg h] at hi ⊢
      by_cases h : (x220 p v1 v4 J) ≤ v3
      · rw [if_pos h] at hi ⊢
        by_cases h : (x220 p v1 v4 J) ≤ v3
        · rw [if_pos h] at hi ⊢
          exact ih _ _ _ hi
        · rw [if_neg h] at hi ⊢
          exact ih _ _ _ hi
      · rw [if_neg h] at hi ⊢
        by_cases h : (x220 p v1 v4 J) ≤ v3
        · rw [if_pos h] at hi ⊢
          exact ih _ _ _ hi
        · rw [if_neg h] at hi ⊢
          exact ih _ _ _ hi
def x219 (p : Nat → Nat) (v1 : Int32) (J : Nat → Nat → Int32) : Int32 := (x219_7 p v1 J ((J (p 4) 1).toNatClampNeg) (Int32.ofInt (-1)) (Int32.ofInt 0) (Int32.ofInt 0))
theorem xt219 {X : nt_X} {d : Nat} {M : nt_M} {o : Option Value × nt_M} {p : Nat → Nat} {v1 : Int32} {J : Nat → Nat → Int32} (hp : xs_P M p) (k : nt_ev X d 219 [.ref (p 0), .int v1] (me_w M J) o) : o = (some (.int (x219 p v1 J)), me_w M J) := by
  have k : nt_rn X d 219 (0, [(0, .ref (p 0)), (1, .int v1)], [], me_w M J) o := k
  have k := ly_revb 6 (c' := (7, [(4, .int (Int32.ofInt 0)), (3, .int (Int32.ofInt 0)), (2, .int (Int32.ofInt (-1))), (0, .ref (p 0)), (1, .int v1)], [], me_w M J)) rfl k
  have k := nt_rn_w (a := [(4, .int (Int32.ofInt 0)), (3, .int (Int32.ofInt 0)), (2, .int (Int32.ofInt (-1))), (0, .ref (p 0)), (1, .int v1)]) (b := [(0, .ref (p 0)), (1, .int v1), (2, .int (Int32.ofInt (-1))), (3, .int (Int32.ofInt 0)), (4, .int (Int32.ofInt 0)), (5, .int (Int32.ofInt 0))]) ⟨rfl, rfl, rfl, rfl, rfl, trivial⟩ rfl k
  have k := xt219_7 hp  ((J (p 4) 1).toNatClampNeg) (Int32.ofInt (-1)) (Int32.ofInt 0) (Int32.ofInt 0) (Int32.ofInt 0) (lx_beg (by decide)) k
  rw [k, x219]
/-! Model.sameBy -/
def x218_20 (p : Nat → Nat) (v2 : Int32) (J : Nat → Nat → Int32) : Nat → Int32 → Int32
  | 0, v3 => (Int32.ofInt (-1))
  | c + 1, v3 => if (J (p 4) 2) ≤ v3 then (Int32.ofInt (-1))
    else if (x171 p v3 v2 J) = 0 then (x218_20 p v2 J c (v3 + (Int32.ofInt 1)))
      else if (x173 p v3 (Int32.ofInt 0) J) = 0 then (x173 p v3 (Int32.ofInt 2) J)
        else (x218_20 p v2 J c (v3 + (Int32.ofInt 1)))
theorem xt218_20 {X : nt_X} {d : Nat} {M : nt_M} {o : Option Value × nt_M} {p : Nat → Nat} {v1 : Int32} {v2 : Int32} {J : Nat → Nat → Int32} (hp : xs_P M p) : ∀ (c : Nat) (v3 : Int32), (J (p 4) 2).toInt - v3.toInt ≤ c → nt_rn X d 218 (20, [(0, .ref (p 0)), (1, .int v1), (2, .int v2), (3, .int v3)], [], me_w M J) o → o = (some (.int (x218_20 p v2 J c v3)), me_w M J) := by
  intro c
  induction c with
  | zero =>
    intro v3 hc k
    have k := ly_revb 2 (c' := (22, [(0, .ref (p 0)), (1, .int v1), (2, .int v2), (3, .int v3)], [.ref (p 0), .int v3], me_w M J)) rfl k
    have k := lz_get (a := (p 0)) (g := 1127) (M := me_w M J) (v := .ref (p 4)) rfl (nt_gfR rfl (hp.1 (0, 27, 4) (by decide))) k
    have k := ly_revb 1 (c' := (26, [(0, .ref (p 0)), (1, .int v1), (2, .int v2), (3, .int v3)], [.int (Int32.ofInt 2), .ref (p 4), .int v3], me_w M J)) rfl k
    have k := mx_iald (v := J (p 4) 2) rfl (hp.2.2.1 4 (by omega)) ((congrArg (J (p 4)) (show (Int32.ofInt 2).toNatClampNeg = 2 from rfl)).trans (rfl)) k
    have k := ly_revb 1 (c' := (if (J (p 4) 2) ≤ v3 then 61 else 30, [(0, .ref (p 0)), (1, .int v1), (2, .int v2), (3, .int v3)], [], me_w M J)) rfl k
    have h27 : (J (p 4) 2) ≤ v3 := lx_end hc
    rw [if_pos h27] at k
    have k := ly_revb 1 (c' := (62, [(0, .ref (p 0)), (1, .int v1), (2, .int v2), (3, .int v3)], [.int (Int32.ofInt (-1))], me_w M J)) rfl k
    have k := lz_ri rfl (by decide) k
    rw [k, x218_20]
  | succ c ih =>
    intro v3 hc k
    have k := ly_revb 2 (c' := (22, [(0, .ref (p 0)), (1, .int v1), (2, .int v2), (3, .int v3)], [.ref (p 0), .int v3], me_w M J)) rfl k
    have k := lz_get (a := (p 0)) (g := 1127) (M := me_w M J) (v := .ref (p 4)) rfl (nt_gfR rfl (hp.1 (0, 27, 4) (by decide))) k
    have k := ly_revb 1 (c' := (26, [(0, .ref (p 0)), (1, .int v1), (2, .int v2), (3, .int v3)], [.int (Int32.ofInt 2), .ref (p 4), .int v3], me_w M J)) rfl k
    have k := mx_iald (v := J (p 4) 2) rfl (hp.2.2.1 4 (by omega)) ((congrArg (J (p 4)) (show (Int32.ofInt 2).toNatClampNeg = 2 from rfl)).trans (rfl)) k
    have k := ly_revb 1 (c' := (if (J (p 4) 2) ≤ v3 then 61 else 30, [(0, .ref (p 0)), (1, .int v1), (2, .int v2), (3, .int v3)], [], me_w M J)) rfl k
    by_cases h27 : (J (p 4) 2) ≤ v3
    · rw [if_pos h27] at k
      have k := ly_revb 1 (c' := (62, [(0, .ref (p 0)), (1, .int v1), (2, .int v2), (3, .int v3)], [.int (Int32.ofInt (-1))], me_w M J)) rfl k
      have k := lz_ri rfl (by decide) k
      rw [k, x218_20, if_pos h27]
    · rw [if_neg h27] at k
      have k := ly_revb 3 (c' := (33, [(0, .ref (p 0)), (1, .int v1), (2, .int v2), (3, .int v3)], [.int v2, .int v3, .ref (p 0)], me_w M J)) rfl k
      obtain ⟨d1, o1, ed, kc, k⟩ := lz_c (g := 171) (q := 1) (vs := [.ref (p 0), .int v3, .int v2]) (rest := []) rfl rfl (by decide) (Or.inr (Or.inl ⟨_, rfl, rfl⟩)) rfl k
      have e1 := xt171 hp kc
      subst e1
      have k : nt_rn X _ 218 (36, [(0, .ref (p 0)), (1, .int v1), (2, .int v2), (3, .int v3)], [.int (x171 p v3 v2 J)], me_w M J) _ := k
      have k := ly_revb 1 (c' := (if (x171 p v3 v2 J) = 0 then 55 else 39, [(0, .ref (p 0)), (1, .int v1), (2, .int v2), (3, .int v3)], [], me_w M J)) rfl k
      by_cases h36 : (x171 p v3 v2 J) = 0
      · rw [if_pos h36] at k
        have k := ly_revb 2 (c' := (20, [(3, .int (v3 + (Int32.ofInt 1))), (0, .ref (p 0)), (1, .int v1), (2, .int v2)], [], me_w M J)) rfl k
        have k := nt_rn_w (a := [(3, .int (v3 + (Int32.ofInt 1))), (0, .ref (p 0)), (1, .int v1), (2, .int v2)]) (b := [(0, .ref (p 0)), (1, .int v1), (2, .int v2), (3, .int (v3 + (Int32.ofInt 1)))]) ⟨rfl, rfl, rfl, rfl, trivial⟩ rfl k
        have k := ih (v3 + (Int32.ofInt 1)) (lx_dec h27 hc) k
        rw [k, x218_20, if_neg h27, if_pos h36]
      · rw [if_neg h36] at k
        have k := ly_revb 3 (c' := (42, [(0, .ref (p 0)), (1, .int v1), (2, .int v2), (3, .int v3)], [.int (Int32.ofInt 0), .int v3, .ref (p 0)], me_w M J)) rfl k
        obtain ⟨d1, o1, ed, kc, k⟩ := lz_c (g := 173) (q := 1) (vs := [.ref (p 0), .int v3, .int (Int32.ofInt 0)]) (rest := []) rfl rfl (by decide) (Or.inr (Or.inl ⟨_, rfl, rfl⟩)) rfl k
        have e1 := xt173 hp kc
        subst e1
        have k : nt_rn X _ 218 (45, [(0, .ref (p 0)), (1, .int v1), (2, .int v2), (3, .int v3)], [.int (x173 p v3 (Int32.ofInt 0) J)], me_w M J) _ := k
        have k := ly_revb 1 (c' := (if (x173 p v3 (Int32.ofInt 0) J) = 0 then 48 else 55, [(0, .ref (p 0)), (1, .int v1), (2, .int v2), (3, .int v3)], [], me_w M J)) rfl k
        by_cases h45 : (x173 p v3 (Int32.ofInt 0) J) = 0
        · rw [if_pos h45] at k
          have k := ly_revb 3 (c' := (51, [(0, .ref (p 0)), (1, .int v1), (2, .int v2), (3, .int v3)], [.int (Int32.ofInt 2), .int v3, .ref (p 0)], me_w M J)) rfl k
          obtain ⟨d1, o1, ed, kc, k⟩ := lz_c (g := 173) (q := 1) (vs := [.ref (p 0), .int v3, .int (Int32.ofInt 2)]) (rest := []) rfl rfl (by decide) (Or.inr (Or.inl ⟨_, rfl, rfl⟩)) rfl k
          have e1 := xt173 hp kc
          subst e1
          have k : nt_rn X _ 218 (54, [(0, .ref (p 0)), (1, .int v1), (2, .int v2), (3, .int v3)], [.int (x173 p v3 (Int32.ofInt 2) J)], me_w M J) _ := k
          have k := lz_ri rfl (by decide) k
          rw [k, x218_20, if_neg h27, if_neg h36, if_pos h45]
        · rw [if_neg h45] at k
          have k := ly_revb 2 (c' := (20, [(3, .int (v3 + (Int32.ofInt 1))), (0, .ref (p 0)), (1, .int v1), (2, .int v2)], [], me_w M J)) rfl k
          have k := nt_rn_w (a := [(3, .int (v3 + (Int32.ofInt 1))), (0, .ref (p 0)), (1, .int v1), (2, .int v2)]) (b := [(0, .ref (p 0)), (1, .int v1), (2, .int v2), (3, .int (v3 + (Int32.ofInt 1)))]) ⟨rfl, rfl, rfl, rfl, trivial⟩ rfl k
          have k := ih (v3 + (Int32.ofInt 1)) (lx_dec h27 hc) k
          rw [k, x218_20, if_neg h27, if_neg h36, if_neg h45]
theorem x218_20_rule {p : Nat → Nat} {v2 : Int32} {J : Nat → Nat → Int32} {I : Nat → Int32 → Prop} {Q : Int32 → Prop} (h0 : ∀ (v3 : Int32), I 0 v3 → Q (Int32.ofInt (-1))) (h1 : ∀ (c : Nat) (v3 : Int32), I (c + 1) v3 →
    if (J (p 4) 2) ≤ v3 then (Q (Int32.ofInt (-1)))
    else if (x171 p v3 v2 J) = 0 then (I c (v3 + (Int32.ofInt 1)))
      else if (x173 p v3 (Int32.ofInt 0) J) = 0 then (Q (x173 p v3 (Int32.ofInt 2) J))
        else (I c (v3 + (Int32.ofInt 1)))) : ∀ (c : Nat) (v3 : Int32), I c v3 → Q (x218_20 p v2 J c v3) := by
  intro c
  induction c with
  | zero =>
    intro v3 hi
    rw [x218_20]
    exact h0 v3 hi
  | succ c ih =>
    intro v3 hi
    have hi := h1 c v3 hi
    rw [x218_20]
    by_cases h : (J (p 4) 2) ≤ v3
    · rw [if_pos h] at hi ⊢
      exact hi
    · rw [if_neg h] at hi ⊢
      by_cases h : (x171 p v3 v2 J) = 0
      · rw [if_pos h] at hi ⊢
        exact ih _ hi
      · rw [if_neg h] at hi ⊢
        by_cases h : (x173 p v3 (Int32.ofInt 0) J) = 0
        · rw [if_pos h] at hi ⊢
          exact hi
        · rw [if_neg h] at hi ⊢
          exact ih _ hi
def x218 (p : Nat → Nat) (v1 : Int32) (v2 : Int32) (J : Nat → Nat → Int32) : Int32 := if v1 = (Int32.ofInt 2) then v2
  else if v1 = (Int32.ofInt 1) then (x219 p v2 J)
    else (x218_20 p v2 J ((J (p 4) 2).toNatClampNeg) (Int32.ofInt 0))
theorem xt218 {X : nt_X} {d : Nat} {M : nt_M} {o : Option Value × nt_M} {p : Nat → Nat} {v1 : Int32} {v2 : Int32} {J : Nat → Nat → Int32} (hp : xs_P M p) (k : nt_ev X d 218 [.ref (p 0), .int v1, .int v2] (me_w M J) o) : o = (some (.int (x218 p v1 v2 J)), me_w M J) := by
  have k : nt_rn X d 218 (0, [(0, .ref (p 0)), (1, .int v1), (2, .int v2)], [], me_w M J) o := k
  have k := ly_revb 3 (c' := (if v1 = (Int32.ofInt 2) then 5 else 7, [(0, .ref (p 0)), (1, .int v1), (2, .int v2)], [], me_w M J)) rfl k
  by_cases h2 : v1 = (Int32.ofInt 2)
  · rw [if_pos h2] at k
    have k := ly_revb 1 (c' := (6, [(0, .ref (p 0)), (1, .int v1), (2, .int v2)], [.int v2], me_w M J)) rfl k
    have k := lz_ri rfl (by decide) k
    rw [k, x218, if_pos h2]
  · rw [if_neg h2] at k
    have k := ly_revb 3 (c' := (if v1 = (Int32.ofInt 1) then 12 else 18, [(0, .ref (p 0)), (1, .int v1), (2, .int v2)], [], me_w M J)) rfl k
    by_cases h9 : v1 = (Int32.ofInt 1)
    · rw [if_pos h9] at k
      have k := ly_revb 2 (c' := (14, [(0, .ref (p 0)), (1, .int v1), (2, .int v2)], [.int v2, .ref (p 0)], me_w M J)) rfl k
      obtain ⟨d1, o1, ed, kc, k⟩ := lz_c (g := 219) (q := 1) (vs := [.ref (p 0), .int v2]) (rest := []) rfl rfl (by decide) (Or.inr (Or.inl ⟨_, rfl, rfl⟩)) rfl k
      have e1 := xt219 hp kc
      subst e1
      have k : nt_rn X _ 218 (17, [(0, .ref (p 0)), (1, .int v1), (2, .int v2)], [.int (x219 p v2 J)], me_w M J) _ := k
      have k := lz_ri rfl (by decide) k
      rw [k, x218, if_neg h2, if_pos h9]
    · rw [if_neg h9] at k
      have k := ly_revb 2 (c' := (20, [(3, .int (Int32.ofInt 0)), (0, .ref (p 0)), (1, .int v1), (2, .int v2)], [], me_w M J)) rfl k
      have k := nt_rn_w (a := [(3, .int (Int32.ofInt 0)), (0, .ref (p 0)), (1, .int v1), (2, .int v2)]) (b := [(0, .ref (p 0)), (1, .int v1), (2, .int v2), (3, .int (Int32.ofInt 0))]) ⟨rfl, rfl, rfl, rfl, trivial⟩ rfl k
      have k := xt218_20 hp  ((J (p 4) 2).toNatClampNeg) (Int32.ofInt 0) (lx_beg (by decide)) k
      rw [k, x218, if_neg h2, if_neg h9]
/-! Model.same -/
def x217 (p : Nat → Nat) (v1 : Int32) (v2 : Int32) (J : Nat → Nat → Int32) : Int32 := if (x145 v1.toInt64 (Int64.ofNat 0) 2) = 0 then (Int32.ofInt (-2))
  else if (x168 p v2 J) = 0 then (Int32.ofInt (-2))
    else (x218 p v1 v2 J)
theorem xt217 {X : nt_X} {d : Nat} {M : nt_M} {o : Option Value × nt_M} {p : Nat → Nat} {v1 : Int32} {v2 : Int32} {J : Nat → Nat → Int32} (hp : xs_P M p) (k : nt_ev X d 217 [.ref (p 0), .int v1, .int v2] (me_w M J) o) : o = (some (.int (x217 p v1 v2 J)), me_w M J) := by
  have k : nt_rn X d 217 (0, [(0, .ref (p 0)), (1, .int v1), (2, .int v2)], [], me_w M J) o := k
  have k := ly_revb 4 (c' := (6, [(0, .ref (p 0)), (1, .int v1), (2, .int v2)], [.long 2, .long (Int64.ofNat 0), .long v1.toInt64], me_w M J)) rfl k
  obtain ⟨d1, o1, ed, kc, k⟩ := lz_c (g := 145) (q := 0) (vs := [.long v1.toInt64, .long (Int64.ofNat 0), .long 2]) (rest := []) rfl rfl (by decide) (Or.inl ⟨_, rfl, rfl⟩) rfl k
  have e1 := xt145  kc
  subst e1
  have k : nt_rn X _ 217 (9, [(0, .ref (p 0)), (1, .int v1), (2, .int v2)], [.int (x145 v1.toInt64 (Int64.ofNat 0) 2)], me_w M J) _ := k
  have k := ly_revb 1 (c' := (if (x145 v1.toInt64 (Int64.ofNat 0) 2) = 0 then 29 else 12, [(0, .ref (p 0)), (1, .int v1), (2, .int v2)], [], me_w M J)) rfl k
  by_cases h9 : (x145 v1.toInt64 (Int64.ofNat 0) 2) = 0
  · rw [if_pos h9] at k
    have k := ly_revb 1 (c' := (31, [(0, .ref (p 0)), (1, .int v1), (2, .int v2)], [.int (Int32.ofInt (-2))], me_w M J)) rfl k
    have k := lz_ri rfl (by decide) k
    rw [k, x217, if_pos h9]
  · rw [if_neg h9] at k
    have k := ly_revb 2 (c' := (14, [(0, .ref (p 0)), (1, .int v1), (2, .int v2)], [.int v2, .ref (p 0)], me_w M J)) rfl k
    obtain ⟨d1, o1, ed, kc, k⟩ := lz_c (g := 168) (q := 1) (vs := [.ref (p 0), .int v2]) (rest := []) rfl rfl (by decide) (Or.inr (Or.inl ⟨_, rfl, rfl⟩)) rfl k
    have e1 := xt168 hp kc
    subst e1
    have k : nt_rn X _ 217 (17, [(0, .ref (p 0)), (1, .int v1), (2, .int v2)], [.int (x168 p v2 J)], me_w M J) _ := k
    have k := ly_revb 1 (c' := (if (x168 p v2 J) = 0 then 29 else 20, [(0, .ref (p 0)), (1, .int v1), (2, .int v2)], [], me_w M J)) rfl k
    by_cases h17 : (x168 p v2 J) = 0
    · rw [if_pos h17] at k
      have k := ly_revb 1 (c' := (31, [(0, .ref (p 0)), (1, .int v1), (2, .int v2)], [.int (Int32.ofInt (-2))], me_w M J)) rfl k
      have k := lz_ri rfl (by decide) k
      rw [k, x217, if_neg h9, if_pos h17]
    · rw [if_neg h17] at k
      have k := ly_revb 3 (c' := (23, [(0, .ref (p 0)), (1, .int v1), (2, .int v2)], [.int v2, .int v1, .ref (p 0)], me_w M J)) rfl k
      obtain ⟨d1, o1, ed, kc, k⟩ := lz_c (g := 218) (q := 1) (vs := [.ref (p 0), .int v1, .int v2]) (rest := []) rfl rfl (by decide) (Or.inr (Or.inl ⟨_, rfl, rfl⟩)) rfl k
      have e1 := xt218 hp kc
      subst e1
      have k : nt_rn X _ 217 (26, [(0, .ref (p 0)), (1, .int v1), (2, .int v2)], [.int (x218 p v1 v2 J)], me_w M J) _ := k
      have k := ly_revb 1 (c' := (31, [(0, .ref (p 0)), (1, .int v1), (2, .int v2)], [.int (x218 p v1 v2 J)], me_w M J)) rfl k
      have k := lz_ri rfl (by decide) k
      rw [k, x217, if_neg h9, if_neg h17]
/-! Model.unlike -/
def x221_13 (p : Nat → Nat) (J : Nat → Nat → Int32) : Nat → Int32 → Int32 → Int32
  | 0, v1, v2 => v1
  | c + 1, v1, v2 => if (J (p 4) 1) ≤ v2 then v1
    else if (x218 p (Int32.ofInt 0) v2 J) = v2 then if (x218 p (Int32.ofInt 1) v2 J) = v2 then (x221_13 p J c (v1 ||| (Int32.ofInt 0)) (v2 + (Int32.ofInt 1)))
        else (x221_13 p J c (v1 ||| ((Int32.ofInt 1) <<< (v2 &&& 31))) (v2 + (Int32.ofInt 1)))
      else (x221_13 p J c (v1 ||| ((Int32.ofInt 1) <<< (v2 &&& 31))) (v2 + (Int32.ofInt 1)))
theorem xt221_13 {X : nt_X} {d : Nat} {M : nt_M} {o : Option Value × nt_M} {p : Nat → Nat} {J : Nat → Nat → Int32} (hp : xs_P M p) : ∀ (c : Nat) (v1 : Int32) (v2 : Int32), (J (p 4) 1).toInt - v2.toInt ≤ c → nt_rn X d 221 (13, [(0, .ref (p 0)), (1, .int v1), (2, .int v2)], [], me_w M J) o → o = (some (.int (x221_13 p J c v1 v2)), me_w M J) := by
  intro c
  induction c with
  | zero =>
    intro v1 v2 hc k
    have k := ly_revb 2 (c' := (15, [(0, .ref (p 0)), (1, .int v1), (2, .int v2)], [.ref (p 0), .int v2], me_w M J)) rfl k
    have k := lz_get (a := (p 0)) (g := 1127) (M := me_w M J) (v := .ref (p 4)) rfl (nt_gfR rfl (hp.1 (0, 27, 4) (by decide))) k
    have k := ly_revb 1 (c' := (19, [(0, .ref (p 0)), (1, .int v1), (2, .int v2)], [.int (Int32.ofInt 1), .ref (p 4), .int v2], me_w M J)) rfl k
    have k := mx_iald (v := J (p 4) 1) rfl (hp.2.2.1 4 (by omega)) ((congrArg (J (p 4)) (show (Int32.ofInt 1).toNatClampNeg = 1 from rfl)).trans (rfl)) k
    have k := ly_revb 1 (c' := (if (J (p 4) 1) ≤ v2 then 59 else 23, [(0, .ref (p 0)), (1, .int v1), (2, .int v2)], [], me_w M J)) rfl k
    have h20 : (J (p 4) 1) ≤ v2 := lx_end hc
    rw [if_pos h20] at k
    have k := ly_revb 1 (c' := (60, [(0, .ref (p 0)), (1, .int v1), (2, .int v2)], [.int v1], me_w M J)) rfl k
    have k := lz_ri rfl (by decide) k
    rw [k, x221_13]
  | succ c ih =>
    intro v1 v2 hc k
    have k := ly_revb 2 (c' := (15, [(0, .ref (p 0)), (1, .int v1), (2, .int v2)], [.ref (p 0), .int v2], me_w M J)) rfl k
    have k := lz_get (a := (p 0)) (g := 1127) (M := me_w M J) (v := .ref (p 4)) rfl (nt_gfR rfl (hp.1 (0, 27, 4) (by decide))) k
    have k := ly_revb 1 (c' := (19, [(0, .ref (p 0)), (1, .int v1), (2, .int v2)], [.int (Int32.ofInt 1), .ref (p 4), .int v2], me_w M J)) rfl k
    have k := mx_iald (v := J (p 4) 1) rfl (hp.2.2.1 4 (by omega)) ((congrArg (J (p 4)) (show (Int32.ofInt 1).toNatClampNeg = 1 from rfl)).trans (rfl)) k
    have k := ly_revb 1 (c' := (if (J (p 4) 1) ≤ v2 then 59 else 23, [(0, .ref (p 0)), (1, .int v1), (2, .int v2)], [], me_w M J)) rfl k
    by_cases h20 : (J (p 4) 1) ≤ v2
    · rw [if_pos h20] at k
      have k := ly_revb 1 (c' := (60, [(0, .ref (p 0)), (1, .int v1), (2, .int v2)], [.int v1], me_w M J)) rfl k
      have k := lz_ri rfl (by decide) k
      rw [k, x221_13, if_pos h20]
    · rw [if_neg h20] at k
      have k := ly_revb 4 (c' := (27, [(0, .ref (p 0)), (1, .int v1), (2, .int v2)], [.int v2, .int (Int32.ofInt 0), .ref (p 0), .int v1], me_w M J)) rfl k
      obtain ⟨d1, o1, ed, kc, k⟩ := lz_c (g := 218) (q := 1) (vs := [.ref (p 0), .int (Int32.ofInt 0), .int v2]) (rest := [.int v1]) rfl rfl (by decide) (Or.inr (Or.inl ⟨_, rfl, rfl⟩)) rfl k
      have e1 := xt218 hp kc
      subst e1
      have k : nt_rn X _ 221 (30, [(0, .ref (p 0)), (1, .int v1), (2, .int v2)], [.int (x218 p (Int32.ofInt 0) v2 J), .int v1], me_w M J) _ := k
      have k := ly_revb 2 (c' := (if (x218 p (Int32.ofInt 0) v2 J) = v2 then 34 else 44, [(0, .ref (p 0)), (1, .int v1), (2, .int v2)], [.int v1], me_w M J)) rfl k
      by_cases h31 : (x218 p (Int32.ofInt 0) v2 J) = v2
      · rw [if_pos h31] at k
        have k := ly_revb 3 (c' := (37, [(0, .ref (p 0)), (1, .int v1), (2, .int v2)], [.int v2, .int (Int32.ofInt 1), .ref (p 0), .int v1], me_w M J)) rfl k
        obtain ⟨d1, o1, ed, kc, k⟩ := lz_c (g := 218) (q := 1) (vs := [.ref (p 0), .int (Int32.ofInt 1), .int v2]) (rest := [.int v1]) rfl rfl (by decide) (Or.inr (Or.inl ⟨_, rfl, rfl⟩)) rfl k
        have e1 := xt218 hp kc
        subst e1
        have k : nt_rn X _ 221 (40, [(0, .ref (p 0)), (1, .int v1), (2, .int v2)], [.int (x218 p (Int32.ofInt 1) v2 J), .int v1], me_w M J) _ := k
        have k := ly_revb 2 (c' := (if (x218 p (Int32.ofInt 1) v2 J) = v2 then 50 else 44, [(0, .ref (p 0)), (1, .int v1), (2, .int v2)], [.int v1], me_w M J)) rfl k
        by_cases h41 : (x218 p (Int32.ofInt 1) v2 J) = v2
        · rw [if_pos h41] at k
          have k := ly_revb 5 (c' := (13, [(2, .int (v2 + (Int32.ofInt 1))), (1, .int (v1 ||| (Int32.ofInt 0))), (0, .ref (p 0))], [], me_w M J)) rfl k
          have k := nt_rn_w (a := [(2, .int (v2 + (Int32.ofInt 1))), (1, .int (v1 ||| (Int32.ofInt 0))), (0, .ref (p 0))]) (b := [(0, .ref (p 0)), (1, .int (v1 ||| (Int32.ofInt 0))), (2, .int (v2 + (Int32.ofInt 1)))]) ⟨rfl, rfl, rfl, trivial⟩ rfl k
          have k := ih (v1 ||| (Int32.ofInt 0)) (v2 + (Int32.ofInt 1)) (lx_dec h20 hc) k
          rw [k, x221_13, if_neg h20, if_pos h31, if_pos h41]
        · rw [if_neg h41] at k
          have k := ly_revb 8 (c' := (13, [(2, .int (v2 + (Int32.ofInt 1))), (1, .int (v1 ||| ((Int32.ofInt 1) <<< (v2 &&& 31)))), (0, .ref (p 0))], [], me_w M J)) rfl k
          have k := nt_rn_w (a := [(2, .int (v2 + (Int32.ofInt 1))), (1, .int (v1 ||| ((Int32.ofInt 1) <<< (v2 &&& 31)))), (0, .ref (p 0))]) (b := [(0, .ref (p 0)), (1, .int (v1 ||| ((Int32.ofInt 1) <<< (v2 &&& 31)))), (2, .int (v2 + (Int32.ofInt 1)))]) ⟨rfl, rfl, rfl, trivial⟩ rfl k
          have k := ih (v1 ||| ((Int32.ofInt 1) <<< (v2 &&& 31))) (v2 + (Int32.ofInt 1)) (lx_dec h20 hc) k
          rw [k, x221_13, if_neg h20, if_pos h31, if_neg h41]
      · rw [if_neg h31] at k
        have k := ly_revb 8 (c' := (13, [(2, .int (v2 + (Int32.ofInt 1))), (1, .int (v1 ||| ((Int32.ofInt 1) <<< (v2 &&& 31)))), (0, .ref (p 0))], [], me_w M J)) rfl k
        have k := nt_rn_w (a := [(2, .int (v2 + (Int32.ofInt 1))), (1, .int (v1 ||| ((Int32.ofInt 1) <<< (v2 &&& 31)))), (0, .ref (p 0))]) (b := [(0, .ref (p 0)), (1, .int (v1 ||| ((Int32.ofInt 1) <<< (v2 &&& 31)))), (2, .int (v2 + (Int32.ofInt 1)))]) ⟨rfl, rfl, rfl, trivial⟩ rfl k
        have k := ih (v1 ||| ((Int32.ofInt 1) <<< (v2 &&& 31))) (v2 + (Int32.ofInt 1)) (lx_dec h20 hc) k
        rw [k, x221_13, if_neg h20, if_neg h31]
theorem x221_13_rule {p : Nat → Nat} {J : Nat → Nat → Int32} {I : Nat → Int32 → Int32 → Prop} {Q : Int32 → Prop} (h0 : ∀ (v1 : Int32) (v2 : Int32), I 0 v1 v2 → Q v1) (h1 : ∀ (c : Nat) (v1 : Int32) (v2 : Int32), I (c + 1) v1 v2 →
    if (J (p 4) 1) ≤ v2 then (Q v1)
    else if (x218 p (Int32.ofInt 0) v2 J) = v2 then if (x218 p (Int32.ofInt 1) v2 J) = v2 then (I c (v1 ||| (Int32.ofInt 0)) (v2 + (Int32.ofInt 1)))
        else (I c (v1 ||| ((Int32.ofInt 1) <<< (v2 &&& 31))) (v2 + (Int32.ofInt 1)))
      else (I c (v1 ||| ((Int32.ofInt 1) <<< (v2 &&& 31))) (v2 + (Int32.ofInt 1)))) : ∀ (c : Nat) (v1 : Int32) (v2 : Int32), I c v1 v2 → Q (x221_13 p J c v1 v2) := by
  intro c
  induction c with
  | zero =>
    intro v1 v2 hi
    rw [x221_13]
    exact h0 v1 v2 hi
  | succ c ih =>
    intro v1 v2 hi
    have hi := h1 c v1 v2 hi
    rw [x221_13]
    by_cases h : (J (p 4) 1) ≤ v2
    · rw [if_pos h] at hi ⊢
      exact hi
    · rw [if_neg h] at hi ⊢
      by_cases h : (x218 p (Int32.ofInt 0) v2 J) = v2
      · rw [if_pos h] at hi ⊢
        by_cases h : (x218 p (Int32.ofInt 1) v2 J) = v2
        · rw [if_pos h] at hi ⊢
          exact ih _ _ hi
        · rw [if_neg h] at hi ⊢
          exact ih _ _ hi
      · rw [if_neg h] at hi ⊢
        exact ih _ _ hi
def x221 (p : Nat → Nat) (J : Nat → Nat → Int32) : Int32 := if (x188 p J) = 0 then (Int32.ofInt (-1))
  else (x221_13 p J ((J (p 4) 1).toNatClampNeg) (Int32.ofInt 0) (Int32.ofInt 0))
theorem xt221 {X : nt_X} {d : Nat} {M : nt_M} {o : Option Value × nt_M} {p : Nat → Nat} {J : Nat → Nat → Int32} (hp : xs_P M p) (k : nt_ev X d 221 [.ref (p 0)] (me_w M J) o) : o = (some (.int (x221 p J)), me_w M J) := by
  have k : nt_rn X d 221 (0, [(0, .ref (p 0))], [], me_w M J) o := k
  have k := ly_revb 1 (c' := (1, [(0, .ref (p 0))], [.ref (p 0)], me_w M J)) rfl k
  obtain ⟨d1, o1, ed, kc, k⟩ := lz_c (g := 188) (q := 1) (vs := [.ref (p 0)]) (rest := []) rfl rfl (by decide) (Or.inr (Or.inl ⟨_, rfl, rfl⟩)) rfl k
  have e1 := xt188 hp kc
  subst e1
  have k : nt_rn X _ 221 (4, [(0, .ref (p 0))], [.int (x188 p J)], me_w M J) _ := k
  have k := ly_revb 1 (c' := (if (x188 p J) = 0 then 7 else 9, [(0, .ref (p 0))], [], me_w M J)) rfl k
  by_cases h4 : (x188 p J) = 0
  · rw [if_pos h4] at k
    have k := ly_revb 1 (c' := (8, [(0, .ref (p 0))], [.int (Int32.ofInt (-1))], me_w M J)) rfl k
    have k := lz_ri rfl (by decide) k
    rw [k, x221, if_pos h4]
  · rw [if_neg h4] at k
    have k := ly_revb 4 (c' := (13, [(2, .int (Int32.ofInt 0)), (1, .int (Int32.ofInt 0)), (0, .ref (p 0))], [], me_w M J)) rfl k
    have k := nt_rn_w (a := [(2, .int (Int32.ofInt 0)), (1, .int (Int32.ofInt 0)), (0, .ref (p 0))]) (b := [(0, .ref (p 0)), (1, .int (Int32.ofInt 0)), (2, .int (Int32.ofInt 0))]) ⟨rfl, rfl, rfl, trivial⟩ rfl k
    have k := xt221_13 hp  ((J (p 4) 1).toNatClampNeg) (Int32.ofInt 0) (Int32.ofInt 0) (lx_beg (by decide)) k
    rw [k, x221, if_neg h4]
/-! Model.lostOnes -/
def x228_4 (p : Nat → Nat) (J : Nat → Nat → Int32) : Nat → Int32 → Int32 → Int32
  | 0, v1, v2 => v1
  | c + 1, v1, v2 => if (J (p 4) 1) ≤ v2 then v1
    else if (x169 p v2 (Int32.ofInt 4) J) = (Int32.ofInt 2) then (x228_4 p J c (v1 ||| ((Int32.ofInt 1) <<< (v2 &&& 31))) (v2 + (Int32.ofInt 1)))
      else (x228_4 p J c (v1 ||| (Int32.ofInt 0)) (v2 + (Int32.ofInt 1)))
theorem xt228_4 {X : nt_X} {d : Nat} {M : nt_M} {o : Option Value × nt_M} {p : Nat → Nat} {J : Nat → Nat → Int32} (hp : xs_P M p) : ∀ (c : Nat) (v1 : Int32) (v2 : Int32), (J (p 4) 1).toInt - v2.toInt ≤ c → nt_rn X d 228 (4, [(0, .ref (p 0)), (1, .int v1), (2, .int v2)], [], me_w M J) o → o = (some (.int (x228_4 p J c v1 v2)), me_w M J) := by
  intro c
  induction c with
  | zero =>
    intro v1 v2 hc k
    have k := ly_revb 2 (c' := (6, [(0, .ref (p 0)), (1, .int v1), (2, .int v2)], [.ref (p 0), .int v2], me_w M J)) rfl k
    have k := lz_get (a := (p 0)) (g := 1127) (M := me_w M J) (v := .ref (p 4)) rfl (nt_gfR rfl (hp.1 (0, 27, 4) (by decide))) k
    have k := ly_revb 1 (c' := (10, [(0, .ref (p 0)), (1, .int v1), (2, .int v2)], [.int (Int32.ofInt 1), .ref (p 4), .int v2], me_w M J)) rfl k
    have k := mx_iald (v := J (p 4) 1) rfl (hp.2.2.1 4 (by omega)) ((congrArg (J (p 4)) (show (Int32.ofInt 1).toNatClampNeg = 1 from rfl)).trans (rfl)) k
    have k := ly_revb 1 (c' := (if (J (p 4) 1) ≤ v2 then 40 else 14, [(0, .ref (p 0)), (1, .int v1), (2, .int v2)], [], me_w M J)) rfl k
    have h11 : (J (p 4) 1) ≤ v2 := lx_end hc
    rw [if_pos h11] at k
    have k := ly_revb 1 (c' := (41, [(0, .ref (p 0)), (1, .int v1), (2, .int v2)], [.int v1], me_w M J)) rfl k
    have k := lz_ri rfl (by decide) k
    rw [k, x228_4]
  | succ c ih =>
    intro v1 v2 hc k
    have k := ly_revb 2 (c' := (6, [(0, .ref (p 0)), (1, .int v1), (2, .int v2)], [.ref (p 0), .int v2], me_w M J)) rfl k
    have k := lz_get (a := (p 0)) (g := 1127) (M := me_w M J) (v := .ref (p 4)) rfl (nt_gfR rfl (hp.1 (0, 27, 4) (by decide))) k
    have k := ly_revb 1 (c' := (10, [(0, .ref (p 0)), (1, .int v1), (2, .int v2)], [.int (Int32.ofInt 1), .ref (p 4), .int v2], me_w M J)) rfl k
    have k := mx_iald (v := J (p 4) 1) rfl (hp.2.2.1 4 (by omega)) ((congrArg (J (p 4)) (show (Int32.ofInt 1).toNatClampNeg = 1 from rfl)).trans (rfl)) k
    have k := ly_revb 1 (c' := (if (J (p 4) 1) ≤ v2 then 40 else 14, [(0, .ref (p 0)), (1, .int v1), (2, .int v2)], [], me_w M J)) rfl k
    by_cases h11 : (J (p 4) 1) ≤ v2
    · rw [if_pos h11] at k
      have k := ly_revb 1 (c' := (41, [(0, .ref (p 0)), (1, .int v1), (2, .int v2)], [.int v1], me_w M J)) rfl k
      have k := lz_ri rfl (by decide) k
      rw [k, x228_4, if_pos h11]
    · rw [if_neg h11] at k
      have k := ly_revb 4 (c' := (18, [(0, .ref (p 0)), (1, .int v1), (2, .int v2)], [.int (Int32.ofInt 4), .int v2, .ref (p 0), .int v1], me_w M J)) rfl k
      obtain ⟨d1, o1, ed, kc, k⟩ := lz_c (g := 169) (q := 1) (vs := [.ref (p 0), .int v2, .int (Int32.ofInt 4)]) (rest := [.int v1]) rfl rfl (by decide) (Or.inr (Or.inl ⟨_, rfl, rfl⟩)) rfl k
      have e1 := xt169 hp kc
      subst e1
      have k : nt_rn X _ 228 (21, [(0, .ref (p 0)), (1, .int v1), (2, .int v2)], [.int (x169 p v2 (Int32.ofInt 4) J), .int v1], me_w M J) _ := k
      have k := ly_revb 2 (c' := (if (x169 p v2 (Int32.ofInt 4) J) = (Int32.ofInt 2) then 25 else 31, [(0, .ref (p 0)), (1, .int v1), (2, .int v2)], [.int v1], me_w M J)) rfl k
      by_cases h22 : (x169 p v2 (Int32.ofInt 4) J) = (Int32.ofInt 2)
      · rw [if_pos h22] at k
        have k := ly_revb 8 (c' := (4, [(2, .int (v2 + (Int32.ofInt 1))), (1, .int (v1 ||| ((Int32.ofInt 1) <<< (v2 &&& 31)))), (0, .ref (p 0))], [], me_w M J)) rfl k
        have k := nt_rn_w (a := [(2, .int (v2 + (Int32.ofInt 1))), (1, .int (v1 ||| ((Int32.ofInt 1) <<< (v2 &&& 31)))), (0, .ref (p 0))]) (b := [(0, .ref (p 0)), (1, .int (v1 ||| ((Int32.ofInt 1) <<< (v2 &&& 31)))), (2, .int (v2 + (Int32.ofInt 1)))]) ⟨rfl, rfl, rfl, trivial⟩ rfl k
        have k := ih (v1 ||| ((Int32.ofInt 1) <<< (v2 &&& 31))) (v2 + (Int32.ofInt 1)) (lx_dec h11 hc) k
        rw [k, x228_4, if_neg h11, if_pos h22]
      · rw [if_neg h22] at k
        have k := ly_revb 5 (c' := (4, [(2, .int (v2 + (Int32.ofInt 1))), (1, .int (v1 ||| (Int32.ofInt 0))), (0, .ref (p 0))], [], me_w M J)) rfl k
        have k := nt_rn_w (a := [(2, .int (v2 + (Int32.ofInt 1))), (1, .int (v1 ||| (Int32.ofInt 0))), (0, .ref (p 0))]) (b := [(0, .ref (p 0)), (1, .int (v1 ||| (Int32.ofInt 0))), (2, .int (v2 + (Int32.ofInt 1)))]) ⟨rfl, rfl, rfl, trivial⟩ rfl k
        have k := ih (v1 ||| (Int32.ofInt 0)) (v2 + (Int32.ofInt 1)) (lx_dec h11 hc) k
        rw [k, x228_4, if_neg h11, if_neg h22]
theorem x228_4_rule {p : Nat → Nat} {J : Nat → Nat → Int32} {I : Nat → Int32 → Int32 → Prop} {Q : Int32 → Prop} (h0 : ∀ (v1 : Int32) (v2 : Int32), I 0 v1 v2 → Q v1) (h1 : ∀ (c : Nat) (v1 : Int32) (v2 : Int32), I (c + 1) v1 v2 →
    if (J (p 4) 1) ≤ v2 then (Q v1)
    else if (x169 p v2 (Int32.ofInt 4) J) = (Int32.ofInt 2) then (I c (v1 ||| ((Int32.ofInt 1) <<< (v2 &&& 31))) (v2 + (Int32.ofInt 1)))
      else (I c (v1 ||| (Int32.ofInt 0)) (v2 + (Int32.ofInt 1)))) : ∀ (c : Nat) (v1 : Int32) (v2 : Int32), I c v1 v2 → Q (x228_4 p J c v1 v2) := by
  intro c
  induction c with
  | zero =>
    intro v1 v2 hi
    rw [x228_4]
    exact h0 v1 v2 hi
  | succ c ih =>
    intro v1 v2 hi
    have hi := h1 c v1 v2 hi
    rw [x228_4]
    by_cases h : (J (p 4) 1) ≤ v2
    · rw [if_pos h] at hi ⊢
      exact hi
    · rw [if_neg h] at hi ⊢
      by_cases h : (x169 p v2 (Int32.ofInt 4) J) = (Int32.ofInt 2)
      · rw [if_pos h] at hi ⊢
        exact ih _ _ hi
      · rw [if_neg h] at hi ⊢
        exact ih _ _ hi
def x228 (p : Nat → Nat) (J : Nat → Nat → Int32) : Int32 := (x228_4 p J ((J (p 4) 1).toNatClampNeg) (Int32.ofInt 0) (Int32.ofInt 0))
theorem xt228 {X : nt_X} {d : Nat} {M : nt_M} {o : Option Value × nt_M} {p : Nat → Nat} {J : Nat → Nat → Int32} (hp : xs_P M p) (k : nt_ev X d 228 [.ref (p 0)] (me_w M J) o) : o = (some (.int (x228 p J)), me_w M J) := by
  have k : nt_rn X d 228 (0, [(0, .ref (p 0))], [], me_w M J) o := k
  have k := ly_revb 4 (c' := (4, [(2, .int (Int32.ofInt 0)), (1, .int (Int32.ofInt 0)), (0, .ref (p 0))], [], me_w M J)) rfl k
  have k := nt_rn_w (a := [(2, .int (Int32.ofInt 0)), (1, .int (Int32.ofInt 0)), (0, .ref (p 0))]) (b := [(0, .ref (p 0)), (1, .int (Int32.ofInt 0)), (2, .int (Int32.ofInt 0))]) ⟨rfl, rfl, rfl, trivial⟩ rfl k
  have k := xt228_4 hp  ((J (p 4) 1).toNatClampNeg) (Int32.ofInt 0) (Int32.ofInt 0) (lx_beg (by decide)) k
  rw [k, x228]
/-! .same -/
def x119 (p : Nat → Nat) (v1 : Int32) (v2 : Int32) (J : Nat → Nat → Int32) : Int32 := if v1 < 0 then (Int32.ofInt (-2))
  else if (Int32.ofInt 2) < v1 then (Int32.ofInt (-2))
    else if (x65 (fun i => p (31 + i)) v2 J) = 0 then (Int32.ofInt (-2))
      else (x76 (fun i => p (31 + i)) v1 v2 J)
theorem xt119 {X : nt_X} {d : Nat} {M : nt_M} {o : Option Value × nt_M} {p : Nat → Nat} {v1 : Int32} {v2 : Int32} {J : Nat → Nat → Int32} (hp : xs_P M p) (hn : xs_Q M (fun i => p (31 + i))) (k : nt_ev X d 119 [.ref (p 16), .int v1, .int v2] (me_w M J) o) : o = (some (.int (x119 p v1 v2 J)), me_w M J) := by
  have k : nt_rn X d 119 (0, [(0, .ref (p 16)), (1, .int v1), (2, .int v2)], [], me_w M J) o := k
  have k := ly_revb 2 (c' := (if v1 < 0 then 20 else 4, [(0, .ref (p 16)), (1, .int v1), (2, .int v2)], [], me_w M J)) rfl k
  by_cases h1 : v1 < 0
  · rw [if_pos h1] at k
    have k := ly_revb 1 (c' := (22, [(0, .ref (p 16)), (1, .int v1), (2, .int v2)], [.int (Int32.ofInt (-2))], me_w M J)) rfl k
    have k := lz_ri rfl (by decide) k
    rw [k, x119, if_pos h1]
  · rw [if_neg h1] at k
    have k := ly_revb 3 (c' := (if (Int32.ofInt 2) < v1 then 20 else 9, [(0, .ref (p 16)), (1, .int v1), (2, .int v2)], [], me_w M J)) rfl k
    by_cases h6 : (Int32.ofInt 2) < v1
    · rw [if_pos h6] at k
      have k := ly_revb 1 (c' := (22, [(0, .ref (p 16)), (1, .int v1), (2, .int v2)], [.int (Int32.ofInt (-2))], me_w M J)) rfl k
      have k := lz_ri rfl (by decide) k
      rw [k, x119, if_neg h1, if_pos h6]
    · rw [if_neg h6] at k
      have k := ly_revb 1 (c' := (10, [(0, .ref (p 16)), (1, .int v1), (2, .int v2)], [.ref (p 16)], me_w M J)) rfl k
      have k := lz_get (a := (p 16)) (g := 1007) (M := me_w M J) (v := .ref (p 31)) rfl (nt_gfR rfl (hp.1 (16, 7, 31) (by decide))) k
      have k := ly_revb 1 (c' := (14, [(0, .ref (p 16)), (1, .int v1), (2, .int v2)], [.int v2, .ref (p 31)], me_w M J)) rfl k
      obtain ⟨d1, o1, ed, kc, k⟩ := lz_c (g := 65) (q := 1) (vs := [.ref (p 31), .int v2]) (rest := []) rfl rfl (by decide) (Or.inr (Or.inl ⟨_, rfl, rfl⟩)) rfl k
      have e1 := xt65 hn kc
      subst e1
      have k : nt_rn X _ 119 (17, [(0, .ref (p 16)), (1, .int v1), (2, .int v2)], [.int (x65 (fun i => p (31 + i)) v2 J)], me_w M J) _ := k
      have k := ly_revb 1 (c' := (if (x65 (fun i => p (31 + i)) v2 J) = 0 then 20 else 23, [(0, .ref (p 16)), (1, .int v1), (2, .int v2)], [], me_w M J)) rfl k
      by_cases h17 : (x65 (fun i => p (31 + i)) v2 J) = 0
      · rw [if_pos h17] at k
        have k := ly_revb 1 (c' := (22, [(0, .ref (p 16)), (1, .int v1), (2, .int v2)], [.int (Int32.ofInt (-2))], me_w M J)) rfl k
        have k := lz_ri rfl (by decide) k
        rw [k, x119, if_neg h1, if_neg h6, if_pos h17]
      · rw [if_neg h17] at k
        have k := ly_revb 1 (c' := (24, [(0, .ref (p 16)), (1, .int v1), (2, .int v2)], [.ref (p 16)], me_w M J)) rfl k
        have k := lz_get (a := (p 16)) (g := 1007) (M := me_w M J) (v := .ref (p 31)) rfl (nt_gfR rfl (hp.1 (16, 7, 31) (by decide))) k
        have k := ly_revb 2 (c' := (29, [(0, .ref (p 16)), (1, .int v1), (2, .int v2)], [.int v2, .int v1, .ref (p 31)], me_w M J)) rfl k
        obtain ⟨d1, o1, ed, kc, k⟩ := lz_c (g := 76) (q := 1) (vs := [.ref (p 31), .int v1, .int v2]) (rest := []) rfl rfl (by decide) (Or.inr (Or.inl ⟨_, rfl, rfl⟩)) rfl k
        have e1 := xt76 hn kc
        subst e1
        have k : nt_rn X _ 119 (32, [(0, .ref (p 16)), (1, .int v1), (2, .int v2)], [.int (x76 (fun i => p (31 + i)) v1 v2 J)], me_w M J) _ := k
        have k := lz_ri rfl (by decide) k
        rw [k, x119, if_neg h1, if_neg h6, if_neg h17]
/-! .unlike -/
def x120_16 (p : Nat → Nat) (J : Nat → Nat → Int32) : Nat → Int32 → Int32 → Int32
  | 0, v1, v2 => v1
  | c + 1, v1, v2 => if (J (p 32) 1) ≤ v2 then v1
    else if (x76 (fun i => p (31 + i)) (Int32.ofInt 0) v2 J) = v2 then if (x76 (fun i => p (31 + i)) (Int32.ofInt 1) v2 J) = v2 then (x120_16 p J c v1 (v2 + (Int32.ofInt 1)))
        else (x120_16 p J c (v1 ||| ((Int32.ofInt 1) <<< (v2 &&& 31))) (v2 + (Int32.ofInt 1)))
      else (x120_16 p J c (v1 ||| ((Int32.ofInt 1) <<< (v2 &&& 31))) (v2 + (Int32.ofInt 1)))
theorem xt120_16 {X : nt_X} {d : Nat} {M : nt_M} {o : Option Value × nt_M} {p : Nat → Nat} {J : Nat → Nat → Int32} (hp : xs_P M p) (hn : xs_Q M (fun i => p (31 + i))) : ∀ (c : Nat) (v1 : Int32) (v2 : Int32), (J (p 32) 1).toInt - v2.toInt ≤ c → nt_rn X d 120 (16, [(0, .ref (p 16)), (1, .int v1), (2, .int v2)], [], me_w M J) o → o = (some (.int (x120_16 p J c v1 v2)), me_w M J) := by
  intro c
  induction c with
  | zero =>
    intro v1 v2 hc k
    have k := ly_revb 2 (c' := (18, [(0, .ref (p 16)), (1, .int v1), (2, .int v2)], [.ref (p 16), .int v2], me_w M J)) rfl k
    have k := lz_get (a := (p 16)) (g := 1007) (M := me_w M J) (v := .ref (p 31)) rfl (nt_gfR rfl (hp.1 (16, 7, 31) (by decide))) k
    have k := lz_get (a := (p 31)) (g := 600) (M := me_w M J) (v := .ref (p 32)) rfl (nt_gfR rfl (hn.1 (0, 0, 1) (by decide))) k
    have k := lz_get (a := (p 32)) (g := 801) (M := me_w M J) (v := .int (J (p 32) 1)) rfl (congrArg Value.int (rfl)) k
    have k := ly_revb 1 (c' := (if (J (p 32) 1) ≤ v2 then 68 else 30, [(0, .ref (p 16)), (1, .int v1), (2, .int v2)], [], me_w M J)) rfl k
    have h27 : (J (p 32) 1) ≤ v2 := lx_end hc
    rw [if_pos h27] at k
    have k := ly_revb 1 (c' := (69, [(0, .ref (p 16)), (1, .int v1), (2, .int v2)], [.int v1], me_w M J)) rfl k
    have k := lz_ri rfl (by decide) k
    rw [k, x120_16]
  | succ c ih =>
    intro v1 v2 hc k
    have k := ly_revb 2 (c' := (18, [(0, .ref (p 16)), (1, .int v1), (2, .int v2)], [.ref (p 16), .int v2], me_w M J)) rfl k
    have k := lz_get (a := (p 16)) (g := 1007) (M := me_w M J) (v := .ref (p 31)) rfl (nt_gfR rfl (hp.1 (16, 7, 31) (by decide))) k
    have k := lz_get (a := (p 31)) (g := 600) (M := me_w M J) (v := .ref (p 32)) rfl (nt_gfR rfl (hn.1 (0, 0, 1) (by decide))) k
    have k := lz_get (a := (p 32)) (g := 801) (M := me_w M J) (v := .int (J (p 32) 1)) rfl (congrArg Value.int (rfl)) k
    have k := ly_revb 1 (c' := (if (J (p 32) 1) ≤ v2 then 68 else 30, [(0, .ref (p 16)), (1, .int v1), (2, .int v2)], [], me_w M J)) rfl k
    by_cases h27 : (J (p 32) 1) ≤ v2
    · rw [if_pos h27] at k
      have k := ly_revb 1 (c' := (69, [(0, .ref (p 16)), (1, .int v1), (2, .int v2)], [.int v1], me_w M J)) rfl k
      have k := lz_ri rfl (by decide) k
      rw [k, x120_16, if_pos h27]
    · rw [if_neg h27] at k
      have k := ly_revb 1 (c' := (31, [(0, .ref (p 16)), (1, .int v1), (2, .int v2)], [.ref (p 16)], me_w M J)) rfl k
      have k := lz_get (a := (p 16)) (g := 1007) (M := me_w M J) (v := .ref (p 31)) rfl (nt_gfR rfl (hp.1 (16, 7, 31) (by decide))) k
      have k := ly_revb 2 (c' := (36, [(0, .ref (p 16)), (1, .int v1), (2, .int v2)], [.int v2, .int (Int32.ofInt 0), .ref (p 31)], me_w M J)) rfl k
      obtain ⟨d1, o1, ed, kc, k⟩ := lz_c (g := 76) (q := 1) (vs := [.ref (p 31), .int (Int32.ofInt 0), .int v2]) (rest := []) rfl rfl (by decide) (Or.inr (Or.inl ⟨_, rfl, rfl⟩)) rfl k
      have e1 := xt76 hn kc
      subst e1
      have k : nt_rn X _ 120 (39, [(0, .ref (p 16)), (1, .int v1), (2, .int v2)], [.int (x76 (fun i => p (31 + i)) (Int32.ofInt 0) v2 J)], me_w M J) _ := k
      have k := ly_revb 2 (c' := (if (x76 (fun i => p (31 + i)) (Int32.ofInt 0) v2 J) = v2 then 43 else 56, [(0, .ref (p 16)), (1, .int v1), (2, .int v2)], [], me_w M J)) rfl k
      by_cases h40 : (x76 (fun i => p (31 + i)) (Int32.ofInt 0) v2 J) = v2
      · rw [if_pos h40] at k
        have k := ly_revb 1 (c' := (44, [(0, .ref (p 16)), (1, .int v1), (2, .int v2)], [.ref (p 16)], me_w M J)) rfl k
        have k := lz_get (a := (p 16)) (g := 1007) (M := me_w M J) (v := .ref (p 31)) rfl (nt_gfR rfl (hp.1 (16, 7, 31) (by decide))) k
        have k := ly_revb 2 (c' := (49, [(0, .ref (p 16)), (1, .int v1), (2, .int v2)], [.int v2, .int (Int32.ofInt 1), .ref (p 31)], me_w M J)) rfl k
        obtain ⟨d1, o1, ed, kc, k⟩ := lz_c (g := 76) (q := 1) (vs := [.ref (p 31), .int (Int32.ofInt 1), .int v2]) (rest := []) rfl rfl (by decide) (Or.inr (Or.inl ⟨_, rfl, rfl⟩)) rfl k
        have e1 := xt76 hn kc
        subst e1
        have k : nt_rn X _ 120 (52, [(0, .ref (p 16)), (1, .int v1), (2, .int v2)], [.int (x76 (fun i => p (31 + i)) (Int32.ofInt 1) v2 J)], me_w M J) _ := k
        have k := ly_revb 2 (c' := (if (x76 (fun i => p (31 + i)) (Int32.ofInt 1) v2 J) = v2 then 62 else 56, [(0, .ref (p 16)), (1, .int v1), (2, .int v2)], [], me_w M J)) rfl k
        by_cases h53 : (x76 (fun i => p (31 + i)) (Int32.ofInt 1) v2 J) = v2
        · rw [if_pos h53] at k
          have k := ly_revb 2 (c' := (16, [(2, .int (v2 + (Int32.ofInt 1))), (0, .ref (p 16)), (1, .int v1)], [], me_w M J)) rfl k
          have k := nt_rn_w (a := [(2, .int (v2 + (Int32.ofInt 1))), (0, .ref (p 16)), (1, .int v1)]) (b := [(0, .ref (p 16)), (1, .int v1), (2, .int (v2 + (Int32.ofInt 1)))]) ⟨rfl, rfl, rfl, trivial⟩ rfl k
          have k := ih v1 (v2 + (Int32.ofInt 1)) (lx_dec h27 hc) k
          rw [k, x120_16, if_neg h27, if_pos h40, if_pos h53]
        · rw [if_neg h53] at k
          have k := ly_revb 8 (c' := (16, [(2, .int (v2 + (Int32.ofInt 1))), (1, .int (v1 ||| ((Int32.ofInt 1) <<< (v2 &&& 31)))), (0, .ref (p 16))], [], me_w M J)) rfl k
          have k := nt_rn_w (a := [(2, .int (v2 + (Int32.ofInt 1))), (1, .int (v1 ||| ((Int32.ofInt 1) <<< (v2 &&& 31)))), (0, .ref (p 16))]) (b := [(0, .ref (p 16)), (1, .int (v1 ||| ((Int32.ofInt 1) <<< (v2 &&& 31)))), (2, .int (v2 + (Int32.ofInt 1)))]) ⟨rfl, rfl, rfl, trivial⟩ rfl k
          have k := ih (v1 ||| ((Int32.ofInt 1) <<< (v2 &&& 31))) (v2 + (Int32.ofInt 1)) (lx_dec h27 hc) k
          rw [k, x120_16, if_neg h27, if_pos h40, if_neg h53]
      · rw [if_neg h40] at k
        have k := ly_revb 8 (c' := (16, [(2, .int (v2 + (Int32.ofInt 1))), (1, .int (v1 ||| ((Int32.ofInt 1) <<< (v2 &&& 31)))), (0, .ref (p 16))], [], me_w M J)) rfl k
        have k := nt_rn_w (a := [(2, .int (v2 + (Int32.ofInt 1))), (1, .int (v1 ||| ((Int32.ofInt 1) <<< (v2 &&& 31)))), (0, .ref (p 16))]) (b := [(0, .ref (p 16)), (1, .int (v1 ||| ((Int32.ofInt 1) <<< (v2 &&& 31)))), (2, .int (v2 + (Int32.ofInt 1)))]) ⟨rfl, rfl, rfl, trivial⟩ rfl k
        have k := ih (v1 ||| ((Int32.ofInt 1) <<< (v2 &&& 31))) (v2 + (Int32.ofInt 1)) (lx_dec h27 hc) k
        rw [k, x120_16, if_neg h27, if_neg h40]
theorem x120_16_rule {p : Nat → Nat} {J : Nat → Nat → Int32} {I : Nat → Int32 → Int32 → Prop} {Q : Int32 → Prop} (h0 : ∀ (v1 : Int32) (v2 : Int32), I 0 v1 v2 → Q v1) (h1 : ∀ (c : Nat) (v1 : Int32) (v2 : Int32), I (c + 1) v1 v2 →
    if (J (p 32) 1) ≤ v2 then (Q v1)
    else if (x76 (fun i => p (31 + i)) (Int32.ofInt 0) v2 J) = v2 then if (x76 (fun i => p (31 + i)) (Int32.ofInt 1) v2 J) = v2 then (I c v1 (v2 + (Int32.ofInt 1)))
        else (I c (v1 ||| ((Int32.ofInt 1) <<< (v2 &&& 31))) (v2 + (Int32.ofInt 1)))
      else (I c (v1 ||| ((Int32.ofInt 1) <<< (v2 &&& 31))) (v2 + (Int32.ofInt 1)))) : ∀ (c : Nat) (v1 : Int32) (v2 : Int32), I c v1 v2 → Q (x120_16 p J c v1 v2) := by
  intro c
  induction c with
  | zero =>
    intro v1 v2 hi
    rw [x120_16]
    exact h0 v1 v2 hi
  | succ c ih =>
    intro v1 v2 hi
    have hi := h1 c v1 v2 hi
    rw [x120_16]
    by_cases h : (J (p 32) 1) ≤ v2
    · rw [if_pos h] at hi ⊢
      exact hi
    · rw [if_neg h] at hi ⊢
      by_cases h : (x76 (fun i => p (31 + i)) (Int32.ofInt 0) v2 J) = v2
      · rw [if_pos h] at hi ⊢
        by_cases h : (x76 (fun i => p (31 + i)) (Int32.ofInt 1) v2 J) = v2
        · rw [if_pos h] at hi ⊢
          exact ih _ _ hi
        · rw [if_neg h] at hi ⊢
          exact ih _ _ hi
      · rw [if_neg h] at hi ⊢
        exact ih _ _ hi
def x120 (p : Nat → Nat) (J : Nat → Nat → Int32) : Int32 := if (J (p 31) 1) = 0 then (Int32.ofInt (-1))
  else (x120_16 p J ((J (p 32) 1).toNatClampNeg) (Int32.ofInt 0) (Int32.ofInt 0))
theorem xt120 {X : nt_X} {d : Nat} {M : nt_M} {o : Option Value × nt_M} {p : Nat → Nat} {J : Nat → Nat → Int32} (hp : xs_P M p) (hn : xs_Q M (fun i => p (31 + i))) (k : nt_ev X d 120 [.ref (p 16)] (me_w M J) o) : o = (some (.int (x120 p J)), me_w M J) := by
  have k : nt_rn X d 120 (0, [(0, .ref (p 16))], [], me_w M J) o := k
  have k := ly_revb 1 (c' := (1, [(0, .ref (p 16))], [.ref (p 16)], me_w M J)) rfl k
  have k := lz_get (a := (p 16)) (g := 1007) (M := me_w M J) (v := .ref (p 31)) rfl (nt_gfR rfl (hp.1 (16, 7, 31) (by decide))) k
  have k := lz_get (a := (p 31)) (g := 601) (M := me_w M J) (v := .int (J (p 31) 1)) rfl (congrArg Value.int (rfl)) k
  have k := ly_revb 1 (c' := (if (J (p 31) 1) = 0 then 10 else 12, [(0, .ref (p 16))], [], me_w M J)) rfl k
  by_cases h7 : (J (p 31) 1) = 0
  · rw [if_pos h7] at k
    have k := ly_revb 1 (c' := (11, [(0, .ref (p 16))], [.int (Int32.ofInt (-1))], me_w M J)) rfl k
    have k := lz_ri rfl (by decide) k
    rw [k, x120, if_pos h7]
  · rw [if_neg h7] at k
    have k := ly_revb 4 (c' := (16, [(2, .int (Int32.ofInt 0)), (1, .int (Int32.ofInt 0)), (0, .ref (p 16))], [], me_w M J)) rfl k
    have k := nt_rn_w (a := [(2, .int (Int32.ofInt 0)), (1, .int (Int32.ofInt 0)), (0, .ref (p 16))]) (b := [(0, .ref (p 16)), (1, .int (Int32.ofInt 0)), (2, .int (Int32.ofInt 0))]) ⟨rfl, rfl, rfl, trivial⟩ rfl k
    have k := xt120_16 hp hn  ((J (p 32) 1).toNatClampNeg) (Int32.ofInt 0) (Int32.ofInt 0) (lx_beg (by decide)) k
    rw [k, x120, if_neg h7]
end
section
/-! ahead -/
theorem mx_ls {X : nt_X} {d mi pc g t q : Nat} {df : Int} {ps : Array (Int × Int)} {ls : nt_V} {st : List Value} {M : nt_M} {o : Option Value × nt_M} {x : Int32} (hat : nt_at mi pc = some (pc, .lookupswitch df ps, g, t)) (hq : ((pc : Int) + Op.lookupswitch.offset ps.toList df x.toInt) = q) (k : nt_rn X d mi (pc, ls, .int x :: st, M) o) : nt_rn X d mi (q, ls, st, M) o := by
  obtain ⟨c', hs, k⟩ := lz_s hat rfl k
  have hs : (if (ps.toList.zip (ps.toList.drop 1)).all (fun (a, b) => a.1 < b.1) = true then nt_jp pc (Op.lookupswitch.offset ps.toList df x.toInt) fun q => some (q, ls, st, M) else none) = some c' := hs
  obtain ⟨_, hs⟩ := nt_if_some hs
  unfold nt_jp at hs
  rw [hq] at hs
  obtain ⟨_, e⟩ := nt_if_some hs
  cases e
  exact k
theorem mx_lo {a o df k : Int} {r : List (Int × Int)} (h : ¬ k = a) : Op.lookupswitch.offset ((a, o) :: r) df k = Op.lookupswitch.offset r df k := by
  rw [Op.lookupswitch.offset_cons, if_neg]
  intro c
  exact h (by first | exact c | exact c.symm | exact (beq_iff_eq.mp c) | exact (beq_iff_eq.mp c).symm)
theorem xs_d48 {M : nt_M} {p : Nat → Nat} (hp : xs_P M p) : ∀ i j, i < 17 → j < 17 → (fun i => p (48 + i)) i ≠ (fun i => p (31 + i)) j := fun i j hi hj => hp.2.1 (48 + i) (31 + j) (by omega) (by omega) (by omega)
theorem xs_ln {M : nt_M} {q : Nat → Nat} {L : Nat → Nat → Int64} (h : xs_N M q) : xs_N (lw M L) q := h
/-! Model.keeps -/
def x227_2 (p : Nat → Nat) : Nat → Int32 → (Nat → Nat → Int32) → (Nat → Nat → Int32)
  | 0, v1, J => J
  | c + 1, v1, J => if (Int32.ofInt 212) ≤ v1 then J
    else (x227_2 p c (v1 + (Int32.ofInt 1)) (nt_u J (p 7) v1.toNatClampNeg (J (p 4) v1.toNatClampNeg)))
theorem xt227_2 {X : nt_X} {d : Nat} {M : nt_M} {o : Option Value × nt_M} {p : Nat → Nat} (hp : xs_P M p) : ∀ (c : Nat) (v1 : Int32) (J : Nat → Nat → Int32), (Int32.ofInt 212).toInt - v1.toInt ≤ c → nt_rn X d 227 (2, [(0, .ref (p 0)), (1, .int v1)], [], me_w M J) o → o = (none, me_w M (x227_2 p c v1 J)) := by
  intro c
  induction c with
  | zero =>
    intro v1 J hc k
    have k := ly_revb 3 (c' := (if (Int32.ofInt 212) ≤ v1 then 27 else 9, [(0, .ref (p 0)), (1, .int v1)], [], me_w M J)) rfl k
    have h6 : (Int32.ofInt 212) ≤ v1 := lx_end hc
    rw [if_pos h6] at k
    have k := lz_rv rfl rfl k
    rw [k, x227_2]
  | succ c ih =>
    intro v1 J hc k
    have k := ly_revb 3 (c' := (if (Int32.ofInt 212) ≤ v1 then 27 else 9, [(0, .ref (p 0)), (1, .int v1)], [], me_w M J)) rfl k
    by_cases h6 : (Int32.ofInt 212) ≤ v1
    · rw [if_pos h6] at k
      have k := lz_rv rfl rfl k
      rw [k, x227_2, if_pos h6]
    · rw [if_neg h6] at k
      have k := ly_revb 1 (c' := (10, [(0, .ref (p 0)), (1, .int v1)], [.ref (p 0)], me_w M J)) rfl k
      have k := lz_get (a := (p 0)) (g := 1128) (M := me_w M J) (v := .ref (p 7)) rfl (nt_gfR rfl (hp.1 (0, 28, 7) (by decide))) k
      have k := ly_revb 2 (c' := (15, [(0, .ref (p 0)), (1, .int v1)], [.ref (p 0), .int v1, .ref (p 7)], me_w M J)) rfl k
      have k := lz_get (a := (p 0)) (g := 1127) (M := me_w M J) (v := .ref (p 4)) rfl (nt_gfR rfl (hp.1 (0, 27, 4) (by decide))) k
      have k := ly_revb 1 (c' := (19, [(0, .ref (p 0)), (1, .int v1)], [.int v1, .ref (p 4), .int v1, .ref (p 7)], me_w M J)) rfl k
      have k := mx_iald (v := J (p 4) v1.toNatClampNeg) rfl (hp.2.2.1 4 (by omega)) (rfl) k
      have k := mx_iast (q := v1.toNatClampNeg) rfl rfl k
      have k : nt_rn X _ 227 (21, [(0, .ref (p 0)), (1, .int v1)], [], me_w M (nt_u J (p 7) v1.toNatClampNeg (J (p 4) v1.toNatClampNeg))) _ := k
      have k := ly_revb 2 (c' := (2, [(1, .int (v1 + (Int32.ofInt 1))), (0, .ref (p 0))], [], me_w M (nt_u J (p 7) v1.toNatClampNeg (J (p 4) v1.toNatClampNeg)))) rfl k
      have k := nt_rn_w (a := [(1, .int (v1 + (Int32.ofInt 1))), (0, .ref (p 0))]) (b := [(0, .ref (p 0)), (1, .int (v1 + (Int32.ofInt 1)))]) ⟨rfl, rfl, trivial⟩ rfl k
      have k := ih (v1 + (Int32.ofInt 1)) (nt_u J (p 7) v1.toNatClampNeg (J (p 4) v1.toNatClampNeg)) (lx_dec h6 hc) k
      rw [k, x227_2, if_neg h6]
theorem x227_2_rule {p : Nat → Nat} {I : Nat → Int32 → (Nat → Nat → Int32) → Prop} {Q : (Nat → Nat → Int32) → Prop} (h0 : ∀ (v1 : Int32) (J : Nat → Nat → Int32), I 0 v1 J → Q J) (h1 : ∀ (c : Nat) (v1 : Int32) (J : Nat → Nat → Int32), I (c + 1) v1 J →
    if (Int32.ofInt 212) ≤ v1 then (Q J)
    else (I c (v1 + (Int32.ofInt 1)) (nt_u J (p 7) v1.toNatClampNeg (J (p 4) v1.toNatClampNeg)))) : ∀ (c : Nat) (v1 : Int32) (J : Nat → Nat → Int32), I c v1 J → Q (x227_2 p c v1 J) := by
  intro c
  induction c with
  | zero =>
    intro v1 J hi
    rw [x227_2]
    exact h0 v1 J hi
  | succ c ih =>
    intro v1 J hi
    have hi := h1 c v1 J hi
    rw [x227_2]
    by_cases h : (Int32.ofInt 212) ≤ v1
    · rw [if_pos h] at hi ⊢
      exact hi
    · rw [if_neg h] at hi ⊢
      exact ih _ _ hi
def x227 (p : Nat → Nat) (J : Nat → Nat → Int32) : (Nat → Nat → Int32) := (x227_2 p ((Int32.ofInt 212).toNatClampNeg) (Int32.ofInt 0) J)
theorem xt227 {X : nt_X} {d : Nat} {M : nt_M} {o : Option Value × nt_M} {p : Nat → Nat} {J : Nat → Nat → Int32} (hp : xs_P M p) (k : nt_ev X d 227 [.ref (p 0)] (me_w M J) o) : o = (none, me_w M (x227 p J)) := by
  have k : nt_rn X d 227 (0, [(0, .ref (p 0))], [], me_w M J) o := k
  have k := ly_revb 2 (c' := (2, [(1, .int (Int32.ofInt 0)), (0, .ref (p 0))], [], me_w M J)) rfl k
  have k := nt_rn_w (a := [(1, .int (Int32.ofInt 0)), (0, .ref (p 0))]) (b := [(0, .ref (p 0)), (1, .int (Int32.ofInt 0))]) ⟨rfl, rfl, trivial⟩ rfl k
  have k := xt227_2 hp  ((Int32.ofInt 212).toNatClampNeg) (Int32.ofInt 0) J (lx_beg (by decide)) k
  rw [k, x227]
theorem x227_2_frJ {p : Nat → Nat} {b : Nat} : ∀ (c : Nat) (v1 : Int32) (J : Nat → Nat → Int32), b ≠ p 7 → x227_2 p c v1 J b = J b := by
  intro c
  induction c with
  | zero =>
    intro v1 J n0
    rw [x227_2]
    all_goals first | (dsimp only; exact (show J b = J b from rfl)) | exact (show J b = J b from rfl)
  | succ c ih =>
    intro v1 J n0
    rw [x227_2]
    by_cases h : (Int32.ofInt 212) ≤ v1
    · rw [if_pos h]
      all_goals first | (dsimp only; exact (show J b = J b from rfl)) | exact (show J b = J b from rfl)
    · rw [if_neg h]
      exact (ih _ _ n0).trans (mu_o n0)
theorem x227_frJ {p : Nat → Nat} {J : Nat → Nat → Int32} {b : Nat} (n0 : b ≠ p 7) : x227 p J b = J b := by
  unfold x227
  exact (x227_2_frJ _ _ _ n0).trans (rfl)
/-! Model.putsBack -/
def x229_2 (p : Nat → Nat) : Nat → Int32 → (Nat → Nat → Int32) → (Nat → Nat → Int32)
  | 0, v1, J => J
  | c + 1, v1, J => if (Int32.ofInt 212) ≤ v1 then J
    else (x229_2 p c (v1 + (Int32.ofInt 1)) (nt_u J (p 4) v1.toNatClampNeg (J (p 7) v1.toNatClampNeg)))
theorem xt229_2 {X : nt_X} {d : Nat} {M : nt_M} {o : Option Value × nt_M} {p : Nat → Nat} (hp : xs_P M p) : ∀ (c : Nat) (v1 : Int32) (J : Nat → Nat → Int32), (Int32.ofInt 212).toInt - v1.toInt ≤ c → nt_rn X d 229 (2, [(0, .ref (p 0)), (1, .int v1)], [], me_w M J) o → o = (none, me_w M (x229_2 p c v1 J)) := by
  intro c
  induction c with
  | zero =>
    intro v1 J hc k
    have k := ly_revb 3 (c' := (if (Int32.ofInt 212) ≤ v1 then 27 else 9, [(0, .ref (p 0)), (1, .int v1)], [], me_w M J)) rfl k
    have h6 : (Int32.ofInt 212) ≤ v1 := lx_end hc
    rw [if_pos h6] at k
    have k := lz_rv rfl rfl k
    rw [k, x229_2]
  | succ c ih =>
    intro v1 J hc k
    have k := ly_revb 3 (c' := (if (Int32.ofInt 212) ≤ v1 then 27 else 9, [(0, .ref (p 0)), (1, .int v1)], [], me_w M J)) rfl k
    by_cases h6 : (Int32.ofInt 212) ≤ v1
    · rw [if_pos h6] at k
      have k := lz_rv rfl rfl k
      rw [k, x229_2, if_pos h6]
    · rw [if_neg h6] at k
      have k := ly_revb 1 (c' := (10, [(0, .ref (p 0)), (1, .int v1)], [.ref (p 0)], me_w M J)) rfl k
      have k := lz_get (a := (p 0)) (g := 1127) (M := me_w M J) (v := .ref (p 4)) rfl (nt_gfR rfl (hp.1 (0, 27, 4) (by decide))) k
      have k := ly_revb 2 (c' := (15, [(0, .ref (p 0)), (1, .int v1)], [.ref (p 0), .int v1, .ref (p 4)], me_w M J)) rfl k
      have k := lz_get (a := (p 0)) (g := 1128) (M := me_w M J) (v := .ref (p 7)) rfl (nt_gfR rfl (hp.1 (0, 28, 7) (by decide))) k
      have k := ly_revb 1 (c' := (19, [(0, .ref (p 0)), (1, .int v1)], [.int v1, .ref (p 7), .int v1, .ref (p 4)], me_w M J)) rfl k
      have k := mx_iald (v := J (p 7) v1.toNatClampNeg) rfl (hp.2.2.1 7 (by omega)) (rfl) k
      have k := mx_iast (q := v1.toNatClampNeg) rfl rfl k
      have k : nt_rn X _ 229 (21, [(0, .ref (p 0)), (1, .int v1)], [], me_w M (nt_u J (p 4) v1.toNatClampNeg (J (p 7) v1.toNatClampNeg))) _ := k
      have k := ly_revb 2 (c' := (2, [(1, .int (v1 + (Int32.ofInt 1))), (0, .ref (p 0))], [], me_w M (nt_u J (p 4) v1.toNatClampNeg (J (p 7) v1.toNatClampNeg)))) rfl k
      have k := nt_rn_w (a := [(1, .int (v1 + (Int32.ofInt 1))), (0, .ref (p 0))]) (b := [(0, .ref (p 0)), (1, .int (v1 + (Int32.ofInt 1)))]) ⟨rfl, rfl, trivial⟩ rfl k
      have k := ih (v1 + (Int32.ofInt 1)) (nt_u J (p 4) v1.toNatClampNeg (J (p 7) v1.toNatClampNeg)) (lx_dec h6 hc) k
      rw [k, x229_2, if_neg h6]
theorem x229_2_rule {p : Nat → Nat} {I : Nat → Int32 → (Nat → Nat → Int32) → Prop} {Q : (Nat → Nat → Int32) → Prop} (h0 : ∀ (v1 : Int32) (J : Nat → Nat → Int32), I 0 v1 J → Q J) (h1 : ∀ (c : Nat) (v1 : Int32) (J : Nat → Nat → Int32), I (c + 1) v1 J →
    if (Int32.ofInt 212) ≤ v1 then (Q J)
    else (I c (v1 + (Int32.ofInt 1)) (nt_u J (p 4) v1.toNatClampNeg (J (p 7) v1.toNatClampNeg)))) : ∀ (c : Nat) (v1 : Int32) (J : Nat → Nat → Int32), I c v1 J → Q (x229_2 p c v1 J) := by
  intro c
  induction c with
  | zero =>
    intro v1 J hi
    rw [x229_2]
    exact h0 v1 J hi
  | succ c ih =>
    intro v1 J hi
    have hi := h1 c v1 J hi
    rw [x229_2]
    by_cases h : (Int32.ofInt 212) ≤ v1
    · rw [if_pos h] at hi ⊢
      exact hi
    · rw [if_neg h] at hi ⊢
      exact ih _ _ hi
def x229 (p : Nat → Nat) (J : Nat → Nat → Int32) : (Nat → Nat → Int32) := (x229_2 p ((Int32.ofInt 212).toNatClampNeg) (Int32.ofInt 0) J)
theorem xt229 {X : nt_X} {d : Nat} {M : nt_M} {o : Option Value × nt_M} {p : Nat → Nat} {J : Nat → Nat → Int32} (hp : xs_P M p) (k : nt_ev X d 229 [.ref (p 0)] (me_w M J) o) : o = (none, me_w M (x229 p J)) := by
  have k : nt_rn X d 229 (0, [(0, .ref (p 0))], [], me_w M J) o := k
  have k := ly_revb 2 (c' := (2, [(1, .int (Int32.ofInt 0)), (0, .ref (p 0))], [], me_w M J)) rfl k
  have k := nt_rn_w (a := [(1, .int (Int32.ofInt 0)), (0, .ref (p 0))]) (b := [(0, .ref (p 0)), (1, .int (Int32.ofInt 0))]) ⟨rfl, rfl, trivial⟩ rfl k
  have k := xt229_2 hp  ((Int32.ofInt 212).toNatClampNeg) (Int32.ofInt 0) J (lx_beg (by decide)) k
  rw [k, x229]
theorem x229_2_frJ {p : Nat → Nat} {b : Nat} : ∀ (c : Nat) (v1 : Int32) (J : Nat → Nat → Int32), b ≠ p 4 → x229_2 p c v1 J b = J b := by
  intro c
  induction c with
  | zero =>
    intro v1 J n0
    rw [x229_2]
    all_goals first | (dsimp only; exact (show J b = J b from rfl)) | exact (show J b = J b from rfl)
  | succ c ih =>
    intro v1 J n0
    rw [x229_2]
    by_cases h : (Int32.ofInt 212) ≤ v1
    · rw [if_pos h]
      all_goals first | (dsimp only; exact (show J b = J b from rfl)) | exact (show J b = J b from rfl)
    · rw [if_neg h]
      exact (ih _ _ n0).trans (mu_o n0)
theorem x229_frJ {p : Nat → Nat} {J : Nat → Nat → Int32} {b : Nat} (n0 : b ≠ p 4) : x229 p J b = J b := by
  unfold x229
  exact (x229_2_frJ _ _ _ n0).trans (rfl)
/-! Model.ahead -/
def x226_41 (p : Nat → Nat) (v1 : Int32) (v2 : Int32) (v3 : Int32) : Nat → Int32 → (Nat → Nat → Int32) → (Nat → Nat → Int64) → Int32 × (Nat → Nat → Int32) × (Nat → Nat → Int64)
  | 0, v4, J, L => if v3 = 0 then ((J (p 4) 7) - (J (p 7) 7), x229 p J, L)
    else if v3 = (Int32.ofInt 1) then (x228 p J, x229 p J, L)
      else ((J (p 4) 8) - (J (p 7) 8), x229 p J, L)
  | c + 1, v4, J, L => if v2 ≤ v4 then if v3 = 0 then ((J (p 4) 7) - (J (p 7) 7), x229 p J, L)
      else if v3 = (Int32.ofInt 1) then (x228 p J, x229 p J, L)
        else ((J (p 4) 8) - (J (p 7) 8), x229 p J, L)
    else (x226_41 p v1 v2 v3 c (v4 + (Int32.ofInt 1)) ((x190 p v1 J L).1) ((x190 p v1 J L).2))
theorem xt226_41 {X : nt_X} {d : Nat} {M : nt_M} {o : Option Value × nt_M} {p : Nat → Nat} {v1 : Int32} {v2 : Int32} {v3 : Int32} (hp : xs_P M p) : ∀ (c : Nat) (v4 : Int32) (J : Nat → Nat → Int32) (L : Nat → Nat → Int64), (xr_W (J (p 4)) ∧ v2.toInt - v4.toInt ≤ c) → nt_rn X d 226 (41, [(0, .ref (p 0)), (1, .int v1), (2, .int v2), (3, .int v3), (4, .int v4)], [], me_w (lw M L) J) o → o = (some (.int ((x226_41 p v1 v2 v3 c v4 J L).1)), me_w (lw M ((x226_41 p v1 v2 v3 c v4 J L).2.2)) ((x226_41 p v1 v2 v3 c v4 J L).2.1)) := by
  intro c
  induction c with
  | zero =>
    intro v4 J L hc k
    have k := ly_revb 3 (c' := (if v2 ≤ v4 then 58 else 47, [(0, .ref (p 0)), (1, .int v1), (2, .int v2), (3, .int v3), (4, .int v4)], [], me_w (lw M L) J)) rfl k
    have h44 : v2 ≤ v4 := lx_end hc.2
    rw [if_pos h44] at k
    have k := ly_revb 2 (c' := (if v3 = 0 then 62 else 80, [(0, .ref (p 0)), (1, .int v1), (2, .int v2), (3, .int v3), (4, .int v4)], [], me_w (lw M L) J)) rfl k
    by_cases h59 : v3 = 0
    · rw [if_pos h59] at k
      have k := ly_revb 1 (c' := (63, [(0, .ref (p 0)), (1, .int v1), (2, .int v2), (3, .int v3), (4, .int v4)], [.ref (p 0)], me_w (lw M L) J)) rfl k
      have k := lz_get (a := (p 0)) (g := 1127) (M := me_w (lw M L) J) (v := .ref (p 4)) rfl (nt_gfR rfl (hp.1 (0, 27, 4) (by decide))) k
      have k := ly_revb 1 (c' := (68, [(0, .ref (p 0)), (1, .int v1), (2, .int v2), (3, .int v3), (4, .int v4)], [.int (Int32.ofInt 7), .ref (p 4)], me_w (lw M L) J)) rfl k
      have k := mx_iald (v := J (p 4) 7) rfl (hp.2.2.1 4 (by omega)) ((congrArg (J (p 4)) (show (Int32.ofInt 7).toNatClampNeg = 7 from rfl)).trans (rfl)) k
      have k := ly_revb 1 (c' := (70, [(0, .ref (p 0)), (1, .int v1), (2, .int v2), (3, .int v3), (4, .int v4)], [.ref (p 0), .int (J (p 4) 7)], me_w (lw M L) J)) rfl k
      have k := lz_get (a := (p 0)) (g := 1128) (M := me_w (lw M L) J) (v := .ref (p 7)) rfl (nt_gfR rfl (hp.1 (0, 28, 7) (by decide))) k
      have k := ly_revb 1 (c' := (75, [(0, .ref (p 0)), (1, .int v1), (2, .int v2), (3, .int v3), (4, .int v4)], [.int (Int32.ofInt 7), .ref (p 7), .int (J (p 4) 7)], me_w (lw M L) J)) rfl k
      have k := mx_iald (v := J (p 7) 7) rfl (hp.2.2.1 7 (by omega)) ((congrArg (J (p 7)) (show (Int32.ofInt 7).toNatClampNeg = 7 from rfl)).trans (rfl)) k
      have k := ly_revb 4 (c' := (110, [(4, .int ((J (p 4) 7) - (J (p 7) 7))), (0, .ref (p 0)), (1, .int v1), (2, .int v2), (3, .int v3)], [.ref (p 0)], me_w (lw M L) J)) rfl k
      obtain ⟨d1, o1, ed, kc, k⟩ := lz_c (g := 229) (q := 1) (vs := [.ref (p 0)]) (rest := []) rfl rfl (by decide) (Or.inr (Or.inl ⟨_, rfl, rfl⟩)) rfl k
      have e1 := xt229 (xs_lp hp) kc
      subst e1
      have k : nt_rn X _ 226 (113, [(4, .int ((J (p 4) 7) - (J (p 7) 7))), (0, .ref (p 0)), (1, .int v1), (2, .int v2), (3, .int v3)], [], me_w (lw M L) (x229 p J)) _ := k
      have k := ly_revb 1 (c' := (115, [(4, .int ((J (p 4) 7) - (J (p 7) 7))), (0, .ref (p 0)), (1, .int v1), (2, .int v2), (3, .int v3)], [.int ((J (p 4) 7) - (J (p 7) 7))], me_w (lw M L) (x229 p J))) rfl k
      have k := lz_ri rfl (by decide) k
      rw [k, x226_41, if_pos h59]
    · rw [if_neg h59] at k
      have k := ly_revb 3 (c' := (if v3 = (Int32.ofInt 1) then 85 else 92, [(0, .ref (p 0)), (1, .int v1), (2, .int v2), (3, .int v3), (4, .int v4)], [], me_w (lw M L) J)) rfl k
      by_cases h82 : v3 = (Int32.ofInt 1)
      · rw [if_pos h82] at k
        have k := ly_revb 1 (c' := (86, [(0, .ref (p 0)), (1, .int v1), (2, .int v2), (3, .int v3), (4, .int v4)], [.ref (p 0)], me_w (lw M L) J)) rfl k
        obtain ⟨d1, o1, ed, kc, k⟩ := lz_c (g := 228) (q := 1) (vs := [.ref (p 0)]) (rest := []) rfl rfl (by decide) (Or.inr (Or.inl ⟨_, rfl, rfl⟩)) rfl k
        have e1 := xt228 (xs_lp hp) kc
        subst e1
        have k : nt_rn X _ 226 (89, [(0, .ref (p 0)), (1, .int v1), (2, .int v2), (3, .int v3), (4, .int v4)], [.int (x228 p J)], me_w (lw M L) J) _ := k
        have k := ly_revb 3 (c' := (110, [(4, .int (x228 p J)), (0, .ref (p 0)), (1, .int v1), (2, .int v2), (3, .int v3)], [.ref (p 0)], me_w (lw M L) J)) rfl k
        obtain ⟨d1, o1, ed, kc, k⟩ := lz_c (g := 229) (q := 1) (vs := [.ref (p 0)]) (rest := []) rfl rfl (by decide) (Or.inr (Or.inl ⟨_, rfl, rfl⟩)) rfl k
        have e1 := xt229 (xs_lp hp) kc
        subst e1
        have k : nt_rn X _ 226 (113, [(4, .int (x228 p J)), (0, .ref (p 0)), (1, .int v1), (2, .int v2), (3, .int v3)], [], me_w (lw M L) (x229 p J)) _ := k
        have k := ly_revb 1 (c' := (115, [(4, .int (x228 p J)), (0, .ref (p 0)), (1, .int v1), (2, .int v2), (3, .int v3)], [.int (x228 p J)], me_w (lw M L) (x229 p J))) rfl k
        have k := lz_ri rfl (by decide) k
        rw [k, x226_41, if_neg h59, if_pos h82]
      · rw [if_neg h82] at k
        have k := ly_revb 1 (c' := (93, [(0, .ref (p 0)), (1, .int v1), (2, .int v2), (3, .int v3), (4, .int v4)], [.ref (p 0)], me_w (lw M L) J)) rfl k
        have k := lz_get (a := (p 0)) (g := 1127) (M := me_w (lw M L) J) (v := .ref (p 4)) rfl (nt_gfR rfl (hp.1 (0, 27, 4) (by decide))) k
        have k := ly_revb 1 (c' := (98, [(0, .ref (p 0)), (1, .int v1), (2, .int v2), (3, .int v3), (4, .int v4)], [.int (Int32.ofInt 8), .ref (p 4)], me_w (lw M L) J)) rfl k
        have k := mx_iald (v := J (p 4) 8) rfl (hp.2.2.1 4 (by omega)) ((congrArg (J (p 4)) (show (Int32.ofInt 8).toNatClampNeg = 8 from rfl)).trans (rfl)) k
        have k := ly_revb 1 (c' := (100, [(0, .ref (p 0)), (1, .int v1), (2, .int v2), (3, .int v3), (4, .int v4)], [.ref (p 0), .int (J (p 4) 8)], me_w (lw M L) J)) rfl k
        have k := lz_get (a := (p 0)) (g := 1128) (M := me_w (lw M L) J) (v := .ref (p 7)) rfl (nt_gfR rfl (hp.1 (0, 28, 7) (by decide))) k
        have k := ly_revb 1 (c' := (105, [(0, .ref (p 0)), (1, .int v1), (2, .int v2), (3, .int v3), (4, .int v4)], [.int (Int32.ofInt 8), .ref (p 7), .int (J (p 4) 8)], me_w (lw M L) J)) rfl k
        have k := mx_iald (v := J (p 7) 8) rfl (hp.2.2.1 7 (by omega)) ((congrArg (J (p 7)) (show (Int32.ofInt 8).toNatClampNeg = 8 from rfl)).trans (rfl)) k
        have k := ly_revb 3 (c' := (110, [(4, .int ((J (p 4) 8) - (J (p 7) 8))), (0, .ref (p 0)), (1, .int v1), (2, .int v2), (3, .int v3)], [.ref (p 0)], me_w (lw M L) J)) rfl k
        obtain ⟨d1, o1, ed, kc, k⟩ := lz_c (g := 229) (q := 1) (vs := [.ref (p 0)]) (rest := []) rfl rfl (by decide) (Or.inr (Or.inl ⟨_, rfl, rfl⟩)) rfl k
        have e1 := xt229 (xs_lp hp) kc
        subst e1
        have k : nt_rn X _ 226 (113, [(4, .int ((J (p 4) 8) - (J (p 7) 8))), (0, .ref (p 0)), (1, .int v1), (2, .int v2), (3, .int v3)], [], me_w (lw M L) (x229 p J)) _ := k
        have k := ly_revb 1 (c' := (115, [(4, .int ((J (p 4) 8) - (J (p 7) 8))), (0, .ref (p 0)), (1, .int v1), (2, .int v2), (3, .int v3)], [.int ((J (p 4) 8) - (J (p 7) 8))], me_w (lw M L) (x229 p J))) rfl k
        have k := lz_ri rfl (by decide) k
        rw [k, x226_41, if_neg h59, if_neg h82]
  | succ c ih =>
    intro v4 J L hc k
    have k := ly_revb 3 (c' := (if v2 ≤ v4 then 58 else 47, [(0, .ref (p 0)), (1, .int v1), (2, .int v2), (3, .int v3), (4, .int v4)], [], me_w (lw M L) J)) rfl k
    by_cases h44 : v2 ≤ v4
    · rw [if_pos h44] at k
      have k := ly_revb 2 (c' := (if v3 = 0 then 62 else 80, [(0, .ref (p 0)), (1, .int v1), (2, .int v2), (3, .int v3), (4, .int v4)], [], me_w (lw M L) J)) rfl k
      by_cases h59 : v3 = 0
      · rw [if_pos h59] at k
        have k := ly_revb 1 (c' := (63, [(0, .ref (p 0)), (1, .int v1), (2, .int v2), (3, .int v3), (4, .int v4)], [.ref (p 0)], me_w (lw M L) J)) rfl k
        have k := lz_get (a := (p 0)) (g := 1127) (M := me_w (lw M L) J) (v := .ref (p 4)) rfl (nt_gfR rfl (hp.1 (0, 27, 4) (by decide))) k
        have k := ly_revb 1 (c' := (68, [(0, .ref (p 0)), (1, .int v1), (2, .int v2), (3, .int v3), (4, .int v4)], [.int (Int32.ofInt 7), .ref (p 4)], me_w (lw M L) J)) rfl k
        have k := mx_iald (v := J (p 4) 7) rfl (hp.2.2.1 4 (by omega)) ((congrArg (J (p 4)) (show (Int32.ofInt 7).toNatClampNeg = 7 from rfl)).trans (rfl)) k
        have k := ly_revb 1 (c' := (70, [(0, .ref (p 0)), (1, .int v1), (2, .int v2), (3, .int v3), (4, .int v4)], [.ref (p 0), .int (J (p 4) 7)], me_w (lw M L) J)) rfl k
        have k := lz_get (a := (p 0)) (g := 1128) (M := me_w (lw M L) J) (v := .ref (p 7)) rfl (nt_gfR rfl (hp.1 (0, 28, 7) (by decide))) k
        have k := ly_revb 1 (c' := (75, [(0, .ref (p 0)), (1, .int v1), (2, .int v2), (3, .int v3), (4, .int v4)], [.int (Int32.ofInt 7), .ref (p 7), .int (J (p 4) 7)], me_w (lw M L) J)) rfl k
        have k := mx_iald (v := J (p 7) 7) rfl (hp.2.2.1 7 (by omega)) ((congrArg (J (p 7)) (show (Int32.ofInt 7).toNatClampNeg = 7 from rfl)).trans (rfl)) k
        have k := ly_revb 4 (c' := (110, [(4, .int ((J (p 4) 7) - (J (p 7) 7))), (0, .ref (p 0)), (1, .int v1), (2, .int v2), (3, .int v3)], [.ref (p 0)], me_w (lw M L) J)) rfl k
        obtain ⟨d1, o1, ed, kc, k⟩ := lz_c (g := 229) (q := 1) (vs := [.ref (p 0)]) (rest := []) rfl rfl (by decide) (Or.inr (Or.inl ⟨_, rfl, rfl⟩)) rfl k
        have e1 := xt229 (xs_lp hp) kc
        subst e1
        have k : nt_rn X _ 226 (113, [(4, .int ((J (p 4) 7) - (J (p 7) 7))), (0, .ref (p 0)), (1, .int v1), (2, .int v2), (3, .int v3)], [], me_w (lw M L) (x229 p J)) _ := k
        have k := ly_revb 1 (c' := (115, [(4, .int ((J (p 4) 7) - (J (p 7) 7))), (0, .ref (p 0)), (1, .int v1), (2, .int v2), (3, .int v3)], [.int ((J (p 4) 7) - (J (p 7) 7))], me_w (lw M L) (x229 p J))) rfl k
        have k := lz_ri rfl (by decide) k
        rw [k, x226_41, if_pos h44, if_pos h59]
      · rw [if_neg h59] at k
        have k := ly_revb 3 (c' := (if v3 = (Int32.ofInt 1) then 85 else 92, [(0, .ref (p 0)), (1, .int v1), (2, .int v2), (3, .int v3), (4, .int v4)], [], me_w (lw M L) J)) rfl k
        by_cases h82 : v3 = (Int32.ofInt 1)
        · rw [if_pos h82] at k
          have k := ly_revb 1 (c' := (86, [(0, .ref (p 0)), (1, .int v1), (2, .int v2), (3, .int v3), (4, .int v4)], [.ref (p 0)], me_w (lw M L) J)) rfl k
          obtain ⟨d1, o1, ed, kc, k⟩ := lz_c (g := 228) (q := 1) (vs := [.ref (p 0)]) (rest := []) rfl rfl (by decide) (Or.inr (Or.inl ⟨_, rfl, rfl⟩)) rfl k
          have e1 := xt228 (xs_lp hp) kc
          subst e1
          have k : nt_rn X _ 226 (89, [(0, .ref (p 0)), (1, .int v1), (2, .int v2), (3, .int v3), (4, .int v4)], [.int (x228 p J)], me_w (lw M L) J) _ := k
          have k := ly_revb 3 (c' := (110, [(4, .int (x228 p J)), (0, .ref (p 0)), (1, .int v1), (2, .int v2), (3, .int v3)], [.ref (p 0)], me_w (lw M L) J)) rfl k
          obtain ⟨d1, o1, ed, kc, k⟩ := lz_c (g := 229) (q := 1) (vs := [.ref (p 0)]) (rest := []) rfl rfl (by decide) (Or.inr (Or.inl ⟨_, rfl, rfl⟩)) rfl k
          have e1 := xt229 (xs_lp hp) kc
          subst e1
          have k : nt_rn X _ 226 (113, [(4, .int (x228 p J)), (0, .ref (p 0)), (1, .int v1), (2, .int v2), (3, .int v3)], [], me_w (lw M L) (x229 p J)) _ := k
          have k := ly_revb 1 (c' := (115, [(4, .int (x228 p J)), (0, .ref (p 0)), (1, .int v1), (2, .int v2), (3, .int v3)], [.int (x228 p J)], me_w (lw M L) (x229 p J))) rfl k
          have k := lz_ri rfl (by decide) k
          rw [k, x226_41, if_pos h44, if_neg h59, if_pos h82]
        · rw [if_neg h82] at k
          have k := ly_revb 1 (c' := (93, [(0, .ref (p 0)), (1, .int v1), (2, .int v2), (3, .int v3), (4, .int v4)], [.ref (p 0)], me_w (lw M L) J)) rfl k
          have k := lz_get (a := (p 0)) (g := 1127) (M := me_w (lw M L) J) (v := .ref (p 4)) rfl (nt_gfR rfl (hp.1 (0, 27, 4) (by decide))) k
          have k := ly_revb 1 (c' := (98, [(0, .ref (p 0)), (1, .int v1), (2, .int v2), (3, .int v3), (4, .int v4)], [.int (Int32.ofInt 8), .ref (p 4)], me_w (lw M L) J)) rfl k
          have k := mx_iald (v := J (p 4) 8) rfl (hp.2.2.1 4 (by omega)) ((congrArg (J (p 4)) (show (Int32.ofInt 8).toNatClampNeg = 8 from rfl)).trans (rfl)) k
          have k := ly_revb 1 (c' := (100, [(0, .ref (p 0)), (1, .int v1), (2, .int v2), (3, .int v3), (4, .int v4)], [.ref (p 0), .int (J (p 4) 8)], me_w (lw M L) J)) rfl k
          have k := lz_get (a := (p 0)) (g := 1128) (M := me_w (lw M L) J) (v := .ref (p 7)) rfl (nt_gfR rfl (hp.1 (0, 28, 7) (by decide))) k
          have k := ly_revb 1 (c' := (105, [(0, .ref (p 0)), (1, .int v1), (2, .int v2), (3, .int v3), (4, .int v4)], [.int (Int32.ofInt 8), .ref (p 7), .int (J (p 4) 8)], me_w (lw M L) J)) rfl k
          have k := mx_iald (v := J (p 7) 8) rfl (hp.2.2.1 7 (by omega)) ((congrArg (J (p 7)) (show (Int32.ofInt 8).toNatClampNeg = 8 from rfl)).trans (rfl)) k
          have k := ly_revb 3 (c' := (110, [(4, .int ((J (p 4) 8) - (J (p 7) 8))), (0, .ref (p 0)), (1, .int v1), (2, .int v2), (3, .int v3)], [.ref (p 0)], me_w (lw M L) J)) rfl k
          obtain ⟨d1, o1, ed, kc, k⟩ := lz_c (g := 229) (q := 1) (vs := [.ref (p 0)]) (rest := []) rfl rfl (by decide) (Or.inr (Or.inl ⟨_, rfl, rfl⟩)) rfl k
          have e1 := xt229 (xs_lp hp) kc
          subst e1
          have k : nt_rn X _ 226 (113, [(4, .int ((J (p 4) 8) - (J (p 7) 8))), (0, .ref (p 0)), (1, .int v1), (2, .int v2), (3, .int v3)], [], me_w (lw M L) (x229 p J)) _ := k
          have k := ly_revb 1 (c' := (115, [(4, .int ((J (p 4) 8) - (J (p 7) 8))), (0, .ref (p 0)), (1, .int v1), (2, .int v2), (3, .int v3)], [.int ((J (p 4) 8) - (J (p 7) 8))], me_w (lw M L) (x229 p J))) rfl k
          have k := lz_ri rfl (by decide) k
          rw [k, x226_41, if_pos h44, if_neg h59, if_neg h82]
    · rw [if_neg h44] at k
      have k := ly_revb 2 (c' := (49, [(0, .ref (p 0)), (1, .int v1), (2, .int v2), (3, .int v3), (4, .int v4)], [.int v1, .ref (p 0)], me_w (lw M L) J)) rfl k
      obtain ⟨d1, o1, ed, kc, k⟩ := lz_c (g := 190) (q := 1) (vs := [.ref (p 0), .int v1]) (rest := []) rfl rfl (by decide) (Or.inr (Or.inl ⟨_, rfl, rfl⟩)) rfl k
      have e1 := xt190 hp hc.1 kc
      subst e1
      have k : nt_rn X _ 226 (52, [(0, .ref (p 0)), (1, .int v1), (2, .int v2), (3, .int v3), (4, .int v4)], [], me_w (lw M ((x190 p v1 J L).2)) ((x190 p v1 J L).1)) _ := k
      have k := ly_revb 2 (c' := (41, [(4, .int (v4 + (Int32.ofInt 1))), (0, .ref (p 0)), (1, .int v1), (2, .int v2), (3, .int v3)], [], me_w (lw M ((x190 p v1 J L).2)) ((x190 p v1 J L).1))) rfl k
      have k := nt_rn_w (a := [(4, .int (v4 + (Int32.ofInt 1))), (0, .ref (p 0)), (1, .int v1), (2, .int v2), (3, .int v3)]) (b := [(0, .ref (p 0)), (1, .int v1), (2, .int v2), (3, .int v3), (4, .int (v4 + (Int32.ofInt 1)))]) ⟨rfl, rfl, rfl, rfl, rfl, trivial⟩ rfl k
      have k := ih (v4 + (Int32.ofInt 1)) ((x190 p v1 J L).1) ((x190 p v1 J L).2) (⟨xw_190 (hp.2.1 4 0 (by omega) (by omega) (by decide)) hc.1, lx_dec h44 hc.2⟩) k
      rw [k, x226_41, if_neg h44]
theorem x226_41_rule {p : Nat → Nat} {v1 : Int32} {v2 : Int32} {v3 : Int32} {I : Nat → Int32 → (Nat → Nat → Int32) → (Nat → Nat → Int64) → Prop} {Q : Int32 × (Nat → Nat → Int32) × (Nat → Nat → Int64) → Prop} (h0 : ∀ (v4 : Int32) (J : Nat → Nat → Int32) (L : Nat → Nat → Int64), I 0 v4 J L → Q (if v3 = 0 then ((J (p 4) 7) - (J (p 7) 7), x229 p J, L)
    else if v3 = (Int32.ofInt 1) then (x228 p J, x229 p J, L)
      else ((J (p 4) 8) - (J (p 7) 8), x229 p J, L))) (h1 : ∀ (c : Nat) (v4 : Int32) (J : Nat → Nat → Int32) (L : Nat → Nat → Int64), I (c + 1) v4 J L →
    if v2 ≤ v4 then if v3 = 0 then (Q ((J (p 4) 7) - (J (p 7) 7), x229 p J, L))
      else if v3 = (Int32.ofInt 1) then (Q (x228 p J, x229 p J, L))
        else (Q ((J (p 4) 8) - (J (p 7) 8), x229 p J, L))
    else (I c (v4 + (Int32.ofInt 1)) ((x190 p v1 J L).1) ((x190 p v1 J L).2))) : ∀ (c : Nat) (v4 : Int32) (J : Nat → Nat → Int32) (L : Nat → Nat → Int64), I c v4 J L → Q (x226_41 p v1 v2 v3 c v4 J L) := by
  intro c
  induction c with
  | zero =>
    intro v4 J L hi
    rw [x226_41]
    exact h0 v4 J L hi
  | succ c ih =>
    intro v4 J L hi
    have hi := h1 c v4 J L hi
    rw [x226_41]
    by_cases h : v2 ≤ v4
    · rw [if_pos h] at hi ⊢
      by_cases h : v3 = 0
      · rw [if_pos h] at hi ⊢
        exact hi
      · rw [if_neg h] at hi ⊢
        by_cases h : v3 = (Int32.ofInt 1)
        · rw [if_pos h] at hi ⊢
          exact hi
        · rw [if_neg h] at hi ⊢
          exact hi
    · rw [if_neg h] at hi ⊢
      exact ih _ _ _ hi
def x226 (p : Nat → Nat) (v1 : Int32) (v2 : Int32) (v3 : Int32) (J : Nat → Nat → Int32) (L : Nat → Nat → Int64) : Int32 × (Nat → Nat → Int32) × (Nat → Nat → Int64) := if (x187 p v1 J) = 0 then (Int32.ofInt (-1), J, L)
  else if (x145 v2.toInt64 (Int64.ofNat 0) 100) = 0 then (Int32.ofInt (-1), J, L)
    else if (x145 v3.toInt64 (Int64.ofNat 0) 2) = 0 then (Int32.ofInt (-1), J, L)
      else (x226_41 p v1 v2 v3 v2.toNatClampNeg (Int32.ofInt 0) (x227 p J) L)
theorem xt226 {X : nt_X} {d : Nat} {M : nt_M} {o : Option Value × nt_M} {p : Nat → Nat} {v1 : Int32} {v2 : Int32} {v3 : Int32} {J : Nat → Nat → Int32} {L : Nat → Nat → Int64} (hp : xs_P M p) (hw : xr_W (J (p 4))) (k : nt_ev X d 226 [.ref (p 0), .int v1, .int v2, .int v3] (me_w (lw M L) J) o) : o = (some (.int ((x226 p v1 v2 v3 J L).1)), me_w (lw M ((x226 p v1 v2 v3 J L).2.2)) ((x226 p v1 v2 v3 J L).2.1)) := by
  have k : nt_rn X d 226 (0, [(0, .ref (p 0)), (1, .int v1), (2, .int v2), (3, .int v3)], [], me_w (lw M L) J) o := k
  have k := ly_revb 2 (c' := (2, [(0, .ref (p 0)), (1, .int v1), (2, .int v2), (3, .int v3)], [.int v1, .ref (p 0)], me_w (lw M L) J)) rfl k
  obtain ⟨d1, o1, ed, kc, k⟩ := lz_c (g := 187) (q := 1) (vs := [.ref (p 0), .int v1]) (rest := []) rfl rfl (by decide) (Or.inr (Or.inl ⟨_, rfl, rfl⟩)) rfl k
  have e1 := xt187 (xs_lp hp) kc
  subst e1
  have k : nt_rn X _ 226 (5, [(0, .ref (p 0)), (1, .int v1), (2, .int v2), (3, .int v3)], [.int (x187 p v1 J)], me_w (lw M L) J) _ := k
  have k := ly_revb 1 (c' := (if (x187 p v1 J) = 0 then 32 else 8, [(0, .ref (p 0)), (1, .int v1), (2, .int v2), (3, .int v3)], [], me_w (lw M L) J)) rfl k
  by_cases h5 : (x187 p v1 J) = 0
  · rw [if_pos h5] at k
    have k := ly_revb 1 (c' := (33, [(0, .ref (p 0)), (1, .int v1), (2, .int v2), (3, .int v3)], [.int (Int32.ofInt (-1))], me_w (lw M L) J)) rfl k
    have k := lz_ri rfl (by decide) k
    rw [k, x226, if_pos h5]
  · rw [if_neg h5] at k
    have k := ly_revb 4 (c' := (14, [(0, .ref (p 0)), (1, .int v1), (2, .int v2), (3, .int v3)], [.long 100, .long (Int64.ofNat 0), .long v2.toInt64], me_w (lw M L) J)) rfl k
    obtain ⟨d1, o1, ed, kc, k⟩ := lz_c (g := 145) (q := 0) (vs := [.long v2.toInt64, .long (Int64.ofNat 0), .long 100]) (rest := []) rfl rfl (by decide) (Or.inl ⟨_, rfl, rfl⟩) rfl k
    have e1 := xt145  kc
    subst e1
    have k : nt_rn X _ 226 (17, [(0, .ref (p 0)), (1, .int v1), (2, .int v2), (3, .int v3)], [.int (x145 v2.toInt64 (Int64.ofNat 0) 100)], me_w (lw M L) J) _ := k
    have k := ly_revb 1 (c' := (if (x145 v2.toInt64 (Int64.ofNat 0) 100) = 0 then 32 else 20, [(0, .ref (p 0)), (1, .int v1), (2, .int v2), (3, .int v3)], [], me_w (lw M L) J)) rfl k
    by_cases h17 : (x145 v2.toInt64 (Int64.ofNat 0) 100) = 0
    · rw [if_pos h17] at k
      have k := ly_revb 1 (c' := (33, [(0, .ref (p 0)), (1, .int v1), (2, .int v2), (3, .int v3)], [.int (Int32.ofInt (-1))], me_w (lw M L) J)) rfl k
      have k := lz_ri rfl (by decide) k
      rw [k, x226, if_neg h5, if_pos h17]
    · rw [if_neg h17] at k
      have k := ly_revb 4 (c' := (26, [(0, .ref (p 0)), (1, .int v1), (2, .int v2), (3, .int v3)], [.long 2, .long (Int64.ofNat 0), .long v3.toInt64], me_w (lw M L) J)) rfl k
      obtain ⟨d1, o1, ed, kc, k⟩ := lz_c (g := 145) (q := 0) (vs := [.long v3.toInt64, .long (Int64.ofNat 0), .long 2]) (rest := []) rfl rfl (by decide) (Or.inl ⟨_, rfl, rfl⟩) rfl k
      have e1 := xt145  kc
      subst e1
      have k : nt_rn X _ 226 (29, [(0, .ref (p 0)), (1, .int v1), (2, .int v2), (3, .int v3)], [.int (x145 v3.toInt64 (Int64.ofNat 0) 2)], me_w (lw M L) J) _ := k
      have k := ly_revb 1 (c' := (if (x145 v3.toInt64 (Int64.ofNat 0) 2) = 0 then 32 else 34, [(0, .ref (p 0)), (1, .int v1), (2, .int v2), (3, .int v3)], [], me_w (lw M L) J)) rfl k
      by_cases h29 : (x145 v3.toInt64 (Int64.ofNat 0) 2) = 0
      · rw [if_pos h29] at k
        have k := ly_revb 1 (c' := (33, [(0, .ref (p 0)), (1, .int v1), (2, .int v2), (3, .int v3)], [.int (Int32.ofInt (-1))], me_w (lw M L) J)) rfl k
        have k := lz_ri rfl (by decide) k
        rw [k, x226, if_neg h5, if_neg h17, if_pos h29]
      · rw [if_neg h29] at k
        have k := ly_revb 1 (c' := (35, [(0, .ref (p 0)), (1, .int v1), (2, .int v2), (3, .int v3)], [.ref (p 0)], me_w (lw M L) J)) rfl k
        obtain ⟨d1, o1, ed, kc, k⟩ := lz_c (g := 227) (q := 1) (vs := [.ref (p 0)]) (rest := []) rfl rfl (by decide) (Or.inr (Or.inl ⟨_, rfl, rfl⟩)) rfl k
        have e1 := xt227 (xs_lp hp) kc
        subst e1
        have k : nt_rn X _ 226 (38, [(0, .ref (p 0)), (1, .int v1), (2, .int v2), (3, .int v3)], [], me_w (lw M L) (x227 p J)) _ := k
        have k := ly_revb 2 (c' := (41, [(4, .int (Int32.ofInt 0)), (0, .ref (p 0)), (1, .int v1), (2, .int v2), (3, .int v3)], [], me_w (lw M L) (x227 p J))) rfl k
        have k := nt_rn_w (a := [(4, .int (Int32.ofInt 0)), (0, .ref (p 0)), (1, .int v1), (2, .int v2), (3, .int v3)]) (b := [(0, .ref (p 0)), (1, .int v1), (2, .int v2), (3, .int v3), (4, .int (Int32.ofInt 0))]) ⟨rfl, rfl, rfl, rfl, rfl, trivial⟩ rfl k
        have k := xt226_41 hp  v2.toNatClampNeg (Int32.ofInt 0) (x227 p J) L (⟨by rw [x227_frJ (hp.2.1 4 7 (by omega) (by omega) (by decide))]; exact hw, lx_beg (by decide)⟩) k
        rw [k, x226, if_neg h5, if_neg h17, if_neg h29]
theorem x226_41_frJ {p : Nat → Nat} {v1 : Int32} {v2 : Int32} {v3 : Int32} {b : Nat} : ∀ (c : Nat) (v4 : Int32) (J : Nat → Nat → Int32) (L : Nat → Nat → Int64), b ≠ p 0 → b ≠ p 4 → b ≠ p 7 → (x226_41 p v1 v2 v3 c v4 J L).2.1 b = J b := by
  intro c
  induction c with
  | zero =>
    intro v4 J L n0 n1 n2
    rw [x226_41]
    by_cases h : v3 = 0
    · rw [if_pos h]
      all_goals first | (dsimp only; exact (show (x229 p J) b = J b from x229_frJ  n1)) | exact (show (x229 p J) b = J b from x229_frJ  n1)
    · rw [if_neg h]
      by_cases h : v3 = (Int32.ofInt 1)
      · rw [if_pos h]
        all_goals first | (dsimp only; exact (show (x229 p J) b = J b from x229_frJ  n1)) | exact (show (x229 p J) b = J b from x229_frJ  n1)
      · rw [if_neg h]
        all_goals first | (dsimp only; exact (show (x229 p J) b = J b from x229_frJ  n1)) | exact (show (x229 p J) b = J b from x229_frJ  n1)
  | succ c ih =>
    intro v4 J L n0 n1 n2
    rw [x226_41]
    by_cases h : v2 ≤ v4
    · rw [if_pos h]
      by_cases h : v3 = 0
      · rw [if_pos h]
        all_goals first | (dsimp only; exact (show (x229 p J) b = J b from x229_frJ  n1)) | exact (show (x229 p J) b = J b from x229_frJ  n1)
      · rw [if_neg h]
        by_cases h : v3 = (Int32.ofInt 1)
        · rw [if_pos h]
          all_goals first | (dsimp only; exact (show (x229 p J) b = J b from x229_frJ  n1)) | exact (show (x229 p J) b = J b from x229_frJ  n1)
        · rw [if_neg h]
          all_goals first | (dsimp only; exact (show (x229 p J) b = J b from x229_frJ  n1)) | exact (show (x229 p J) b = J b from x229_frJ  n1)
    · rw [if_neg h]
      exact (ih _ _ _ n0 n1 n2).trans (x190_frJ  n0 n1)
theorem x226_frJ {p : Nat → Nat} {v1 : Int32} {v2 : Int32} {v3 : Int32} {J : Nat → Nat → Int32} {L : Nat → Nat → Int64} {b : Nat} (n0 : b ≠ p 0) (n1 : b ≠ p 4) (n2 : b ≠ p 7) : (x226 p v1 v2 v3 J L).2.1 b = J b := by
  unfold x226
  by_cases h : (x187 p v1 J) = 0
  · rw [if_pos h]
    all_goals first | (dsimp only; exact (show J b = J b from rfl)) | exact (show J b = J b from rfl)
  · rw [if_neg h]
    by_cases h : (x145 v2.toInt64 (Int64.ofNat 0) 100) = 0
    · rw [if_pos h]
      all_goals first | (dsimp only; exact (show J b = J b from rfl)) | exact (show J b = J b from rfl)
    · rw [if_neg h]
      by_cases h : (x145 v3.toInt64 (Int64.ofNat 0) 2) = 0
      · rw [if_pos h]
        all_goals first | (dsimp only; exact (show J b = J b from rfl)) | exact (show J b = J b from rfl)
      · rw [if_neg h]
        exact (x226_41_frJ _ _ _ _ n0 n1 n2).trans (x227_frJ  n2)
theorem x226_41_frL {p : Nat → Nat} {v1 : Int32} {v2 : Int32} {v3 : Int32} {b : Nat} : ∀ (c : Nat) (v4 : Int32) (J : Nat → Nat → Int32) (L : Nat → Nat → Int64), b ≠ p 5 → b ≠ p 6 → (x226_41 p v1 v2 v3 c v4 J L).2.2 b = L b := by
  intro c
  induction c with
  | zero =>
    intro v4 J L n0 n1
    rw [x226_41]
    by_cases h : v3 = 0
    · rw [if_pos h]
      all_goals first | (dsimp only; exact (show L b = L b from rfl)) | exact (show L b = L b from rfl)
    · rw [if_neg h]
      by_cases h : v3 = (Int32.ofInt 1)
      · rw [if_pos h]
        all_goals first | (dsimp only; exact (show L b = L b from rfl)) | exact (show L b = L b from rfl)
      · rw [if_neg h]
        all_goals first | (dsimp only; exact (show L b = L b from rfl)) | exact (show L b = L b from rfl)
  | succ c ih =>
    intro v4 J L n0 n1
    rw [x226_41]
    by_cases h : v2 ≤ v4
    · rw [if_pos h]
      by_cases h : v3 = 0
      · rw [if_pos h]
        all_goals first | (dsimp only; exact (show L b = L b from rfl)) | exact (show L b = L b from rfl)
      · rw [if_neg h]
        by_cases h : v3 = (Int32.ofInt 1)
        · rw [if_pos h]
          all_goals first | (dsimp only; exact (show L b = L b from rfl)) | exact (show L b = L b from rfl)
        · rw [if_neg h]
          all_goals first | (dsimp only; exact (show L b = L b from rfl)) | exact (show L b = L b from rfl)
    · rw [if_neg h]
      exact (ih _ _ _ n0 n1).trans (x190_frL n0 n1)
theorem x226_frL {p : Nat → Nat} {v1 : Int32} {v2 : Int32} {v3 : Int32} {J : Nat → Nat → Int32} {L : Nat → Nat → Int64} {b : Nat} (n0 : b ≠ p 5) (n1 : b ≠ p 6) : (x226 p v1 v2 v3 J L).2.2 b = L b := by
  unfold x226
  by_cases h : (x187 p v1 J) = 0
  · rw [if_pos h]
    all_goals first | (dsimp only; exact (show L b = L b from rfl)) | exact (show L b = L b from rfl)
  · rw [if_neg h]
    by_cases h : (x145 v2.toInt64 (Int64.ofNat 0) 100) = 0
    · rw [if_pos h]
      all_goals first | (dsimp only; exact (show L b = L b from rfl)) | exact (show L b = L b from rfl)
    · rw [if_neg h]
      by_cases h : (x145 v3.toInt64 (Int64.ofNat 0) 2) = 0
      · rw [if_pos h]
        all_goals first | (dsimp only; exact (show L b = L b from rfl)) | exact (show L b = L b from rfl)
      · rw [if_neg h]
        exact (x226_41_frL _ _ _ _ n0 n1).trans (rfl)
/-! .ahead -/
def x123_53 (p : Nat → Nat) (sp : Nat) (ln : Nat) (v1 : Int32) (v2 : Int32) (v3 : Int32) : Nat → Int32 → (Nat → Nat → Int32) → (Nat → Nat → Int64) → Int32 × (Nat → Nat → Int32) × (Nat → Nat → Int64)
  | 0, v4, J, L => if v3 = Int32.ofInt 0 then ((J (p 48) 5) - (J (p 31) 5), J, L)
    else if v3 = Int32.ofInt 1 then (x79 (fun i => p (48 + i)) J, J, L)
      else ((J (p 48) 4) - (J (p 31) 4), J, L)
  | c + 1, v4, J, L => if v2 ≤ v4 then if v3 = Int32.ofInt 0 then ((J (p 48) 5) - (J (p 31) 5), J, L)
      else if v3 = Int32.ofInt 1 then (x79 (fun i => p (48 + i)) J, J, L)
        else ((J (p 48) 4) - (J (p 31) 4), J, L)
    else if (Int32.ofInt 99) < (J (p 48) 2) then if v3 = Int32.ofInt 0 then ((J (p 48) 5) - (J (p 31) 5), J, L)
        else if v3 = Int32.ofInt 1 then (x79 (fun i => p (48 + i)) J, J, L)
          else ((J (p 48) 4) - (J (p 31) 4), J, L)
      else (x123_53 p sp ln v1 v2 v3 c (v4 + (Int32.ofInt 1)) ((x1 p (fun i => p (48 + i)) sp ln J L).1) ((x1 p (fun i => p (48 + i)) sp ln J L).2))
theorem xt123_53 {X : nt_X} {d : Nat} {M : nt_M} {o : Option Value × nt_M} {p : Nat → Nat} {sp : Nat} {ln : Nat} {ru : Nat} {v1 : Int32} {v2 : Int32} {v3 : Int32} (hp : xs_P M p) (hn : xs_Q M (fun i => p (31 + i))) (hm : xs_Q M (fun i => p (48 + i))) (hk : xs_N M (fun i => p (48 + i))) (hs : xs_S M p ru sp ln) (h0 : ¬ v1 < 0) (hr : nt_R M (p 23) v1.toNatClampNeg = some ru) : ∀ (c : Nat) (v4 : Int32) (J : Nat → Nat → Int32) (L : Nat → Nat → Int64), (¬ J (p 16) 4 ≤ v1 ∧ v2.toInt - v4.toInt ≤ c) → nt_rn X d 123 (53, [(0, .ref (p 16)), (1, .int v1), (2, .int v2), (3, .int v3), (4, .int v4)], [], me_w (lw M L) J) o → o = (some (.int ((x123_53 p sp ln v1 v2 v3 c v4 J L).1)), me_w (lw M ((x123_53 p sp ln v1 v2 v3 c v4 J L).2.2)) ((x123_53 p sp ln v1 v2 v3 c v4 J L).2.1)) := by
  intro c
  induction c with
  | zero =>
    intro v4 J L hc k
    have k := ly_revb 3 (c' := (if v2 ≤ v4 then 93 else 59, [(0, .ref (p 16)), (1, .int v1), (2, .int v2), (3, .int v3), (4, .int v4)], [], me_w (lw M L) J)) rfl k
    have h56 : v2 ≤ v4 := lx_end hc.2
    rw [if_pos h56] at k
    have k := ly_revb 1 (c' := (94, [(0, .ref (p 16)), (1, .int v1), (2, .int v2), (3, .int v3), (4, .int v4)], [.int v3], me_w (lw M L) J)) rfl k
    by_cases h94_0 : v3 = Int32.ofInt 0
    · have k := mx_ls (q := 120) rfl (by rw [h94_0]; decide) k
      have k : nt_rn X _ 123 (120, [(0, .ref (p 16)), (1, .int v1), (2, .int v2), (3, .int v3), (4, .int v4)], [], me_w (lw M L) J) _ := k
      have k := ly_revb 1 (c' := (121, [(0, .ref (p 16)), (1, .int v1), (2, .int v2), (3, .int v3), (4, .int v4)], [.ref (p 16)], me_w (lw M L) J)) rfl k
      have k := lz_get (a := (p 16)) (g := 1008) (M := me_w (lw M L) J) (v := .ref (p 48)) rfl (nt_gfR rfl (hp.1 (16, 8, 48) (by decide))) k
      have k := lz_get (a := (p 48)) (g := 605) (M := me_w (lw M L) J) (v := .int (J (p 48) 5)) rfl (congrArg Value.int (rfl)) k
      have k := ly_revb 1 (c' := (128, [(0, .ref (p 16)), (1, .int v1), (2, .int v2), (3, .int v3), (4, .int v4)], [.ref (p 16), .int (J (p 48) 5)], me_w (lw M L) J)) rfl k
      have k := lz_get (a := (p 16)) (g := 1007) (M := me_w (lw M L) J) (v := .ref (p 31)) rfl (nt_gfR rfl (hp.1 (16, 7, 31) (by decide))) k
      have k := lz_get (a := (p 31)) (g := 605) (M := me_w (lw M L) J) (v := .int (J (p 31) 5)) rfl (congrArg Value.int (rfl)) k
      have k := ly_revb 1 (c' := (135, [(0, .ref (p 16)), (1, .int v1), (2, .int v2), (3, .int v3), (4, .int v4)], [.int ((J (p 48) 5) - (J (p 31) 5))], me_w (lw M L) J)) rfl k
      have k := lz_ri rfl (by decide) k
      rw [k, x123_53, if_pos h94_0]
    · by_cases h94_1 : v3 = Int32.ofInt 1
      · have k := mx_ls (q := 136) rfl (by rw [h94_1]; decide) k
        have k : nt_rn X _ 123 (136, [(0, .ref (p 16)), (1, .int v1), (2, .int v2), (3, .int v3), (4, .int v4)], [], me_w (lw M L) J) _ := k
        have k := ly_revb 1 (c' := (137, [(0, .ref (p 16)), (1, .int v1), (2, .int v2), (3, .int v3), (4, .int v4)], [.ref (p 16)], me_w (lw M L) J)) rfl k
        have k := lz_get (a := (p 16)) (g := 1008) (M := me_w (lw M L) J) (v := .ref (p 48)) rfl (nt_gfR rfl (hp.1 (16, 8, 48) (by decide))) k
        obtain ⟨d1, o1, ed, kc, k⟩ := lz_c (g := 79) (q := 1) (vs := [.ref (p 48)]) (rest := []) rfl rfl (by decide) (Or.inr (Or.inl ⟨_, rfl, rfl⟩)) rfl k
        have e1 := xt79 (xs_lq hm) kc
        subst e1
        have k : nt_rn X _ 123 (143, [(0, .ref (p 16)), (1, .int v1), (2, .int v2), (3, .int v3), (4, .int v4)], [.int (x79 (fun i => p (48 + i)) J)], me_w (lw M L) J) _ := k
        have k := lz_ri rfl (by decide) k
        rw [k, x123_53, if_neg h94_0, if_pos h94_1]
      · have k := mx_ls (q := 144) rfl (by
          show ((94 : Nat) : Int) + Op.lookupswitch.offset [(0, 26), (1, 42)] 50 _ = _
          rw [mx_lo (fun e => h94_0 (Int32.toInt_inj.mp (e.trans (show (0 : Int) = (Int32.ofInt 0).toInt by decide)))), mx_lo (fun e => h94_1 (Int32.toInt_inj.mp (e.trans (show (1 : Int) = (Int32.ofInt 1).toInt by decide)))), Op.lookupswitch.offset_nil]; decide) k
        have k : nt_rn X _ 123 (144, [(0, .ref (p 16)), (1, .int v1), (2, .int v2), (3, .int v3), (4, .int v4)], [], me_w (lw M L) J) _ := k
        have k := ly_revb 1 (c' := (145, [(0, .ref (p 16)), (1, .int v1), (2, .int v2), (3, .int v3), (4, .int v4)], [.ref (p 16)], me_w (lw M L) J)) rfl k
        have k := lz_get (a := (p 16)) (g := 1008) (M := me_w (lw M L) J) (v := .ref (p 48)) rfl (nt_gfR rfl (hp.1 (16, 8, 48) (by decide))) k
        have k := lz_get (a := (p 48)) (g := 604) (M := me_w (lw M L) J) (v := .int (J (p 48) 4)) rfl (congrArg Value.int (rfl)) k
        have k := ly_revb 1 (c' := (152, [(0, .ref (p 16)), (1, .int v1), (2, .int v2), (3, .int v3), (4, .int v4)], [.ref (p 16), .int (J (p 48) 4)], me_w (lw M L) J)) rfl k
        have k := lz_get (a := (p 16)) (g := 1007) (M := me_w (lw M L) J) (v := .ref (p 31)) rfl (nt_gfR rfl (hp.1 (16, 7, 31) (by decide))) k
        have k := lz_get (a := (p 31)) (g := 604) (M := me_w (lw M L) J) (v := .int (J (p 31) 4)) rfl (congrArg Value.int (rfl)) k
        have k := ly_revb 1 (c' := (159, [(0, .ref (p 16)), (1, .int v1), (2, .int v2), (3, .int v3), (4, .int v4)], [.int ((J (p 48) 4) - (J (p 31) 4))], me_w (lw M L) J)) rfl k
        have k := lz_ri rfl (by decide) k
        rw [k, x123_53, if_neg h94_0, if_neg h94_1]
  | succ c ih =>
    intro v4 J L hc k
    have k := ly_revb 3 (c' := (if v2 ≤ v4 then 93 else 59, [(0, .ref (p 16)), (1, .int v1), (2, .int v2), (3, .int v3), (4, .int v4)], [], me_w (lw M L) J)) rfl k
    by_cases h56 : v2 ≤ v4
    · rw [if_pos h56] at k
      have k := ly_revb 1 (c' := (94, [(0, .ref (p 16)), (1, .int v1), (2, .int v2), (3, .int v3), (4, .int v4)], [.int v3], me_w (lw M L) J)) rfl k
      by_cases h94_0 : v3 = Int32.ofInt 0
      · have k := mx_ls (q := 120) rfl (by rw [h94_0]; decide) k
        have k : nt_rn X _ 123 (120, [(0, .ref (p 16)), (1, .int v1), (2, .int v2), (3, .int v3), (4, .int v4)], [], me_w (lw M L) J) _ := k
        have k := ly_revb 1 (c' := (121, [(0, .ref (p 16)), (1, .int v1), (2, .int v2), (3, .int v3), (4, .int v4)], [.ref (p 16)], me_w (lw M L) J)) rfl k
        have k := lz_get (a := (p 16)) (g := 1008) (M := me_w (lw M L) J) (v := .ref (p 48)) rfl (nt_gfR rfl (hp.1 (16, 8, 48) (by decide))) k
        have k := lz_get (a := (p 48)) (g := 605) (M := me_w (lw M L) J) (v := .int (J (p 48) 5)) rfl (congrArg Value.int (rfl)) k
        have k := ly_revb 1 (c' := (128, [(0, .ref (p 16)), (1, .int v1), (2, .int v2), (3, .int v3), (4, .int v4)], [.ref (p 16), .int (J (p 48) 5)], me_w (lw M L) J)) rfl k
        have k := lz_get (a := (p 16)) (g := 1007) (M := me_w (lw M L) J) (v := .ref (p 31)) rfl (nt_gfR rfl (hp.1 (16, 7, 31) (by decide))) k
        have k := lz_get (a := (p 31)) (g := 605) (M := me_w (lw M L) J) (v := .int (J (p 31) 5)) rfl (congrArg Value.int (rfl)) k
        have k := ly_revb 1 (c' := (135, [(0, .ref (p 16)), (1, .int v1), (2, .int v2), (3, .int v3), (4, .int v4)], [.int ((J (p 48) 5) - (J (p 31) 5))], me_w (lw M L) J)) rfl k
        have k := lz_ri rfl (by decide) k
        rw [k, x123_53, if_pos h56, if_pos h94_0]
      · by_cases h94_1 : v3 = Int32.ofInt 1
        · have k := mx_ls (q := 136) rfl (by rw [h94_1]; decide) k
          have k : nt_rn X _ 123 (136, [(0, .ref (p 16)), (1, .int v1), (2, .int v2), (3, .int v3), (4, .int v4)], [], me_w (lw M L) J) _ := k
          have k := ly_revb 1 (c' := (137, [(0, .ref (p 16)), (1, .int v1), (2, .int v2), (3, .int v3), (4, .int v4)], [.ref (p 16)], me_w (lw M L) J)) rfl k
          have k := lz_get (a := (p 16)) (g := 1008) (M := me_w (lw M L) J) (v := .ref (p 48)) rfl (nt_gfR rfl (hp.1 (16, 8, 48) (by decide))) k
          obtain ⟨d1, o1, ed, kc, k⟩ := lz_c (g := 79) (q := 1) (vs := [.ref (p 48)]) (rest := []) rfl rfl (by decide) (Or.inr (Or.inl ⟨_, rfl, rfl⟩)) rfl k
          have e1 := xt79 (xs_lq hm) kc
          subst e1
          have k : nt_rn X _ 123 (143, [(0, .ref (p 16)), (1, .int v1), (2, .int v2), (3, .int v3), (4, .int v4)], [.int (x79 (fun i => p (48 + i)) J)], me_w (lw M L) J) _ := k
          have k := lz_ri rfl (by decide) k
          rw [k, x123_53, if_pos h56, if_neg h94_0, if_pos h94_1]
        · have k := mx_ls (q := 144) rfl (by
            show ((94 : Nat) : Int) + Op.lookupswitch.offset [(0, 26), (1, 42)] 50 _ = _
            rw [mx_lo (fun e => h94_0 (Int32.toInt_inj.mp (e.trans (show (0 : Int) = (Int32.ofInt 0).toInt by decide)))), mx_lo (fun e => h94_1 (Int32.toInt_inj.mp (e.trans (show (1 : Int) = (Int32.ofInt 1).toInt by decide)))), Op.lookupswitch.offset_nil]; decide) k
          have k : nt_rn X _ 123 (144, [(0, .ref (p 16)), (1, .int v1), (2, .int v2), (3, .int v3), (4, .int v4)], [], me_w (lw M L) J) _ := k
          have k := ly_revb 1 (c' := (145, [(0, .ref (p 16)), (1, .int v1), (2, .int v2), (3, .int v3), (4, .int v4)], [.ref (p 16)], me_w (lw M L) J)) rfl k
          have k := lz_get (a := (p 16)) (g := 1008) (M := me_w (lw M L) J) (v := .ref (p 48)) rfl (nt_gfR rfl (hp.1 (16, 8, 48) (by decide))) k
          have k := lz_get (a := (p 48)) (g := 604) (M := me_w (lw M L) J) (v := .int (J (p 48) 4)) rfl (congrArg Value.int (rfl)) k
          have k := ly_revb 1 (c' := (152, [(0, .ref (p 16)), (1, .int v1), (2, .int v2), (3, .int v3), (4, .int v4)], [.ref (p 16), .int (J (p 48) 4)], me_w (lw M L) J)) rfl k
          have k := lz_get (a := (p 16)) (g := 1007) (M := me_w (lw M L) J) (v := .ref (p 31)) rfl (nt_gfR rfl (hp.1 (16, 7, 31) (by decide))) k
          have k := lz_get (a := (p 31)) (g := 604) (M := me_w (lw M L) J) (v := .int (J (p 31) 4)) rfl (congrArg Value.int (rfl)) k
          have k := ly_revb 1 (c' := (159, [(0, .ref (p 16)), (1, .int v1), (2, .int v2), (3, .int v3), (4, .int v4)], [.int ((J (p 48) 4) - (J (p 31) 4))], me_w (lw M L) J)) rfl k
          have k := lz_ri rfl (by decide) k
          rw [k, x123_53, if_pos h56, if_neg h94_0, if_neg h94_1]
    · rw [if_neg h56] at k
      have k := ly_revb 1 (c' := (60, [(0, .ref (p 16)), (1, .int v1), (2, .int v2), (3, .int v3), (4, .int v4)], [.ref (p 16)], me_w (lw M L) J)) rfl k
      have k := lz_get (a := (p 16)) (g := 1008) (M := me_w (lw M L) J) (v := .ref (p 48)) rfl (nt_gfR rfl (hp.1 (16, 8, 48) (by decide))) k
      have k := lz_get (a := (p 48)) (g := 602) (M := me_w (lw M L) J) (v := .int (J (p 48) 2)) rfl (congrArg Value.int (rfl)) k
      have k := ly_revb 2 (c' := (if (Int32.ofInt 99) < (J (p 48) 2) then 93 else 71, [(0, .ref (p 16)), (1, .int v1), (2, .int v2), (3, .int v3), (4, .int v4)], [], me_w (lw M L) J)) rfl k
      by_cases h68 : (Int32.ofInt 99) < (J (p 48) 2)
      · rw [if_pos h68] at k
        have k := ly_revb 1 (c' := (94, [(0, .ref (p 16)), (1, .int v1), (2, .int v2), (3, .int v3), (4, .int v4)], [.int v3], me_w (lw M L) J)) rfl k
        by_cases h94_0 : v3 = Int32.ofInt 0
        · have k := mx_ls (q := 120) rfl (by rw [h94_0]; decide) k
          have k : nt_rn X _ 123 (120, [(0, .ref (p 16)), (1, .int v1), (2, .int v2), (3, .int v3), (4, .int v4)], [], me_w (lw M L) J) _ := k
          have k := ly_revb 1 (c' := (121, [(0, .ref (p 16)), (1, .int v1), (2, .int v2), (3, .int v3), (4, .int v4)], [.ref (p 16)], me_w (lw M L) J)) rfl k
          have k := lz_get (a := (p 16)) (g := 1008) (M := me_w (lw M L) J) (v := .ref (p 48)) rfl (nt_gfR rfl (hp.1 (16, 8, 48) (by decide))) k
          have k := lz_get (a := (p 48)) (g := 605) (M := me_w (lw M L) J) (v := .int (J (p 48) 5)) rfl (congrArg Value.int (rfl)) k
          have k := ly_revb 1 (c' := (128, [(0, .ref (p 16)), (1, .int v1), (2, .int v2), (3, .int v3), (4, .int v4)], [.ref (p 16), .int (J (p 48) 5)], me_w (lw M L) J)) rfl k
          have k := lz_get (a := (p 16)) (g := 1007) (M := me_w (lw M L) J) (v := .ref (p 31)) rfl (nt_gfR rfl (hp.1 (16, 7, 31) (by decide))) k
          have k := lz_get (a := (p 31)) (g := 605) (M := me_w (lw M L) J) (v := .int (J (p 31) 5)) rfl (congrArg Value.int (rfl)) k
          have k := ly_revb 1 (c' := (135, [(0, .ref (p 16)), (1, .int v1), (2, .int v2), (3, .int v3), (4, .int v4)], [.int ((J (p 48) 5) - (J (p 31) 5))], me_w (lw M L) J)) rfl k
          have k := lz_ri rfl (by decide) k
          rw [k, x123_53, if_neg h56, if_pos h68, if_pos h94_0]
        · by_cases h94_1 : v3 = Int32.ofInt 1
          · have k := mx_ls (q := 136) rfl (by rw [h94_1]; decide) k
            have k : nt_rn X _ 123 (136, [(0, .ref (p 16)), (1, .int v1), (2, .int v2), (3, .int v3), (4, .int v4)], [], me_w (lw M L) J) _ := k
            have k := ly_revb 1 (c' := (137, [(0, .ref (p 16)), (1, .int v1), (2, .int v2), (3, .int v3), (4, .int v4)], [.ref (p 16)], me_w (lw M L) J)) rfl k
            have k := lz_get (a := (p 16)) (g := 1008) (M := me_w (lw M L) J) (v := .ref (p 48)) rfl (nt_gfR rfl (hp.1 (16, 8, 48) (by decide))) k
            obtain ⟨d1, o1, ed, kc, k⟩ := lz_c (g := 79) (q := 1) (vs := [.ref (p 48)]) (rest := []) rfl rfl (by decide) (Or.inr (Or.inl ⟨_, rfl, rfl⟩)) rfl k
            have e1 := xt79 (xs_lq hm) kc
            subst e1
            have k : nt_rn X _ 123 (143, [(0, .ref (p 16)), (1, .int v1), (2, .int v2), (3, .int v3), (4, .int v4)], [.int (x79 (fun i => p (48 + i)) J)], me_w (lw M L) J) _ := k
            have k := lz_ri rfl (by decide) k
            rw [k, x123_53, if_neg h56, if_pos h68, if_neg h94_0, if_pos h94_1]
          · have k := mx_ls (q := 144) rfl (by
              show ((94 : Nat) : Int) + Op.lookupswitch.offset [(0, 26), (1, 42)] 50 _ = _
              rw [mx_lo (fun e => h94_0 (Int32.toInt_inj.mp (e.trans (show (0 : Int) = (Int32.ofInt 0).toInt by decide)))), mx_lo (fun e => h94_1 (Int32.toInt_inj.mp (e.trans (show (1 : Int) = (Int32.ofInt 1).toInt by decide)))), Op.lookupswitch.offset_nil]; decide) k
            have k : nt_rn X _ 123 (144, [(0, .ref (p 16)), (1, .int v1), (2, .int v2), (3, .int v3), (4, .int v4)], [], me_w (lw M L) J) _ := k
            have k := ly_revb 1 (c' := (145, [(0, .ref (p 16)), (1, .int v1), (2, .int v2), (3, .int v3), (4, .int v4)], [.ref (p 16)], me_w (lw M L) J)) rfl k
            have k := lz_get (a := (p 16)) (g := 1008) (M := me_w (lw M L) J) (v := .ref (p 48)) rfl (nt_gfR rfl (hp.1 (16, 8, 48) (by decide))) k
            have k := lz_get (a := (p 48)) (g := 604) (M := me_w (lw M L) J) (v := .int (J (p 48) 4)) rfl (congrArg Value.int (rfl)) k
            have k := ly_revb 1 (c' := (152, [(0, .ref (p 16)), (1, .int v1), (2, .int v2), (3, .int v3), (4, .int v4)], [.ref (p 16), .int (J (p 48) 4)], me_w (lw M L) J)) rfl k
            have k := lz_get (a := (p 16)) (g := 1007) (M := me_w (lw M L) J) (v := .ref (p 31)) rfl (nt_gfR rfl (hp.1 (16, 7, 31) (by decide))) k
            have k := lz_get (a := (p 31)) (g := 604) (M := me_w (lw M L) J) (v := .int (J (p 31) 4)) rfl (congrArg Value.int (rfl)) k
            have k := ly_revb 1 (c' := (159, [(0, .ref (p 16)), (1, .int v1), (2, .int v2), (3, .int v3), (4, .int v4)], [.int ((J (p 48) 4) - (J (p 31) 4))], me_w (lw M L) J)) rfl k
            have k := lz_ri rfl (by decide) k
            rw [k, x123_53, if_neg h56, if_pos h68, if_neg h94_0, if_neg h94_1]
      · rw [if_neg h68] at k
        have k := ly_revb 1 (c' := (72, [(0, .ref (p 16)), (1, .int v1), (2, .int v2), (3, .int v3), (4, .int v4)], [.ref (p 16)], me_w (lw M L) J)) rfl k
        have k := lz_get (a := (p 16)) (g := 1005) (M := me_w (lw M L) J) (v := .ref (p 24)) rfl (nt_gfR rfl (hp.1 (16, 5, 24) (by decide))) k
        have k := ly_revb 1 (c' := (76, [(0, .ref (p 16)), (1, .int v1), (2, .int v2), (3, .int v3), (4, .int v4)], [.ref (p 16), .ref (p 24)], me_w (lw M L) J)) rfl k
        have k := lz_get (a := (p 16)) (g := 1008) (M := me_w (lw M L) J) (v := .ref (p 48)) rfl (nt_gfR rfl (hp.1 (16, 8, 48) (by decide))) k
        have k := ly_revb 2 (c' := (81, [(0, .ref (p 16)), (1, .int v1), (2, .int v2), (3, .int v3), (4, .int v4)], [.int v1, .ref (p 16), .ref (p 48), .ref (p 24)], me_w (lw M L) J)) rfl k
        obtain ⟨d1, o1, ed, kc, k⟩ := lz_c (g := 112) (q := 1) (vs := [.ref (p 16), .int v1]) (rest := [.ref (p 48), .ref (p 24)]) rfl rfl (by decide) (Or.inr (Or.inl ⟨_, rfl, rfl⟩)) rfl k
        have e1 := xr112 (M := lw M L) (xs_lp hp) h0 hc.1 hr kc
        subst e1
        have k : nt_rn X _ 123 (84, [(0, .ref (p 16)), (1, .int v1), (2, .int v2), (3, .int v3), (4, .int v4)], [.ref ru, .ref (p 48), .ref (p 24)], me_w (lw M L) J) _ := k
        obtain ⟨d1, o1, ed, kc, k⟩ := lz_c (g := 1) (q := 1) (vs := [.ref (p 24), .ref (p 48), .ref ru]) (rest := []) rfl rfl (by decide) (Or.inr (Or.inl ⟨_, rfl, rfl⟩)) rfl k
        have e1 := xt1 hp hm (xs_x48 hp) hs kc
        subst e1
        have k : nt_rn X _ 123 (87, [(0, .ref (p 16)), (1, .int v1), (2, .int v2), (3, .int v3), (4, .int v4)], [], me_w (lw M ((x1 p (fun i => p (48 + i)) sp ln J L).2)) ((x1 p (fun i => p (48 + i)) sp ln J L).1)) _ := k
        have k := ly_revb 2 (c' := (53, [(4, .int (v4 + (Int32.ofInt 1))), (0, .ref (p 16)), (1, .int v1), (2, .int v2), (3, .int v3)], [], me_w (lw M ((x1 p (fun i => p (48 + i)) sp ln J L).2)) ((x1 p (fun i => p (48 + i)) sp ln J L).1))) rfl k
        have k := nt_rn_w (a := [(4, .int (v4 + (Int32.ofInt 1))), (0, .ref (p 16)), (1, .int v1), (2, .int v2), (3, .int v3)]) (b := [(0, .ref (p 16)), (1, .int v1), (2, .int v2), (3, .int v3), (4, .int (v4 + (Int32.ofInt 1)))]) ⟨rfl, rfl, rfl, rfl, rfl, trivial⟩ rfl k
        have k := ih (v4 + (Int32.ofInt 1)) ((x1 p (fun i => p (48 + i)) sp ln J L).1) ((x1 p (fun i => p (48 + i)) sp ln J L).2) (⟨by rw [x1_frJ (hp.2.1 16 25 (by omega) (by omega) (by decide)) (hp.2.1 16 48 (by omega) (by omega) (by decide)) (hp.2.1 16 58 (by omega) (by omega) (by decide)) (hp.2.1 16 59 (by omega) (by omega) (by decide)) (hp.2.1 16 60 (by omega) (by omega) (by decide)) (hp.2.1 16 61 (by omega) (by omega) (by decide)) (hp.2.1 16 62 (by omega) (by omega) (by decide)) (hp.2.1 16 63 (by omega) (by omega) (by decide)) (hp.2.1 16 64 (by omega) (by omega) (by decide))]; exact hc.1, lx_dec h56 hc.2⟩) k
        rw [k, x123_53, if_neg h56, if_neg h68]
theorem x123_53_rule {p : Nat → Nat} {sp : Nat} {ln : Nat} {v1 : Int32} {v2 : Int32} {v3 : Int32} {I : Nat → Int32 → (Nat → Nat → Int32) → (Nat → Nat → Int64) → Prop} {Q : Int32 × (Nat → Nat → Int32) × (Nat → Nat → Int64) → Prop} (h0 : ∀ (v4 : Int32) (J : Nat → Nat → Int32) (L : Nat → Nat → Int64), I 0 v4 J L → Q (if v3 = Int32.ofInt 0 then ((J (p 48) 5) - (J (p 31) 5), J, L)
    else if v3 = Int32.ofInt 1 then (x79 (fun i => p (48 + i)) J, J, L)
      else ((J (p 48) 4) - (J (p 31) 4), J, L))) (h1 : ∀ (c : Nat) (v4 : Int32) (J : Nat → Nat → Int32) (L : Nat → Nat → Int64), I (c + 1) v4 J L →
    if v2 ≤ v4 then if v3 = Int32.ofInt 0 then (Q ((J (p 48) 5) - (J (p 31) 5), J, L))
      else if v3 = Int32.ofInt 1 then (Q (x79 (fun i => p (48 + i)) J, J, L))
        else (Q ((J (p 48) 4) - (J (p 31) 4), J, L))
    else if (Int32.ofInt 99) < (J (p 48) 2) then if v3 = Int32.ofInt 0 then (Q ((J (p 48) 5) - (J (p 31) 5), J, L))
        else if v3 = Int32.ofInt 1 then (Q (x79 (fun i => p (48 + i)) J, J, L))
          else (Q ((J (p 48) 4) - (J (p 31) 4), J, L))
      else (I c (v4 + (Int32.ofInt 1)) ((x1 p (fun i => p (48 + i)) sp ln J L).1) ((x1 p (fun i => p (48 + i)) sp ln J L).2))) : ∀ (c : Nat) (v4 : Int32) (J : Nat → Nat → Int32) (L : Nat → Nat → Int64), I c v4 J L → Q (x123_53 p sp ln v1 v2 v3 c v4 J L) := by
  intro c
  induction c with
  | zero =>
    intro v4 J L hi
    rw [x123_53]
    exact h0 v4 J L hi
  | succ c ih =>
    intro v4 J L hi
    have hi := h1 c v4 J L hi
    rw [x123_53]
    by_cases h : v2 ≤ v4
    · rw [if_pos h] at hi ⊢
      by_cases h : v3 = Int32.ofInt 0
      · rw [if_pos h] at hi ⊢
        exact hi
      · rw [if_neg h] at hi ⊢
        by_cases h : v3 = Int32.ofInt 1
        · rw [if_pos h] at hi ⊢
          exact hi
        · rw [if_neg h] at hi ⊢
          exact hi
    · rw [if_neg h] at hi ⊢
      by_cases h : (Int32.ofInt 99) < (J (p 48) 2)
      · rw [if_pos h] at hi ⊢
        by_cases h : v3 = Int32.ofInt 0
        · rw [if_pos h] at hi ⊢
          exact hi
        · rw [if_neg h] at hi ⊢
          by_cases h : v3 = Int32.ofInt 1
          · rw [if_pos h] at hi ⊢
            exact hi
          · rw [if_neg h] at hi ⊢
            exact hi
      · rw [if_neg h] at hi ⊢
        exact ih _ _ _ hi
def x123 (p : Nat → Nat) (sp : Nat) (ln : Nat) (v1 : Int32) (v2 : Int32) (v3 : Int32) (J : Nat → Nat → Int32) (L : Nat → Nat → Int64) : Int32 × (Nat → Nat → Int32) × (Nat → Nat → Int64) := if (J (p 31) 1) = 0 then (Int32.ofInt (-1), J, L)
  else if (x111 p v1 J) = 0 then (Int32.ofInt (-1), J, L)
    else if v2 < 0 then (Int32.ofInt (-1), J, L)
      else if (Int32.ofInt 100) < v2 then (Int32.ofInt (-1), J, L)
        else if v3 < 0 then (Int32.ofInt (-1), J, L)
          else if v3 ≤ (Int32.ofInt 2) then (x123_53 p sp ln v1 v2 v3 v2.toNatClampNeg (Int32.ofInt 0) (x80 (fun i => p (48 + i)) (fun i => p (31 + i)) J) L)
            else (Int32.ofInt (-1), J, L)
theorem xt123 {X : nt_X} {d : Nat} {M : nt_M} {o : Option Value × nt_M} {p : Nat → Nat} {sp : Nat} {ln : Nat} {ru : Nat} {v1 : Int32} {v2 : Int32} {v3 : Int32} {J : Nat → Nat → Int32} {L : Nat → Nat → Int64} (hp : xs_P M p) (hn : xs_Q M (fun i => p (31 + i))) (hm : xs_Q M (fun i => p (48 + i))) (hk : xs_N M (fun i => p (48 + i))) (hs : xs_S M p ru sp ln) (h0 : ¬ v1 < 0) (hr : nt_R M (p 23) v1.toNatClampNeg = some ru) (h1 : ¬ J (p 16) 4 ≤ v1) (k : nt_ev X d 123 [.ref (p 16), .int v1, .int v2, .int v3] (me_w (lw M L) J) o) : o = (some (.int ((x123 p sp ln v1 v2 v3 J L).1)), me_w (lw M ((x123 p sp ln v1 v2 v3 J L).2.2)) ((x123 p sp ln v1 v2 v3 J L).2.1)) := by
  have k : nt_rn X d 123 (0, [(0, .ref (p 16)), (1, .int v1), (2, .int v2), (3, .int v3)], [], me_w (lw M L) J) o := k
  have k := ly_revb 1 (c' := (1, [(0, .ref (p 16)), (1, .int v1), (2, .int v2), (3, .int v3)], [.ref (p 16)], me_w (lw M L) J)) rfl k
  have k := lz_get (a := (p 16)) (g := 1007) (M := me_w (lw M L) J) (v := .ref (p 31)) rfl (nt_gfR rfl (hp.1 (16, 7, 31) (by decide))) k
  have k := lz_get (a := (p 31)) (g := 601) (M := me_w (lw M L) J) (v := .int (J (p 31) 1)) rfl (congrArg Value.int (rfl)) k
  have k := ly_revb 1 (c' := (if (J (p 31) 1) = 0 then 37 else 10, [(0, .ref (p 16)), (1, .int v1), (2, .int v2), (3, .int v3)], [], me_w (lw M L) J)) rfl k
  by_cases h7 : (J (p 31) 1) = 0
  · rw [if_pos h7] at k
    have k := ly_revb 1 (c' := (38, [(0, .ref (p 16)), (1, .int v1), (2, .int v2), (3, .int v3)], [.int (Int32.ofInt (-1))], me_w (lw M L) J)) rfl k
    have k := lz_ri rfl (by decide) k
    rw [k, x123, if_pos h7]
  · rw [if_neg h7] at k
    have k := ly_revb 2 (c' := (12, [(0, .ref (p 16)), (1, .int v1), (2, .int v2), (3, .int v3)], [.int v1, .ref (p 16)], me_w (lw M L) J)) rfl k
    obtain ⟨d1, o1, ed, kc, k⟩ := lz_c (g := 111) (q := 1) (vs := [.ref (p 16), .int v1]) (rest := []) rfl rfl (by decide) (Or.inr (Or.inl ⟨_, rfl, rfl⟩)) rfl k
    have e1 := xt111 (xs_lp hp) kc
    subst e1
    have k : nt_rn X _ 123 (15, [(0, .ref (p 16)), (1, .int v1), (2, .int v2), (3, .int v3)], [.int (x111 p v1 J)], me_w (lw M L) J) _ := k
    have k := ly_revb 1 (c' := (if (x111 p v1 J) = 0 then 37 else 18, [(0, .ref (p 16)), (1, .int v1), (2, .int v2), (3, .int v3)], [], me_w (lw M L) J)) rfl k
    by_cases h15 : (x111 p v1 J) = 0
    · rw [if_pos h15] at k
      have k := ly_revb 1 (c' := (38, [(0, .ref (p 16)), (1, .int v1), (2, .int v2), (3, .int v3)], [.int (Int32.ofInt (-1))], me_w (lw M L) J)) rfl k
      have k := lz_ri rfl (by decide) k
      rw [k, x123, if_neg h7, if_pos h15]
    · rw [if_neg h15] at k
      have k := ly_revb 2 (c' := (if v2 < 0 then 37 else 22, [(0, .ref (p 16)), (1, .int v1), (2, .int v2), (3, .int v3)], [], me_w (lw M L) J)) rfl k
      by_cases h19 : v2 < 0
      · rw [if_pos h19] at k
        have k := ly_revb 1 (c' := (38, [(0, .ref (p 16)), (1, .int v1), (2, .int v2), (3, .int v3)], [.int (Int32.ofInt (-1))], me_w (lw M L) J)) rfl k
        have k := lz_ri rfl (by decide) k
        rw [k, x123, if_neg h7, if_neg h15, if_pos h19]
      · rw [if_neg h19] at k
        have k := ly_revb 3 (c' := (if (Int32.ofInt 100) < v2 then 37 else 28, [(0, .ref (p 16)), (1, .int v1), (2, .int v2), (3, .int v3)], [], me_w (lw M L) J)) rfl k
        by_cases h25 : (Int32.ofInt 100) < v2
        · rw [if_pos h25] at k
          have k := ly_revb 1 (c' := (38, [(0, .ref (p 16)), (1, .int v1), (2, .int v2), (3, .int v3)], [.int (Int32.ofInt (-1))], me_w (lw M L) J)) rfl k
          have k := lz_ri rfl (by decide) k
          rw [k, x123, if_neg h7, if_neg h15, if_neg h19, if_pos h25]
        · rw [if_neg h25] at k
          have k := ly_revb 2 (c' := (if v3 < 0 then 37 else 32, [(0, .ref (p 16)), (1, .int v1), (2, .int v2), (3, .int v3)], [], me_w (lw M L) J)) rfl k
          by_cases h29 : v3 < 0
          · rw [if_pos h29] at k
            have k := ly_revb 1 (c' := (38, [(0, .ref (p 16)), (1, .int v1), (2, .int v2), (3, .int v3)], [.int (Int32.ofInt (-1))], me_w (lw M L) J)) rfl k
            have k := lz_ri rfl (by decide) k
            rw [k, x123, if_neg h7, if_neg h15, if_neg h19, if_neg h25, if_pos h29]
          · rw [if_neg h29] at k
            have k := ly_revb 3 (c' := (if v3 ≤ (Int32.ofInt 2) then 39 else 37, [(0, .ref (p 16)), (1, .int v1), (2, .int v2), (3, .int v3)], [], me_w (lw M L) J)) rfl k
            by_cases h34 : v3 ≤ (Int32.ofInt 2)
            · rw [if_pos h34] at k
              have k := ly_revb 1 (c' := (40, [(0, .ref (p 16)), (1, .int v1), (2, .int v2), (3, .int v3)], [.ref (p 16)], me_w (lw M L) J)) rfl k
              have k := lz_get (a := (p 16)) (g := 1008) (M := me_w (lw M L) J) (v := .ref (p 48)) rfl (nt_gfR rfl (hp.1 (16, 8, 48) (by decide))) k
              have k := ly_revb 1 (c' := (44, [(0, .ref (p 16)), (1, .int v1), (2, .int v2), (3, .int v3)], [.ref (p 16), .ref (p 48)], me_w (lw M L) J)) rfl k
              have k := lz_get (a := (p 16)) (g := 1007) (M := me_w (lw M L) J) (v := .ref (p 31)) rfl (nt_gfR rfl (hp.1 (16, 7, 31) (by decide))) k
              obtain ⟨d1, o1, ed, kc, k⟩ := lz_c (g := 80) (q := 1) (vs := [.ref (p 48), .ref (p 31)]) (rest := []) rfl rfl (by decide) (Or.inr (Or.inl ⟨_, rfl, rfl⟩)) rfl k
              have e1 := xt80 (xs_lq hm) (xs_lq hn) (xs_d48 hp) (xs_ln hk) kc
              subst e1
              have k : nt_rn X _ 123 (50, [(0, .ref (p 16)), (1, .int v1), (2, .int v2), (3, .int v3)], [], me_w (lw M L) (x80 (fun i => p (48 + i)) (fun i => p (31 + i)) J)) _ := k
              have k := ly_revb 2 (c' := (53, [(4, .int (Int32.ofInt 0)), (0, .ref (p 16)), (1, .int v1), (2, .int v2), (3, .int v3)], [], me_w (lw M L) (x80 (fun i => p (48 + i)) (fun i => p (31 + i)) J))) rfl k
              have k := nt_rn_w (a := [(4, .int (Int32.ofInt 0)), (0, .ref (p 16)), (1, .int v1), (2, .int v2), (3, .int v3)]) (b := [(0, .ref (p 16)), (1, .int v1), (2, .int v2), (3, .int v3), (4, .int (Int32.ofInt 0))]) ⟨rfl, rfl, rfl, rfl, rfl, trivial⟩ rfl k
              have k := xt123_53 hp hn hm hk hs h0 hr  v2.toNatClampNeg (Int32.ofInt 0) (x80 (fun i => p (48 + i)) (fun i => p (31 + i)) J) L (⟨by rw [x80_frJ (hp.2.1 16 48 (by omega) (by omega) (by decide)) (hp.2.1 16 49 (by omega) (by omega) (by decide)) (hp.2.1 16 50 (by omega) (by omega) (by decide)) (hp.2.1 16 51 (by omega) (by omega) (by decide)) (hp.2.1 16 52 (by omega) (by omega) (by decide)) (hp.2.1 16 53 (by omega) (by omega) (by decide)) (hp.2.1 16 54 (by omega) (by omega) (by decide)) (hp.2.1 16 55 (by omega) (by omega) (by decide)) (hp.2.1 16 56 (by omega) (by omega) (by decide)) (hp.2.1 16 57 (by omega) (by omega) (by decide)) (hp.2.1 16 58 (by omega) (by omega) (by decide)) (hp.2.1 16 59 (by omega) (by omega) (by decide)) (hp.2.1 16 60 (by omega) (by omega) (by decide)) (hp.2.1 16 61 (by omega) (by omega) (by decide)) (hp.2.1 16 62 (by omega) (by omega) (by decide)) (hp.2.1 16 63 (by omega) (by omega) (by decide)) (hp.2.1 16 64 (by omega) (by omega) (by decide))]; exact h1, lx_beg (by decide)⟩) k
              rw [k, x123, if_neg h7, if_neg h15, if_neg h19, if_neg h25, if_neg h29, if_pos h34]
            · rw [if_neg h34] at k
              have k := ly_revb 1 (c' := (38, [(0, .ref (p 16)), (1, .int v1), (2, .int v2), (3, .int v3)], [.int (Int32.ofInt (-1))], me_w (lw M L) J)) rfl k
              have k := lz_ri rfl (by decide) k
              rw [k, x123, if_neg h7, if_neg h15, if_neg h19, if_neg h25, if_neg h29, if_neg h34]
theorem x123_53_frJ {p : Nat → Nat} {sp : Nat} {ln : Nat} {v1 : Int32} {v2 : Int32} {v3 : Int32} {b : Nat} : ∀ (c : Nat) (v4 : Int32) (J : Nat → Nat → Int32) (L : Nat → Nat → Int64), b ≠ p 25 → b ≠ p 48 → b ≠ p 49 → b ≠ p 50 → b ≠ p 51 → b ≠ p 52 → b ≠ p 53 → b ≠ p 54 → b ≠ p 55 → b ≠ p 56 → b ≠ p 57 → b ≠ p 58 → b ≠ p 59 → b ≠ p 60 → b ≠ p 61 → b ≠ p 62 → b ≠ p 63 → b ≠ p 64 → (x123_53 p sp ln v1 v2 v3 c v4 J L).2.1 b = J b := by
  intro c
  induction c with
  | zero =>
    intro v4 J L n0 n1 n2 n3 n4 n5 n6 n7 n8 n9 n10 n11 n12 n13 n14 n15 n16 n17
    rw [x123_53]
    by_cases h : v3 = Int32.ofInt 0
    · rw [if_pos h]
      all_goals first | (dsimp only; exact (show J b = J b from rfl)) | exact (show J b = J b from rfl)
    · rw [if_neg h]
      by_cases h : v3 = Int32.ofInt 1
      · rw [if_pos h]
        all_goals first | (dsimp only; exact (show J b = J b from rfl)) | exact (show J b = J b from rfl)
      · rw [if_neg h]
        all_goals first | (dsimp only; exact (show J b = J b from rfl)) | exact (show J b = J b from rfl)
  | succ c ih =>
    intro v4 J L n0 n1 n2 n3 n4 n5 n6 n7 n8 n9 n10 n11 n12 n13 n14 n15 n16 n17
    rw [x123_53]
    by_cases h : v2 ≤ v4
    · rw [if_pos h]
      by_cases h : v3 = Int32.ofInt 0
      · rw [if_pos h]
        all_goals first | (dsimp only; exact (show J b = J b from rfl)) | exact (show J b = J b from rfl)
      · rw [if_neg h]
        by_cases h : v3 = Int32.ofInt 1
        · rw [if_pos h]
          all_goals first | (dsimp only; exact (show J b = J b from rfl)) | exact (show J b = J b from rfl)
        · rw [if_neg h]
          all_goals first | (dsimp only; exact (show J b = J b from rfl)) | exact (show J b = J b from rfl)
    · rw [if_neg h]
      by_cases h : (Int32.ofInt 99) < (J (p 48) 2)
      · rw [if_pos h]
        by_cases h : v3 = Int32.ofInt 0
        · rw [if_pos h]
          all_goals first | (dsimp only; exact (show J b = J b from rfl)) | exact (show J b = J b from rfl)
        · rw [if_neg h]
          by_cases h : v3 = Int32.ofInt 1
          · rw [if_pos h]
            all_goals first | (dsimp only; exact (show J b = J b from rfl)) | exact (show J b = J b from rfl)
          · rw [if_neg h]
            all_goals first | (dsimp only; exact (show J b = J b from rfl)) | exact (show J b = J b from rfl)
      · rw [if_neg h]
        exact (ih _ _ _ n0 n1 n2 n3 n4 n5 n6 n7 n8 n9 n10 n11 n12 n13 n14 n15 n16 n17).trans (x1_frJ  n0 n1 n11 n12 n13 n14 n15 n16 n17)
theorem x123_frJ {p : Nat → Nat} {sp : Nat} {ln : Nat} {v1 : Int32} {v2 : Int32} {v3 : Int32} {J : Nat → Nat → Int32} {L : Nat → Nat → Int64} {b : Nat} (n0 : b ≠ p 25) (n1 : b ≠ p 48) (n2 : b ≠ p 49) (n3 : b ≠ p 50) (n4 : b ≠ p 51) (n5 : b ≠ p 52) (n6 : b ≠ p 53) (n7 : b ≠ p 54) (n8 : b ≠ p 55) (n9 : b ≠ p 56) (n10 : b ≠ p 57) (n11 : b ≠ p 58) (n12 : b ≠ p 59) (n13 : b ≠ p 60) (n14 : b ≠ p 61) (n15 : b ≠ p 62) (n16 : b ≠ p 63) (n17 : b ≠ p 64) : (x123 p sp ln v1 v2 v3 J L).2.1 b = J b := by
  unfold x123
  by_cases h : (J (p 31) 1) = 0
  · rw [if_pos h]
    all_goals first | (dsimp only; exact (show J b = J b from rfl)) | exact (show J b = J b from rfl)
  · rw [if_neg h]
    by_cases h : (x111 p v1 J) = 0
    · rw [if_pos h]
      all_goals first | (dsimp only; exact (show J b = J b from rfl)) | exact (show J b = J b from rfl)
    · rw [if_neg h]
      by_cases h : v2 < 0
      · rw [if_pos h]
        all_goals first | (dsimp only; exact (show J b = J b from rfl)) | exact (show J b = J b from rfl)
      · rw [if_neg h]
        by_cases h : (Int32.ofInt 100) < v2
        · rw [if_pos h]
          all_goals first | (dsimp only; exact (show J b = J b from rfl)) | exact (show J b = J b from rfl)
        · rw [if_neg h]
          by_cases h : v3 < 0
          · rw [if_pos h]
            all_goals first | (dsimp only; exact (show J b = J b from rfl)) | exact (show J b = J b from rfl)
          · rw [if_neg h]
            by_cases h : v3 ≤ (Int32.ofInt 2)
            · rw [if_pos h]
              exact (x123_53_frJ _ _ _ _ n0 n1 n2 n3 n4 n5 n6 n7 n8 n9 n10 n11 n12 n13 n14 n15 n16 n17).trans (x80_frJ  n1 n2 n3 n4 n5 n6 n7 n8 n9 n10 n11 n12 n13 n14 n15 n16 n17)
            · rw [if_neg h]
              all_goals first | (dsimp only; exact (show J b = J b from rfl)) | exact (show J b = J b from rfl)
theorem x123_53_frL {p : Nat → Nat} {sp : Nat} {ln : Nat} {v1 : Int32} {v2 : Int32} {v3 : Int32} {b : Nat} : ∀ (c : Nat) (v4 : Int32) (J : Nat → Nat → Int32) (L : Nat → Nat → Int64), b ≠ p 25 → b ≠ p 26 → b ≠ p 27 → (x123_53 p sp ln v1 v2 v3 c v4 J L).2.2 b = L b := by
  intro c
  induction c with
  | zero =>
    intro v4 J L n0 n1 n2
    rw [x123_53]
    by_cases h : v3 = Int32.ofInt 0
    · rw [if_pos h]
      all_goals first | (dsimp only; exact (show L b = L b from rfl)) | exact (show L b = L b from rfl)
    · rw [if_neg h]
      by_cases h : v3 = Int32.ofInt 1
      · rw [if_pos h]
        all_goals first | (dsimp only; exact (show L b = L b from rfl)) | exact (show L b = L b from rfl)
      · rw [if_neg h]
        all_goals first | (dsimp only; exact (show L b = L b from rfl)) | exact (show L b = L b from rfl)
  | succ c ih =>
    intro v4 J L n0 n1 n2
    rw [x123_53]
    by_cases h : v2 ≤ v4
    · rw [if_pos h]
      by_cases h : v3 = Int32.ofInt 0
      · rw [if_pos h]
        all_goals first | (dsimp only; exact (show L b = L b from rfl)) | exact (show L b = L b from rfl)
      · rw [if_neg h]
        by_cases h : v3 = Int32.ofInt 1
        · rw [if_pos h]
          all_goals first | (dsimp only; exact (show L b = L b from rfl)) | exact (show L b = L b from rfl)
        · rw [if_neg h]
          all_goals first | (dsimp only; exact (show L b = L b from rfl)) | exact (show L b = L b from rfl)
    · rw [if_neg h]
      by_cases h : (Int32.ofInt 99) < (J (p 48) 2)
      · rw [if_pos h]
        by_cases h : v3 = Int32.ofInt 0
        · rw [if_pos h]
          all_goals first | (dsimp only; exact (show L b = L b from rfl)) | exact (show L b = L b from rfl)
        · rw [if_neg h]
          by_cases h : v3 = Int32.ofInt 1
          · rw [if_pos h]
            all_goals first | (dsimp only; exact (show L b = L b from rfl)) | exact (show L b = L b from rfl)
          · rw [if_neg h]
            all_goals first | (dsimp only; exact (show L b = L b from rfl)) | exact (show L b = L b from rfl)
      · rw [if_neg h]
        exact (ih _ _ _ n0 n1 n2).trans (x1_frL n0 n1 n2)
theorem x123_frL {p : Nat → Nat} {sp : Nat} {ln : Nat} {v1 : Int32} {v2 : Int32} {v3 : Int32} {J : Nat → Nat → Int32} {L : Nat → Nat → Int64} {b : Nat} (n0 : b ≠ p 25) (n1 : b ≠ p 26) (n2 : b ≠ p 27) : (x123 p sp ln v1 v2 v3 J L).2.2 b = L b := by
  unfold x123
  by_cases h : (J (p 31) 1) = 0
  · rw [if_pos h]
    all_goals first | (dsimp only; exact (show L b = L b from rfl)) | exact (show L b = L b from rfl)
  · rw [if_neg h]
    by_cases h : (x111 p v1 J) = 0
    · rw [if_pos h]
      all_goals first | (dsimp only; exact (show L b = L b from rfl)) | exact (show L b = L b from rfl)
    · rw [if_neg h]
      by_cases h : v2 < 0
      · rw [if_pos h]
        all_goals first | (dsimp only; exact (show L b = L b from rfl)) | exact (show L b = L b from rfl)
      · rw [if_neg h]
        by_cases h : (Int32.ofInt 100) < v2
        · rw [if_pos h]
          all_goals first | (dsimp only; exact (show L b = L b from rfl)) | exact (show L b = L b from rfl)
        · rw [if_neg h]
          by_cases h : v3 < 0
          · rw [if_pos h]
            all_goals first | (dsimp only; exact (show L b = L b from rfl)) | exact (show L b = L b from rfl)
          · rw [if_neg h]
            by_cases h : v3 ≤ (Int32.ofInt 2)
            · rw [if_pos h]
              exact (x123_53_frL _ _ _ _ n0 n1 n2).trans (rfl)
            · rw [if_neg h]
              all_goals first | (dsimp only; exact (show L b = L b from rfl)) | exact (show L b = L b from rfl)
/-! .ahead -/
def x123N_53 (p : Nat → Nat) (v1 : Int32) (v2 : Int32) (v3 : Int32) : Nat → Int32 → (Nat → Nat → Int32) → Int32 × (Nat → Nat → Int32)
  | 0, v4, J => if v3 = Int32.ofInt 0 then ((J (p 48) 5) - (J (p 31) 5), J)
    else if v3 = Int32.ofInt 1 then (x79 (fun i => p (48 + i)) J, J)
      else ((J (p 48) 4) - (J (p 31) 4), J)
  | c + 1, v4, J => if v2 ≤ v4 then if v3 = Int32.ofInt 0 then ((J (p 48) 5) - (J (p 31) 5), J)
      else if v3 = Int32.ofInt 1 then (x79 (fun i => p (48 + i)) J, J)
        else ((J (p 48) 4) - (J (p 31) 4), J)
    else if (Int32.ofInt 99) < (J (p 48) 2) then if v3 = Int32.ofInt 0 then ((J (p 48) 5) - (J (p 31) 5), J)
        else if v3 = Int32.ofInt 1 then (x79 (fun i => p (48 + i)) J, J)
          else ((J (p 48) 4) - (J (p 31) 4), J)
      else (x123N_53 p v1 v2 v3 c (v4 + (Int32.ofInt 1)) (x1N p (fun i => p (48 + i)) J))
theorem xt123N_53 {X : nt_X} {d : Nat} {M : nt_M} {o : Option Value × nt_M} {p : Nat → Nat} {v1 : Int32} {v2 : Int32} {v3 : Int32} (hp : xs_P M p) (hn : xs_Q M (fun i => p (31 + i))) (hm : xs_Q M (fun i => p (48 + i))) (hk : xs_N M (fun i => p (48 + i))) (h0 : v1 < 0) : ∀ (c : Nat) (v4 : Int32) (J : Nat → Nat → Int32), v2.toInt - v4.toInt ≤ c → nt_rn X d 123 (53, [(0, .ref (p 16)), (1, .int v1), (2, .int v2), (3, .int v3), (4, .int v4)], [], me_w M J) o → o = (some (.int ((x123N_53 p v1 v2 v3 c v4 J).1)), me_w M ((x123N_53 p v1 v2 v3 c v4 J).2)) := by
  intro c
  induction c with
  | zero =>
    intro v4 J hc k
    have k := ly_revb 3 (c' := (if v2 ≤ v4 then 93 else 59, [(0, .ref (p 16)), (1, .int v1), (2, .int v2), (3, .int v3), (4, .int v4)], [], me_w M J)) rfl k
    have h56 : v2 ≤ v4 := lx_end hc
    rw [if_pos h56] at k
    have k := ly_revb 1 (c' := (94, [(0, .ref (p 16)), (1, .int v1), (2, .int v2), (3, .int v3), (4, .int v4)], [.int v3], me_w M J)) rfl k
    by_cases h94_0 : v3 = Int32.ofInt 0
    · have k := mx_ls (q := 120) rfl (by rw [h94_0]; decide) k
      have k : nt_rn X _ 123 (120, [(0, .ref (p 16)), (1, .int v1), (2, .int v2), (3, .int v3), (4, .int v4)], [], me_w M J) _ := k
      have k := ly_revb 1 (c' := (121, [(0, .ref (p 16)), (1, .int v1), (2, .int v2), (3, .int v3), (4, .int v4)], [.ref (p 16)], me_w M J)) rfl k
      have k := lz_get (a := (p 16)) (g := 1008) (M := me_w M J) (v := .ref (p 48)) rfl (nt_gfR rfl (hp.1 (16, 8, 48) (by decide))) k
      have k := lz_get (a := (p 48)) (g := 605) (M := me_w M J) (v := .int (J (p 48) 5)) rfl (congrArg Value.int (rfl)) k
      have k := ly_revb 1 (c' := (128, [(0, .ref (p 16)), (1, .int v1), (2, .int v2), (3, .int v3), (4, .int v4)], [.ref (p 16), .int (J (p 48) 5)], me_w M J)) rfl k
      have k := lz_get (a := (p 16)) (g := 1007) (M := me_w M J) (v := .ref (p 31)) rfl (nt_gfR rfl (hp.1 (16, 7, 31) (by decide))) k
      have k := lz_get (a := (p 31)) (g := 605) (M := me_w M J) (v := .int (J (p 31) 5)) rfl (congrArg Value.int (rfl)) k
      have k := ly_revb 1 (c' := (135, [(0, .ref (p 16)), (1, .int v1), (2, .int v2), (3, .int v3), (4, .int v4)], [.int ((J (p 48) 5) - (J (p 31) 5))], me_w M J)) rfl k
      have k := lz_ri rfl (by decide) k
      rw [k, x123N_53, if_pos h94_0]
    · by_cases h94_1 : v3 = Int32.ofInt 1
      · have k := mx_ls (q := 136) rfl (by rw [h94_1]; decide) k
        have k : nt_rn X _ 123 (136, [(0, .ref (p 16)), (1, .int v1), (2, .int v2), (3, .int v3), (4, .int v4)], [], me_w M J) _ := k
        have k := ly_revb 1 (c' := (137, [(0, .ref (p 16)), (1, .int v1), (2, .int v2), (3, .int v3), (4, .int v4)], [.ref (p 16)], me_w M J)) rfl k
        have k := lz_get (a := (p 16)) (g := 1008) (M := me_w M J) (v := .ref (p 48)) rfl (nt_gfR rfl (hp.1 (16, 8, 48) (by decide))) k
        obtain ⟨d1, o1, ed, kc, k⟩ := lz_c (g := 79) (q := 1) (vs := [.ref (p 48)]) (rest := []) rfl rfl (by decide) (Or.inr (Or.inl ⟨_, rfl, rfl⟩)) rfl k
        have e1 := xt79 hm kc
        subst e1
        have k : nt_rn X _ 123 (143, [(0, .ref (p 16)), (1, .int v1), (2, .int v2), (3, .int v3), (4, .int v4)], [.int (x79 (fun i => p (48 + i)) J)], me_w M J) _ := k
        have k := lz_ri rfl (by decide) k
        rw [k, x123N_53, if_neg h94_0, if_pos h94_1]
      · have k := mx_ls (q := 144) rfl (by
          show ((94 : Nat) : Int) + Op.lookupswitch.offset [(0, 26), (1, 42)] 50 _ = _
          rw [mx_lo (fun e => h94_0 (Int32.toInt_inj.mp (e.trans (show (0 : Int) = (Int32.ofInt 0).toInt by decide)))), mx_lo (fun e => h94_1 (Int32.toInt_inj.mp (e.trans (show (1 : Int) = (Int32.ofInt 1).toInt by decide)))), Op.lookupswitch.offset_nil]; decide) k
        have k : nt_rn X _ 123 (144, [(0, .ref (p 16)), (1, .int v1), (2, .int v2), (3, .int v3), (4, .int v4)], [], me_w M J) _ := k
        have k := ly_revb 1 (c' := (145, [(0, .ref (p 16)), (1, .int v1), (2, .int v2), (3, .int v3), (4, .int v4)], [.ref (p 16)], me_w M J)) rfl k
        have k := lz_get (a := (p 16)) (g := 1008) (M := me_w M J) (v := .ref (p 48)) rfl (nt_gfR rfl (hp.1 (16, 8, 48) (by decide))) k
        have k := lz_get (a := (p 48)) (g := 604) (M := me_w M J) (v := .int (J (p 48) 4)) rfl (congrArg Value.int (rfl)) k
        have k := ly_revb 1 (c' := (152, [(0, .ref (p 16)), (1, .int v1), (2, .int v2), (3, .int v3), (4, .int v4)], [.ref (p 16), .int (J (p 48) 4)], me_w M J)) rfl k
        have k := lz_get (a := (p 16)) (g := 1007) (M := me_w M J) (v := .ref (p 31)) rfl (nt_gfR rfl (hp.1 (16, 7, 31) (by decide))) k
        have k := lz_get (a := (p 31)) (g := 604) (M := me_w M J) (v := .int (J (p 31) 4)) rfl (congrArg Value.int (rfl)) k
        have k := ly_revb 1 (c' := (159, [(0, .ref (p 16)), (1, .int v1), (2, .int v2), (3, .int v3), (4, .int v4)], [.int ((J (p 48) 4) - (J (p 31) 4))], me_w M J)) rfl k
        have k := lz_ri rfl (by decide) k
        rw [k, x123N_53, if_neg h94_0, if_neg h94_1]
  | succ c ih =>
    intro v4 J hc k
    have k := ly_revb 3 (c' := (if v2 ≤ v4 then 93 else 59, [(0, .ref (p 16)), (1, .int v1), (2, .int v2), (3, .int v3), (4, .int v4)], [], me_w M J)) rfl k
    by_cases h56 : v2 ≤ v4
    · rw [if_pos h56] at k
      have k := ly_revb 1 (c' := (94, [(0, .ref (p 16)), (1, .int v1), (2, .int v2), (3, .int v3), (4, .int v4)], [.int v3], me_w M J)) rfl k
      by_cases h94_0 : v3 = Int32.ofInt 0
      · have k := mx_ls (q := 120) rfl (by rw [h94_0]; decide) k
        have k : nt_rn X _ 123 (120, [(0, .ref (p 16)), (1, .int v1), (2, .int v2), (3, .int v3), (4, .int v4)], [], me_w M J) _ := k
        have k := ly_revb 1 (c' := (121, [(0, .ref (p 16)), (1, .int v1), (2, .int v2), (3, .int v3), (4, .int v4)], [.ref (p 16)], me_w M J)) rfl k
        have k := lz_get (a := (p 16)) (g := 1008) (M := me_w M J) (v := .ref (p 48)) rfl (nt_gfR rfl (hp.1 (16, 8, 48) (by decide))) k
        have k := lz_get (a := (p 48)) (g := 605) (M := me_w M J) (v := .int (J (p 48) 5)) rfl (congrArg Value.int (rfl)) k
        have k := ly_revb 1 (c' := (128, [(0, .ref (p 16)), (1, .int v1), (2, .int v2), (3, .int v3), (4, .int v4)], [.ref (p 16), .int (J (p 48) 5)], me_w M J)) rfl k
        have k := lz_get (a := (p 16)) (g := 1007) (M := me_w M J) (v := .ref (p 31)) rfl (nt_gfR rfl (hp.1 (16, 7, 31) (by decide))) k
        have k := lz_get (a := (p 31)) (g := 605) (M := me_w M J) (v := .int (J (p 31) 5)) rfl (congrArg Value.int (rfl)) k
        have k := ly_revb 1 (c' := (135, [(0, .ref (p 16)), (1, .int v1), (2, .int v2), (3, .int v3), (4, .int v4)], [.int ((J (p 48) 5) - (J (p 31) 5))], me_w M J)) rfl k
        have k := lz_ri rfl (by decide) k
        rw [k, x123N_53, if_pos h56, if_pos h94_0]
      · by_cases h94_1 : v3 = Int32.ofInt 1
        · have k := mx_ls (q := 136) rfl (by rw [h94_1]; decide) k
          have k : nt_rn X _ 123 (136, [(0, .ref (p 16)), (1, .int v1), (2, .int v2), (3, .int v3), (4, .int v4)], [], me_w M J) _ := k
          have k := ly_revb 1 (c' := (137, [(0, .ref (p 16)), (1, .int v1), (2, .int v2), (3, .int v3), (4, .int v4)], [.ref (p 16)], me_w M J)) rfl k
          have k := lz_get (a := (p 16)) (g := 1008) (M := me_w M J) (v := .ref (p 48)) rfl (nt_gfR rfl (hp.1 (16, 8, 48) (by decide))) k
          obtain ⟨d1, o1, ed, kc, k⟩ := lz_c (g := 79) (q := 1) (vs := [.ref (p 48)]) (rest := []) rfl rfl (by decide) (Or.inr (Or.inl ⟨_, rfl, rfl⟩)) rfl k
          have e1 := xt79 hm kc
          subst e1
          have k : nt_rn X _ 123 (143, [(0, .ref (p 16)), (1, .int v1), (2, .int v2), (3, .int v3), (4, .int v4)], [.int (x79 (fun i => p (48 + i)) J)], me_w M J) _ := k
          have k := lz_ri rfl (by decide) k
          rw [k, x123N_53, if_pos h56, if_neg h94_0, if_pos h94_1]
        · have k := mx_ls (q := 144) rfl (by
            show ((94 : Nat) : Int) + Op.lookupswitch.offset [(0, 26), (1, 42)] 50 _ = _
            rw [mx_lo (fun e => h94_0 (Int32.toInt_inj.mp (e.trans (show (0 : Int) = (Int32.ofInt 0).toInt by decide)))), mx_lo (fun e => h94_1 (Int32.toInt_inj.mp (e.trans (show (1 : Int) = (Int32.ofInt 1).toInt by decide)))), Op.lookupswitch.offset_nil]; decide) k
          have k : nt_rn X _ 123 (144, [(0, .ref (p 16)), (1, .int v1), (2, .int v2), (3, .int v3), (4, .int v4)], [], me_w M J) _ := k
          have k := ly_revb 1 (c' := (145, [(0, .ref (p 16)), (1, .int v1), (2, .int v2), (3, .int v3), (4, .int v4)], [.ref (p 16)], me_w M J)) rfl k
          have k := lz_get (a := (p 16)) (g := 1008) (M := me_w M J) (v := .ref (p 48)) rfl (nt_gfR rfl (hp.1 (16, 8, 48) (by decide))) k
          have k := lz_get (a := (p 48)) (g := 604) (M := me_w M J) (v := .int (J (p 48) 4)) rfl (congrArg Value.int (rfl)) k
          have k := ly_revb 1 (c' := (152, [(0, .ref (p 16)), (1, .int v1), (2, .int v2), (3, .int v3), (4, .int v4)], [.ref (p 16), .int (J (p 48) 4)], me_w M J)) rfl k
          have k := lz_get (a := (p 16)) (g := 1007) (M := me_w M J) (v := .ref (p 31)) rfl (nt_gfR rfl (hp.1 (16, 7, 31) (by decide))) k
          have k := lz_get (a := (p 31)) (g := 604) (M := me_w M J) (v := .int (J (p 31) 4)) rfl (congrArg Value.int (rfl)) k
          have k := ly_revb 1 (c' := (159, [(0, .ref (p 16)), (1, .int v1), (2, .int v2), (3, .int v3), (4, .int v4)], [.int ((J (p 48) 4) - (J (p 31) 4))], me_w M J)) rfl k
          have k := lz_ri rfl (by decide) k
          rw [k, x123N_53, if_pos h56, if_neg h94_0, if_neg h94_1]
    · rw [if_neg h56] at k
      have k := ly_revb 1 (c' := (60, [(0, .ref (p 16)), (1, .int v1), (2, .int v2), (3, .int v3), (4, .int v4)], [.ref (p 16)], me_w M J)) rfl k
      have k := lz_get (a := (p 16)) (g := 1008) (M := me_w M J) (v := .ref (p 48)) rfl (nt_gfR rfl (hp.1 (16, 8, 48) (by decide))) k
      have k := lz_get (a := (p 48)) (g := 602) (M := me_w M J) (v := .int (J (p 48) 2)) rfl (congrArg Value.int (rfl)) k
      have k := ly_revb 2 (c' := (if (Int32.ofInt 99) < (J (p 48) 2) then 93 else 71, [(0, .ref (p 16)), (1, .int v1), (2, .int v2), (3, .int v3), (4, .int v4)], [], me_w M J)) rfl k
      by_cases h68 : (Int32.ofInt 99) < (J (p 48) 2)
      · rw [if_pos h68] at k
        have k := ly_revb 1 (c' := (94, [(0, .ref (p 16)), (1, .int v1), (2, .int v2), (3, .int v3), (4, .int v4)], [.int v3], me_w M J)) rfl k
        by_cases h94_0 : v3 = Int32.ofInt 0
        · have k := mx_ls (q := 120) rfl (by rw [h94_0]; decide) k
          have k : nt_rn X _ 123 (120, [(0, .ref (p 16)), (1, .int v1), (2, .int v2), (3, .int v3), (4, .int v4)], [], me_w M J) _ := k
          have k := ly_revb 1 (c' := (121, [(0, .ref (p 16)), (1, .int v1), (2, .int v2), (3, .int v3), (4, .int v4)], [.ref (p 16)], me_w M J)) rfl k
          have k := lz_get (a := (p 16)) (g := 1008) (M := me_w M J) (v := .ref (p 48)) rfl (nt_gfR rfl (hp.1 (16, 8, 48) (by decide))) k
          have k := lz_get (a := (p 48)) (g := 605) (M := me_w M J) (v := .int (J (p 48) 5)) rfl (congrArg Value.int (rfl)) k
          have k := ly_revb 1 (c' := (128, [(0, .ref (p 16)), (1, .int v1), (2, .int v2), (3, .int v3), (4, .int v4)], [.ref (p 16), .int (J (p 48) 5)], me_w M J)) rfl k
          have k := lz_get (a := (p 16)) (g := 1007) (M := me_w M J) (v := .ref (p 31)) rfl (nt_gfR rfl (hp.1 (16, 7, 31) (by decide))) k
          have k := lz_get (a := (p 31)) (g := 605) (M := me_w M J) (v := .int (J (p 31) 5)) rfl (congrArg Value.int (rfl)) k
          have k := ly_revb 1 (c' := (135, [(0, .ref (p 16)), (1, .int v1), (2, .int v2), (3, .int v3), (4, .int v4)], [.int ((J (p 48) 5) - (J (p 31) 5))], me_w M J)) rfl k
          have k := lz_ri rfl (by decide) k
          rw [k, x123N_53, if_neg h56, if_pos h68, if_pos h94_0]
        · by_cases h94_1 : v3 = Int32.ofInt 1
          · have k := mx_ls (q := 136) rfl (by rw [h94_1]; decide) k
            have k : nt_rn X _ 123 (136, [(0, .ref (p 16)), (1, .int v1), (2, .int v2), (3, .int v3), (4, .int v4)], [], me_w M J) _ := k
            have k := ly_revb 1 (c' := (137, [(0, .ref (p 16)), (1, .int v1), (2, .int v2), (3, .int v3), (4, .int v4)], [.ref (p 16)], me_w M J)) rfl k
            have k := lz_get (a := (p 16)) (g := 1008) (M := me_w M J) (v := .ref (p 48)) rfl (nt_gfR rfl (hp.1 (16, 8, 48) (by decide))) k
            obtain ⟨d1, o1, ed, kc, k⟩ := lz_c (g := 79) (q := 1) (vs := [.ref (p 48)]) (rest := []) rfl rfl (by decide) (Or.inr (Or.inl ⟨_, rfl, rfl⟩)) rfl k
            have e1 := xt79 hm kc
            subst e1
            have k : nt_rn X _ 123 (143, [(0, .ref (p 16)), (1, .int v1), (2, .int v2), (3, .int v3), (4, .int v4)], [.int (x79 (fun i => p (48 + i)) J)], me_w M J) _ := k
            have k := lz_ri rfl (by decide) k
            rw [k, x123N_53, if_neg h56, if_pos h68, if_neg h94_0, if_pos h94_1]
          · have k := mx_ls (q := 144) rfl (by
              show ((94 : Nat) : Int) + Op.lookupswitch.offset [(0, 26), (1, 42)] 50 _ = _
              rw [mx_lo (fun e => h94_0 (Int32.toInt_inj.mp (e.trans (show (0 : Int) = (Int32.ofInt 0).toInt by decide)))), mx_lo (fun e => h94_1 (Int32.toInt_inj.mp (e.trans (show (1 : Int) = (Int32.ofInt 1).toInt by decide)))), Op.lookupswitch.offset_nil]; decide) k
            have k : nt_rn X _ 123 (144, [(0, .ref (p 16)), (1, .int v1), (2, .int v2), (3, .int v3), (4, .int v4)], [], me_w M J) _ := k
            have k := ly_revb 1 (c' := (145, [(0, .ref (p 16)), (1, .int v1), (2, .int v2), (3, .int v3), (4, .int v4)], [.ref (p 16)], me_w M J)) rfl k
            have k := lz_get (a := (p 16)) (g := 1008) (M := me_w M J) (v := .ref (p 48)) rfl (nt_gfR rfl (hp.1 (16, 8, 48) (by decide))) k
            have k := lz_get (a := (p 48)) (g := 604) (M := me_w M J) (v := .int (J (p 48) 4)) rfl (congrArg Value.int (rfl)) k
            have k := ly_revb 1 (c' := (152, [(0, .ref (p 16)), (1, .int v1), (2, .int v2), (3, .int v3), (4, .int v4)], [.ref (p 16), .int (J (p 48) 4)], me_w M J)) rfl k
            have k := lz_get (a := (p 16)) (g := 1007) (M := me_w M J) (v := .ref (p 31)) rfl (nt_gfR rfl (hp.1 (16, 7, 31) (by decide))) k
            have k := lz_get (a := (p 31)) (g := 604) (M := me_w M J) (v := .int (J (p 31) 4)) rfl (congrArg Value.int (rfl)) k
            have k := ly_revb 1 (c' := (159, [(0, .ref (p 16)), (1, .int v1), (2, .int v2), (3, .int v3), (4, .int v4)], [.int ((J (p 48) 4) - (J (p 31) 4))], me_w M J)) rfl k
            have k := lz_ri rfl (by decide) k
            rw [k, x123N_53, if_neg h56, if_pos h68, if_neg h94_0, if_neg h94_1]
      · rw [if_neg h68] at k
        have k := ly_revb 1 (c' := (72, [(0, .ref (p 16)), (1, .int v1), (2, .int v2), (3, .int v3), (4, .int v4)], [.ref (p 16)], me_w M J)) rfl k
        have k := lz_get (a := (p 16)) (g := 1005) (M := me_w M J) (v := .ref (p 24)) rfl (nt_gfR rfl (hp.1 (16, 5, 24) (by decide))) k
        have k := ly_revb 1 (c' := (76, [(0, .ref (p 16)), (1, .int v1), (2, .int v2), (3, .int v3), (4, .int v4)], [.ref (p 16), .ref (p 24)], me_w M J)) rfl k
        have k := lz_get (a := (p 16)) (g := 1008) (M := me_w M J) (v := .ref (p 48)) rfl (nt_gfR rfl (hp.1 (16, 8, 48) (by decide))) k
        have k := ly_revb 2 (c' := (81, [(0, .ref (p 16)), (1, .int v1), (2, .int v2), (3, .int v3), (4, .int v4)], [.int v1, .ref (p 16), .ref (p 48), .ref (p 24)], me_w M J)) rfl k
        obtain ⟨d1, o1, ed, kc, k⟩ := lz_c (g := 112) (q := 1) (vs := [.ref (p 16), .int v1]) (rest := [.ref (p 48), .ref (p 24)]) rfl rfl (by decide) (Or.inr (Or.inl ⟨_, rfl, rfl⟩)) rfl k
        have e1 := xr112N h0 kc
        subst e1
        have k : nt_rn X _ 123 (84, [(0, .ref (p 16)), (1, .int v1), (2, .int v2), (3, .int v3), (4, .int v4)], [.null, .ref (p 48), .ref (p 24)], me_w M J) _ := k
        obtain ⟨d1, o1, ed, kc, k⟩ := lz_c (g := 1) (q := 1) (vs := [.ref (p 24), .ref (p 48), .null]) (rest := []) rfl rfl (by decide) (Or.inr (Or.inl ⟨_, rfl, rfl⟩)) rfl k
        have e1 := xt1N hp hm (xs_x48 hp) kc
        subst e1
        have k : nt_rn X _ 123 (87, [(0, .ref (p 16)), (1, .int v1), (2, .int v2), (3, .int v3), (4, .int v4)], [], me_w M (x1N p (fun i => p (48 + i)) J)) _ := k
        have k := ly_revb 2 (c' := (53, [(4, .int (v4 + (Int32.ofInt 1))), (0, .ref (p 16)), (1, .int v1), (2, .int v2), (3, .int v3)], [], me_w M (x1N p (fun i => p (48 + i)) J))) rfl k
        have k := nt_rn_w (a := [(4, .int (v4 + (Int32.ofInt 1))), (0, .ref (p 16)), (1, .int v1), (2, .int v2), (3, .int v3)]) (b := [(0, .ref (p 16)), (1, .int v1), (2, .int v2), (3, .int v3), (4, .int (v4 + (Int32.ofInt 1)))]) ⟨rfl, rfl, rfl, rfl, rfl, trivial⟩ rfl k
        have k := ih (v4 + (Int32.ofInt 1)) (x1N p (fun i => p (48 + i)) J) (lx_dec h56 hc) k
        rw [k, x123N_53, if_neg h56, if_neg h68]
theorem x123N_53_rule {p : Nat → Nat} {v1 : Int32} {v2 : Int32} {v3 : Int32} {I : Nat → Int32 → (Nat → Nat → Int32) → Prop} {Q : Int32 × (Nat → Nat → Int32) → Prop} (h0 : ∀ (v4 : Int32) (J : Nat → Nat → Int32), I 0 v4 J → Q (if v3 = Int32.ofInt 0 then ((J (p 48) 5) - (J (p 31) 5), J)
    else if v3 = Int32.ofInt 1 then (x79 (fun i => p (48 + i)) J, J)
      else ((J (p 48) 4) - (J (p 31) 4), J))) (h1 : ∀ (c : Nat) (v4 : Int32) (J : Nat → Nat → Int32), I (c + 1) v4 J →
    if v2 ≤ v4 then if v3 = Int32.ofInt 0 then (Q ((J (p 48) 5) - (J (p 31) 5), J))
      else if v3 = Int32.ofInt 1 then (Q (x79 (fun i => p (48 + i)) J, J))
        else (Q ((J (p 48) 4) - (J (p 31) 4), J))
    else if (Int32.ofInt 99) < (J (p 48) 2) then if v3 = Int32.ofInt 0 then (Q ((J (p 48) 5) - (J (p 31) 5), J))
        else if v3 = Int32.ofInt 1 then (Q (x79 (fun i => p (48 + i)) J, J))
          else (Q ((J (p 48) 4) - (J (p 31) 4), J))
      else (I c (v4 + (Int32.ofInt 1)) (x1N p (fun i => p (48 + i)) J))) : ∀ (c : Nat) (v4 : Int32) (J : Nat → Nat → Int32), I c v4 J → Q (x123N_53 p v1 v2 v3 c v4 J) := by
  intro c
  induction c with
  | zero =>
    intro v4 J hi
    rw [x123N_53]
    exact h0 v4 J hi
  | succ c ih =>
    intro v4 J hi
    have hi := h1 c v4 J hi
    rw [x123N_53]
    by_cases h : v2 ≤ v4
    · rw [if_pos h] at hi ⊢
      by_cases h : v3 = Int32.ofInt 0
      · rw [if_pos h] at hi ⊢
        exact hi
      · rw [if_neg h] at hi ⊢
        by_cases h : v3 = Int32.ofInt 1
        · rw [if_pos h] at hi ⊢
          exact hi
        · rw [if_neg h] at hi ⊢
          exact hi
    · rw [if_neg h] at hi ⊢
      by_cases h : (Int32.ofInt 99) < (J (p 48) 2)
      · rw [if_pos h] at hi ⊢
        by_cases h : v3 = Int32.ofInt 0
        · rw [if_pos h] at hi ⊢
          exact hi
        · rw [if_neg h] at hi ⊢
          by_cases h : v3 = Int32.ofInt 1
          · rw [if_pos h] at hi ⊢
            exact hi
          · rw [if_neg h] at hi ⊢
            exact hi
      · rw [if_neg h] at hi ⊢
        exact ih _ _ hi
def x123N (p : Nat → Nat) (v1 : Int32) (v2 : Int32) (v3 : Int32) (J : Nat → Nat → Int32) : Int32 × (Nat → Nat → Int32) := if (J (p 31) 1) = 0 then (Int32.ofInt (-1), J)
  else if (x111 p v1 J) = 0 then (Int32.ofInt (-1), J)
    else if v2 < 0 then (Int32.ofInt (-1), J)
      else if (Int32.ofInt 100) < v2 then (Int32.ofInt (-1), J)
        else if v3 < 0 then (Int32.ofInt (-1), J)
          else if v3 ≤ (Int32.ofInt 2) then (x123N_53 p v1 v2 v3 v2.toNatClampNeg (Int32.ofInt 0) (x80 (fun i => p (48 + i)) (fun i => p (31 + i)) J))
            else (Int32.ofInt (-1), J)
theorem xt123N {X : nt_X} {d : Nat} {M : nt_M} {o : Option Value × nt_M} {p : Nat → Nat} {v1 : Int32} {v2 : Int32} {v3 : Int32} {J : Nat → Nat → Int32} (hp : xs_P M p) (hn : xs_Q M (fun i => p (31 + i))) (hm : xs_Q M (fun i => p (48 + i))) (hk : xs_N M (fun i => p (48 + i))) (h0 : v1 < 0) (k : nt_ev X d 123 [.ref (p 16), .int v1, .int v2, .int v3] (me_w M J) o) : o = (some (.int ((x123N p v1 v2 v3 J).1)), me_w M ((x123N p v1 v2 v3 J).2)) := by
  have k : nt_rn X d 123 (0, [(0, .ref (p 16)), (1, .int v1), (2, .int v2), (3, .int v3)], [], me_w M J) o := k
  have k := ly_revb 1 (c' := (1, [(0, .ref (p 16)), (1, .int v1), (2, .int v2), (3, .int v3)], [.ref (p 16)], me_w M J)) rfl k
  have k := lz_get (a := (p 16)) (g := 1007) (M := me_w M J) (v := .ref (p 31)) rfl (nt_gfR rfl (hp.1 (16, 7, 31) (by decide))) k
  have k := lz_get (a := (p 31)) (g := 601) (M := me_w M J) (v := .int (J (p 31) 1)) rfl (congrArg Value.int (rfl)) k
  have k := ly_revb 1 (c' := (if (J (p 31) 1) = 0 then 37 else 10, [(0, .ref (p 16)), (1, .int v1), (2, .int v2), (3, .int v3)], [], me_w M J)) rfl k
  by_cases h7 : (J (p 31) 1) = 0
  · rw [if_pos h7] at k
    have k := ly_revb 1 (c' := (38, [(0, .ref (p 16)), (1, .int v1), (2, .int v2), (3, .int v3)], [.int (Int32.ofInt (-1))], me_w M J)) rfl k
    have k := lz_ri rfl (by decide) k
    rw [k, x123N, if_pos h7]
  · rw [if_neg h7] at k
    have k := ly_revb 2 (c' := (12, [(0, .ref (p 16)), (1, .int v1), (2, .int v2), (3, .int v3)], [.int v1, .ref (p 16)], me_w M J)) rfl k
    obtain ⟨d1, o1, ed, kc, k⟩ := lz_c (g := 111) (q := 1) (vs := [.ref (p 16), .int v1]) (rest := []) rfl rfl (by decide) (Or.inr (Or.inl ⟨_, rfl, rfl⟩)) rfl k
    have e1 := xt111 hp kc
    subst e1
    have k : nt_rn X _ 123 (15, [(0, .ref (p 16)), (1, .int v1), (2, .int v2), (3, .int v3)], [.int (x111 p v1 J)], me_w M J) _ := k
    have k := ly_revb 1 (c' := (if (x111 p v1 J) = 0 then 37 else 18, [(0, .ref (p 16)), (1, .int v1), (2, .int v2), (3, .int v3)], [], me_w M J)) rfl k
    by_cases h15 : (x111 p v1 J) = 0
    · rw [if_pos h15] at k
      have k := ly_revb 1 (c' := (38, [(0, .ref (p 16)), (1, .int v1), (2, .int v2), (3, .int v3)], [.int (Int32.ofInt (-1))], me_w M J)) rfl k
      have k := lz_ri rfl (by decide) k
      rw [k, x123N, if_neg h7, if_pos h15]
    · rw [if_neg h15] at k
      have k := ly_revb 2 (c' := (if v2 < 0 then 37 else 22, [(0, .ref (p 16)), (1, .int v1), (2, .int v2), (3, .int v3)], [], me_w M J)) rfl k
      by_cases h19 : v2 < 0
      · rw [if_pos h19] at k
        have k := ly_revb 1 (c' := (38, [(0, .ref (p 16)), (1, .int v1), (2, .int v2), (3, .int v3)], [.int (Int32.ofInt (-1))], me_w M J)) rfl k
        have k := lz_ri rfl (by decide) k
        rw [k, x123N, if_neg h7, if_neg h15, if_pos h19]
      · rw [if_neg h19] at k
        have k := ly_revb 3 (c' := (if (Int32.ofInt 100) < v2 then 37 else 28, [(0, .ref (p 16)), (1, .int v1), (2, .int v2), (3, .int v3)], [], me_w M J)) rfl k
        by_cases h25 : (Int32.ofInt 100) < v2
        · rw [if_pos h25] at k
          have k := ly_revb 1 (c' := (38, [(0, .ref (p 16)), (1, .int v1), (2, .int v2), (3, .int v3)], [.int (Int32.ofInt (-1))], me_w M J)) rfl k
          have k := lz_ri rfl (by decide) k
          rw [k, x123N, if_neg h7, if_neg h15, if_neg h19, if_pos h25]
        · rw [if_neg h25] at k
          have k := ly_revb 2 (c' := (if v3 < 0 then 37 else 32, [(0, .ref (p 16)), (1, .int v1), (2, .int v2), (3, .int v3)], [], me_w M J)) rfl k
          by_cases h29 : v3 < 0
          · rw [if_pos h29] at k
            have k := ly_revb 1 (c' := (38, [(0, .ref (p 16)), (1, .int v1), (2, .int v2), (3, .int v3)], [.int (Int32.ofInt (-1))], me_w M J)) rfl k
            have k := lz_ri rfl (by decide) k
            rw [k, x123N, if_neg h7, if_neg h15, if_neg h19, if_neg h25, if_pos h29]
          · rw [if_neg h29] at k
            have k := ly_revb 3 (c' := (if v3 ≤ (Int32.ofInt 2) then 39 else 37, [(0, .ref (p 16)), (1, .int v1), (2, .int v2), (3, .int v3)], [], me_w M J)) rfl k
            by_cases h34 : v3 ≤ (Int32.ofInt 2)
            · rw [if_pos h34] at k
              have k := ly_revb 1 (c' := (40, [(0, .ref (p 16)), (1, .int v1), (2, .int v2), (3, .int v3)], [.ref (p 16)], me_w M J)) rfl k
              have k := lz_get (a := (p 16)) (g := 1008) (M := me_w M J) (v := .ref (p 48)) rfl (nt_gfR rfl (hp.1 (16, 8, 48) (by decide))) k
              have k := ly_revb 1 (c' := (44, [(0, .ref (p 16)), (1, .int v1), (2, .int v2), (3, .int v3)], [.ref (p 16), .ref (p 48)], me_w M J)) rfl k
              have k := lz_get (a := (p 16)) (g := 1007) (M := me_w M J) (v := .ref (p 31)) rfl (nt_gfR rfl (hp.1 (16, 7, 31) (by decide))) k
              obtain ⟨d1, o1, ed, kc, k⟩ := lz_c (g := 80) (q := 1) (vs := [.ref (p 48), .ref (p 31)]) (rest := []) rfl rfl (by decide) (Or.inr (Or.inl ⟨_, rfl, rfl⟩)) rfl k
              have e1 := xt80 hm hn (xs_d48 hp) hk kc
              subst e1
              have k : nt_rn X _ 123 (50, [(0, .ref (p 16)), (1, .int v1), (2, .int v2), (3, .int v3)], [], me_w M (x80 (fun i => p (48 + i)) (fun i => p (31 + i)) J)) _ := k
              have k := ly_revb 2 (c' := (53, [(4, .int (Int32.ofInt 0)), (0, .ref (p 16)), (1, .int v1), (2, .int v2), (3, .int v3)], [], me_w M (x80 (fun i => p (48 + i)) (fun i => p (31 + i)) J))) rfl k
              have k := nt_rn_w (a := [(4, .int (Int32.ofInt 0)), (0, .ref (p 16)), (1, .int v1), (2, .int v2), (3, .int v3)]) (b := [(0, .ref (p 16)), (1, .int v1), (2, .int v2), (3, .int v3), (4, .int (Int32.ofInt 0))]) ⟨rfl, rfl, rfl, rfl, rfl, trivial⟩ rfl k
              have k := xt123N_53 hp hn hm hk h0  v2.toNatClampNeg (Int32.ofInt 0) (x80 (fun i => p (48 + i)) (fun i => p (31 + i)) J) (lx_beg (by decide)) k
              rw [k, x123N, if_neg h7, if_neg h15, if_neg h19, if_neg h25, if_neg h29, if_pos h34]
            · rw [if_neg h34] at k
              have k := ly_revb 1 (c' := (38, [(0, .ref (p 16)), (1, .int v1), (2, .int v2), (3, .int v3)], [.int (Int32.ofInt (-1))], me_w M J)) rfl k
              have k := lz_ri rfl (by decide) k
              rw [k, x123N, if_neg h7, if_neg h15, if_neg h19, if_neg h25, if_neg h29, if_neg h34]
theorem x123N_53_frJ {p : Nat → Nat} {v1 : Int32} {v2 : Int32} {v3 : Int32} {b : Nat} : ∀ (c : Nat) (v4 : Int32) (J : Nat → Nat → Int32), b ≠ p 48 → b ≠ p 49 → b ≠ p 50 → b ≠ p 51 → b ≠ p 52 → b ≠ p 53 → b ≠ p 54 → b ≠ p 55 → b ≠ p 56 → b ≠ p 57 → b ≠ p 58 → b ≠ p 59 → b ≠ p 60 → b ≠ p 61 → b ≠ p 62 → b ≠ p 63 → b ≠ p 64 → (x123N_53 p v1 v2 v3 c v4 J).2 b = J b := by
  intro c
  induction c with
  | zero =>
    intro v4 J n0 n1 n2 n3 n4 n5 n6 n7 n8 n9 n10 n11 n12 n13 n14 n15 n16
    rw [x123N_53]
    by_cases h : v3 = Int32.ofInt 0
    · rw [if_pos h]
      all_goals first | (dsimp only; exact (show J b = J b from rfl)) | exact (show J b = J b from rfl)
    · rw [if_neg h]
      by_cases h : v3 = Int32.ofInt 1
      · rw [if_pos h]
        all_goals first | (dsimp only; exact (show J b = J b from rfl)) | exact (show J b = J b from rfl)
      · rw [if_neg h]
        all_goals first | (dsimp only; exact (show J b = J b from rfl)) | exact (show J b = J b from rfl)
  | succ c ih =>
    intro v4 J n0 n1 n2 n3 n4 n5 n6 n7 n8 n9 n10 n11 n12 n13 n14 n15 n16
    rw [x123N_53]
    by_cases h : v2 ≤ v4
    · rw [if_pos h]
      by_cases h : v3 = Int32.ofInt 0
      · rw [if_pos h]
        all_goals first | (dsimp only; exact (show J b = J b from rfl)) | exact (show J b = J b from rfl)
      · rw [if_neg h]
        by_cases h : v3 = Int32.ofInt 1
        · rw [if_pos h]
          all_goals first | (dsimp only; exact (show J b = J b from rfl)) | exact (show J b = J b from rfl)
        · rw [if_neg h]
          all_goals first | (dsimp only; exact (show J b = J b from rfl)) | exact (show J b = J b from rfl)
    · rw [if_neg h]
      by_cases h : (Int32.ofInt 99) < (J (p 48) 2)
      · rw [if_pos h]
        by_cases h : v3 = Int32.ofInt 0
        · rw [if_pos h]
          all_goals first | (dsimp only; exact (show J b = J b from rfl)) | exact (show J b = J b from rfl)
        · rw [if_neg h]
          by_cases h : v3 = Int32.ofInt 1
          · rw [if_pos h]
            all_goals first | (dsimp only; exact (show J b = J b from rfl)) | exact (show J b = J b from rfl)
          · rw [if_neg h]
            all_goals first | (dsimp only; exact (show J b = J b from rfl)) | exact (show J b = J b from rfl)
      · rw [if_neg h]
        exact (ih _ _ n0 n1 n2 n3 n4 n5 n6 n7 n8 n9 n10 n11 n12 n13 n14 n15 n16).trans (x1N_frJ  n0 n10 n11 n12 n13 n15 n16)
theorem x123N_frJ {p : Nat → Nat} {v1 : Int32} {v2 : Int32} {v3 : Int32} {J : Nat → Nat → Int32} {b : Nat} (n0 : b ≠ p 48) (n1 : b ≠ p 49) (n2 : b ≠ p 50) (n3 : b ≠ p 51) (n4 : b ≠ p 52) (n5 : b ≠ p 53) (n6 : b ≠ p 54) (n7 : b ≠ p 55) (n8 : b ≠ p 56) (n9 : b ≠ p 57) (n10 : b ≠ p 58) (n11 : b ≠ p 59) (n12 : b ≠ p 60) (n13 : b ≠ p 61) (n14 : b ≠ p 62) (n15 : b ≠ p 63) (n16 : b ≠ p 64) : (x123N p v1 v2 v3 J).2 b = J b := by
  unfold x123N
  by_cases h : (J (p 31) 1) = 0
  · rw [if_pos h]
    all_goals first | (dsimp only; exact (show J b = J b from rfl)) | exact (show J b = J b from rfl)
  · rw [if_neg h]
    by_cases h : (x111 p v1 J) = 0
    · rw [if_pos h]
      all_goals first | (dsimp only; exact (show J b = J b from rfl)) | exact (show J b = J b from rfl)
    · rw [if_neg h]
      by_cases h : v2 < 0
      · rw [if_pos h]
        all_goals first | (dsimp only; exact (show J b = J b from rfl)) | exact (show J b = J b from rfl)
      · rw [if_neg h]
        by_cases h : (Int32.ofInt 100) < v2
        · rw [if_pos h]
          all_goals first | (dsimp only; exact (show J b = J b from rfl)) | exact (show J b = J b from rfl)
        · rw [if_neg h]
          by_cases h : v3 < 0
          · rw [if_pos h]
            all_goals first | (dsimp only; exact (show J b = J b from rfl)) | exact (show J b = J b from rfl)
          · rw [if_neg h]
            by_cases h : v3 ≤ (Int32.ofInt 2)
            · rw [if_pos h]
              exact (x123N_53_frJ _ _ _ n0 n1 n2 n3 n4 n5 n6 n7 n8 n9 n10 n11 n12 n13 n14 n15 n16).trans (x80_frJ  n0 n1 n2 n3 n4 n5 n6 n7 n8 n9 n10 n11 n12 n13 n14 n15 n16)
            · rw [if_neg h]
              all_goals first | (dsimp only; exact (show J b = J b from rfl)) | exact (show J b = J b from rfl)
end
section
/-! the class's cells beside the said row -/
def zc (j : Nat) : Nat × Nat :=
  if j < 4 then (1, j) else if j = 4 then (0, 2) else if j = 5 then (1, 4) else if j = 6 then (0, 3) else if j = 7 then (0, 5) else if j = 8 then (0, 4) else if j = 9 then (0, 6)
  else if j < 52 then (if (j - 10) % 7 < 4 then (2, 4 * ((j - 10) / 7) + (j - 10) % 7) else if (j - 10) % 7 = 4 then (10, (j - 10) / 7) else if (j - 10) % 7 = 5 then (12, (j - 10) / 7) else (11, (j - 10) / 7))
  else if j < 172 then (if (j - 52) % 5 = 0 then (3, (j - 52) / 5) else if (j - 52) % 5 = 1 then (13, (j - 52) / 5) else if (j - 52) % 5 = 2 then (5, (j - 52) / 5) else if (j - 52) % 5 = 3 then (14, (j - 52) / 5) else (15, (j - 52) / 5))
  else (if (j - 172) % 5 = 0 then (6, (j - 172) / 5) else if (j - 172) % 5 = 1 then (7, (j - 172) / 5) else if (j - 172) % 5 = 2 then (8, (j - 172) / 5) else if (j - 172) % 5 = 3 then (9, (j - 172) / 5) else (16, (j - 172) / 5))
def zi (c : Nat × Nat) : Nat :=
  if c.1 = 0 then (if c.2 = 2 then 4 else if c.2 = 3 then 6 else if c.2 = 4 then 8 else if c.2 = 5 then 7 else 9)
  else if c.1 = 1 then (if c.2 < 4 then c.2 else 5)
  else if c.1 = 2 then 10 + 7 * (c.2 / 4) + c.2 % 4
  else if c.1 = 10 then 10 + 7 * c.2 + 4 else if c.1 = 12 then 10 + 7 * c.2 + 5 else if c.1 = 11 then 10 + 7 * c.2 + 6
  else if c.1 = 3 then 52 + 5 * c.2 else if c.1 = 13 then 52 + 5 * c.2 + 1 else if c.1 = 5 then 52 + 5 * c.2 + 2 else if c.1 = 14 then 52 + 5 * c.2 + 3 else if c.1 = 15 then 52 + 5 * c.2 + 4
  else if c.1 = 6 then 172 + 5 * c.2 else if c.1 = 7 then 172 + 5 * c.2 + 1 else if c.1 = 8 then 172 + 5 * c.2 + 2 else if c.1 = 9 then 172 + 5 * c.2 + 3 else 172 + 5 * c.2 + 4
theorem zi_c : ∀ j, j < 212 → zi (zc j) = j := by decide +kernel
theorem zc_17 : ∀ j, j < 212 → (zc j).1 < 17 := by decide +kernel
theorem zc_m : ∀ s, s < 6 → ∀ k, k < 4 → zc (10 + 7 * s + k) = (2, 4 * s + k) := by decide +kernel
theorem zc_s4 : ∀ s, s < 6 → zc (10 + 7 * s + 4) = (10, s) := by decide +kernel
theorem zc_s5 : ∀ s, s < 6 → zc (10 + 7 * s + 5) = (12, s) := by decide +kernel
theorem zc_s6 : ∀ s, s < 6 → zc (10 + 7 * s + 6) = (11, s) := by decide +kernel
theorem zc_p0 : ∀ p, p < 24 → zc (52 + 5 * p + 0) = (3, p) := by decide +kernel
theorem zc_p1 : ∀ p, p < 24 → zc (52 + 5 * p + 1) = (13, p) := by decide +kernel
theorem zc_p2 : ∀ p, p < 24 → zc (52 + 5 * p + 2) = (5, p) := by decide +kernel
theorem zc_p3 : ∀ p, p < 24 → zc (52 + 5 * p + 3) = (14, p) := by decide +kernel
theorem zc_p4 : ∀ p, p < 24 → zc (52 + 5 * p + 4) = (15, p) := by decide +kernel
theorem zc_v0 : ∀ p, p < 8 → zc (172 + 5 * p + 0) = (6, p) := by decide +kernel
theorem zc_v1 : ∀ p, p < 8 → zc (172 + 5 * p + 1) = (7, p) := by decide +kernel
theorem zc_v2 : ∀ p, p < 8 → zc (172 + 5 * p + 2) = (8, p) := by decide +kernel
theorem zc_v3 : ∀ p, p < 8 → zc (172 + 5 * p + 3) = (9, p) := by decide +kernel
theorem zc_v4 : ∀ p, p < 8 → zc (172 + 5 * p + 4) = (16, p) := by decide +kernel
def zn (e : Nat → Int32) (i : Nat) : Nat := (e i).toNatClampNeg
def zv (e : Nat → Int32) (j : Nat) : Prop := j < 9 ∨ (10 ≤ j ∧ j < 52 ∧ (j - 10) / 7 < zn e 1 ∧ ((j - 10) % 7 < 4 → (j - 10) % 7 < zn e 0)) ∨ (52 ≤ j ∧ j < 172 ∧ (j - 52) / 5 < zn e 2) ∨ (172 ≤ j ∧ j < 212 ∧ (j - 172) / 5 < zn e 3)
def zu (e : Nat → Int32) (j : Nat) (v : Int32) : Nat → Int32 := fun i => if i = j then v else e i
theorem zu_s {e : Nat → Int32} {j : Nat} {v : Int32} : zu e j v j = v := if_pos rfl
theorem zu_k {e : Nat → Int32} {j i : Nat} {v : Int32} (h : i ≠ j) : zu e j v i = e i := if_neg h
theorem zu_r {J : Nat → Nat → Int32} {a j : Nat} {v : Int32} : nt_u J a j v a = zu (J a) j v := by
  funext i
  show (if a = a then (if i = j then v else J a i) else J a i) = _
  rw [if_pos rfl]
  rfl
/-- the class's state at q is what the row says -/
def zR (q : Nat → Nat) (J : Nat → Nat → Int32) (e : Nat → Int32) : Prop := (∀ j, zv e j → J (q (zc j).1) (zc j).2 = e j) ∧ J (q 0) 1 = (if e 0 = 0 then 0 else 1)
def zq (q : Nat → Nat) : Prop := ∀ i j, i < 17 → j < 17 → i ≠ j → q i ≠ q j
theorem zv_lt {e : Nat → Int32} {j : Nat} (h : zv e j) : j < 212 := by
  unfold zv at h
  omega
theorem zR_up {q : Nat → Nat} {J : Nat → Nat → Int32} {e : Nat → Int32} {j r k : Nat} {v : Int32} (hq : zq q) (h : zR q J e) (hj : 4 ≤ j) (h2 : j < 212) (hc : zc j = (r, k)) : zR q (nt_u J (q r) k v) (zu e j v) := by
  have c0 : ∀ i, i < 4 → zu e j v i = e i := fun i hi => zu_k (by omega)
  have r17 : r < 17 := by
    have := zc_17 j h2
    rw [hc] at this
    exact this
  refine ⟨?_, ?_⟩
  · intro i hi
    have hi' : zv e i := by
      unfold zv zn at hi ⊢
      rw [c0 0 (by omega), c0 1 (by omega), c0 2 (by omega), c0 3 (by omega)] at hi
      exact hi
    by_cases ei : i = j
    · subst ei
      rw [hc]
      show nt_u J (q r) k v (q r) k = _
      rw [me_us, zu_s]
    · rw [zu_k ei, ← h.1 i hi']
      by_cases er : (zc i).1 = r
      · rw [er]
        have nk : (zc i).2 ≠ k := by
          intro ek
          apply ei
          rw [← zi_c i (zv_lt hi'), ← zi_c j h2, hc]
          congr 1
          exact Prod.ext er ek
        rw [me_uk nk]
      · rw [me_uo (hq _ _ (zc_17 i (zv_lt hi')) r17 er)]
  · rw [c0 0 (by omega), ← h.2]
    by_cases er : r = 0
    · subst er
      have nk : 1 ≠ k := by
        intro ek
        have a := zi_c j h2
        rw [hc, ← ek] at a
        have a : 9 = j := a
        subst a
        rw [show zc 9 = (0, 6) from rfl] at hc
        have := congrArg Prod.snd hc
        have : 6 = k := this
        omega
      rw [me_uk nk]
    · rw [me_uo (hq 0 r (by omega) r17 (by omega))]
/-- reading -/
theorem zn_t {x : Int32} : x.toNatClampNeg = x.toInt.toNat := rfl
theorem zR_n {q : Nat → Nat} {J : Nat → Nat → Int32} {e : Nat → Int32} (h : zR q J e) {i : Nat} (hi : i < 4) : J (q 1) i = e i := by
  have := h.1 i (Or.inl (by omega))
  rw [show zc i = (1, i) from if_pos hi] at this
  exact this
theorem zR_4 {q : Nat → Nat} {J : Nat → Nat → Int32} {e : Nat → Int32} (h : zR q J e) : J (q 0) 2 = e 4 := h.1 4 (Or.inl (by omega))
theorem zR_5 {q : Nat → Nat} {J : Nat → Nat → Int32} {e : Nat → Int32} (h : zR q J e) : J (q 1) 4 = e 5 := h.1 5 (Or.inl (by omega))
theorem zR_6 {q : Nat → Nat} {J : Nat → Nat → Int32} {e : Nat → Int32} (h : zR q J e) : J (q 0) 3 = e 6 := h.1 6 (Or.inl (by omega))
theorem zR_7 {q : Nat → Nat} {J : Nat → Nat → Int32} {e : Nat → Int32} (h : zR q J e) : J (q 0) 5 = e 7 := h.1 7 (Or.inl (by omega))
theorem zR_8 {q : Nat → Nat} {J : Nat → Nat → Int32} {e : Nat → Int32} (h : zR q J e) : J (q 0) 4 = e 8 := h.1 8 (Or.inl (by omega))
theorem zR_p {q : Nat → Nat} {J : Nat → Nat → Int32} {e : Nat → Int32} {n k r m : Nat} (h : zR q J e) (hn : n < zn e 2) (h24 : n < 24) (hk : k < 5) (hc : zc (52 + 5 * n + k) = (r, m)) : J (q r) m = e (52 + 5 * n + k) := by
  have := h.1 (52 + 5 * n + k) (Or.inr (Or.inr (Or.inl ⟨by omega, by omega, by omega⟩)))
  rw [hc] at this
  exact this
theorem zR_v {q : Nat → Nat} {J : Nat → Nat → Int32} {e : Nat → Int32} {n k r m : Nat} (h : zR q J e) (hn : n < zn e 3) (h8 : n < 8) (hk : k < 5) (hc : zc (172 + 5 * n + k) = (r, m)) : J (q r) m = e (172 + 5 * n + k) := by
  have := h.1 (172 + 5 * n + k) (Or.inr (Or.inr (Or.inr ⟨by omega, by omega, by omega⟩)))
  rw [hc] at this
  exact this
theorem zR_s {q : Nat → Nat} {J : Nat → Nat → Int32} {e : Nat → Int32} {n k r m : Nat} (h : zR q J e) (hn : n < zn e 1) (h6 : n < 6) (hk : k < 7) (hk0 : k < 4 → k < zn e 0) (hc : zc (10 + 7 * n + k) = (r, m)) : J (q r) m = e (10 + 7 * n + k) := by
  have := h.1 (10 + 7 * n + k) (Or.inr (Or.inl ⟨by omega, by omega, by omega, fun a => by
    have : (10 + 7 * n + k - 10) % 7 = k := by omega
    rw [this] at a ⊢
    exact hk0 a⟩))
  rw [hc] at this
  exact this
/-- what holds of the row: what the text told -/
def zA (e : Nat → Int32) : Prop := ((e 5).toInt ≤ 30) ∧ (∀ s, s < zn e 1 → ∀ k, k < zn e 0 → 0 ≤ (e (10 + 7 * s + k)).toInt ∧ (e (10 + 7 * s + k)).toInt ≤ 5) ∧ (∀ p, p < zn e 2 → 0 ≤ (e (52 + 5 * p + 0)).toInt ∧ (e (52 + 5 * p + 0)).toInt < (e 0).toInt) ∧ (∀ p, p < zn e 2 → 0 ≤ (e (52 + 5 * p + 2)).toInt ∧ (e (52 + 5 * p + 2)).toInt < (e 1).toInt) ∧ (∀ v, v < zn e 3 → 0 ≤ (e (172 + 5 * v + 0)).toInt ∧ (e (172 + 5 * v + 0)).toInt < (e 1).toInt ∧ 0 ≤ (e (172 + 5 * v + 1)).toInt ∧ (e (172 + 5 * v + 1)).toInt < (e (172 + 5 * v + 2)).toInt ∧ (e (172 + 5 * v + 2)).toInt ≤ 99)
theorem zA.hd {e : Nat → Int32} (h_ : zA e) : (e 5).toInt ≤ 30 := h_.1
theorem zA.mu {e : Nat → Int32} (h_ : zA e) : ∀ s, s < zn e 1 → ∀ k, k < zn e 0 → 0 ≤ (e (10 + 7 * s + k)).toInt ∧ (e (10 + 7 * s + k)).toInt ≤ 5 := h_.2.1
theorem zA.kn {e : Nat → Int32} (h_ : zA e) : ∀ p, p < zn e 2 → 0 ≤ (e (52 + 5 * p + 0)).toInt ∧ (e (52 + 5 * p + 0)).toInt < (e 0).toInt := h_.2.2.1
theorem zA.ow {e : Nat → Int32} (h_ : zA e) : ∀ p, p < zn e 2 → 0 ≤ (e (52 + 5 * p + 2)).toInt ∧ (e (52 + 5 * p + 2)).toInt < (e 1).toInt := h_.2.2.2.1
theorem zA.vo {e : Nat → Int32} (h_ : zA e) : ∀ v, v < zn e 3 → 0 ≤ (e (172 + 5 * v + 0)).toInt ∧ (e (172 + 5 * v + 0)).toInt < (e 1).toInt ∧ 0 ≤ (e (172 + 5 * v + 1)).toInt ∧ (e (172 + 5 * v + 1)).toInt < (e (172 + 5 * v + 2)).toInt ∧ (e (172 + 5 * v + 2)).toInt ≤ 99 := h_.2.2.2.2
/-- where planks are -/
def zB (e : Nat → Int32) : Prop := (∀ p, p < zn e 2 → -1 ≤ (e (52 + 5 * p + 3)).toInt ∧ (e (52 + 5 * p + 3)).toInt < (e 1).toInt) ∧ (∀ p, p < zn e 2 → e (52 + 5 * p + 4) = if 0 ≤ (e (52 + 5 * p + 3)).toInt ∧ e (10 + 7 * (e (52 + 5 * p + 3)).toNatClampNeg + 4) = 2 then 1 else 0)
theorem zB.inn {e : Nat → Int32} (h_ : zB e) : ∀ p, p < zn e 2 → -1 ≤ (e (52 + 5 * p + 3)).toInt ∧ (e (52 + 5 * p + 3)).toInt < (e 1).toInt := h_.1
theorem zB.lo {e : Nat → Int32} (h_ : zB e) : ∀ p, p < zn e 2 → e (52 + 5 * p + 4) = if 0 ≤ (e (52 + 5 * p + 3)).toInt ∧ e (10 + 7 * (e (52 + 5 * p + 3)).toNatClampNeg + 4) = 2 then 1 else 0 := h_.2
/-- where ships are -/
def zC (e : Nat → Int32) (b : Int) : Prop := (∀ s, s < zn e 1 → e (10 + 7 * s + 4) = 0 ∨ e (10 + 7 * s + 4) = 1 ∨ e (10 + 7 * s + 4) = 2) ∧ (∀ s, s < zn e 1 → e (10 + 7 * s + 4) = 1 → ∃ v, v < zn e 3 ∧ (e (10 + 7 * s + 5)).toInt = (v : Nat) ∧ (e (172 + 5 * v + 0)).toInt = s ∧ e (172 + 5 * v + 4) = 1 ∧ b ≤ (e (172 + 5 * v + 2)).toInt) ∧ (∀ s, s < zn e 1 → e (10 + 7 * s + 4) ≠ 1 → e (10 + 7 * s + 5) = Int32.ofInt (-1)) ∧ (∀ v, v < zn e 3 → e (172 + 5 * v + 4) = 1 → ∃ s, s < zn e 1 ∧ (e (172 + 5 * v + 0)).toInt = (s : Nat) ∧ e (10 + 7 * s + 4) = 1 ∧ (e (10 + 7 * s + 5)).toInt = v)
theorem zC.st {e : Nat → Int32} {b : Int} (h_ : zC e b) : ∀ s, s < zn e 1 → e (10 + 7 * s + 4) = 0 ∨ e (10 + 7 * s + 4) = 1 ∨ e (10 + 7 * s + 4) = 2 := h_.1
theorem zC.on {e : Nat → Int32} {b : Int} (h_ : zC e b) : ∀ s, s < zn e 1 → e (10 + 7 * s + 4) = 1 → ∃ v, v < zn e 3 ∧ (e (10 + 7 * s + 5)).toInt = (v : Nat) ∧ (e (172 + 5 * v + 0)).toInt = s ∧ e (172 + 5 * v + 4) = 1 ∧ b ≤ (e (172 + 5 * v + 2)).toInt := h_.2.1
theorem zC.no {e : Nat → Int32} {b : Int} (h_ : zC e b) : ∀ s, s < zn e 1 → e (10 + 7 * s + 4) ≠ 1 → e (10 + 7 * s + 5) = Int32.ofInt (-1) := h_.2.2.1
theorem zC.vc {e : Nat → Int32} {b : Int} (h_ : zC e b) : ∀ v, v < zn e 3 → e (172 + 5 * v + 4) = 1 → ∃ s, s < zn e 1 ∧ (e (172 + 5 * v + 0)).toInt = (s : Nat) ∧ e (10 + 7 * s + 4) = 1 ∧ (e (10 + 7 * s + 5)).toInt = v := h_.2.2.2
/-- days, hands, rot -/
def zD (e : Nat → Int32) : Prop := (0 ≤ (e 6).toInt ∧ (e 6).toInt ≤ (e 5).toInt) ∧ (0 ≤ (e 4).toInt ∧ (e 4).toInt ≤ 1000) ∧ (∀ p, p < zn e 2 → 0 ≤ (e (52 + 5 * p + 1)).toInt ∧ (e (52 + 5 * p + 1)).toInt ≤ 99)
theorem zD.h6 {e : Nat → Int32} (h_ : zD e) : 0 ≤ (e 6).toInt ∧ (e 6).toInt ≤ (e 5).toInt := h_.1
theorem zD.d4 {e : Nat → Int32} (h_ : zD e) : 0 ≤ (e 4).toInt ∧ (e 4).toInt ≤ 1000 := h_.2.1
theorem zD.ro {e : Nat → Int32} (h_ : zD e) : ∀ p, p < zn e 2 → 0 ≤ (e (52 + 5 * p + 1)).toInt ∧ (e (52 + 5 * p + 1)).toInt ≤ 99 := h_.2.2
def zW (e : Nat → Int32) (g : Int) : Prop := (xr_W e) ∧ (zA e) ∧ (zB e) ∧ (zC e g) ∧ (zD e)
theorem zW.w {e : Nat → Int32} {g : Int} (h_ : zW e g) : xr_W e := h_.1
theorem zW.a {e : Nat → Int32} {g : Int} (h_ : zW e g) : zA e := h_.2.1
theorem zW.b {e : Nat → Int32} {g : Int} (h_ : zW e g) : zB e := h_.2.2.1
theorem zW.c {e : Nat → Int32} {g : Int} (h_ : zW e g) : zC e g := h_.2.2.2.1
theorem zW.d {e : Nat → Int32} {g : Int} (h_ : zW e g) : zD e := h_.2.2.2.2
theorem zn_ag {e f : Nat → Int32} {i : Nat} (h : f i = e i) : zn f i = zn e i := by
  unfold zn
  rw [h]
theorem zA_ag {e f : Nat → Int32} (h : zA e) (w : xr_W e) (h0 : ∀ i, i < 6 → i ≠ 4 → f i = e i) (hs : ∀ s, s < 6 → ∀ k, k < 4 → f (10 + 7 * s + k) = e (10 + 7 * s + k)) (hp : ∀ p, p < 24 → f (52 + 5 * p + 0) = e (52 + 5 * p + 0) ∧ f (52 + 5 * p + 2) = e (52 + 5 * p + 2)) (hv : ∀ v, v < 8 → ∀ k, k < 3 → f (172 + 5 * v + k) = e (172 + 5 * v + k)) : zA f := by
  have l0 := xr_0 w
  have l1 := xr_1 w
  have l2 := xr_2 w
  have l3 := xr_3 w
  have n0 := zn_ag (h0 0 (by omega) (by omega))
  have n1 := zn_ag (h0 1 (by omega) (by omega))
  have n2 := zn_ag (h0 2 (by omega) (by omega))
  have n3 := zn_ag (h0 3 (by omega) (by omega))
  have z : ∀ i, zn e i = (e i).toInt.toNat := fun i => rfl
  have z0 := z 0
  have z1 := z 1
  have z2 := z 2
  have z3 := z 3
  refine ⟨?_, ?_, ?_, ?_, ?_⟩
  · rw [h0 5 (by omega) (by omega)]
    exact h.hd
  · intro s hs1 k hk
    rw [n1] at hs1
    rw [n0] at hk
    rw [hs s (by omega) k (by omega)]
    exact h.mu s hs1 k hk
  · intro p hp1
    rw [n2] at hp1
    rw [(hp p (by omega)).1, h0 0 (by omega) (by omega)]
    exact h.kn p hp1
  · intro p hp1
    rw [n2] at hp1
    rw [(hp p (by omega)).2, h0 1 (by omega) (by omega)]
    exact h.ow p hp1
  · intro v hv1
    rw [n3] at hv1
    rw [hv v (by omega) 0 (by omega), hv v (by omega) 1 (by omega), hv v (by omega) 2 (by omega), h0 1 (by omega) (by omega)]
    exact h.vo v hv1
theorem zB_ag {e f : Nat → Int32} (h : zB e) (w : xr_W e) (h1 : f 1 = e 1) (h2 : f 2 = e 2) (hs : ∀ s, s < 6 → f (10 + 7 * s + 4) = e (10 + 7 * s + 4)) (hp : ∀ p, p < 24 → f (52 + 5 * p + 3) = e (52 + 5 * p + 3) ∧ f (52 + 5 * p + 4) = e (52 + 5 * p + 4)) : zB f := by
  have l1 := xr_1 w
  have l2 := xr_2 w
  have n2 := zn_ag h2
  have z2 : zn e 2 = (e 2).toInt.toNat := rfl
  refine ⟨?_, ?_⟩
  · intro p hp1
    rw [n2] at hp1
    rw [(hp p (by omega)).1, h1]
    exact h.inn p hp1
  · intro p hp1
    rw [n2] at hp1
    rw [(hp p (by omega)).1, (hp p (by omega)).2, h.lo p hp1]
    have i := h.inn p hp1
    have y : (e (52 + 5 * p + 3)).toNatClampNeg = (e (52 + 5 * p + 3)).toInt.toNat := rfl
    rw [hs _ (by omega)]
theorem zC_ag {e f : Nat → Int32} {b : Int} (h : zC e b) (w : xr_W e) (h1 : f 1 = e 1) (h3 : f 3 = e 3) (hs : ∀ s, s < 6 → f (10 + 7 * s + 4) = e (10 + 7 * s + 4) ∧ f (10 + 7 * s + 5) = e (10 + 7 * s + 5)) (hv : ∀ v, v < 8 → f (172 + 5 * v + 0) = e (172 + 5 * v + 0) ∧ f (172 + 5 * v + 2) = e (172 + 5 * v + 2) ∧ f (172 + 5 * v + 4) = e (172 + 5 * v + 4)) : zC f b := by
  have l1 := xr_1 w
  have l3 := xr_3 w
  have n1 := zn_ag h1
  have n3 := zn_ag h3
  have z1 : zn e 1 = (e 1).toInt.toNat := rfl
  have z3 : zn e 3 = (e 3).toInt.toNat := rfl
  refine ⟨?_, ?_, ?_, ?_⟩
  · intro s hs1
    rw [n1] at hs1
    rw [(hs s (by omega)).1]
    exact h.st s hs1
  · intro s hs1
    rw [n1] at hs1
    rw [(hs s (by omega)).1, (hs s (by omega)).2]
    intro e1
    obtain ⟨v, a, b, c, d, g⟩ := h.on s hs1 e1
    have q := hv v (by omega)
    exact ⟨v, by rw [n3]; exact a, b, by rw [q.1]; exact c, by rw [q.2.2]; exact d, by rw [q.2.1]; exact g⟩
  · intro s hs1
    rw [n1] at hs1
    rw [(hs s (by omega)).1, (hs s (by omega)).2]
    exact h.no s hs1
  · intro v hv1
    rw [n3] at hv1
    have q := hv v (by omega)
    rw [q.1, q.2.2]
    intro e1
    obtain ⟨s, a, b, c, d⟩ := h.vc v hv1 e1
    exact ⟨s, by rw [n1]; exact a, b, by rw [(hs s (by omega)).1]; exact c, by rw [(hs s (by omega)).2]; exact d⟩
theorem zD_ag {e f : Nat → Int32} (h : zD e) (w : xr_W e) (h2 : f 2 = e 2) (h4 : f 4 = e 4) (h5 : f 5 = e 5) (h6 : f 6 = e 6) (hp : ∀ p, p < 24 → f (52 + 5 * p + 1) = e (52 + 5 * p + 1)) : zD f := by
  have l2 := xr_2 w
  have n2 := zn_ag h2
  have z2 : zn e 2 = (e 2).toInt.toNat := rfl
  refine ⟨?_, ?_, ?_⟩
  · rw [h5, h6]
    exact h.h6
  · rw [h4]
    exact h.d4
  · intro p hp1
    rw [n2] at hp1
    rw [hp p (by omega)]
    exact h.ro p hp1
theorem zn_b {e : Nat → Int32} (h : xr_W e) : zn e 0 ≤ 4 ∧ zn e 1 ≤ 6 ∧ zn e 2 ≤ 24 ∧ zn e 3 ≤ 8 ∧ ((e 0).toInt = zn e 0) ∧ ((e 1).toInt = zn e 1) ∧ ((e 2).toInt = zn e 2) ∧ ((e 3).toInt = zn e 3) := by
  have a := xr_0 h
  have b := xr_1 h
  have c := xr_2 h
  have d := xr_3 h
  unfold zn
  rw [zn_t, zn_t, zn_t, zn_t]
  omega
/-- an index that the loop's test let through -/
theorem zx {e : Nat → Int32} {k : Nat} {i : Int32} (hn : (e k).toInt = zn e k) (h0 : 0 ≤ i.toInt) (h1 : ¬ e k ≤ i) : i.toNatClampNeg < zn e k ∧ i.toInt = i.toNatClampNeg := by
  have h : ¬ (e k).toInt ≤ i.toInt := fun c => h1 (Int32.le_iff_toInt_le.mpr c)
  rw [zn_t]
  omega
theorem zx_p {p : Nat → Nat} {J : Nat → Nat → Int32} {i : Int32} {k : Nat} (h0 : 0 ≤ i.toInt) (h1 : i.toInt ≤ 1000) (hk : k < 1000) : x173 p i (Int32.ofInt (k : Int)) J = J (p 4) (52 + 5 * i.toNatClampNeg + k) := by
  unfold x173
  rw [show ((Int32.ofInt 52 + Int32.ofInt 5 * i) + Int32.ofInt (k : Int)).toNatClampNeg = 52 + 5 * i.toInt.toNat + k from xi_3 (a := 52) (m := 5) (b := k) (by omega) (by omega) hk h0 h1]
  rfl
theorem zx_v {p : Nat → Nat} {J : Nat → Nat → Int32} {i : Int32} {k : Nat} (h0 : 0 ≤ i.toInt) (h1 : i.toInt ≤ 1000) (hk : k < 1000) : x180 p i (Int32.ofInt (k : Int)) J = J (p 4) (172 + 5 * i.toNatClampNeg + k) := by
  unfold x180
  rw [show ((Int32.ofInt 172 + Int32.ofInt 5 * i) + Int32.ofInt (k : Int)).toNatClampNeg = 172 + 5 * i.toInt.toNat + k from xi_3 (a := 172) (m := 5) (b := k) (by omega) (by omega) hk h0 h1]
  rfl
theorem zx_s {p : Nat → Nat} {J : Nat → Nat → Int32} {i : Int32} {k : Nat} (h0 : 0 ≤ i.toInt) (h1 : i.toInt ≤ 1000) (hk : k < 1000) : x169 p i (Int32.ofInt (k : Int)) J = J (p 4) (10 + 7 * i.toNatClampNeg + k) := by
  unfold x169
  rw [show ((Int32.ofInt 10 + Int32.ofInt 7 * i) + Int32.ofInt (k : Int)).toNatClampNeg = 10 + 7 * i.toInt.toNat + k from xi_3 (a := 10) (m := 7) (b := k) (by omega) (by omega) hk h0 h1]
  rfl
/-- all of a plank -/
theorem zP {q p : Nat → Nat} {Jc Jr : Nat → Nat → Int32} {i : Int32} (hR : zR q Jc (Jr (p 4))) (hW : xr_W (Jr (p 4))) (h0 : 0 ≤ i.toInt) (h1 : ¬ Jr (p 4) 2 ≤ i) :
    i.toNatClampNeg < zn (Jr (p 4)) 2 ∧ i.toInt = i.toNatClampNeg ∧
    Jc (q 3) i.toNatClampNeg = Jr (p 4) (52 + 5 * i.toNatClampNeg + 0) ∧ Jc (q 13) i.toNatClampNeg = Jr (p 4) (52 + 5 * i.toNatClampNeg + 1) ∧ Jc (q 5) i.toNatClampNeg = Jr (p 4) (52 + 5 * i.toNatClampNeg + 2) ∧ Jc (q 14) i.toNatClampNeg = Jr (p 4) (52 + 5 * i.toNatClampNeg + 3) ∧ Jc (q 15) i.toNatClampNeg = Jr (p 4) (52 + 5 * i.toNatClampNeg + 4) ∧
    x173 p i (Int32.ofInt 0) Jr = Jr (p 4) (52 + 5 * i.toNatClampNeg + 0) ∧ x173 p i (Int32.ofInt 1) Jr = Jr (p 4) (52 + 5 * i.toNatClampNeg + 1) ∧ x173 p i (Int32.ofInt 2) Jr = Jr (p 4) (52 + 5 * i.toNatClampNeg + 2) ∧ x173 p i (Int32.ofInt 3) Jr = Jr (p 4) (52 + 5 * i.toNatClampNeg + 3) ∧ x173 p i (Int32.ofInt 4) Jr = Jr (p 4) (52 + 5 * i.toNatClampNeg + 4) := by
  have b := zn_b hW
  have x := zx b.2.2.2.2.2.2.1 h0 h1
  have l : i.toNatClampNeg < 24 := by omega
  have l2 : i.toInt ≤ 1000 := by omega
  exact ⟨x.1, x.2, zR_p hR x.1 l (by omega) (zc_p0 _ l), zR_p hR x.1 l (by omega) (zc_p1 _ l), zR_p hR x.1 l (by omega) (zc_p2 _ l), zR_p hR x.1 l (by omega) (zc_p3 _ l), zR_p hR x.1 l (by omega) (zc_p4 _ l), zx_p (k := 0) h0 l2 (by omega), zx_p (k := 1) h0 l2 (by omega), zx_p (k := 2) h0 l2 (by omega), zx_p (k := 3) h0 l2 (by omega), zx_p (k := 4) h0 l2 (by omega)⟩
/-- all of a voyage -/
theorem zV {q p : Nat → Nat} {Jc Jr : Nat → Nat → Int32} {i : Int32} (hR : zR q Jc (Jr (p 4))) (hW : xr_W (Jr (p 4))) (h0 : 0 ≤ i.toInt) (h1 : ¬ Jr (p 4) 3 ≤ i) :
    i.toNatClampNeg < zn (Jr (p 4)) 3 ∧ i.toInt = i.toNatClampNeg ∧
    Jc (q 6) i.toNatClampNeg = Jr (p 4) (172 + 5 * i.toNatClampNeg + 0) ∧ Jc (q 7) i.toNatClampNeg = Jr (p 4) (172 + 5 * i.toNatClampNeg + 1) ∧ Jc (q 8) i.toNatClampNeg = Jr (p 4) (172 + 5 * i.toNatClampNeg + 2) ∧ Jc (q 9) i.toNatClampNeg = Jr (p 4) (172 + 5 * i.toNatClampNeg + 3) ∧ Jc (q 16) i.toNatClampNeg = Jr (p 4) (172 + 5 * i.toNatClampNeg + 4) ∧
    x180 p i (Int32.ofInt 0) Jr = Jr (p 4) (172 + 5 * i.toNatClampNeg + 0) ∧ x180 p i (Int32.ofInt 1) Jr = Jr (p 4) (172 + 5 * i.toNatClampNeg + 1) ∧ x180 p i (Int32.ofInt 2) Jr = Jr (p 4) (172 + 5 * i.toNatClampNeg + 2) ∧ x180 p i (Int32.ofInt 3) Jr = Jr (p 4) (172 + 5 * i.toNatClampNeg + 3) ∧ x180 p i (Int32.ofInt 4) Jr = Jr (p 4) (172 + 5 * i.toNatClampNeg + 4) := by
  have b := zn_b hW
  have x := zx b.2.2.2.2.2.2.2 h0 h1
  have l : i.toNatClampNeg < 8 := by omega
  have l2 : i.toInt ≤ 1000 := by omega
  exact ⟨x.1, x.2, zR_v hR x.1 l (by omega) (zc_v0 _ l), zR_v hR x.1 l (by omega) (zc_v1 _ l), zR_v hR x.1 l (by omega) (zc_v2 _ l), zR_v hR x.1 l (by omega) (zc_v3 _ l), zR_v hR x.1 l (by omega) (zc_v4 _ l), zx_v (k := 0) h0 l2 (by omega), zx_v (k := 1) h0 l2 (by omega), zx_v (k := 2) h0 l2 (by omega), zx_v (k := 3) h0 l2 (by omega), zx_v (k := 4) h0 l2 (by omega)⟩
/-- all of a ship but what she must have -/
theorem zS {q p : Nat → Nat} {Jc Jr : Nat → Nat → Int32} {i : Int32} (hR : zR q Jc (Jr (p 4))) (hW : xr_W (Jr (p 4))) (h0 : 0 ≤ i.toInt) (h1 : i.toInt < (Jr (p 4) 1).toInt) :
    i.toNatClampNeg < zn (Jr (p 4)) 1 ∧ i.toInt = i.toNatClampNeg ∧
    Jc (q 10) i.toNatClampNeg = Jr (p 4) (10 + 7 * i.toNatClampNeg + 4) ∧ Jc (q 12) i.toNatClampNeg = Jr (p 4) (10 + 7 * i.toNatClampNeg + 5) ∧ Jc (q 11) i.toNatClampNeg = Jr (p 4) (10 + 7 * i.toNatClampNeg + 6) ∧
    x169 p i (Int32.ofInt 4) Jr = Jr (p 4) (10 + 7 * i.toNatClampNeg + 4) ∧ x169 p i (Int32.ofInt 5) Jr = Jr (p 4) (10 + 7 * i.toNatClampNeg + 5) ∧ x169 p i (Int32.ofInt 6) Jr = Jr (p 4) (10 + 7 * i.toNatClampNeg + 6) := by
  have b := zn_b hW
  have x : i.toNatClampNeg < zn (Jr (p 4)) 1 ∧ i.toInt = i.toNatClampNeg := by
    rw [zn_t]
    omega
  have l : i.toNatClampNeg < 6 := by omega
  have l2 : i.toInt ≤ 1000 := by omega
  exact ⟨x.1, x.2, zR_s hR x.1 l (by omega) (by omega) (zc_s4 _ l), zR_s hR x.1 l (by omega) (by omega) (zc_s5 _ l), zR_s hR x.1 l (by omega) (by omega) (zc_s6 _ l), zx_s (k := 4) h0 l2 (by omega), zx_s (k := 5) h0 l2 (by omega), zx_s (k := 6) h0 l2 (by omega)⟩
end
section
/-! questions: the class's answer is the reference's -/
theorem zi_i {b i : Int32} (n : ¬ b ≤ i) (h : 0 ≤ i.toInt) : 0 ≤ (i + Int32.ofInt 1).toInt := xi_nn n h
theorem z_o0 : Int32.ofInt 0 = 0 := rfl
theorem z_o1 : Int32.ofInt 1 = 1 := rfl
theorem z_add0 {x : Int32} : x + Int32.ofInt 0 = x := Int32.add_zero x
theorem z_sub0 {x : Int32} : x - Int32.ofInt 0 = x := Int32.sub_zero x
theorem z_sub1 {x : Int32} : x + Int32.ofInt (-1) = x - Int32.ofInt 1 := by
  rw [Int32.sub_eq_add_neg]
  rfl
/-- of the planks in this ship none is lost -/
def zl (e : Nat → Int32) (s : Int32) : Prop := ∀ n, n < zn e 2 → e (52 + 5 * n + 3) = s → e (52 + 5 * n + 4) = 0
theorem z_in {p : Nat → Nat} {Jr : Nat → Nat → Int32} {i s a1 a3 a4 : Int32} (e1 : x173 p i (Int32.ofInt 1) Jr = a1) (e3 : x173 p i (Int32.ofInt 3) Jr = a3) (e4 : x173 p i (Int32.ofInt 4) Jr = a4) (h : a3 = s → a4 = 0) : x171 p i s Jr = if a3 = s then (if a1 ≤ 0 then 0 else 1) else 0 := by
  unfold x171 x172
  rw [e1, e3, e4]
  by_cases c1 : a1 ≤ 0
  · rw [if_pos c1, if_pos (show Int32.ofInt 0 = 0 from rfl), if_pos c1]
    split <;> rfl
  · rw [if_neg c1]
    by_cases c3 : a3 = s
    · rw [if_pos (h c3), if_neg (show ¬ Int32.ofInt 1 = 0 from by decide), if_pos c3, if_pos c3, if_neg c1]
      rfl
    · rw [if_neg c3, if_neg c3]
      split <;> rfl
theorem zq_66l {q p : Nat → Nat} {Jc Jr : Nat → Nat → Int32} {s : Int32} (hR : zR q Jc (Jr (p 4))) (hW : xr_W (Jr (p 4))) (hl : zl (Jr (p 4)) s) : ∀ (c : Nat) (a i : Int32), 0 ≤ i.toInt → x66_4 q s Jc c a i = x170_4 p s Jr c a i := by
  intro c
  induction c with
  | zero => intro a i h; rfl
  | succ c ih =>
    intro a i h
    rw [x66_4, x170_4, zR_n hR (by omega)]
    by_cases h1 : Jr (p 4) 2 ≤ i
    · rw [if_pos h1, if_pos h1]
    · rw [if_neg h1, if_neg h1]
      obtain ⟨hn, hi, c0, c1, c2, c3, c4, r0, r1, r2, r3, r4⟩ := zP hR hW h h1
      rw [z_in r1 r3 r4 (hl _ hn), c1, c3]
      by_cases h3 : Jr (p 4) (52 + 5 * i.toNatClampNeg + 3) = s
      · rw [if_pos h3, if_pos h3]
        by_cases h2 : Jr (p 4) (52 + 5 * i.toNatClampNeg + 1) ≤ 0
        · rw [if_pos h2, if_pos h2, if_pos rfl, z_add0]
          exact ih _ _ (zi_i h1 h)
        · rw [if_neg h2, if_neg h2, if_neg (show ¬ (1 : Int32) = 0 from by decide)]
          exact ih _ _ (zi_i h1 h)
      · rw [if_neg h3, if_neg h3, if_pos rfl, z_add0]
        exact ih _ _ (zi_i h1 h)
theorem zq_66 {q p : Nat → Nat} {Jc Jr : Nat → Nat → Int32} {s : Int32} (hR : zR q Jc (Jr (p 4))) (hW : xr_W (Jr (p 4))) (hl : zl (Jr (p 4)) s) : x66 q s Jc = x170 p s Jr := by
  unfold x66 x170
  rw [zR_n hR (by omega)]
  exact zq_66l hR hW hl _ _ _ (by decide)
theorem z_mx {x : Int32} : (if x < Int32.ofInt 0 then Int32.ofInt 0 else x) = (if 0 ≤ x then x else Int32.ofInt 0) := by
  by_cases h : x < Int32.ofInt 0
  · rw [if_pos h, if_neg]
    intro c
    have c := Int32.le_iff_toInt_le.mp c
    have h := Int32.lt_iff_toInt_lt.mp h
    rw [show (0 : Int32).toInt = (Int32.ofInt 0).toInt from rfl] at c
    omega
  · rw [if_neg h, if_pos]
    apply Int32.le_iff_toInt_le.mpr
    have h : ¬ x.toInt < (Int32.ofInt 0).toInt := fun c => h (Int32.lt_iff_toInt_lt.mpr c)
    rw [show (0 : Int32).toInt = (Int32.ofInt 0).toInt from rfl]
    omega
theorem zq_68l {q p : Nat → Nat} {Jc Jr : Nat → Nat → Int32} {s k : Int32} (hR : zR q Jc (Jr (p 4))) (hW : xr_W (Jr (p 4))) (hl : zl (Jr (p 4)) s) : ∀ (c : Nat) (a i : Int32), 0 ≤ i.toInt → x68_13 q s k Jc c a i = x175_10 p s k Jr c a i := by
  intro c
  induction c with
  | zero =>
    intro a i h
    rw [x68_13, x175_10]
    exact z_mx
  | succ c ih =>
    intro a i h
    rw [x68_13, x175_10, zR_n hR (by omega)]
    by_cases h1 : Jr (p 4) 2 ≤ i
    · rw [if_pos h1, if_pos h1]
      exact z_mx
    · rw [if_neg h1, if_neg h1]
      obtain ⟨hn, hi, c0, c1, c2, c3, c4, r0, r1, r2, r3, r4⟩ := zP hR hW h h1
      rw [z_in r1 r3 r4 (hl _ hn), c0, c1, c3, r0]
      by_cases h3 : Jr (p 4) (52 + 5 * i.toNatClampNeg + 3) = s
      · rw [if_pos h3, if_pos h3]
        by_cases h2 : Jr (p 4) (52 + 5 * i.toNatClampNeg + 1) ≤ 0
        · rw [if_pos h2, if_pos h2, if_pos rfl, z_sub0]
          exact ih _ _ (zi_i h1 h)
        · rw [if_neg h2, if_neg h2, if_neg (show ¬ (1 : Int32) = 0 from by decide)]
          by_cases h4 : Jr (p 4) (52 + 5 * i.toNatClampNeg + 0) = k
          · rw [if_pos h4, if_pos h4, z_sub1]
            exact ih _ _ (zi_i h1 h)
          · rw [if_neg h4, if_neg h4, z_sub0]
            exact ih _ _ (zi_i h1 h)
      · rw [if_neg h3, if_neg h3, if_pos rfl, z_sub0]
        exact ih _ _ (zi_i h1 h)
theorem zq_87 {q p : Nat → Nat} {Jc Jr : Nat → Nat → Int32} {s k : Int32} (hR : zR q Jc (Jr (p 4))) (hW : xr_W (Jr (p 4))) (hs : 0 ≤ s.toInt ∧ s.toInt < (Jr (p 4) 1).toInt) (hk : 0 ≤ k.toInt ∧ k.toInt < (Jr (p 4) 0).toInt) : x87 q s k Jc = Jr (p 4) (10 + 7 * s.toNatClampNeg + k.toNatClampNeg) ∧ x169 p s k Jr = Jr (p 4) (10 + 7 * s.toNatClampNeg + k.toNatClampNeg) := by
  have b := zn_b hW
  have hs' : s.toInt = s.toNatClampNeg := by rw [zn_t]; omega
  have hk' : k.toInt = k.toNatClampNeg := by rw [zn_t]; omega
  have ek : k = Int32.ofInt (k.toNatClampNeg : Int) := by
    rw [← hk']
    exact (Int32.ofInt_toInt k).symm
  refine ⟨?_, ?_⟩
  · unfold x87
    have e1 : (s * Int32.ofInt 4).toInt = 4 * s.toInt := by
      rw [Int32.toInt_mul, show (Int32.ofInt 4).toInt = 4 from by decide, Int.bmod_eq_of_le (by omega) (by omega)]
      omega
    have e2 : (s * Int32.ofInt 4 + k).toNatClampNeg = 4 * s.toNatClampNeg + k.toNatClampNeg := by
      show Int.toNat _ = _
      rw [Int32.toInt_add, e1, Int.bmod_eq_of_le (by omega) (by omega)]
      omega
    rw [e2]
    exact zR_s hR (by omega) (by omega) (by omega) (by omega) (zc_m _ (by omega) _ (by omega))
  · have t := zx_s (p := p) (J := Jr) (i := s) (k := k.toNatClampNeg) hs.1 (by omega) (by omega)
    rw [← ek] at t
    exact t
theorem zq_68 {q p : Nat → Nat} {Jc Jr : Nat → Nat → Int32} {s k : Int32} (hR : zR q Jc (Jr (p 4))) (hW : xr_W (Jr (p 4))) (hl : zl (Jr (p 4)) s) (hs : 0 ≤ s.toInt ∧ s.toInt < (Jr (p 4) 1).toInt) (hk : 0 ≤ k.toInt ∧ k.toInt < (Jr (p 4) 0).toInt) : x68 q s k Jc = x175 p s k Jr := by
  unfold x68 x175
  rw [zR_n hR (by omega), (zq_87 hR hW hs hk).1, (zq_87 hR hW hs hk).2]
  exact zq_68l hR hW hl _ _ _ (by decide)
theorem z_lt {b i : Int32} (n : ¬ b ≤ i) : i.toInt < b.toInt := by
  have : ¬ b.toInt ≤ i.toInt := fun c => n (Int32.le_iff_toInt_le.mpr c)
  omega
theorem zq_67l {q p : Nat → Nat} {Jc Jr : Nat → Nat → Int32} {s : Int32} (hR : zR q Jc (Jr (p 4))) (hW : xr_W (Jr (p 4))) (hl : zl (Jr (p 4)) s) (hs : 0 ≤ s.toInt ∧ s.toInt < (Jr (p 4) 1).toInt) : ∀ (c : Nat) (i : Int32), 0 ≤ i.toInt → x67_2 q s Jc c i = x174_2 p s Jr c i := by
  intro c
  induction c with
  | zero => intro i h; rfl
  | succ c ih =>
    intro i h
    rw [x67_2, x174_2, zR_n hR (by omega)]
    by_cases h1 : Jr (p 4) 0 ≤ i
    · rw [if_pos h1, if_pos h1]
    · rw [if_neg h1, if_neg h1, zq_68 hR hW hl hs ⟨h, z_lt h1⟩, ih _ (zi_i h1 h)]
theorem zq_67 {q p : Nat → Nat} {Jc Jr : Nat → Nat → Int32} {s : Int32} (hR : zR q Jc (Jr (p 4))) (hW : xr_W (Jr (p 4))) (hl : zl (Jr (p 4)) s) (hs : 0 ≤ s.toInt ∧ s.toInt < (Jr (p 4) 1).toInt) : x67 q s Jc = x174 p s Jr := by
  unfold x67 x174
  rw [zR_n hR (by omega)]
  exact zq_67l hR hW hl hs _ _ (by decide)
theorem zq_88l {q p : Nat → Nat} {Jc Jr : Nat → Nat → Int32} {s : Int32} (hR : zR q Jc (Jr (p 4))) (hW : xr_W (Jr (p 4))) : ∀ (c : Nat) (i : Int32), 0 ≤ i.toInt → x88_2 q s (Jr (p 4) 4) Jc c i = x195_2 p s Jr c i := by
  intro c
  induction c with
  | zero => intro i h; rfl
  | succ c ih =>
    intro i h
    rw [x88_2, x195_2, zR_n hR (by omega)]
    by_cases h1 : Jr (p 4) 3 ≤ i
    · rw [if_pos h1, if_pos h1]
    · obtain ⟨hn, hi, c0, c1, c2, c3, c4, r0, r1, r2, r3, r4⟩ := zV hR hW h h1
      rw [if_neg h1, if_neg h1, ih _ (zi_i h1 h), c0, c1, r0, r1]
theorem zq_88 {q p : Nat → Nat} {Jc Jr : Nat → Nat → Int32} {s : Int32} (hR : zR q Jc (Jr (p 4))) (hW : xr_W (Jr (p 4))) : x88 q s (Jc (q 0) 2) Jc = x195 p s Jr := by
  unfold x88 x195
  rw [zR_n hR (by omega), zR_4 hR]
  exact zq_88l hR hW _ _ (by decide)
theorem z_le0 {x : Int32} : x < 0 ↔ x.toInt < 0 := by
  rw [Int32.lt_iff_toInt_lt]
  exact Iff.rfl
theorem z_ge {x b : Int32} : b ≤ x ↔ b.toInt ≤ x.toInt := Int32.le_iff_toInt_le
/-- a plank that can be had -/
theorem zq_73 {q p : Nat → Nat} {Jc Jr : Nat → Nat → Int32} {i : Int32} (hR : zR q Jc (Jr (p 4))) {b : Int} (hW : zW (Jr (p 4)) b) (h : 0 ≤ i.toInt) (h1 : ¬ Jr (p 4) 2 ≤ i) : x73 q i Jc = x183 p i Jr := by
  have bb := zn_b hW.w
  obtain ⟨hn, hi, c0, c1, c2, c3, c4, r0, r1, r2, r3, r4⟩ := zP hR hW.w h h1
  unfold x73 x183 x172 x65
  rw [c1, c3, c4, r1, r3, r4, zR_n hR (by omega)]
  generalize ha1 : Jr (p 4) (52 + 5 * i.toNatClampNeg + 1) = a1
  have hin := hW.b.inn _ hn
  have hlo := hW.b.lo _ hn
  have o0 : Int32.ofInt 0 = 0 := rfl
  have o1 : ¬ Int32.ofInt 1 = 0 := by decide
  by_cases n3 : (Jr (p 4) (52 + 5 * i.toNatClampNeg + 3)).toInt < 0
  · have hz : Jr (p 4) (52 + 5 * i.toNatClampNeg + 4) = 0 := by
      rw [hlo, if_neg (fun c => by omega)]
    simp only [if_pos (z_le0.mpr n3), if_pos hz, if_pos o0, if_neg o1]
    by_cases c1 : a1 ≤ 0
    · simp only [if_pos c1, if_pos o0]
    · simp only [if_neg c1, if_neg o1]
  · have s1 := zS hR hW.w (i := Jr (p 4) (52 + 5 * i.toNatClampNeg + 3)) (by omega) hin.2
    obtain ⟨sn, si, t4, t5, t6, u4, u5, u6⟩ := s1
    have g1 : ¬ Jr (p 4) 1 ≤ Jr (p 4) (52 + 5 * i.toNatClampNeg + 3) := fun c => by have := z_ge.mp c; omega
    unfold x182
    rw [t4, u4]
    simp only [if_neg (fun c => n3 (z_le0.mp c) : ¬ Jr (p 4) (52 + 5 * i.toNatClampNeg + 3) < 0), if_neg g1, if_neg o1]
    have hst := hW.c.st _ sn
    by_cases c1 : a1 ≤ 0
    · simp only [if_pos c1, if_pos o0, ite_self]
    · simp only [if_neg c1]
      rcases hst with e0 | e1 | e2
      · rw [if_neg (fun c => by rw [e0] at c; exact absurd c.2 (by decide))] at hlo
        rw [hlo, e0]
        rfl
      · rw [if_neg (fun c => by rw [e1] at c; exact absurd c.2 (by decide))] at hlo
        rw [hlo, e1]
        rfl
      · rw [if_pos ⟨by omega, e2⟩] at hlo
        rw [hlo, e2]
        rfl
/-- a plank that can be taken for a ship -/
theorem zq_7 {q p : Nat → Nat} {Jc Jr : Nat → Nat → Int32} {i s k : Int32} (hR : zR q Jc (Jr (p 4))) {b : Int} (hW : zW (Jr (p 4)) b) (h : 0 ≤ i.toInt) (h1 : ¬ Jr (p 4) 2 ≤ i) : (if Jc (q 3) i.toNatClampNeg = k then x7 q i s Jc else Int32.ofInt 0) = x194 p i s k Jr := by
  obtain ⟨hn, hi, c0, c1, c2, c3, c4, r0, r1, r2, r3, r4⟩ := zP hR hW.w h h1
  have hin := hW.b.inn _ hn
  unfold x7 x194
  rw [c0, c3, r0, r3, zq_73 hR hW h h1, zq_88 hR hW.w]
  by_cases f : x183 p i Jr = 0
  · rw [if_pos f, if_pos f]
    split
    · split <;> rfl
    · rfl
  · rw [if_neg f, if_neg f]
    by_cases hk : Jr (p 4) (52 + 5 * i.toNatClampNeg + 0) = k
    · rw [if_pos hk, if_pos hk]
      by_cases h3 : Jr (p 4) (52 + 5 * i.toNatClampNeg + 3) = s
      · rw [if_pos h3, if_pos h3]
      · rw [if_neg h3, if_neg h3]
        by_cases n : Jr (p 4) (52 + 5 * i.toNatClampNeg + 3) = Int32.ofInt (-1)
        · have nl : Jr (p 4) (52 + 5 * i.toNatClampNeg + 3) < 0 := by
            rw [n]
            decide
          rw [if_pos n, if_pos nl]
        · have nl : ¬ Jr (p 4) (52 + 5 * i.toNatClampNeg + 3) < 0 := by
            intro c
            apply n
            have := z_le0.mp c
            apply Int32.toInt_inj.mp
            rw [xi_m1]
            omega
          rw [if_neg n, if_neg nl]
    · rw [if_neg hk, if_neg hk]
end
