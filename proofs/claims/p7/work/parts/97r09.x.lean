/-! years, the other side -/
theorem xb_dec {x : Int32} {c : Nat} (h : ¬ x = 0) (hc : x.toBitVec.toNat ≤ c + 1) : (x &&& (x - Int32.ofInt 1)).toBitVec.toNat ≤ c := by
  have h1 : x.toBitVec.toNat ≠ 0 := fun e => h (Int32.toBitVec_inj.mp (BitVec.eq_of_toNat_eq (e.trans (by decide))))
  have h3 : (Int32.ofInt 1).toBitVec.toNat = 1 := by decide
  have h4 := x.toBitVec.isLt
  have h2 : (x - Int32.ofInt 1).toBitVec.toNat = x.toBitVec.toNat - 1 := by
    rw [Int32.toBitVec_sub, BitVec.toNat_sub, h3]
    omega
  rw [Int32.toBitVec_and, BitVec.toNat_and]
  have h5 : x.toBitVec.toNat &&& (x - Int32.ofInt 1).toBitVec.toNat ≤ (x - Int32.ofInt 1).toBitVec.toNat := Nat.and_le_right
  omega
theorem xb_end {x : Int32} (hc : x.toBitVec.toNat ≤ 0) : x = 0 := Int32.toBitVec_inj.mp (BitVec.eq_of_toNat_eq ((Nat.le_zero.mp hc).trans (by decide)))
/-! Model.bits -/
def x214_4  : Nat → Int32 → Int32 → Int32
  | 0, v1, v2 => v1
  | c + 1, v1, v2 => if v2 = 0 then v1
    else (x214_4 c (v1 + (Int32.ofInt 1)) (v2 &&& (v2 - (Int32.ofInt 1))))
theorem xt214_4 {X : nt_X} {d : Nat} {M : nt_M} {o : Option Value × nt_M} {v0 : Int32} {J : Nat → Nat → Int32}  : ∀ (c : Nat) (v1 : Int32) (v2 : Int32), (v2.toBitVec.toNat ≤ c) → nt_rn X d 214 (4, [(0, .int v0), (1, .int v1), (2, .int v2)], [], me_w M J) o → o = (some (.int (x214_4 c v1 v2)), me_w M J) := by
  intro c
  induction c with
  | zero =>
    intro v1 v2 hc k
    have k := ly_revb 2 (c' := (if v2 = 0 then 20 else 8, [(0, .int v0), (1, .int v1), (2, .int v2)], [], me_w M J)) rfl k
    have h5 : v2 = 0 := xb_end hc
    rw [if_pos h5] at k
    have k := ly_revb 1 (c' := (21, [(0, .int v0), (1, .int v1), (2, .int v2)], [.int v1], me_w M J)) rfl k
    have k := lz_ri rfl (by decide) k
    rw [k, x214_4]
  | succ c ih =>
    intro v1 v2 hc k
    have k := ly_revb 2 (c' := (if v2 = 0 then 20 else 8, [(0, .int v0), (1, .int v1), (2, .int v2)], [], me_w M J)) rfl k
    by_cases h5 : v2 = 0
    · rw [if_pos h5] at k
      have k := ly_revb 1 (c' := (21, [(0, .int v0), (1, .int v1), (2, .int v2)], [.int v1], me_w M J)) rfl k
      have k := lz_ri rfl (by decide) k
      rw [k, x214_4, if_pos h5]
    · rw [if_neg h5] at k
      have k := ly_revb 8 (c' := (4, [(2, .int (v2 &&& (v2 - (Int32.ofInt 1)))), (1, .int (v1 + (Int32.ofInt 1))), (0, .int v0)], [], me_w M J)) rfl k
      have k := nt_rn_w (a := [(2, .int (v2 &&& (v2 - (Int32.ofInt 1)))), (1, .int (v1 + (Int32.ofInt 1))), (0, .int v0)]) (b := [(0, .int v0), (1, .int (v1 + (Int32.ofInt 1))), (2, .int (v2 &&& (v2 - (Int32.ofInt 1))))]) ⟨rfl, rfl, rfl, trivial⟩ rfl k
      have k := ih (v1 + (Int32.ofInt 1)) (v2 &&& (v2 - (Int32.ofInt 1))) (xb_dec h5 hc) k
      rw [k, x214_4, if_neg h5]
theorem x214_4_rule {I : Nat → Int32 → Int32 → Prop} {Q : Int32 → Prop} (h0 : ∀ (v1 : Int32) (v2 : Int32), I 0 v1 v2 → Q v1) (h1 : ∀ (c : Nat) (v1 : Int32) (v2 : Int32), I (c + 1) v1 v2 →
    if v2 = 0 then (Q v1)
    else (I c (v1 + (Int32.ofInt 1)) (v2 &&& (v2 - (Int32.ofInt 1))))) : ∀ (c : Nat) (v1 : Int32) (v2 : Int32), I c v1 v2 → Q (x214_4 c v1 v2) := by
  intro c
  induction c with
  | zero =>
    intro v1 v2 hi
    rw [x214_4]
    exact h0 v1 v2 hi
  | succ c ih =>
    intro v1 v2 hi
    have hi := h1 c v1 v2 hi
    rw [x214_4]
    by_cases h : v2 = 0
    · rw [if_pos h] at hi ⊢
      exact hi
    · rw [if_neg h] at hi ⊢
      exact ih _ _ hi
def x214 (v0 : Int32) : Int32 := (x214_4 v0.toBitVec.toNat (Int32.ofInt 0) v0)
theorem xt214 {X : nt_X} {d : Nat} {M : nt_M} {o : Option Value × nt_M} {v0 : Int32} {J : Nat → Nat → Int32}  (k : nt_ev X d 214 [.int v0] (me_w M J) o) : o = (some (.int (x214 v0)), me_w M J) := by
  have k : nt_rn X d 214 (0, [(0, .int v0)], [], me_w M J) o := k
  have k := ly_revb 4 (c' := (4, [(2, .int v0), (1, .int (Int32.ofInt 0)), (0, .int v0)], [], me_w M J)) rfl k
  have k := nt_rn_w (a := [(2, .int v0), (1, .int (Int32.ofInt 0)), (0, .int v0)]) (b := [(0, .int v0), (1, .int (Int32.ofInt 0)), (2, .int v0)]) ⟨rfl, rfl, rfl, trivial⟩ rfl k
  have k := xt214_4   v0.toBitVec.toNat (Int32.ofInt 0) v0 (Nat.le_refl _) k
  rw [k, x214]
/-! Model.firstIn -/
def x232_2 (p : Nat → Nat) (v1 : Int32) (J : Nat → Nat → Int32) : Nat → Int32 → Int32
  | 0, v2 => (Int32.ofInt (-1))
  | c + 1, v2 => if (J (p 4) 2) ≤ v2 then (Int32.ofInt (-1))
    else if (x171 p v2 v1 J) = 0 then (x232_2 p v1 J c (v2 + (Int32.ofInt 1)))
      else v2
theorem xt232_2 {X : nt_X} {d : Nat} {M : nt_M} {o : Option Value × nt_M} {p : Nat → Nat} {v1 : Int32} {J : Nat → Nat → Int32} (hp : xs_P M p) : ∀ (c : Nat) (v2 : Int32), (J (p 4) 2).toInt - v2.toInt ≤ c → nt_rn X d 232 (2, [(0, .ref (p 0)), (1, .int v1), (2, .int v2)], [], me_w M J) o → o = (some (.int (x232_2 p v1 J c v2)), me_w M J) := by
  intro c
  induction c with
  | zero =>
    intro v2 hc k
    have k := ly_revb 2 (c' := (4, [(0, .ref (p 0)), (1, .int v1), (2, .int v2)], [.ref (p 0), .int v2], me_w M J)) rfl k
    have k := lz_get (a := (p 0)) (g := 1127) (M := me_w M J) (v := .ref (p 4)) rfl (nt_gfR rfl (hp.1 (0, 27, 4) (by decide))) k
    have k := ly_revb 1 (c' := (8, [(0, .ref (p 0)), (1, .int v1), (2, .int v2)], [.int (Int32.ofInt 2), .ref (p 4), .int v2], me_w M J)) rfl k
    have k := mx_iald (v := J (p 4) 2) rfl (hp.2.2.1 4 (by omega)) ((congrArg (J (p 4)) (show (Int32.ofInt 2).toNatClampNeg = 2 from rfl)).trans (rfl)) k
    have k := ly_revb 1 (c' := (if (J (p 4) 2) ≤ v2 then 29 else 12, [(0, .ref (p 0)), (1, .int v1), (2, .int v2)], [], me_w M J)) rfl k
    have h9 : (J (p 4) 2) ≤ v2 := lx_end hc
    rw [if_pos h9] at k
    have k := ly_revb 1 (c' := (30, [(0, .ref (p 0)), (1, .int v1), (2, .int v2)], [.int (Int32.ofInt (-1))], me_w M J)) rfl k
    have k := lz_ri rfl (by decide) k
    rw [k, x232_2]
  | succ c ih =>
    intro v2 hc k
    have k := ly_revb 2 (c' := (4, [(0, .ref (p 0)), (1, .int v1), (2, .int v2)], [.ref (p 0), .int v2], me_w M J)) rfl k
    have k := lz_get (a := (p 0)) (g := 1127) (M := me_w M J) (v := .ref (p 4)) rfl (nt_gfR rfl (hp.1 (0, 27, 4) (by decide))) k
    have k := ly_revb 1 (c' := (8, [(0, .ref (p 0)), (1, .int v1), (2, .int v2)], [.int (Int32.ofInt 2), .ref (p 4), .int v2], me_w M J)) rfl k
    have k := mx_iald (v := J (p 4) 2) rfl (hp.2.2.1 4 (by omega)) ((congrArg (J (p 4)) (show (Int32.ofInt 2).toNatClampNeg = 2 from rfl)).trans (rfl)) k
    have k := ly_revb 1 (c' := (if (J (p 4) 2) ≤ v2 then 29 else 12, [(0, .ref (p 0)), (1, .int v1), (2, .int v2)], [], me_w M J)) rfl k
    by_cases h9 : (J (p 4) 2) ≤ v2
    · rw [if_pos h9] at k
      have k := ly_revb 1 (c' := (30, [(0, .ref (p 0)), (1, .int v1), (2, .int v2)], [.int (Int32.ofInt (-1))], me_w M J)) rfl k
      have k := lz_ri rfl (by decide) k
      rw [k, x232_2, if_pos h9]
    · rw [if_neg h9] at k
      have k := ly_revb 3 (c' := (15, [(0, .ref (p 0)), (1, .int v1), (2, .int v2)], [.int v1, .int v2, .ref (p 0)], me_w M J)) rfl k
      obtain ⟨d1, o1, ed, kc, k⟩ := lz_c (g := 171) (q := 1) (vs := [.ref (p 0), .int v2, .int v1]) (rest := []) rfl rfl (by decide) (Or.inr (Or.inl ⟨_, rfl, rfl⟩)) rfl k
      have e1 := xt171 hp kc
      subst e1
      have k : nt_rn X _ 232 (18, [(0, .ref (p 0)), (1, .int v1), (2, .int v2)], [.int (x171 p v2 v1 J)], me_w M J) _ := k
      have k := ly_revb 1 (c' := (if (x171 p v2 v1 J) = 0 then 23 else 21, [(0, .ref (p 0)), (1, .int v1), (2, .int v2)], [], me_w M J)) rfl k
      by_cases h18 : (x171 p v2 v1 J) = 0
      · rw [if_pos h18] at k
        have k := ly_revb 2 (c' := (2, [(2, .int (v2 + (Int32.ofInt 1))), (0, .ref (p 0)), (1, .int v1)], [], me_w M J)) rfl k
        have k := nt_rn_w (a := [(2, .int (v2 + (Int32.ofInt 1))), (0, .ref (p 0)), (1, .int v1)]) (b := [(0, .ref (p 0)), (1, .int v1), (2, .int (v2 + (Int32.ofInt 1)))]) ⟨rfl, rfl, rfl, trivial⟩ rfl k
        have k := ih (v2 + (Int32.ofInt 1)) (lx_dec h9 hc) k
        rw [k, x232_2, if_neg h9, if_pos h18]
      · rw [if_neg h18] at k
        have k := ly_revb 1 (c' := (22, [(0, .ref (p 0)), (1, .int v1), (2, .int v2)], [.int v2], me_w M J)) rfl k
        have k := lz_ri rfl (by decide) k
        rw [k, x232_2, if_neg h9, if_neg h18]
theorem x232_2_rule {p : Nat → Nat} {v1 : Int32} {J : Nat → Nat → Int32} {I : Nat → Int32 → Prop} {Q : Int32 → Prop} (h0 : ∀ (v2 : Int32), I 0 v2 → Q (Int32.ofInt (-1))) (h1 : ∀ (c : Nat) (v2 : Int32), I (c + 1) v2 →
    if (J (p 4) 2) ≤ v2 then (Q (Int32.ofInt (-1)))
    else if (x171 p v2 v1 J) = 0 then (I c (v2 + (Int32.ofInt 1)))
      else (Q v2)) : ∀ (c : Nat) (v2 : Int32), I c v2 → Q (x232_2 p v1 J c v2) := by
  intro c
  induction c with
  | zero =>
    intro v2 hi
    rw [x232_2]
    exact h0 v2 hi
  | succ c ih =>
    intro v2 hi
    have hi := h1 c v2 hi
    rw [x232_2]
    by_cases h : (J (p 4) 2) ≤ v2
    · rw [if_pos h] at hi ⊢
      exact hi
    · rw [if_neg h] at hi ⊢
      by_cases h : (x171 p v2 v1 J) = 0
      · rw [if_pos h] at hi ⊢
        exact ih _ hi
      · rw [if_neg h] at hi ⊢
        exact hi
def x232 (p : Nat → Nat) (v1 : Int32) (J : Nat → Nat → Int32) : Int32 := (x232_2 p v1 J ((J (p 4) 2).toNatClampNeg) (Int32.ofInt 0))
theorem xt232 {X : nt_X} {d : Nat} {M : nt_M} {o : Option Value × nt_M} {p : Nat → Nat} {v1 : Int32} {J : Nat → Nat → Int32} (hp : xs_P M p) (k : nt_ev X d 232 [.ref (p 0), .int v1] (me_w M J) o) : o = (some (.int (x232 p v1 J)), me_w M J) := by
  have k : nt_rn X d 232 (0, [(0, .ref (p 0)), (1, .int v1)], [], me_w M J) o := k
  have k := ly_revb 2 (c' := (2, [(2, .int (Int32.ofInt 0)), (0, .ref (p 0)), (1, .int v1)], [], me_w M J)) rfl k
  have k := nt_rn_w (a := [(2, .int (Int32.ofInt 0)), (0, .ref (p 0)), (1, .int v1)]) (b := [(0, .ref (p 0)), (1, .int v1), (2, .int (Int32.ofInt 0))]) ⟨rfl, rfl, rfl, trivial⟩ rfl k
  have k := xt232_2 hp  ((J (p 4) 2).toNatClampNeg) (Int32.ofInt 0) (lx_beg (by decide)) k
  rw [k, x232]
theorem xw_232 {p : Nat → Nat} {s : Int32} {J : Nat → Nat → Int32} (hW : xr_W (J (p 4))) : x232 p s J = Int32.ofInt (-1) ∨ (0 ≤ (x232 p s J).toInt ∧ (x232 p s J).toInt ≤ 23) := by
  unfold x232
  refine x232_2_rule (I := fun _ v2 => 0 ≤ v2.toInt) (Q := fun r => r = Int32.ofInt (-1) ∨ (0 ≤ r.toInt ∧ r.toInt ≤ 23)) ?_ ?_ _ _ (by decide)
  · intro v2 h
    exact Or.inl rfl
  · intro c v2 h
    by_cases h1 : J (p 4) 2 ≤ v2
    · rw [if_pos h1]
      exact Or.inl rfl
    · rw [if_neg h1]
      have l24 := xi_lt h1 (xr_2 hW).2
      by_cases h2 : x171 p v2 s J = 0
      · rw [if_pos h2]
        exact xi_nn h1 h
      · rw [if_neg h2]
        exact Or.inr ⟨h, by omega⟩
theorem xw_dr {p : Nat → Nat} {s v : Int32} {J : Nat → Nat → Int32} (hW : xr_W (J (p 4))) (h : 0 ≤ x232 p s J) : xr_W (nt_u J (p 4) ((((Int32.ofInt 52) + ((Int32.ofInt 5) * (x232 p s J))) + (Int32.ofInt 1)).toNatClampNeg) v (p 4)) ∧ nt_u J (p 4) ((((Int32.ofInt 52) + ((Int32.ofInt 5) * (x232 p s J))) + (Int32.ofInt 1)).toNatClampNeg) v (p 4) 1 = J (p 4) 1 := by
  rcases xw_232 (s := s) hW with e | e
  · rw [e] at h
    exact absurd h (by decide)
  · rw [xi_p1 e.1 (by omega)]
    exact ⟨xr_up hW (xr_any (xr_bp (by omega) (by omega) (by omega) (by omega))), me_uk (by omega)⟩
theorem xw_229 {p : Nat → Nat} {J : Nat → Nat → Int32} (hn : p 7 ≠ p 4) (h : xr_W (J (p 7))) : xr_W (x229 p J (p 4)) := xr_ae (zpb hn).1 h
/-! Model.years -/
def x231_101 (p : Nat → Nat) (v1 : Int32) (v2 : Int32) (v3 : Int32) (v4 : Int32) (v5 : Int32) (v8 : Int32) (v9 : Int32) (v10 : Int32) (L : Nat → Nat → Int64) : Nat → Int64 → Int32 → (Nat → Nat → Int32) → Int64 × (Nat → Nat → Int32)
  | 0, v6, v11, J => (v6, J)
  | c + 1, v6, v11, J => if (J (p 4) 1) ≤ v11 then (v6, J)
    else if (x169 p v11 (Int32.ofInt 4) J) = (Int32.ofInt 1) then if 0 ≤ (x232 p v11 J) then if 0 ≤ (lg_cmp (((((v6 * 1103515245) + 12345) - ((v6 * 1103515245) + 12345) / 2147483648 * 2147483648) / 65536) - ((((v6 * 1103515245) + 12345) - ((v6 * 1103515245) + 12345) / 2147483648 * 2147483648) / 65536) / 100 * 100) v4.toInt64) then (x231_101 p v1 v2 v3 v4 v5 v8 v9 v10 L c (((v6 * 1103515245) + 12345) - ((v6 * 1103515245) + 12345) / 2147483648 * 2147483648) (v11 + (Int32.ofInt 1)) J)
          else if (x173 p (x232 p v11 J) (Int32.ofInt 1) J) ≤ (Int32.ofInt 1) then (x231_101 p v1 v2 v3 v4 v5 v8 v9 v10 L c (((v6 * 1103515245) + 12345) - ((v6 * 1103515245) + 12345) / 2147483648 * 2147483648) (v11 + (Int32.ofInt 1)) J)
            else (x231_101 p v1 v2 v3 v4 v5 v8 v9 v10 L c (((v6 * 1103515245) + 12345) - ((v6 * 1103515245) + 12345) / 2147483648 * 2147483648) (v11 + (Int32.ofInt 1)) (nt_u J (p 4) ((((Int32.ofInt 52) + ((Int32.ofInt 5) * (x232 p v11 J))) + (Int32.ofInt 1)).toNatClampNeg) ((J (p 4) ((((Int32.ofInt 52) + ((Int32.ofInt 5) * (x232 p v11 J))) + (Int32.ofInt 1)).toNatClampNeg)) - (Int32.ofInt 1))))
        else (x231_101 p v1 v2 v3 v4 v5 v8 v9 v10 L c v6 (v11 + (Int32.ofInt 1)) J)
      else (x231_101 p v1 v2 v3 v4 v5 v8 v9 v10 L c v6 (v11 + (Int32.ofInt 1)) J)
theorem xt231_101 {X : nt_X} {d : Nat} {M : nt_M} {o : Option Value × nt_M} {p : Nat → Nat} {v1 : Int32} {v2 : Int32} {v3 : Int32} {v4 : Int32} {v5 : Int32} {v8 : Int32} {v9 : Int32} {v10 : Int32} {L : Nat → Nat → Int64} (hp : xs_P M p) : ∀ (c : Nat) (v6 : Int64) (v11 : Int32) (v12 : Int32) (J : Nat → Nat → Int32), (xr_W (J (p 4)) ∧ (J (p 4) 1).toInt - v11.toInt ≤ c ∧ 0 ≤ v11.toInt) → nt_rn X d 231 (101, [(0, .ref (p 0)), (1, .int v1), (2, .int v2), (3, .int v3), (4, .int v4), (5, .int v5), (6, .long v6), (8, .int v8), (9, .int v9), (10, .int v10), (11, .int v11), (12, .int v12)], [], me_w (lw M L) J) o → ∃ (w11 : Int32) (w12 : Int32), nt_rn X d 231 (211, [(0, .ref (p 0)), (1, .int v1), (2, .int v2), (3, .int v3), (4, .int v4), (5, .int v5), (6, .long ((x231_101 p v1 v2 v3 v4 v5 v8 v9 v10 L c v6 v11 J).1)), (8, .int v8), (9, .int v9), (10, .int v10), (11, .int w11), (12, .int w12)], [], me_w (lw M L) ((x231_101 p v1 v2 v3 v4 v5 v8 v9 v10 L c v6 v11 J).2)) o := by
  intro c
  induction c with
  | zero =>
    intro v6 v11 v12 J hc k
    have k := ly_revb 2 (c' := (104, [(0, .ref (p 0)), (1, .int v1), (2, .int v2), (3, .int v3), (4, .int v4), (5, .int v5), (6, .long v6), (8, .int v8), (9, .int v9), (10, .int v10), (11, .int v11), (12, .int v12)], [.ref (p 0), .int v11], me_w (lw M L) J)) rfl k
    have k := lz_get (a := (p 0)) (g := 1127) (M := me_w (lw M L) J) (v := .ref (p 4)) rfl (nt_gfR rfl (mw_RL (hp.1 (0, 27, 4) (by decide)))) k
    have k := ly_revb 1 (c' := (108, [(0, .ref (p 0)), (1, .int v1), (2, .int v2), (3, .int v3), (4, .int v4), (5, .int v5), (6, .long v6), (8, .int v8), (9, .int v9), (10, .int v10), (11, .int v11), (12, .int v12)], [.int (Int32.ofInt 1), .ref (p 4), .int v11], me_w (lw M L) J)) rfl k
    have k := mx_iald (v := J (p 4) 1) rfl (hp.2.2.1 4 (by omega)) ((congrArg (J (p 4)) (show (Int32.ofInt 1).toNatClampNeg = 1 from rfl)).trans (rfl)) k
    have k := ly_revb 1 (c' := (if (J (p 4) 1) ≤ v11 then 211 else 112, [(0, .ref (p 0)), (1, .int v1), (2, .int v2), (3, .int v3), (4, .int v4), (5, .int v5), (6, .long v6), (8, .int v8), (9, .int v9), (10, .int v10), (11, .int v11), (12, .int v12)], [], me_w (lw M L) J)) rfl k
    have h109 : (J (p 4) 1) ≤ v11 := lx_end hc.2.1
    rw [if_pos h109] at k
    have k := nt_rn_w (a := [(0, .ref (p 0)), (1, .int v1), (2, .int v2), (3, .int v3), (4, .int v4), (5, .int v5), (6, .long v6), (8, .int v8), (9, .int v9), (10, .int v10), (11, .int v11), (12, .int v12)]) (b := [(0, .ref (p 0)), (1, .int v1), (2, .int v2), (3, .int v3), (4, .int v4), (5, .int v5), (6, .long v6), (8, .int v8), (9, .int v9), (10, .int v10), (11, .int v11), (12, .int v12)]) ⟨rfl, rfl, rfl, rfl, rfl, rfl, rfl, rfl, rfl, rfl, rfl, rfl, trivial⟩ rfl k
    rw [x231_101]
    exact ⟨_, _, k⟩
  | succ c ih =>
    intro v6 v11 v12 J hc k
    have k := ly_revb 2 (c' := (104, [(0, .ref (p 0)), (1, .int v1), (2, .int v2), (3, .int v3), (4, .int v4), (5, .int v5), (6, .long v6), (8, .int v8), (9, .int v9), (10, .int v10), (11, .int v11), (12, .int v12)], [.ref (p 0), .int v11], me_w (lw M L) J)) rfl k
    have k := lz_get (a := (p 0)) (g := 1127) (M := me_w (lw M L) J) (v := .ref (p 4)) rfl (nt_gfR rfl (mw_RL (hp.1 (0, 27, 4) (by decide)))) k
    have k := ly_revb 1 (c' := (108, [(0, .ref (p 0)), (1, .int v1), (2, .int v2), (3, .int v3), (4, .int v4), (5, .int v5), (6, .long v6), (8, .int v8), (9, .int v9), (10, .int v10), (11, .int v11), (12, .int v12)], [.int (Int32.ofInt 1), .ref (p 4), .int v11], me_w (lw M L) J)) rfl k
    have k := mx_iald (v := J (p 4) 1) rfl (hp.2.2.1 4 (by omega)) ((congrArg (J (p 4)) (show (Int32.ofInt 1).toNatClampNeg = 1 from rfl)).trans (rfl)) k
    have k := ly_revb 1 (c' := (if (J (p 4) 1) ≤ v11 then 211 else 112, [(0, .ref (p 0)), (1, .int v1), (2, .int v2), (3, .int v3), (4, .int v4), (5, .int v5), (6, .long v6), (8, .int v8), (9, .int v9), (10, .int v10), (11, .int v11), (12, .int v12)], [], me_w (lw M L) J)) rfl k
    by_cases h109 : (J (p 4) 1) ≤ v11
    · rw [if_pos h109] at k
      have k := nt_rn_w (a := [(0, .ref (p 0)), (1, .int v1), (2, .int v2), (3, .int v3), (4, .int v4), (5, .int v5), (6, .long v6), (8, .int v8), (9, .int v9), (10, .int v10), (11, .int v11), (12, .int v12)]) (b := [(0, .ref (p 0)), (1, .int v1), (2, .int v2), (3, .int v3), (4, .int v4), (5, .int v5), (6, .long v6), (8, .int v8), (9, .int v9), (10, .int v10), (11, .int v11), (12, .int v12)]) ⟨rfl, rfl, rfl, rfl, rfl, rfl, rfl, rfl, rfl, rfl, rfl, rfl, trivial⟩ rfl k
      rw [x231_101, if_pos h109]
      exact ⟨_, _, k⟩
    · rw [if_neg h109] at k
      have k := ly_revb 3 (c' := (116, [(0, .ref (p 0)), (1, .int v1), (2, .int v2), (3, .int v3), (4, .int v4), (5, .int v5), (6, .long v6), (8, .int v8), (9, .int v9), (10, .int v10), (11, .int v11), (12, .int v12)], [.int (Int32.ofInt 4), .int v11, .ref (p 0)], me_w (lw M L) J)) rfl k
      obtain ⟨d1, o1, ed, kc, k⟩ := lz_c (g := 169) (q := 1) (vs := [.ref (p 0), .int v11, .int (Int32.ofInt 4)]) (rest := []) rfl rfl (by decide) (Or.inr (Or.inl ⟨_, rfl, rfl⟩)) rfl k
      have e1 := xt169 (xs_lp hp) kc
      subst e1
      have k : nt_rn X _ 231 (119, [(0, .ref (p 0)), (1, .int v1), (2, .int v2), (3, .int v3), (4, .int v4), (5, .int v5), (6, .long v6), (8, .int v8), (9, .int v9), (10, .int v10), (11, .int v11), (12, .int v12)], [.int (x169 p v11 (Int32.ofInt 4) J)], me_w (lw M L) J) _ := k
      have k := ly_revb 2 (c' := (if (x169 p v11 (Int32.ofInt 4) J) = (Int32.ofInt 1) then 123 else 132, [(0, .ref (p 0)), (1, .int v1), (2, .int v2), (3, .int v3), (4, .int v4), (5, .int v5), (6, .long v6), (8, .int v8), (9, .int v9), (10, .int v10), (11, .int v11), (12, .int v12)], [], me_w (lw M L) J)) rfl k
      by_cases h120 : (x169 p v11 (Int32.ofInt 4) J) = (Int32.ofInt 1)
      · rw [if_pos h120] at k
        have k := ly_revb 2 (c' := (126, [(0, .ref (p 0)), (1, .int v1), (2, .int v2), (3, .int v3), (4, .int v4), (5, .int v5), (6, .long v6), (8, .int v8), (9, .int v9), (10, .int v10), (11, .int v11), (12, .int v12)], [.int v11, .ref (p 0)], me_w (lw M L) J)) rfl k
        obtain ⟨d1, o1, ed, kc, k⟩ := lz_c (g := 232) (q := 1) (vs := [.ref (p 0), .int v11]) (rest := []) rfl rfl (by decide) (Or.inr (Or.inl ⟨_, rfl, rfl⟩)) rfl k
        have e1 := xt232 (xs_lp hp) kc
        subst e1
        have k : nt_rn X _ 231 (129, [(0, .ref (p 0)), (1, .int v1), (2, .int v2), (3, .int v3), (4, .int v4), (5, .int v5), (6, .long v6), (8, .int v8), (9, .int v9), (10, .int v10), (11, .int v11), (12, .int v12)], [.int (x232 p v11 J)], me_w (lw M L) J) _ := k
        have k := ly_revb 4 (c' := (if 0 ≤ (x232 p v11 J) then 143 else 140, [(12, .int (x232 p v11 J)), (0, .ref (p 0)), (1, .int v1), (2, .int v2), (3, .int v3), (4, .int v4), (5, .int v5), (6, .long v6), (8, .int v8), (9, .int v9), (10, .int v10), (11, .int v11)], [], me_w (lw M L) J)) rfl k
        by_cases h137 : 0 ≤ (x232 p v11 J)
        · rw [if_pos h137] at k
          have k := ly_revb 6 (c' := (156, [(12, .int (x232 p v11 J)), (0, .ref (p 0)), (1, .int v1), (2, .int v2), (3, .int v3), (4, .int v4), (5, .int v5), (6, .long v6), (8, .int v8), (9, .int v9), (10, .int v10), (11, .int v11)], [.long 2147483648, .long ((v6 * 1103515245) + 12345)], me_w (lw M L) J)) rfl k
          obtain ⟨hd156, k⟩ := mx_lrem rfl k
          have k := ly_revb 3 (c' := (164, [(6, .long (((v6 * 1103515245) + 12345) - ((v6 * 1103515245) + 12345) / 2147483648 * 2147483648)), (12, .int (x232 p v11 J)), (0, .ref (p 0)), (1, .int v1), (2, .int v2), (3, .int v3), (4, .int v4), (5, .int v5), (8, .int v8), (9, .int v9), (10, .int v10), (11, .int v11)], [.long 65536, .long (((v6 * 1103515245) + 12345) - ((v6 * 1103515245) + 12345) / 2147483648 * 2147483648)], me_w (lw M L) J)) rfl k
          obtain ⟨hd164, k⟩ := mx_ldiv rfl k
          have k := ly_revb 1 (c' := (168, [(6, .long (((v6 * 1103515245) + 12345) - ((v6 * 1103515245) + 12345) / 2147483648 * 2147483648)), (12, .int (x232 p v11 J)), (0, .ref (p 0)), (1, .int v1), (2, .int v2), (3, .int v3), (4, .int v4), (5, .int v5), (8, .int v8), (9, .int v9), (10, .int v10), (11, .int v11)], [.long 100, .long ((((v6 * 1103515245) + 12345) - ((v6 * 1103515245) + 12345) / 2147483648 * 2147483648) / 65536)], me_w (lw M L) J)) rfl k
          obtain ⟨hd168, k⟩ := mx_lrem rfl k
          have k := ly_revb 4 (c' := (if 0 ≤ (lg_cmp (((((v6 * 1103515245) + 12345) - ((v6 * 1103515245) + 12345) / 2147483648 * 2147483648) / 65536) - ((((v6 * 1103515245) + 12345) - ((v6 * 1103515245) + 12345) / 2147483648 * 2147483648) / 65536) / 100 * 100) v4.toInt64) then 205 else 176, [(6, .long (((v6 * 1103515245) + 12345) - ((v6 * 1103515245) + 12345) / 2147483648 * 2147483648)), (12, .int (x232 p v11 J)), (0, .ref (p 0)), (1, .int v1), (2, .int v2), (3, .int v3), (4, .int v4), (5, .int v5), (8, .int v8), (9, .int v9), (10, .int v10), (11, .int v11)], [], me_w (lw M L) J)) rfl k
          by_cases h173 : 0 ≤ (lg_cmp (((((v6 * 1103515245) + 12345) - ((v6 * 1103515245) + 12345) / 2147483648 * 2147483648) / 65536) - ((((v6 * 1103515245) + 12345) - ((v6 * 1103515245) + 12345) / 2147483648 * 2147483648) / 65536) / 100 * 100) v4.toInt64)
          · rw [if_pos h173] at k
            have k := ly_revb 2 (c' := (101, [(11, .int (v11 + (Int32.ofInt 1))), (6, .long (((v6 * 1103515245) + 12345) - ((v6 * 1103515245) + 12345) / 2147483648 * 2147483648)), (12, .int (x232 p v11 J)), (0, .ref (p 0)), (1, .int v1), (2, .int v2), (3, .int v3), (4, .int v4), (5, .int v5), (8, .int v8), (9, .int v9), (10, .int v10)], [], me_w (lw M L) J)) rfl k
            have k := nt_rn_w (a := [(11, .int (v11 + (Int32.ofInt 1))), (6, .long (((v6 * 1103515245) + 12345) - ((v6 * 1103515245) + 12345) / 2147483648 * 2147483648)), (12, .int (x232 p v11 J)), (0, .ref (p 0)), (1, .int v1), (2, .int v2), (3, .int v3), (4, .int v4), (5, .int v5), (8, .int v8), (9, .int v9), (10, .int v10)]) (b := [(0, .ref (p 0)), (1, .int v1), (2, .int v2), (3, .int v3), (4, .int v4), (5, .int v5), (6, .long (((v6 * 1103515245) + 12345) - ((v6 * 1103515245) + 12345) / 2147483648 * 2147483648)), (8, .int v8), (9, .int v9), (10, .int v10), (11, .int (v11 + (Int32.ofInt 1))), (12, .int (x232 p v11 J))]) ⟨rfl, rfl, rfl, rfl, rfl, rfl, rfl, rfl, rfl, rfl, rfl, rfl, trivial⟩ rfl k
            have k := ih (((v6 * 1103515245) + 12345) - ((v6 * 1103515245) + 12345) / 2147483648 * 2147483648) (v11 + (Int32.ofInt 1)) (x232 p v11 J) J (⟨hc.1, lx_dec h109 hc.2.1, xi_nn h109 hc.2.2⟩) k
            rw [x231_101, if_neg h109, if_pos h120, if_pos h137, if_pos h173]
            exact k
          · rw [if_neg h173] at k
            have k := ly_revb 3 (c' := (180, [(6, .long (((v6 * 1103515245) + 12345) - ((v6 * 1103515245) + 12345) / 2147483648 * 2147483648)), (12, .int (x232 p v11 J)), (0, .ref (p 0)), (1, .int v1), (2, .int v2), (3, .int v3), (4, .int v4), (5, .int v5), (8, .int v8), (9, .int v9), (10, .int v10), (11, .int v11)], [.int (Int32.ofInt 1), .int (x232 p v11 J), .ref (p 0)], me_w (lw M L) J)) rfl k
            obtain ⟨d1, o1, ed, kc, k⟩ := lz_c (g := 173) (q := 1) (vs := [.ref (p 0), .int (x232 p v11 J), .int (Int32.ofInt 1)]) (rest := []) rfl rfl (by decide) (Or.inr (Or.inl ⟨_, rfl, rfl⟩)) rfl k
            have e1 := xt173 (xs_lp hp) kc
            subst e1
            have k : nt_rn X _ 231 (183, [(6, .long (((v6 * 1103515245) + 12345) - ((v6 * 1103515245) + 12345) / 2147483648 * 2147483648)), (12, .int (x232 p v11 J)), (0, .ref (p 0)), (1, .int v1), (2, .int v2), (3, .int v3), (4, .int v4), (5, .int v5), (8, .int v8), (9, .int v9), (10, .int v10), (11, .int v11)], [.int (x173 p (x232 p v11 J) (Int32.ofInt 1) J)], me_w (lw M L) J) _ := k
            have k := ly_revb 2 (c' := (if (x173 p (x232 p v11 J) (Int32.ofInt 1) J) ≤ (Int32.ofInt 1) then 205 else 187, [(6, .long (((v6 * 1103515245) + 12345) - ((v6 * 1103515245) + 12345) / 2147483648 * 2147483648)), (12, .int (x232 p v11 J)), (0, .ref (p 0)), (1, .int v1), (2, .int v2), (3, .int v3), (4, .int v4), (5, .int v5), (8, .int v8), (9, .int v9), (10, .int v10), (11, .int v11)], [], me_w (lw M L) J)) rfl k
            by_cases h184 : (x173 p (x232 p v11 J) (Int32.ofInt 1) J) ≤ (Int32.ofInt 1)
            · rw [if_pos h184] at k
              have k := ly_revb 2 (c' := (101, [(11, .int (v11 + (Int32.ofInt 1))), (6, .long (((v6 * 1103515245) + 12345) - ((v6 * 1103515245) + 12345) / 2147483648 * 2147483648)), (12, .int (x232 p v11 J)), (0, .ref (p 0)), (1, .int v1), (2, .int v2), (3, .int v3), (4, .int v4), (5, .int v5), (8, .int v8), (9, .int v9), (10, .int v10)], [], me_w (lw M L) J)) rfl k
              have k := nt_rn_w (a := [(11, .int (v11 + (Int32.ofInt 1))), (6, .long (((v6 * 1103515245) + 12345) - ((v6 * 1103515245) + 12345) / 2147483648 * 2147483648)), (12, .int (x232 p v11 J)), (0, .ref (p 0)), (1, .int v1), (2, .int v2), (3, .int v3), (4, .int v4), (5, .int v5), (8, .int v8), (9, .int v9), (10, .int v10)]) (b := [(0, .ref (p 0)), (1, .int v1), (2, .int v2), (3, .int v3), (4, .int v4), (5, .int v5), (6, .long (((v6 * 1103515245) + 12345) - ((v6 * 1103515245) + 12345) / 2147483648 * 2147483648)), (8, .int v8), (9, .int v9), (10, .int v10), (11, .int (v11 + (Int32.ofInt 1))), (12, .int (x232 p v11 J))]) ⟨rfl, rfl, rfl, rfl, rfl, rfl, rfl, rfl, rfl, rfl, rfl, rfl, trivial⟩ rfl k
              have k := ih (((v6 * 1103515245) + 12345) - ((v6 * 1103515245) + 12345) / 2147483648 * 2147483648) (v11 + (Int32.ofInt 1)) (x232 p v11 J) J (⟨hc.1, lx_dec h109 hc.2.1, xi_nn h109 hc.2.2⟩) k
              rw [x231_101, if_neg h109, if_pos h120, if_pos h137, if_neg h173, if_pos h184]
              exact k
            · rw [if_neg h184] at k
              have k := ly_revb 1 (c' := (188, [(6, .long (((v6 * 1103515245) + 12345) - ((v6 * 1103515245) + 12345) / 2147483648 * 2147483648)), (12, .int (x232 p v11 J)), (0, .ref (p 0)), (1, .int v1), (2, .int v2), (3, .int v3), (4, .int v4), (5, .int v5), (8, .int v8), (9, .int v9), (10, .int v10), (11, .int v11)], [.ref (p 0)], me_w (lw M L) J)) rfl k
              have k := lz_get (a := (p 0)) (g := 1127) (M := me_w (lw M L) J) (v := .ref (p 4)) rfl (nt_gfR rfl (mw_RL (hp.1 (0, 27, 4) (by decide)))) k
              have k := ly_revb 8 (c' := (201, [(6, .long (((v6 * 1103515245) + 12345) - ((v6 * 1103515245) + 12345) / 2147483648 * 2147483648)), (12, .int (x232 p v11 J)), (0, .ref (p 0)), (1, .int v1), (2, .int v2), (3, .int v3), (4, .int v4), (5, .int v5), (8, .int v8), (9, .int v9), (10, .int v10), (11, .int v11)], [.int (((Int32.ofInt 52) + ((Int32.ofInt 5) * (x232 p v11 J))) + (Int32.ofInt 1)), .ref (p 4), .int (((Int32.ofInt 52) + ((Int32.ofInt 5) * (x232 p v11 J))) + (Int32.ofInt 1)), .ref (p 4)], me_w (lw M L) J)) rfl k
              have k := mx_iald (v := J (p 4) ((((Int32.ofInt 52) + ((Int32.ofInt 5) * (x232 p v11 J))) + (Int32.ofInt 1)).toNatClampNeg)) rfl (hp.2.2.1 4 (by omega)) (rfl) k
              have k := ly_revb 2 (c' := (204, [(6, .long (((v6 * 1103515245) + 12345) - ((v6 * 1103515245) + 12345) / 2147483648 * 2147483648)), (12, .int (x232 p v11 J)), (0, .ref (p 0)), (1, .int v1), (2, .int v2), (3, .int v3), (4, .int v4), (5, .int v5), (8, .int v8), (9, .int v9), (10, .int v10), (11, .int v11)], [.int ((J (p 4) ((((Int32.ofInt 52) + ((Int32.ofInt 5) * (x232 p v11 J))) + (Int32.ofInt 1)).toNatClampNeg)) - (Int32.ofInt 1)), .int (((Int32.ofInt 52) + ((Int32.ofInt 5) * (x232 p v11 J))) + (Int32.ofInt 1)), .ref (p 4)], me_w (lw M L) J)) rfl k
              have k := mx_iast (q := (((Int32.ofInt 52) + ((Int32.ofInt 5) * (x232 p v11 J))) + (Int32.ofInt 1)).toNatClampNeg) rfl rfl k
              have k : nt_rn X _ 231 (205, [(6, .long (((v6 * 1103515245) + 12345) - ((v6 * 1103515245) + 12345) / 2147483648 * 2147483648)), (12, .int (x232 p v11 J)), (0, .ref (p 0)), (1, .int v1), (2, .int v2), (3, .int v3), (4, .int v4), (5, .int v5), (8, .int v8), (9, .int v9), (10, .int v10), (11, .int v11)], [], me_w (lw M L) (nt_u J (p 4) ((((Int32.ofInt 52) + ((Int32.ofInt 5) * (x232 p v11 J))) + (Int32.ofInt 1)).toNatClampNeg) ((J (p 4) ((((Int32.ofInt 52) + ((Int32.ofInt 5) * (x232 p v11 J))) + (Int32.ofInt 1)).toNatClampNeg)) - (Int32.ofInt 1)))) _ := k
              have k := ly_revb 2 (c' := (101, [(11, .int (v11 + (Int32.ofInt 1))), (6, .long (((v6 * 1103515245) + 12345) - ((v6 * 1103515245) + 12345) / 2147483648 * 2147483648)), (12, .int (x232 p v11 J)), (0, .ref (p 0)), (1, .int v1), (2, .int v2), (3, .int v3), (4, .int v4), (5, .int v5), (8, .int v8), (9, .int v9), (10, .int v10)], [], me_w (lw M L) (nt_u J (p 4) ((((Int32.ofInt 52) + ((Int32.ofInt 5) * (x232 p v11 J))) + (Int32.ofInt 1)).toNatClampNeg) ((J (p 4) ((((Int32.ofInt 52) + ((Int32.ofInt 5) * (x232 p v11 J))) + (Int32.ofInt 1)).toNatClampNeg)) - (Int32.ofInt 1))))) rfl k
              have k := nt_rn_w (a := [(11, .int (v11 + (Int32.ofInt 1))), (6, .long (((v6 * 1103515245) + 12345) - ((v6 * 1103515245) + 12345) / 2147483648 * 2147483648)), (12, .int (x232 p v11 J)), (0, .ref (p 0)), (1, .int v1), (2, .int v2), (3, .int v3), (4, .int v4), (5, .int v5), (8, .int v8), (9, .int v9), (10, .int v10)]) (b := [(0, .ref (p 0)), (1, .int v1), (2, .int v2), (3, .int v3), (4, .int v4), (5, .int v5), (6, .long (((v6 * 1103515245) + 12345) - ((v6 * 1103515245) + 12345) / 2147483648 * 2147483648)), (8, .int v8), (9, .int v9), (10, .int v10), (11, .int (v11 + (Int32.ofInt 1))), (12, .int (x232 p v11 J))]) ⟨rfl, rfl, rfl, rfl, rfl, rfl, rfl, rfl, rfl, rfl, rfl, rfl, trivial⟩ rfl k
              have k := ih (((v6 * 1103515245) + 12345) - ((v6 * 1103515245) + 12345) / 2147483648 * 2147483648) (v11 + (Int32.ofInt 1)) (x232 p v11 J) (nt_u J (p 4) ((((Int32.ofInt 52) + ((Int32.ofInt 5) * (x232 p v11 J))) + (Int32.ofInt 1)).toNatClampNeg) ((J (p 4) ((((Int32.ofInt 52) + ((Int32.ofInt 5) * (x232 p v11 J))) + (Int32.ofInt 1)).toNatClampNeg)) - (Int32.ofInt 1))) (⟨(xw_dr hc.1 h137).1, by rw [(xw_dr hc.1 h137).2]; exact lx_dec h109 hc.2.1, xi_nn h109 hc.2.2⟩) k
              rw [x231_101, if_neg h109, if_pos h120, if_pos h137, if_neg h173, if_neg h184]
              exact k
        · rw [if_neg h137] at k
          have k := ly_revb 3 (c' := (101, [(11, .int (v11 + (Int32.ofInt 1))), (12, .int (x232 p v11 J)), (0, .ref (p 0)), (1, .int v1), (2, .int v2), (3, .int v3), (4, .int v4), (5, .int v5), (6, .long v6), (8, .int v8), (9, .int v9), (10, .int v10)], [], me_w (lw M L) J)) rfl k
          have k := nt_rn_w (a := [(11, .int (v11 + (Int32.ofInt 1))), (12, .int (x232 p v11 J)), (0, .ref (p 0)), (1, .int v1), (2, .int v2), (3, .int v3), (4, .int v4), (5, .int v5), (6, .long v6), (8, .int v8), (9, .int v9), (10, .int v10)]) (b := [(0, .ref (p 0)), (1, .int v1), (2, .int v2), (3, .int v3), (4, .int v4), (5, .int v5), (6, .long v6), (8, .int v8), (9, .int v9), (10, .int v10), (11, .int (v11 + (Int32.ofInt 1))), (12, .int (x232 p v11 J))]) ⟨rfl, rfl, rfl, rfl, rfl, rfl, rfl, rfl, rfl, rfl, rfl, rfl, trivial⟩ rfl k
          have k := ih v6 (v11 + (Int32.ofInt 1)) (x232 p v11 J) J (⟨hc.1, lx_dec h109 hc.2.1, xi_nn h109 hc.2.2⟩) k
          rw [x231_101, if_neg h109, if_pos h120, if_neg h137]
          exact k
      · rw [if_neg h120] at k
        have k := ly_revb 4 (c' := (if 0 ≤ (Int32.ofInt (-1)) then 143 else 140, [(12, .int (Int32.ofInt (-1))), (0, .ref (p 0)), (1, .int v1), (2, .int v2), (3, .int v3), (4, .int v4), (5, .int v5), (6, .long v6), (8, .int v8), (9, .int v9), (10, .int v10), (11, .int v11)], [], me_w (lw M L) J)) rfl k
        rw [if_neg (show ¬ (0 ≤ (Int32.ofInt (-1))) from by decide)] at k
        have k := ly_revb 3 (c' := (101, [(11, .int (v11 + (Int32.ofInt 1))), (12, .int (Int32.ofInt (-1))), (0, .ref (p 0)), (1, .int v1), (2, .int v2), (3, .int v3), (4, .int v4), (5, .int v5), (6, .long v6), (8, .int v8), (9, .int v9), (10, .int v10)], [], me_w (lw M L) J)) rfl k
        have k := nt_rn_w (a := [(11, .int (v11 + (Int32.ofInt 1))), (12, .int (Int32.ofInt (-1))), (0, .ref (p 0)), (1, .int v1), (2, .int v2), (3, .int v3), (4, .int v4), (5, .int v5), (6, .long v6), (8, .int v8), (9, .int v9), (10, .int v10)]) (b := [(0, .ref (p 0)), (1, .int v1), (2, .int v2), (3, .int v3), (4, .int v4), (5, .int v5), (6, .long v6), (8, .int v8), (9, .int v9), (10, .int v10), (11, .int (v11 + (Int32.ofInt 1))), (12, .int (Int32.ofInt (-1)))]) ⟨rfl, rfl, rfl, rfl, rfl, rfl, rfl, rfl, rfl, rfl, rfl, rfl, trivial⟩ rfl k
        have k := ih v6 (v11 + (Int32.ofInt 1)) (Int32.ofInt (-1)) J (⟨hc.1, lx_dec h109 hc.2.1, xi_nn h109 hc.2.2⟩) k
        rw [x231_101, if_neg h109, if_neg h120]
        exact k
theorem x231_101_rule {p : Nat → Nat} {v1 : Int32} {v2 : Int32} {v3 : Int32} {v4 : Int32} {v5 : Int32} {v8 : Int32} {v9 : Int32} {v10 : Int32} {L : Nat → Nat → Int64} {I : Nat → Int64 → Int32 → (Nat → Nat → Int32) → Prop} {Q : Int64 × (Nat → Nat → Int32) → Prop} (h0 : ∀ (v6 : Int64) (v11 : Int32) (J : Nat → Nat → Int32), I 0 v6 v11 J → Q (v6, J)) (h1 : ∀ (c : Nat) (v6 : Int64) (v11 : Int32) (J : Nat → Nat → Int32), I (c + 1) v6 v11 J →
    if (J (p 4) 1) ≤ v11 then (Q (v6, J))
    else if (x169 p v11 (Int32.ofInt 4) J) = (Int32.ofInt 1) then if 0 ≤ (x232 p v11 J) then if 0 ≤ (lg_cmp (((((v6 * 1103515245) + 12345) - ((v6 * 1103515245) + 12345) / 2147483648 * 2147483648) / 65536) - ((((v6 * 1103515245) + 12345) - ((v6 * 1103515245) + 12345) / 2147483648 * 2147483648) / 65536) / 100 * 100) v4.toInt64) then (I c (((v6 * 1103515245) + 12345) - ((v6 * 1103515245) + 12345) / 2147483648 * 2147483648) (v11 + (Int32.ofInt 1)) J)
          else if (x173 p (x232 p v11 J) (Int32.ofInt 1) J) ≤ (Int32.ofInt 1) then (I c (((v6 * 1103515245) + 12345) - ((v6 * 1103515245) + 12345) / 2147483648 * 2147483648) (v11 + (Int32.ofInt 1)) J)
            else (I c (((v6 * 1103515245) + 12345) - ((v6 * 1103515245) + 12345) / 2147483648 * 2147483648) (v11 + (Int32.ofInt 1)) (nt_u J (p 4) ((((Int32.ofInt 52) + ((Int32.ofInt 5) * (x232 p v11 J))) + (Int32.ofInt 1)).toNatClampNeg) ((J (p 4) ((((Int32.ofInt 52) + ((Int32.ofInt 5) * (x232 p v11 J))) + (Int32.ofInt 1)).toNatClampNeg)) - (Int32.ofInt 1))))
        else (I c v6 (v11 + (Int32.ofInt 1)) J)
      else (I c v6 (v11 + (Int32.ofInt 1)) J)) : ∀ (c : Nat) (v6 : Int64) (v11 : Int32) (J : Nat → Nat → Int32), I c v6 v11 J → Q (x231_101 p v1 v2 v3 v4 v5 v8 v9 v10 L c v6 v11 J) := by
  intro c
  induction c with
  | zero =>
    intro v6 v11 J hi
    rw [x231_101]
    exact h0 v6 v11 J hi
  | succ c ih =>
    intro v6 v11 J hi
    have hi := h1 c v6 v11 J hi
    rw [x231_101]
    by_cases h : (J (p 4) 1) ≤ v11
    · rw [if_pos h] at hi ⊢
      exact hi
    · rw [if_neg h] at hi ⊢
      by_cases h : (x169 p v11 (Int32.ofInt 4) J) = (Int32.ofInt 1)
      · rw [if_pos h] at hi ⊢
        by_cases h : 0 ≤ (x232 p v11 J)
        · rw [if_pos h] at hi ⊢
          by_cases h : 0 ≤ (lg_cmp (((((v6 * 1103515245) + 12345) - ((v6 * 1103515245) + 12345) / 2147483648 * 2147483648) / 65536) - ((((v6 * 1103515245) + 12345) - ((v6 * 1103515245) + 12345) / 2147483648 * 2147483648) / 65536) / 100 * 100) v4.toInt64)
          · rw [if_pos h] at hi ⊢
            exact ih _ _ _ hi
          · rw [if_neg h] at hi ⊢
            by_cases h : (x173 p (x232 p v11 J) (Int32.ofInt 1) J) ≤ (Int32.ofInt 1)
            · rw [if_pos h] at hi ⊢
              exact ih _ _ _ hi
            · rw [if_neg h] at hi ⊢
              exact ih _ _ _ hi
        · rw [if_neg h] at hi ⊢
          exact ih _ _ _ hi
      · rw [if_neg h] at hi ⊢
        exact ih _ _ _ hi
theorem xw_101 {p : Nat → Nat} {v1 v2 v3 v4 v5 v8 v9 v10 : Int32} {L : Nat → Nat → Int64} {c : Nat} {v6 : Int64} {v11 : Int32} {J : Nat → Nat → Int32} (hW : xr_W (J (p 4))) (h0 : 0 ≤ v11.toInt) : xr_W ((x231_101 p v1 v2 v3 v4 v5 v8 v9 v10 L c v6 v11 J).2 (p 4)) := by
  refine x231_101_rule (I := fun _ _ v11 J1 => xr_W (J1 (p 4)) ∧ 0 ≤ v11.toInt) (Q := fun r => xr_W (r.2 (p 4))) ?_ ?_ _ _ _ _ ⟨hW, h0⟩
  · intro v6 v11 J1 h
    exact h.1
  · intro c v6 v11 J1 h
    by_cases h1 : J1 (p 4) 1 ≤ v11
    · rw [if_pos h1]
      exact h.1
    · rw [if_neg h1]
      split
      · split
        · rename_i h137
          split
          · exact ⟨h.1, xi_nn h1 h.2⟩
          · split
            · exact ⟨h.1, xi_nn h1 h.2⟩
            · exact ⟨(xw_dr h.1 h137).1, xi_nn h1 h.2⟩
        · exact ⟨h.1, xi_nn h1 h.2⟩
      · exact ⟨h.1, xi_nn h1 h.2⟩
theorem x231_101_frJ {p : Nat → Nat} {v1 : Int32} {v2 : Int32} {v3 : Int32} {v4 : Int32} {v5 : Int32} {v8 : Int32} {v9 : Int32} {v10 : Int32} {L : Nat → Nat → Int64} {b : Nat} : ∀ (c : Nat) (v6 : Int64) (v11 : Int32) (J : Nat → Nat → Int32), b ≠ p 4 → (x231_101 p v1 v2 v3 v4 v5 v8 v9 v10 L c v6 v11 J).2 b = J b := by
  intro c
  induction c with
  | zero =>
    intro v6 v11 J n0
    rw [x231_101]
    all_goals first | (dsimp only; exact (show J b = J b from rfl)) | exact (show J b = J b from rfl)
  | succ c ih =>
    intro v6 v11 J n0
    rw [x231_101]
    by_cases h : (J (p 4) 1) ≤ v11
    · rw [if_pos h]
      all_goals first | (dsimp only; exact (show J b = J b from rfl)) | exact (show J b = J b from rfl)
    · rw [if_neg h]
      by_cases h : (x169 p v11 (Int32.ofInt 4) J) = (Int32.ofInt 1)
      · rw [if_pos h]
        by_cases h : 0 ≤ (x232 p v11 J)
        · rw [if_pos h]
          by_cases h : 0 ≤ (lg_cmp (((((v6 * 1103515245) + 12345) - ((v6 * 1103515245) + 12345) / 2147483648 * 2147483648) / 65536) - ((((v6 * 1103515245) + 12345) - ((v6 * 1103515245) + 12345) / 2147483648 * 2147483648) / 65536) / 100 * 100) v4.toInt64)
          · rw [if_pos h]
            exact (ih _ _ _ n0).trans (rfl)
          · rw [if_neg h]
            by_cases h : (x173 p (x232 p v11 J) (Int32.ofInt 1) J) ≤ (Int32.ofInt 1)
            · rw [if_pos h]
              exact (ih _ _ _ n0).trans (rfl)
            · rw [if_neg h]
              exact (ih _ _ _ n0).trans (mu_o n0)
        · rw [if_neg h]
          exact (ih _ _ _ n0).trans (rfl)
      · rw [if_neg h]
        exact (ih _ _ _ n0).trans (rfl)
def x231_87 (p : Nat → Nat) (v1 : Int32) (v2 : Int32) (v3 : Int32) (v4 : Int32) (v5 : Int32) (v8 : Int32) (v9 : Int32) : Nat → Int64 → Int32 → (Nat → Nat → Int32) → (Nat → Nat → Int64) → Int64 × (Nat → Nat → Int32) × (Nat → Nat → Int64)
  | 0, v6, v10, J, L => (v6, J, L)
  | c + 1, v6, v10, J, L => if v3 ≤ v10 then (v6, J, L)
    else (x231_87 p v1 v2 v3 v4 v5 v8 v9 c ((x231_101 p v1 v2 v3 v4 v5 v8 v9 v10 ((x190 p v1 J L).2) ((((x190 p v1 J L).1) (p 4) 1).toNatClampNeg) v6 (Int32.ofInt 0) ((x190 p v1 J L).1)).1) (v10 + (Int32.ofInt 1)) ((x231_101 p v1 v2 v3 v4 v5 v8 v9 v10 ((x190 p v1 J L).2) ((((x190 p v1 J L).1) (p 4) 1).toNatClampNeg) v6 (Int32.ofInt 0) ((x190 p v1 J L).1)).2) ((x190 p v1 J L).2))
theorem xt231_87 {X : nt_X} {d : Nat} {M : nt_M} {o : Option Value × nt_M} {p : Nat → Nat} {v1 : Int32} {v2 : Int32} {v3 : Int32} {v4 : Int32} {v5 : Int32} {v8 : Int32} {v9 : Int32} (hp : xs_P M p) : ∀ (c : Nat) (v6 : Int64) (v10 : Int32) (v11 : Int32) (v12 : Int32) (J : Nat → Nat → Int32) (L : Nat → Nat → Int64), (xr_W (J (p 4)) ∧ v3.toInt - v10.toInt ≤ c) → nt_rn X d 231 (87, [(0, .ref (p 0)), (1, .int v1), (2, .int v2), (3, .int v3), (4, .int v4), (5, .int v5), (6, .long v6), (8, .int v8), (9, .int v9), (10, .int v10), (11, .int v11), (12, .int v12)], [], me_w (lw M L) J) o → ∃ (w10 : Int32) (w11 : Int32) (w12 : Int32), nt_rn X d 231 (217, [(0, .ref (p 0)), (1, .int v1), (2, .int v2), (3, .int v3), (4, .int v4), (5, .int v5), (6, .long ((x231_87 p v1 v2 v3 v4 v5 v8 v9 c v6 v10 J L).1)), (8, .int v8), (9, .int v9), (10, .int w10), (11, .int w11), (12, .int w12)], [], me_w (lw M ((x231_87 p v1 v2 v3 v4 v5 v8 v9 c v6 v10 J L).2.2)) ((x231_87 p v1 v2 v3 v4 v5 v8 v9 c v6 v10 J L).2.1)) o := by
  intro c
  induction c with
  | zero =>
    intro v6 v10 v11 v12 J L hc k
    have k := ly_revb 3 (c' := (if v3 ≤ v10 then 217 else 93, [(0, .ref (p 0)), (1, .int v1), (2, .int v2), (3, .int v3), (4, .int v4), (5, .int v5), (6, .long v6), (8, .int v8), (9, .int v9), (10, .int v10), (11, .int v11), (12, .int v12)], [], me_w (lw M L) J)) rfl k
    have h90 : v3 ≤ v10 := lx_end hc.2
    rw [if_pos h90] at k
    have k := nt_rn_w (a := [(0, .ref (p 0)), (1, .int v1), (2, .int v2), (3, .int v3), (4, .int v4), (5, .int v5), (6, .long v6), (8, .int v8), (9, .int v9), (10, .int v10), (11, .int v11), (12, .int v12)]) (b := [(0, .ref (p 0)), (1, .int v1), (2, .int v2), (3, .int v3), (4, .int v4), (5, .int v5), (6, .long v6), (8, .int v8), (9, .int v9), (10, .int v10), (11, .int v11), (12, .int v12)]) ⟨rfl, rfl, rfl, rfl, rfl, rfl, rfl, rfl, rfl, rfl, rfl, rfl, trivial⟩ rfl k
    rw [x231_87]
    exact ⟨_, _, _, k⟩
  | succ c ih =>
    intro v6 v10 v11 v12 J L hc k
    have k := ly_revb 3 (c' := (if v3 ≤ v10 then 217 else 93, [(0, .ref (p 0)), (1, .int v1), (2, .int v2), (3, .int v3), (4, .int v4), (5, .int v5), (6, .long v6), (8, .int v8), (9, .int v9), (10, .int v10), (11, .int v11), (12, .int v12)], [], me_w (lw M L) J)) rfl k
    by_cases h90 : v3 ≤ v10
    · rw [if_pos h90] at k
      have k := nt_rn_w (a := [(0, .ref (p 0)), (1, .int v1), (2, .int v2), (3, .int v3), (4, .int v4), (5, .int v5), (6, .long v6), (8, .int v8), (9, .int v9), (10, .int v10), (11, .int v11), (12, .int v12)]) (b := [(0, .ref (p 0)), (1, .int v1), (2, .int v2), (3, .int v3), (4, .int v4), (5, .int v5), (6, .long v6), (8, .int v8), (9, .int v9), (10, .int v10), (11, .int v11), (12, .int v12)]) ⟨rfl, rfl, rfl, rfl, rfl, rfl, rfl, rfl, rfl, rfl, rfl, rfl, trivial⟩ rfl k
      rw [x231_87, if_pos h90]
      exact ⟨_, _, _, k⟩
    · rw [if_neg h90] at k
      have k := ly_revb 2 (c' := (95, [(0, .ref (p 0)), (1, .int v1), (2, .int v2), (3, .int v3), (4, .int v4), (5, .int v5), (6, .long v6), (8, .int v8), (9, .int v9), (10, .int v10), (11, .int v11), (12, .int v12)], [.int v1, .ref (p 0)], me_w (lw M L) J)) rfl k
      obtain ⟨d1, o1, ed, kc, k⟩ := lz_c (g := 190) (q := 1) (vs := [.ref (p 0), .int v1]) (rest := []) rfl rfl (by decide) (Or.inr (Or.inl ⟨_, rfl, rfl⟩)) rfl k
      have e1 := xt190 hp hc.1 kc
      subst e1
      have k : nt_rn X _ 231 (98, [(0, .ref (p 0)), (1, .int v1), (2, .int v2), (3, .int v3), (4, .int v4), (5, .int v5), (6, .long v6), (8, .int v8), (9, .int v9), (10, .int v10), (11, .int v11), (12, .int v12)], [], me_w (lw M ((x190 p v1 J L).2)) ((x190 p v1 J L).1)) _ := k
      have k := ly_revb 2 (c' := (101, [(11, .int (Int32.ofInt 0)), (0, .ref (p 0)), (1, .int v1), (2, .int v2), (3, .int v3), (4, .int v4), (5, .int v5), (6, .long v6), (8, .int v8), (9, .int v9), (10, .int v10), (12, .int v12)], [], me_w (lw M ((x190 p v1 J L).2)) ((x190 p v1 J L).1))) rfl k
      have k := nt_rn_w (a := [(11, .int (Int32.ofInt 0)), (0, .ref (p 0)), (1, .int v1), (2, .int v2), (3, .int v3), (4, .int v4), (5, .int v5), (6, .long v6), (8, .int v8), (9, .int v9), (10, .int v10), (12, .int v12)]) (b := [(0, .ref (p 0)), (1, .int v1), (2, .int v2), (3, .int v3), (4, .int v4), (5, .int v5), (6, .long v6), (8, .int v8), (9, .int v9), (10, .int v10), (11, .int (Int32.ofInt 0)), (12, .int v12)]) ⟨rfl, rfl, rfl, rfl, rfl, rfl, rfl, rfl, rfl, rfl, rfl, rfl, trivial⟩ rfl k
      have k := xt231_101 hp  ((((x190 p v1 J L).1) (p 4) 1).toNatClampNeg) v6 (Int32.ofInt 0) v12 ((x190 p v1 J L).1) (⟨xw_190 (hp.2.1 4 0 (by omega) (by omega) (by decide)) hc.1, lx_beg (by decide), by decide⟩) k
      obtain ⟨w11, w12, k⟩ := k
      have k : nt_rn X _ 231 (211, [(0, .ref (p 0)), (1, .int v1), (2, .int v2), (3, .int v3), (4, .int v4), (5, .int v5), (6, .long ((x231_101 p v1 v2 v3 v4 v5 v8 v9 v10 ((x190 p v1 J L).2) ((((x190 p v1 J L).1) (p 4) 1).toNatClampNeg) v6 (Int32.ofInt 0) ((x190 p v1 J L).1)).1)), (8, .int v8), (9, .int v9), (10, .int v10), (11, .int w11), (12, .int w12)], [], me_w (lw M ((x190 p v1 J L).2)) ((x231_101 p v1 v2 v3 v4 v5 v8 v9 v10 ((x190 p v1 J L).2) ((((x190 p v1 J L).1) (p 4) 1).toNatClampNeg) v6 (Int32.ofInt 0) ((x190 p v1 J L).1)).2)) _ := k
      have k := ly_revb 2 (c' := (87, [(10, .int (v10 + (Int32.ofInt 1))), (0, .ref (p 0)), (1, .int v1), (2, .int v2), (3, .int v3), (4, .int v4), (5, .int v5), (6, .long ((x231_101 p v1 v2 v3 v4 v5 v8 v9 v10 ((x190 p v1 J L).2) ((((x190 p v1 J L).1) (p 4) 1).toNatClampNeg) v6 (Int32.ofInt 0) ((x190 p v1 J L).1)).1)), (8, .int v8), (9, .int v9), (11, .int w11), (12, .int w12)], [], me_w (lw M ((x190 p v1 J L).2)) ((x231_101 p v1 v2 v3 v4 v5 v8 v9 v10 ((x190 p v1 J L).2) ((((x190 p v1 J L).1) (p 4) 1).toNatClampNeg) v6 (Int32.ofInt 0) ((x190 p v1 J L).1)).2))) rfl k
      have k := nt_rn_w (a := [(10, .int (v10 + (Int32.ofInt 1))), (0, .ref (p 0)), (1, .int v1), (2, .int v2), (3, .int v3), (4, .int v4), (5, .int v5), (6, .long ((x231_101 p v1 v2 v3 v4 v5 v8 v9 v10 ((x190 p v1 J L).2) ((((x190 p v1 J L).1) (p 4) 1).toNatClampNeg) v6 (Int32.ofInt 0) ((x190 p v1 J L).1)).1)), (8, .int v8), (9, .int v9), (11, .int w11), (12, .int w12)]) (b := [(0, .ref (p 0)), (1, .int v1), (2, .int v2), (3, .int v3), (4, .int v4), (5, .int v5), (6, .long ((x231_101 p v1 v2 v3 v4 v5 v8 v9 v10 ((x190 p v1 J L).2) ((((x190 p v1 J L).1) (p 4) 1).toNatClampNeg) v6 (Int32.ofInt 0) ((x190 p v1 J L).1)).1)), (8, .int v8), (9, .int v9), (10, .int (v10 + (Int32.ofInt 1))), (11, .int w11), (12, .int w12)]) ⟨rfl, rfl, rfl, rfl, rfl, rfl, rfl, rfl, rfl, rfl, rfl, rfl, trivial⟩ rfl k
      have k := ih ((x231_101 p v1 v2 v3 v4 v5 v8 v9 v10 ((x190 p v1 J L).2) ((((x190 p v1 J L).1) (p 4) 1).toNatClampNeg) v6 (Int32.ofInt 0) ((x190 p v1 J L).1)).1) (v10 + (Int32.ofInt 1)) w11 w12 ((x231_101 p v1 v2 v3 v4 v5 v8 v9 v10 ((x190 p v1 J L).2) ((((x190 p v1 J L).1) (p 4) 1).toNatClampNeg) v6 (Int32.ofInt 0) ((x190 p v1 J L).1)).2) ((x190 p v1 J L).2) (⟨xw_101 (xw_190 (hp.2.1 4 0 (by omega) (by omega) (by decide)) hc.1) (by decide), lx_dec h90 hc.2⟩) k
      rw [x231_87, if_neg h90]
      exact k
theorem x231_87_rule {p : Nat → Nat} {v1 : Int32} {v2 : Int32} {v3 : Int32} {v4 : Int32} {v5 : Int32} {v8 : Int32} {v9 : Int32} {I : Nat → Int64 → Int32 → (Nat → Nat → Int32) → (Nat → Nat → Int64) → Prop} {Q : Int64 × (Nat → Nat → Int32) × (Nat → Nat → Int64) → Prop} (h0 : ∀ (v6 : Int64) (v10 : Int32) (J : Nat → Nat → Int32) (L : Nat → Nat → Int64), I 0 v6 v10 J L → Q (v6, J, L)) (h1 : ∀ (c : Nat) (v6 : Int64) (v10 : Int32) (J : Nat → Nat → Int32) (L : Nat → Nat → Int64), I (c + 1) v6 v10 J L →
    if v3 ≤ v10 then (Q (v6, J, L))
    else (I c ((x231_101 p v1 v2 v3 v4 v5 v8 v9 v10 ((x190 p v1 J L).2) ((((x190 p v1 J L).1) (p 4) 1).toNatClampNeg) v6 (Int32.ofInt 0) ((x190 p v1 J L).1)).1) (v10 + (Int32.ofInt 1)) ((x231_101 p v1 v2 v3 v4 v5 v8 v9 v10 ((x190 p v1 J L).2) ((((x190 p v1 J L).1) (p 4) 1).toNatClampNeg) v6 (Int32.ofInt 0) ((x190 p v1 J L).1)).2) ((x190 p v1 J L).2))) : ∀ (c : Nat) (v6 : Int64) (v10 : Int32) (J : Nat → Nat → Int32) (L : Nat → Nat → Int64), I c v6 v10 J L → Q (x231_87 p v1 v2 v3 v4 v5 v8 v9 c v6 v10 J L) := by
  intro c
  induction c with
  | zero =>
    intro v6 v10 J L hi
    rw [x231_87]
    exact h0 v6 v10 J L hi
  | succ c ih =>
    intro v6 v10 J L hi
    have hi := h1 c v6 v10 J L hi
    rw [x231_87]
    by_cases h : v3 ≤ v10
    · rw [if_pos h] at hi ⊢
      exact hi
    · rw [if_neg h] at hi ⊢
      exact ih _ _ _ _ hi
theorem x231_87_frJ {p : Nat → Nat} {v1 : Int32} {v2 : Int32} {v3 : Int32} {v4 : Int32} {v5 : Int32} {v8 : Int32} {v9 : Int32} {b : Nat} : ∀ (c : Nat) (v6 : Int64) (v10 : Int32) (J : Nat → Nat → Int32) (L : Nat → Nat → Int64), b ≠ p 0 → b ≠ p 4 → (x231_87 p v1 v2 v3 v4 v5 v8 v9 c v6 v10 J L).2.1 b = J b := by
  intro c
  induction c with
  | zero =>
    intro v6 v10 J L n0 n1
    rw [x231_87]
    all_goals first | (dsimp only; exact (show J b = J b from rfl)) | exact (show J b = J b from rfl)
  | succ c ih =>
    intro v6 v10 J L n0 n1
    rw [x231_87]
    by_cases h : v3 ≤ v10
    · rw [if_pos h]
      all_goals first | (dsimp only; exact (show J b = J b from rfl)) | exact (show J b = J b from rfl)
    · rw [if_neg h]
      exact (ih _ _ _ _ n0 n1).trans ((x231_101_frJ _ _ _ _ n1).trans (x190_frJ  n0 n1))
theorem x231_87_frL {p : Nat → Nat} {v1 : Int32} {v2 : Int32} {v3 : Int32} {v4 : Int32} {v5 : Int32} {v8 : Int32} {v9 : Int32} {b : Nat} : ∀ (c : Nat) (v6 : Int64) (v10 : Int32) (J : Nat → Nat → Int32) (L : Nat → Nat → Int64), b ≠ p 5 → b ≠ p 6 → (x231_87 p v1 v2 v3 v4 v5 v8 v9 c v6 v10 J L).2.2 b = L b := by
  intro c
  induction c with
  | zero =>
    intro v6 v10 J L n0 n1
    rw [x231_87]
    all_goals first | (dsimp only; exact (show L b = L b from rfl)) | exact (show L b = L b from rfl)
  | succ c ih =>
    intro v6 v10 J L n0 n1
    rw [x231_87]
    by_cases h : v3 ≤ v10
    · rw [if_pos h]
      all_goals first | (dsimp only; exact (show L b = L b from rfl)) | exact (show L b = L b from rfl)
    · rw [if_neg h]
      exact (ih _ _ _ _ n0 n1).trans (x190_frL n0 n1)
def x231_78 (p : Nat → Nat) (v1 : Int32) (v2 : Int32) (v3 : Int32) (v4 : Int32) (v5 : Int32) : Nat → Int64 → Int32 → Int32 → (Nat → Nat → Int32) → (Nat → Nat → Int64) → Int32 × (Nat → Nat → Int32) × (Nat → Nat → Int64)
  | 0, v6, v8, v9, J, L => (v8, J, L)
  | c + 1, v6, v8, v9, J, L => if v2 ≤ v9 then (v8, J, L)
    else if v5 = 0 then (x231_78 p v1 v2 v3 v4 v5 c ((x231_87 p v1 v2 v3 v4 v5 v8 v9 v3.toNatClampNeg v6 (Int32.ofInt 0) J L).1) (v8 + ((((x231_87 p v1 v2 v3 v4 v5 v8 v9 v3.toNatClampNeg v6 (Int32.ofInt 0) J L).2.1) (p 4) 7) - (J (p 7) 7))) (v9 + (Int32.ofInt 1)) (x229 p ((x231_87 p v1 v2 v3 v4 v5 v8 v9 v3.toNatClampNeg v6 (Int32.ofInt 0) J L).2.1)) ((x231_87 p v1 v2 v3 v4 v5 v8 v9 v3.toNatClampNeg v6 (Int32.ofInt 0) J L).2.2))
      else (x231_78 p v1 v2 v3 v4 v5 c ((x231_87 p v1 v2 v3 v4 v5 v8 v9 v3.toNatClampNeg v6 (Int32.ofInt 0) J L).1) (v8 + (x214 (x228 p ((x231_87 p v1 v2 v3 v4 v5 v8 v9 v3.toNatClampNeg v6 (Int32.ofInt 0) J L).2.1)))) (v9 + (Int32.ofInt 1)) (x229 p ((x231_87 p v1 v2 v3 v4 v5 v8 v9 v3.toNatClampNeg v6 (Int32.ofInt 0) J L).2.1)) ((x231_87 p v1 v2 v3 v4 v5 v8 v9 v3.toNatClampNeg v6 (Int32.ofInt 0) J L).2.2))
theorem xt231_78 {X : nt_X} {d : Nat} {M : nt_M} {o : Option Value × nt_M} {p : Nat → Nat} {v1 : Int32} {v2 : Int32} {v3 : Int32} {v4 : Int32} {v5 : Int32} (hp : xs_P M p) : ∀ (c : Nat) (v6 : Int64) (v8 : Int32) (v9 : Int32) (v10 : Int32) (v11 : Int32) (v12 : Int32) (J : Nat → Nat → Int32) (L : Nat → Nat → Int64), (xr_W (J (p 7)) ∧ xr_W (J (p 4)) ∧ v2.toInt - v9.toInt ≤ c) → nt_rn X d 231 (78, [(0, .ref (p 0)), (1, .int v1), (2, .int v2), (3, .int v3), (4, .int v4), (5, .int v5), (6, .long v6), (8, .int v8), (9, .int v9), (10, .int v10), (11, .int v11), (12, .int v12)], [], me_w (lw M L) J) o → o = (some (.int ((x231_78 p v1 v2 v3 v4 v5 c v6 v8 v9 J L).1)), me_w (lw M ((x231_78 p v1 v2 v3 v4 v5 c v6 v8 v9 J L).2.2)) ((x231_78 p v1 v2 v3 v4 v5 c v6 v8 v9 J L).2.1)) := by
  intro c
  induction c with
  | zero =>
    intro v6 v8 v9 v10 v11 v12 J L hc k
    have k := ly_revb 3 (c' := (if v2 ≤ v9 then 262 else 84, [(0, .ref (p 0)), (1, .int v1), (2, .int v2), (3, .int v3), (4, .int v4), (5, .int v5), (6, .long v6), (8, .int v8), (9, .int v9), (10, .int v10), (11, .int v11), (12, .int v12)], [], me_w (lw M L) J)) rfl k
    have h81 : v2 ≤ v9 := lx_end hc.2.2
    rw [if_pos h81] at k
    have k := ly_revb 1 (c' := (264, [(0, .ref (p 0)), (1, .int v1), (2, .int v2), (3, .int v3), (4, .int v4), (5, .int v5), (6, .long v6), (8, .int v8), (9, .int v9), (10, .int v10), (11, .int v11), (12, .int v12)], [.int v8], me_w (lw M L) J)) rfl k
    have k := lz_ri rfl (by decide) k
    rw [k, x231_78]
  | succ c ih =>
    intro v6 v8 v9 v10 v11 v12 J L hc k
    have k := ly_revb 3 (c' := (if v2 ≤ v9 then 262 else 84, [(0, .ref (p 0)), (1, .int v1), (2, .int v2), (3, .int v3), (4, .int v4), (5, .int v5), (6, .long v6), (8, .int v8), (9, .int v9), (10, .int v10), (11, .int v11), (12, .int v12)], [], me_w (lw M L) J)) rfl k
    by_cases h81 : v2 ≤ v9
    · rw [if_pos h81] at k
      have k := ly_revb 1 (c' := (264, [(0, .ref (p 0)), (1, .int v1), (2, .int v2), (3, .int v3), (4, .int v4), (5, .int v5), (6, .long v6), (8, .int v8), (9, .int v9), (10, .int v10), (11, .int v11), (12, .int v12)], [.int v8], me_w (lw M L) J)) rfl k
      have k := lz_ri rfl (by decide) k
      rw [k, x231_78, if_pos h81]
    · rw [if_neg h81] at k
      have k := ly_revb 2 (c' := (87, [(10, .int (Int32.ofInt 0)), (0, .ref (p 0)), (1, .int v1), (2, .int v2), (3, .int v3), (4, .int v4), (5, .int v5), (6, .long v6), (8, .int v8), (9, .int v9), (11, .int v11), (12, .int v12)], [], me_w (lw M L) J)) rfl k
      have k := nt_rn_w (a := [(10, .int (Int32.ofInt 0)), (0, .ref (p 0)), (1, .int v1), (2, .int v2), (3, .int v3), (4, .int v4), (5, .int v5), (6, .long v6), (8, .int v8), (9, .int v9), (11, .int v11), (12, .int v12)]) (b := [(0, .ref (p 0)), (1, .int v1), (2, .int v2), (3, .int v3), (4, .int v4), (5, .int v5), (6, .long v6), (8, .int v8), (9, .int v9), (10, .int (Int32.ofInt 0)), (11, .int v11), (12, .int v12)]) ⟨rfl, rfl, rfl, rfl, rfl, rfl, rfl, rfl, rfl, rfl, rfl, rfl, trivial⟩ rfl k
      have k := xt231_87 hp  v3.toNatClampNeg v6 (Int32.ofInt 0) v11 v12 J L (⟨hc.2.1, lx_beg (by decide)⟩) k
      obtain ⟨w10, w11, w12, k⟩ := k
      have k : nt_rn X _ 231 (217, [(0, .ref (p 0)), (1, .int v1), (2, .int v2), (3, .int v3), (4, .int v4), (5, .int v5), (6, .long ((x231_87 p v1 v2 v3 v4 v5 v8 v9 v3.toNatClampNeg v6 (Int32.ofInt 0) J L).1)), (8, .int v8), (9, .int v9), (10, .int w10), (11, .int w11), (12, .int w12)], [], me_w (lw M ((x231_87 p v1 v2 v3 v4 v5 v8 v9 v3.toNatClampNeg v6 (Int32.ofInt 0) J L).2.2)) ((x231_87 p v1 v2 v3 v4 v5 v8 v9 v3.toNatClampNeg v6 (Int32.ofInt 0) J L).2.1)) _ := k
      have k := ly_revb 3 (c' := (if v5 = 0 then 224 else 242, [(0, .ref (p 0)), (1, .int v1), (2, .int v2), (3, .int v3), (4, .int v4), (5, .int v5), (6, .long ((x231_87 p v1 v2 v3 v4 v5 v8 v9 v3.toNatClampNeg v6 (Int32.ofInt 0) J L).1)), (8, .int v8), (9, .int v9), (10, .int w10), (11, .int w11), (12, .int w12)], [.int v8], me_w (lw M ((x231_87 p v1 v2 v3 v4 v5 v8 v9 v3.toNatClampNeg v6 (Int32.ofInt 0) J L).2.2)) ((x231_87 p v1 v2 v3 v4 v5 v8 v9 v3.toNatClampNeg v6 (Int32.ofInt 0) J L).2.1))) rfl k
      by_cases h221 : v5 = 0
      · rw [if_pos h221] at k
        have k := ly_revb 1 (c' := (225, [(0, .ref (p 0)), (1, .int v1), (2, .int v2), (3, .int v3), (4, .int v4), (5, .int v5), (6, .long ((x231_87 p v1 v2 v3 v4 v5 v8 v9 v3.toNatClampNeg v6 (Int32.ofInt 0) J L).1)), (8, .int v8), (9, .int v9), (10, .int w10), (11, .int w11), (12, .int w12)], [.ref (p 0), .int v8], me_w (lw M ((x231_87 p v1 v2 v3 v4 v5 v8 v9 v3.toNatClampNeg v6 (Int32.ofInt 0) J L).2.2)) ((x231_87 p v1 v2 v3 v4 v5 v8 v9 v3.toNatClampNeg v6 (Int32.ofInt 0) J L).2.1))) rfl k
        have k := lz_get (a := (p 0)) (g := 1127) (M := me_w (lw M ((x231_87 p v1 v2 v3 v4 v5 v8 v9 v3.toNatClampNeg v6 (Int32.ofInt 0) J L).2.2)) ((x231_87 p v1 v2 v3 v4 v5 v8 v9 v3.toNatClampNeg v6 (Int32.ofInt 0) J L).2.1)) (v := .ref (p 4)) rfl (nt_gfR rfl (mw_RL (hp.1 (0, 27, 4) (by decide)))) k
        have k := ly_revb 1 (c' := (230, [(0, .ref (p 0)), (1, .int v1), (2, .int v2), (3, .int v3), (4, .int v4), (5, .int v5), (6, .long ((x231_87 p v1 v2 v3 v4 v5 v8 v9 v3.toNatClampNeg v6 (Int32.ofInt 0) J L).1)), (8, .int v8), (9, .int v9), (10, .int w10), (11, .int w11), (12, .int w12)], [.int (Int32.ofInt 7), .ref (p 4), .int v8], me_w (lw M ((x231_87 p v1 v2 v3 v4 v5 v8 v9 v3.toNatClampNeg v6 (Int32.ofInt 0) J L).2.2)) ((x231_87 p v1 v2 v3 v4 v5 v8 v9 v3.toNatClampNeg v6 (Int32.ofInt 0) J L).2.1))) rfl k
        have k := mx_iald (v := ((x231_87 p v1 v2 v3 v4 v5 v8 v9 v3.toNatClampNeg v6 (Int32.ofInt 0) J L).2.1) (p 4) 7) rfl (hp.2.2.1 4 (by omega)) ((congrArg (((x231_87 p v1 v2 v3 v4 v5 v8 v9 v3.toNatClampNeg v6 (Int32.ofInt 0) J L).2.1) (p 4)) (show (Int32.ofInt 7).toNatClampNeg = 7 from rfl)).trans (rfl)) k
        have k := ly_revb 1 (c' := (232, [(0, .ref (p 0)), (1, .int v1), (2, .int v2), (3, .int v3), (4, .int v4), (5, .int v5), (6, .long ((x231_87 p v1 v2 v3 v4 v5 v8 v9 v3.toNatClampNeg v6 (Int32.ofInt 0) J L).1)), (8, .int v8), (9, .int v9), (10, .int w10), (11, .int w11), (12, .int w12)], [.ref (p 0), .int (((x231_87 p v1 v2 v3 v4 v5 v8 v9 v3.toNatClampNeg v6 (Int32.ofInt 0) J L).2.1) (p 4) 7), .int v8], me_w (lw M ((x231_87 p v1 v2 v3 v4 v5 v8 v9 v3.toNatClampNeg v6 (Int32.ofInt 0) J L).2.2)) ((x231_87 p v1 v2 v3 v4 v5 v8 v9 v3.toNatClampNeg v6 (Int32.ofInt 0) J L).2.1))) rfl k
        have k := lz_get (a := (p 0)) (g := 1128) (M := me_w (lw M ((x231_87 p v1 v2 v3 v4 v5 v8 v9 v3.toNatClampNeg v6 (Int32.ofInt 0) J L).2.2)) ((x231_87 p v1 v2 v3 v4 v5 v8 v9 v3.toNatClampNeg v6 (Int32.ofInt 0) J L).2.1)) (v := .ref (p 7)) rfl (nt_gfR rfl (mw_RL (hp.1 (0, 28, 7) (by decide)))) k
        have k := ly_revb 1 (c' := (237, [(0, .ref (p 0)), (1, .int v1), (2, .int v2), (3, .int v3), (4, .int v4), (5, .int v5), (6, .long ((x231_87 p v1 v2 v3 v4 v5 v8 v9 v3.toNatClampNeg v6 (Int32.ofInt 0) J L).1)), (8, .int v8), (9, .int v9), (10, .int w10), (11, .int w11), (12, .int w12)], [.int (Int32.ofInt 7), .ref (p 7), .int (((x231_87 p v1 v2 v3 v4 v5 v8 v9 v3.toNatClampNeg v6 (Int32.ofInt 0) J L).2.1) (p 4) 7), .int v8], me_w (lw M ((x231_87 p v1 v2 v3 v4 v5 v8 v9 v3.toNatClampNeg v6 (Int32.ofInt 0) J L).2.2)) ((x231_87 p v1 v2 v3 v4 v5 v8 v9 v3.toNatClampNeg v6 (Int32.ofInt 0) J L).2.1))) rfl k
        have k := mx_iald (v := J (p 7) 7) rfl (hp.2.2.1 7 (by omega)) ((congrArg (((x231_87 p v1 v2 v3 v4 v5 v8 v9 v3.toNatClampNeg v6 (Int32.ofInt 0) J L).2.1) (p 7)) (show (Int32.ofInt 7).toNatClampNeg = 7 from rfl)).trans (congrFun (x231_87_frJ _ _ _ _ _ (hp.2.1 7 0 (by omega) (by omega) (by decide)) (hp.2.1 7 4 (by omega) (by omega) (by decide))) 7)) k
        have k := ly_revb 5 (c' := (253, [(8, .int (v8 + ((((x231_87 p v1 v2 v3 v4 v5 v8 v9 v3.toNatClampNeg v6 (Int32.ofInt 0) J L).2.1) (p 4) 7) - (J (p 7) 7)))), (0, .ref (p 0)), (1, .int v1), (2, .int v2), (3, .int v3), (4, .int v4), (5, .int v5), (6, .long ((x231_87 p v1 v2 v3 v4 v5 v8 v9 v3.toNatClampNeg v6 (Int32.ofInt 0) J L).1)), (9, .int v9), (10, .int w10), (11, .int w11), (12, .int w12)], [.ref (p 0)], me_w (lw M ((x231_87 p v1 v2 v3 v4 v5 v8 v9 v3.toNatClampNeg v6 (Int32.ofInt 0) J L).2.2)) ((x231_87 p v1 v2 v3 v4 v5 v8 v9 v3.toNatClampNeg v6 (Int32.ofInt 0) J L).2.1))) rfl k
        obtain ⟨d1, o1, ed, kc, k⟩ := lz_c (g := 229) (q := 1) (vs := [.ref (p 0)]) (rest := []) rfl rfl (by decide) (Or.inr (Or.inl ⟨_, rfl, rfl⟩)) rfl k
        have e1 := xt229 (xs_lp hp) kc
        subst e1
        have k : nt_rn X _ 231 (256, [(8, .int (v8 + ((((x231_87 p v1 v2 v3 v4 v5 v8 v9 v3.toNatClampNeg v6 (Int32.ofInt 0) J L).2.1) (p 4) 7) - (J (p 7) 7)))), (0, .ref (p 0)), (1, .int v1), (2, .int v2), (3, .int v3), (4, .int v4), (5, .int v5), (6, .long ((x231_87 p v1 v2 v3 v4 v5 v8 v9 v3.toNatClampNeg v6 (Int32.ofInt 0) J L).1)), (9, .int v9), (10, .int w10), (11, .int w11), (12, .int w12)], [], me_w (lw M ((x231_87 p v1 v2 v3 v4 v5 v8 v9 v3.toNatClampNeg v6 (Int32.ofInt 0) J L).2.2)) (x229 p ((x231_87 p v1 v2 v3 v4 v5 v8 v9 v3.toNatClampNeg v6 (Int32.ofInt 0) J L).2.1))) _ := k
        have k := ly_revb 2 (c' := (78, [(9, .int (v9 + (Int32.ofInt 1))), (8, .int (v8 + ((((x231_87 p v1 v2 v3 v4 v5 v8 v9 v3.toNatClampNeg v6 (Int32.ofInt 0) J L).2.1) (p 4) 7) - (J (p 7) 7)))), (0, .ref (p 0)), (1, .int v1), (2, .int v2), (3, .int v3), (4, .int v4), (5, .int v5), (6, .long ((x231_87 p v1 v2 v3 v4 v5 v8 v9 v3.toNatClampNeg v6 (Int32.ofInt 0) J L).1)), (10, .int w10), (11, .int w11), (12, .int w12)], [], me_w (lw M ((x231_87 p v1 v2 v3 v4 v5 v8 v9 v3.toNatClampNeg v6 (Int32.ofInt 0) J L).2.2)) (x229 p ((x231_87 p v1 v2 v3 v4 v5 v8 v9 v3.toNatClampNeg v6 (Int32.ofInt 0) J L).2.1)))) rfl k
        have k := nt_rn_w (a := [(9, .int (v9 + (Int32.ofInt 1))), (8, .int (v8 + ((((x231_87 p v1 v2 v3 v4 v5 v8 v9 v3.toNatClampNeg v6 (Int32.ofInt 0) J L).2.1) (p 4) 7) - (J (p 7) 7)))), (0, .ref (p 0)), (1, .int v1), (2, .int v2), (3, .int v3), (4, .int v4), (5, .int v5), (6, .long ((x231_87 p v1 v2 v3 v4 v5 v8 v9 v3.toNatClampNeg v6 (Int32.ofInt 0) J L).1)), (10, .int w10), (11, .int w11), (12, .int w12)]) (b := [(0, .ref (p 0)), (1, .int v1), (2, .int v2), (3, .int v3), (4, .int v4), (5, .int v5), (6, .long ((x231_87 p v1 v2 v3 v4 v5 v8 v9 v3.toNatClampNeg v6 (Int32.ofInt 0) J L).1)), (8, .int (v8 + ((((x231_87 p v1 v2 v3 v4 v5 v8 v9 v3.toNatClampNeg v6 (Int32.ofInt 0) J L).2.1) (p 4) 7) - (J (p 7) 7)))), (9, .int (v9 + (Int32.ofInt 1))), (10, .int w10), (11, .int w11), (12, .int w12)]) ⟨rfl, rfl, rfl, rfl, rfl, rfl, rfl, rfl, rfl, rfl, rfl, rfl, trivial⟩ rfl k
        have k := ih ((x231_87 p v1 v2 v3 v4 v5 v8 v9 v3.toNatClampNeg v6 (Int32.ofInt 0) J L).1) (v8 + ((((x231_87 p v1 v2 v3 v4 v5 v8 v9 v3.toNatClampNeg v6 (Int32.ofInt 0) J L).2.1) (p 4) 7) - (J (p 7) 7))) (v9 + (Int32.ofInt 1)) w10 w11 w12 (x229 p ((x231_87 p v1 v2 v3 v4 v5 v8 v9 v3.toNatClampNeg v6 (Int32.ofInt 0) J L).2.1)) ((x231_87 p v1 v2 v3 v4 v5 v8 v9 v3.toNatClampNeg v6 (Int32.ofInt 0) J L).2.2) (⟨by rw [x229_frJ (hp.2.1 7 4 (by omega) (by omega) (by decide)), x231_87_frJ _ _ _ _ _ (hp.2.1 7 0 (by omega) (by omega) (by decide)) (hp.2.1 7 4 (by omega) (by omega) (by decide))]; exact hc.1, xw_229 (hp.2.1 7 4 (by omega) (by omega) (by decide)) (by rw [x231_87_frJ _ _ _ _ _ (hp.2.1 7 0 (by omega) (by omega) (by decide)) (hp.2.1 7 4 (by omega) (by omega) (by decide))]; exact hc.1), lx_dec h81 hc.2.2⟩) k
        rw [k, x231_78, if_neg h81, if_pos h221]
      · rw [if_neg h221] at k
        have k := ly_revb 1 (c' := (243, [(0, .ref (p 0)), (1, .int v1), (2, .int v2), (3, .int v3), (4, .int v4), (5, .int v5), (6, .long ((x231_87 p v1 v2 v3 v4 v5 v8 v9 v3.toNatClampNeg v6 (Int32.ofInt 0) J L).1)), (8, .int v8), (9, .int v9), (10, .int w10), (11, .int w11), (12, .int w12)], [.ref (p 0), .int v8], me_w (lw M ((x231_87 p v1 v2 v3 v4 v5 v8 v9 v3.toNatClampNeg v6 (Int32.ofInt 0) J L).2.2)) ((x231_87 p v1 v2 v3 v4 v5 v8 v9 v3.toNatClampNeg v6 (Int32.ofInt 0) J L).2.1))) rfl k
        obtain ⟨d1, o1, ed, kc, k⟩ := lz_c (g := 228) (q := 1) (vs := [.ref (p 0)]) (rest := [.int v8]) rfl rfl (by decide) (Or.inr (Or.inl ⟨_, rfl, rfl⟩)) rfl k
        have e1 := xt228 (xs_lp hp) kc
        subst e1
        have k : nt_rn X _ 231 (246, [(0, .ref (p 0)), (1, .int v1), (2, .int v2), (3, .int v3), (4, .int v4), (5, .int v5), (6, .long ((x231_87 p v1 v2 v3 v4 v5 v8 v9 v3.toNatClampNeg v6 (Int32.ofInt 0) J L).1)), (8, .int v8), (9, .int v9), (10, .int w10), (11, .int w11), (12, .int w12)], [.int (x228 p ((x231_87 p v1 v2 v3 v4 v5 v8 v9 v3.toNatClampNeg v6 (Int32.ofInt 0) J L).2.1)), .int v8], me_w (lw M ((x231_87 p v1 v2 v3 v4 v5 v8 v9 v3.toNatClampNeg v6 (Int32.ofInt 0) J L).2.2)) ((x231_87 p v1 v2 v3 v4 v5 v8 v9 v3.toNatClampNeg v6 (Int32.ofInt 0) J L).2.1)) _ := k
        obtain ⟨d1, o1, ed, kc, k⟩ := lz_c (g := 214) (q := 0) (vs := [.int (x228 p ((x231_87 p v1 v2 v3 v4 v5 v8 v9 v3.toNatClampNeg v6 (Int32.ofInt 0) J L).2.1))]) (rest := [.int v8]) rfl rfl (by decide) (Or.inl ⟨_, rfl, rfl⟩) rfl k
        have e1 := xt214  kc
        subst e1
        have k : nt_rn X _ 231 (249, [(0, .ref (p 0)), (1, .int v1), (2, .int v2), (3, .int v3), (4, .int v4), (5, .int v5), (6, .long ((x231_87 p v1 v2 v3 v4 v5 v8 v9 v3.toNatClampNeg v6 (Int32.ofInt 0) J L).1)), (8, .int v8), (9, .int v9), (10, .int w10), (11, .int w11), (12, .int w12)], [.int (x214 (x228 p ((x231_87 p v1 v2 v3 v4 v5 v8 v9 v3.toNatClampNeg v6 (Int32.ofInt 0) J L).2.1))), .int v8], me_w (lw M ((x231_87 p v1 v2 v3 v4 v5 v8 v9 v3.toNatClampNeg v6 (Int32.ofInt 0) J L).2.2)) ((x231_87 p v1 v2 v3 v4 v5 v8 v9 v3.toNatClampNeg v6 (Int32.ofInt 0) J L).2.1)) _ := k
        have k := ly_revb 3 (c' := (253, [(8, .int (v8 + (x214 (x228 p ((x231_87 p v1 v2 v3 v4 v5 v8 v9 v3.toNatClampNeg v6 (Int32.ofInt 0) J L).2.1))))), (0, .ref (p 0)), (1, .int v1), (2, .int v2), (3, .int v3), (4, .int v4), (5, .int v5), (6, .long ((x231_87 p v1 v2 v3 v4 v5 v8 v9 v3.toNatClampNeg v6 (Int32.ofInt 0) J L).1)), (9, .int v9), (10, .int w10), (11, .int w11), (12, .int w12)], [.ref (p 0)], me_w (lw M ((x231_87 p v1 v2 v3 v4 v5 v8 v9 v3.toNatClampNeg v6 (Int32.ofInt 0) J L).2.2)) ((x231_87 p v1 v2 v3 v4 v5 v8 v9 v3.toNatClampNeg v6 (Int32.ofInt 0) J L).2.1))) rfl k
        obtain ⟨d1, o1, ed, kc, k⟩ := lz_c (g := 229) (q := 1) (vs := [.ref (p 0)]) (rest := []) rfl rfl (by decide) (Or.inr (Or.inl ⟨_, rfl, rfl⟩)) rfl k
        have e1 := xt229 (xs_lp hp) kc
        subst e1
        have k : nt_rn X _ 231 (256, [(8, .int (v8 + (x214 (x228 p ((x231_87 p v1 v2 v3 v4 v5 v8 v9 v3.toNatClampNeg v6 (Int32.ofInt 0) J L).2.1))))), (0, .ref (p 0)), (1, .int v1), (2, .int v2), (3, .int v3), (4, .int v4), (5, .int v5), (6, .long ((x231_87 p v1 v2 v3 v4 v5 v8 v9 v3.toNatClampNeg v6 (Int32.ofInt 0) J L).1)), (9, .int v9), (10, .int w10), (11, .int w11), (12, .int w12)], [], me_w (lw M ((x231_87 p v1 v2 v3 v4 v5 v8 v9 v3.toNatClampNeg v6 (Int32.ofInt 0) J L).2.2)) (x229 p ((x231_87 p v1 v2 v3 v4 v5 v8 v9 v3.toNatClampNeg v6 (Int32.ofInt 0) J L).2.1))) _ := k
        have k := ly_revb 2 (c' := (78, [(9, .int (v9 + (Int32.ofInt 1))), (8, .int (v8 + (x214 (x228 p ((x231_87 p v1 v2 v3 v4 v5 v8 v9 v3.toNatClampNeg v6 (Int32.ofInt 0) J L).2.1))))), (0, .ref (p 0)), (1, .int v1), (2, .int v2), (3, .int v3), (4, .int v4), (5, .int v5), (6, .long ((x231_87 p v1 v2 v3 v4 v5 v8 v9 v3.toNatClampNeg v6 (Int32.ofInt 0) J L).1)), (10, .int w10), (11, .int w11), (12, .int w12)], [], me_w (lw M ((x231_87 p v1 v2 v3 v4 v5 v8 v9 v3.toNatClampNeg v6 (Int32.ofInt 0) J L).2.2)) (x229 p ((x231_87 p v1 v2 v3 v4 v5 v8 v9 v3.toNatClampNeg v6 (Int32.ofInt 0) J L).2.1)))) rfl k
        have k := nt_rn_w (a := [(9, .int (v9 + (Int32.ofInt 1))), (8, .int (v8 + (x214 (x228 p ((x231_87 p v1 v2 v3 v4 v5 v8 v9 v3.toNatClampNeg v6 (Int32.ofInt 0) J L).2.1))))), (0, .ref (p 0)), (1, .int v1), (2, .int v2), (3, .int v3), (4, .int v4), (5, .int v5), (6, .long ((x231_87 p v1 v2 v3 v4 v5 v8 v9 v3.toNatClampNeg v6 (Int32.ofInt 0) J L).1)), (10, .int w10), (11, .int w11), (12, .int w12)]) (b := [(0, .ref (p 0)), (1, .int v1), (2, .int v2), (3, .int v3), (4, .int v4), (5, .int v5), (6, .long ((x231_87 p v1 v2 v3 v4 v5 v8 v9 v3.toNatClampNeg v6 (Int32.ofInt 0) J L).1)), (8, .int (v8 + (x214 (x228 p ((x231_87 p v1 v2 v3 v4 v5 v8 v9 v3.toNatClampNeg v6 (Int32.ofInt 0) J L).2.1))))), (9, .int (v9 + (Int32.ofInt 1))), (10, .int w10), (11, .int w11), (12, .int w12)]) ⟨rfl, rfl, rfl, rfl, rfl, rfl, rfl, rfl, rfl, rfl, rfl, rfl, trivial⟩ rfl k
        have k := ih ((x231_87 p v1 v2 v3 v4 v5 v8 v9 v3.toNatClampNeg v6 (Int32.ofInt 0) J L).1) (v8 + (x214 (x228 p ((x231_87 p v1 v2 v3 v4 v5 v8 v9 v3.toNatClampNeg v6 (Int32.ofInt 0) J L).2.1)))) (v9 + (Int32.ofInt 1)) w10 w11 w12 (x229 p ((x231_87 p v1 v2 v3 v4 v5 v8 v9 v3.toNatClampNeg v6 (Int32.ofInt 0) J L).2.1)) ((x231_87 p v1 v2 v3 v4 v5 v8 v9 v3.toNatClampNeg v6 (Int32.ofInt 0) J L).2.2) (⟨by rw [x229_frJ (hp.2.1 7 4 (by omega) (by omega) (by decide)), x231_87_frJ _ _ _ _ _ (hp.2.1 7 0 (by omega) (by omega) (by decide)) (hp.2.1 7 4 (by omega) (by omega) (by decide))]; exact hc.1, xw_229 (hp.2.1 7 4 (by omega) (by omega) (by decide)) (by rw [x231_87_frJ _ _ _ _ _ (hp.2.1 7 0 (by omega) (by omega) (by decide)) (hp.2.1 7 4 (by omega) (by omega) (by decide))]; exact hc.1), lx_dec h81 hc.2.2⟩) k
        rw [k, x231_78, if_neg h81, if_neg h221]
theorem x231_78_rule {p : Nat → Nat} {v1 : Int32} {v2 : Int32} {v3 : Int32} {v4 : Int32} {v5 : Int32} {I : Nat → Int64 → Int32 → Int32 → (Nat → Nat → Int32) → (Nat → Nat → Int64) → Prop} {Q : Int32 × (Nat → Nat → Int32) × (Nat → Nat → Int64) → Prop} (h0 : ∀ (v6 : Int64) (v8 : Int32) (v9 : Int32) (J : Nat → Nat → Int32) (L : Nat → Nat → Int64), I 0 v6 v8 v9 J L → Q (v8, J, L)) (h1 : ∀ (c : Nat) (v6 : Int64) (v8 : Int32) (v9 : Int32) (J : Nat → Nat → Int32) (L : Nat → Nat → Int64), I (c + 1) v6 v8 v9 J L →
    if v2 ≤ v9 then (Q (v8, J, L))
    else if v5 = 0 then (I c ((x231_87 p v1 v2 v3 v4 v5 v8 v9 v3.toNatClampNeg v6 (Int32.ofInt 0) J L).1) (v8 + ((((x231_87 p v1 v2 v3 v4 v5 v8 v9 v3.toNatClampNeg v6 (Int32.ofInt 0) J L).2.1) (p 4) 7) - (J (p 7) 7))) (v9 + (Int32.ofInt 1)) (x229 p ((x231_87 p v1 v2 v3 v4 v5 v8 v9 v3.toNatClampNeg v6 (Int32.ofInt 0) J L).2.1)) ((x231_87 p v1 v2 v3 v4 v5 v8 v9 v3.toNatClampNeg v6 (Int32.ofInt 0) J L).2.2))
      else (I c ((x231_87 p v1 v2 v3 v4 v5 v8 v9 v3.toNatClampNeg v6 (Int32.ofInt 0) J L).1) (v8 + (x214 (x228 p ((x231_87 p v1 v2 v3 v4 v5 v8 v9 v3.toNatClampNeg v6 (Int32.ofInt 0) J L).2.1)))) (v9 + (Int32.ofInt 1)) (x229 p ((x231_87 p v1 v2 v3 v4 v5 v8 v9 v3.toNatClampNeg v6 (Int32.ofInt 0) J L).2.1)) ((x231_87 p v1 v2 v3 v4 v5 v8 v9 v3.toNatClampNeg v6 (Int32.ofInt 0) J L).2.2))) : ∀ (c : Nat) (v6 : Int64) (v8 : Int32) (v9 : Int32) (J : Nat → Nat → Int32) (L : Nat → Nat → Int64), I c v6 v8 v9 J L → Q (x231_78 p v1 v2 v3 v4 v5 c v6 v8 v9 J L) := by
  intro c
  induction c with
  | zero =>
    intro v6 v8 v9 J L hi
    rw [x231_78]
    exact h0 v6 v8 v9 J L hi
  | succ c ih =>
    intro v6 v8 v9 J L hi
    have hi := h1 c v6 v8 v9 J L hi
    rw [x231_78]
    by_cases h : v2 ≤ v9
    · rw [if_pos h] at hi ⊢
      exact hi
    · rw [if_neg h] at hi ⊢
      by_cases h : v5 = 0
      · rw [if_pos h] at hi ⊢
        exact ih _ _ _ _ _ hi
      · rw [if_neg h] at hi ⊢
        exact ih _ _ _ _ _ hi
def x231 (p : Nat → Nat) (v1 : Int32) (v2 : Int32) (v3 : Int32) (v4 : Int32) (v5 : Int32) (J : Nat → Nat → Int32) (L : Nat → Nat → Int64) : Int32 × (Nat → Nat → Int32) × (Nat → Nat → Int64) := if (x187 p v1 J) = 0 then (Int32.ofInt (-1), J, L)
  else if (x145 v2.toInt64 (Int64.ofNat 1) 20) = 0 then (Int32.ofInt (-1), J, L)
    else if (x145 v3.toInt64 (Int64.ofNat 1) 100) = 0 then (Int32.ofInt (-1), J, L)
      else if (x145 v4.toInt64 (Int64.ofNat 0) 100) = 0 then (Int32.ofInt (-1), J, L)
        else if (x145 v5.toInt64 (Int64.ofNat 0) (Int64.ofNat 1)) = 0 then (Int32.ofInt (-1), J, L)
          else (x231_78 p v1 v2 v3 v4 v5 v2.toNatClampNeg ((J (p 4) 9).toInt64) (Int32.ofInt 0) (Int32.ofInt 0) (x227 p J) L)
theorem xt231 {X : nt_X} {d : Nat} {M : nt_M} {o : Option Value × nt_M} {p : Nat → Nat} {v1 : Int32} {v2 : Int32} {v3 : Int32} {v4 : Int32} {v5 : Int32} {J : Nat → Nat → Int32} {L : Nat → Nat → Int64} (hp : xs_P M p) (hw : xr_W (J (p 4))) (k : nt_ev X d 231 [.ref (p 0), .int v1, .int v2, .int v3, .int v4, .int v5] (me_w (lw M L) J) o) : o = (some (.int ((x231 p v1 v2 v3 v4 v5 J L).1)), me_w (lw M ((x231 p v1 v2 v3 v4 v5 J L).2.2)) ((x231 p v1 v2 v3 v4 v5 J L).2.1)) := by
  have k : nt_rn X d 231 (0, [(0, .ref (p 0)), (1, .int v1), (2, .int v2), (3, .int v3), (4, .int v4), (5, .int v5)], [], me_w (lw M L) J) o := k
  have k := ly_revb 2 (c' := (2, [(0, .ref (p 0)), (1, .int v1), (2, .int v2), (3, .int v3), (4, .int v4), (5, .int v5)], [.int v1, .ref (p 0)], me_w (lw M L) J)) rfl k
  obtain ⟨d1, o1, ed, kc, k⟩ := lz_c (g := 187) (q := 1) (vs := [.ref (p 0), .int v1]) (rest := []) rfl rfl (by decide) (Or.inr (Or.inl ⟨_, rfl, rfl⟩)) rfl k
  have e1 := xt187 (xs_lp hp) kc
  subst e1
  have k : nt_rn X _ 231 (5, [(0, .ref (p 0)), (1, .int v1), (2, .int v2), (3, .int v3), (4, .int v4), (5, .int v5)], [.int (x187 p v1 J)], me_w (lw M L) J) _ := k
  have k := ly_revb 1 (c' := (if (x187 p v1 J) = 0 then 56 else 8, [(0, .ref (p 0)), (1, .int v1), (2, .int v2), (3, .int v3), (4, .int v4), (5, .int v5)], [], me_w (lw M L) J)) rfl k
  by_cases h5 : (x187 p v1 J) = 0
  · rw [if_pos h5] at k
    have k := ly_revb 1 (c' := (57, [(0, .ref (p 0)), (1, .int v1), (2, .int v2), (3, .int v3), (4, .int v4), (5, .int v5)], [.int (Int32.ofInt (-1))], me_w (lw M L) J)) rfl k
    have k := lz_ri rfl (by decide) k
    rw [k, x231, if_pos h5]
  · rw [if_neg h5] at k
    have k := ly_revb 4 (c' := (14, [(0, .ref (p 0)), (1, .int v1), (2, .int v2), (3, .int v3), (4, .int v4), (5, .int v5)], [.long 20, .long (Int64.ofNat 1), .long v2.toInt64], me_w (lw M L) J)) rfl k
    obtain ⟨d1, o1, ed, kc, k⟩ := lz_c (g := 145) (q := 0) (vs := [.long v2.toInt64, .long (Int64.ofNat 1), .long 20]) (rest := []) rfl rfl (by decide) (Or.inl ⟨_, rfl, rfl⟩) rfl k
    have e1 := xt145  kc
    subst e1
    have k : nt_rn X _ 231 (17, [(0, .ref (p 0)), (1, .int v1), (2, .int v2), (3, .int v3), (4, .int v4), (5, .int v5)], [.int (x145 v2.toInt64 (Int64.ofNat 1) 20)], me_w (lw M L) J) _ := k
    have k := ly_revb 1 (c' := (if (x145 v2.toInt64 (Int64.ofNat 1) 20) = 0 then 56 else 20, [(0, .ref (p 0)), (1, .int v1), (2, .int v2), (3, .int v3), (4, .int v4), (5, .int v5)], [], me_w (lw M L) J)) rfl k
    by_cases h17 : (x145 v2.toInt64 (Int64.ofNat 1) 20) = 0
    · rw [if_pos h17] at k
      have k := ly_revb 1 (c' := (57, [(0, .ref (p 0)), (1, .int v1), (2, .int v2), (3, .int v3), (4, .int v4), (5, .int v5)], [.int (Int32.ofInt (-1))], me_w (lw M L) J)) rfl k
      have k := lz_ri rfl (by decide) k
      rw [k, x231, if_neg h5, if_pos h17]
    · rw [if_neg h17] at k
      have k := ly_revb 4 (c' := (26, [(0, .ref (p 0)), (1, .int v1), (2, .int v2), (3, .int v3), (4, .int v4), (5, .int v5)], [.long 100, .long (Int64.ofNat 1), .long v3.toInt64], me_w (lw M L) J)) rfl k
      obtain ⟨d1, o1, ed, kc, k⟩ := lz_c (g := 145) (q := 0) (vs := [.long v3.toInt64, .long (Int64.ofNat 1), .long 100]) (rest := []) rfl rfl (by decide) (Or.inl ⟨_, rfl, rfl⟩) rfl k
      have e1 := xt145  kc
      subst e1
      have k : nt_rn X _ 231 (29, [(0, .ref (p 0)), (1, .int v1), (2, .int v2), (3, .int v3), (4, .int v4), (5, .int v5)], [.int (x145 v3.toInt64 (Int64.ofNat 1) 100)], me_w (lw M L) J) _ := k
      have k := ly_revb 1 (c' := (if (x145 v3.toInt64 (Int64.ofNat 1) 100) = 0 then 56 else 32, [(0, .ref (p 0)), (1, .int v1), (2, .int v2), (3, .int v3), (4, .int v4), (5, .int v5)], [], me_w (lw M L) J)) rfl k
      by_cases h29 : (x145 v3.toInt64 (Int64.ofNat 1) 100) = 0
      · rw [if_pos h29] at k
        have k := ly_revb 1 (c' := (57, [(0, .ref (p 0)), (1, .int v1), (2, .int v2), (3, .int v3), (4, .int v4), (5, .int v5)], [.int (Int32.ofInt (-1))], me_w (lw M L) J)) rfl k
        have k := lz_ri rfl (by decide) k
        rw [k, x231, if_neg h5, if_neg h17, if_pos h29]
      · rw [if_neg h29] at k
        have k := ly_revb 4 (c' := (39, [(0, .ref (p 0)), (1, .int v1), (2, .int v2), (3, .int v3), (4, .int v4), (5, .int v5)], [.long 100, .long (Int64.ofNat 0), .long v4.toInt64], me_w (lw M L) J)) rfl k
        obtain ⟨d1, o1, ed, kc, k⟩ := lz_c (g := 145) (q := 0) (vs := [.long v4.toInt64, .long (Int64.ofNat 0), .long 100]) (rest := []) rfl rfl (by decide) (Or.inl ⟨_, rfl, rfl⟩) rfl k
        have e1 := xt145  kc
        subst e1
        have k : nt_rn X _ 231 (42, [(0, .ref (p 0)), (1, .int v1), (2, .int v2), (3, .int v3), (4, .int v4), (5, .int v5)], [.int (x145 v4.toInt64 (Int64.ofNat 0) 100)], me_w (lw M L) J) _ := k
        have k := ly_revb 1 (c' := (if (x145 v4.toInt64 (Int64.ofNat 0) 100) = 0 then 56 else 45, [(0, .ref (p 0)), (1, .int v1), (2, .int v2), (3, .int v3), (4, .int v4), (5, .int v5)], [], me_w (lw M L) J)) rfl k
        by_cases h42 : (x145 v4.toInt64 (Int64.ofNat 0) 100) = 0
        · rw [if_pos h42] at k
          have k := ly_revb 1 (c' := (57, [(0, .ref (p 0)), (1, .int v1), (2, .int v2), (3, .int v3), (4, .int v4), (5, .int v5)], [.int (Int32.ofInt (-1))], me_w (lw M L) J)) rfl k
          have k := lz_ri rfl (by decide) k
          rw [k, x231, if_neg h5, if_neg h17, if_neg h29, if_pos h42]
        · rw [if_neg h42] at k
          have k := ly_revb 4 (c' := (50, [(0, .ref (p 0)), (1, .int v1), (2, .int v2), (3, .int v3), (4, .int v4), (5, .int v5)], [.long (Int64.ofNat 1), .long (Int64.ofNat 0), .long v5.toInt64], me_w (lw M L) J)) rfl k
          obtain ⟨d1, o1, ed, kc, k⟩ := lz_c (g := 145) (q := 0) (vs := [.long v5.toInt64, .long (Int64.ofNat 0), .long (Int64.ofNat 1)]) (rest := []) rfl rfl (by decide) (Or.inl ⟨_, rfl, rfl⟩) rfl k
          have e1 := xt145  kc
          subst e1
          have k : nt_rn X _ 231 (53, [(0, .ref (p 0)), (1, .int v1), (2, .int v2), (3, .int v3), (4, .int v4), (5, .int v5)], [.int (x145 v5.toInt64 (Int64.ofNat 0) (Int64.ofNat 1))], me_w (lw M L) J) _ := k
          have k := ly_revb 1 (c' := (if (x145 v5.toInt64 (Int64.ofNat 0) (Int64.ofNat 1)) = 0 then 56 else 58, [(0, .ref (p 0)), (1, .int v1), (2, .int v2), (3, .int v3), (4, .int v4), (5, .int v5)], [], me_w (lw M L) J)) rfl k
          by_cases h53 : (x145 v5.toInt64 (Int64.ofNat 0) (Int64.ofNat 1)) = 0
          · rw [if_pos h53] at k
            have k := ly_revb 1 (c' := (57, [(0, .ref (p 0)), (1, .int v1), (2, .int v2), (3, .int v3), (4, .int v4), (5, .int v5)], [.int (Int32.ofInt (-1))], me_w (lw M L) J)) rfl k
            have k := lz_ri rfl (by decide) k
            rw [k, x231, if_neg h5, if_neg h17, if_neg h29, if_neg h42, if_pos h53]
          · rw [if_neg h53] at k
            have k := ly_revb 1 (c' := (59, [(0, .ref (p 0)), (1, .int v1), (2, .int v2), (3, .int v3), (4, .int v4), (5, .int v5)], [.ref (p 0)], me_w (lw M L) J)) rfl k
            obtain ⟨d1, o1, ed, kc, k⟩ := lz_c (g := 227) (q := 1) (vs := [.ref (p 0)]) (rest := []) rfl rfl (by decide) (Or.inr (Or.inl ⟨_, rfl, rfl⟩)) rfl k
            have e1 := xt227 (xs_lp hp) kc
            subst e1
            have k : nt_rn X _ 231 (62, [(0, .ref (p 0)), (1, .int v1), (2, .int v2), (3, .int v3), (4, .int v4), (5, .int v5)], [], me_w (lw M L) (x227 p J)) _ := k
            have k := ly_revb 1 (c' := (63, [(0, .ref (p 0)), (1, .int v1), (2, .int v2), (3, .int v3), (4, .int v4), (5, .int v5)], [.ref (p 0)], me_w (lw M L) (x227 p J))) rfl k
            have k := lz_get (a := (p 0)) (g := 1127) (M := me_w (lw M L) (x227 p J)) (v := .ref (p 4)) rfl (nt_gfR rfl (mw_RL (hp.1 (0, 27, 4) (by decide)))) k
            have k := ly_revb 1 (c' := (68, [(0, .ref (p 0)), (1, .int v1), (2, .int v2), (3, .int v3), (4, .int v4), (5, .int v5)], [.int (Int32.ofInt 9), .ref (p 4)], me_w (lw M L) (x227 p J))) rfl k
            have k := mx_iald (v := J (p 4) 9) rfl (hp.2.2.1 4 (by omega)) ((congrArg ((x227 p J) (p 4)) (show (Int32.ofInt 9).toNatClampNeg = 9 from rfl)).trans (congrFun (x227_frJ  (hp.2.1 4 7 (by omega) (by omega) (by decide))) 9)) k
            have k := ly_revb 6 (c' := (78, [(9, .int (Int32.ofInt 0)), (8, .int (Int32.ofInt 0)), (6, .long ((J (p 4) 9).toInt64)), (0, .ref (p 0)), (1, .int v1), (2, .int v2), (3, .int v3), (4, .int v4), (5, .int v5)], [], me_w (lw M L) (x227 p J))) rfl k
            have k := nt_rn_w (a := [(9, .int (Int32.ofInt 0)), (8, .int (Int32.ofInt 0)), (6, .long ((J (p 4) 9).toInt64)), (0, .ref (p 0)), (1, .int v1), (2, .int v2), (3, .int v3), (4, .int v4), (5, .int v5)]) (b := [(0, .ref (p 0)), (1, .int v1), (2, .int v2), (3, .int v3), (4, .int v4), (5, .int v5), (6, .long ((J (p 4) 9).toInt64)), (8, .int (Int32.ofInt 0)), (9, .int (Int32.ofInt 0)), (10, .int (Int32.ofInt 0)), (11, .int (Int32.ofInt 0)), (12, .int (Int32.ofInt 0))]) ⟨rfl, rfl, rfl, rfl, rfl, rfl, rfl, rfl, rfl, trivial⟩ rfl k
            have k := xt231_78 hp  v2.toNatClampNeg ((J (p 4) 9).toInt64) (Int32.ofInt 0) (Int32.ofInt 0) (Int32.ofInt 0) (Int32.ofInt 0) (Int32.ofInt 0) (x227 p J) L (⟨xr_ae (fun j hj => zkp (hp.2.1 4 7 (by omega) (by omega) (by decide)) hj) hw, by rw [x227_frJ (hp.2.1 4 7 (by omega) (by omega) (by decide))]; exact hw, lx_beg (by decide)⟩) k
            rw [k, x231, if_neg h5, if_neg h17, if_neg h29, if_neg h42, if_neg h53]
theorem x231_78_frJ {p : Nat → Nat} {v1 : Int32} {v2 : Int32} {v3 : Int32} {v4 : Int32} {v5 : Int32} {b : Nat} : ∀ (c : Nat) (v6 : Int64) (v8 : Int32) (v9 : Int32) (J : Nat → Nat → Int32) (L : Nat → Nat → Int64), b ≠ p 0 → b ≠ p 4 → b ≠ p 7 → (x231_78 p v1 v2 v3 v4 v5 c v6 v8 v9 J L).2.1 b = J b := by
  intro c
  induction c with
  | zero =>
    intro v6 v8 v9 J L n0 n1 n2
    rw [x231_78]
    all_goals first | (dsimp only; exact (show J b = J b from rfl)) | exact (show J b = J b from rfl)
  | succ c ih =>
    intro v6 v8 v9 J L n0 n1 n2
    rw [x231_78]
    by_cases h : v2 ≤ v9
    · rw [if_pos h]
      all_goals first | (dsimp only; exact (show J b = J b from rfl)) | exact (show J b = J b from rfl)
    · rw [if_neg h]
      by_cases h : v5 = 0
      · rw [if_pos h]
        exact (ih _ _ _ _ _ n0 n1 n2).trans ((x229_frJ  n1).trans (x231_87_frJ _ _ _ _ _ n0 n1))
      · rw [if_neg h]
        exact (ih _ _ _ _ _ n0 n1 n2).trans ((x229_frJ  n1).trans (x231_87_frJ _ _ _ _ _ n0 n1))
theorem x231_frJ {p : Nat → Nat} {v1 : Int32} {v2 : Int32} {v3 : Int32} {v4 : Int32} {v5 : Int32} {J : Nat → Nat → Int32} {L : Nat → Nat → Int64} {b : Nat} (n0 : b ≠ p 0) (n1 : b ≠ p 4) (n2 : b ≠ p 7) : (x231 p v1 v2 v3 v4 v5 J L).2.1 b = J b := by
  unfold x231
  by_cases h : (x187 p v1 J) = 0
  · rw [if_pos h]
    all_goals first | (dsimp only; exact (show J b = J b from rfl)) | exact (show J b = J b from rfl)
  · rw [if_neg h]
    by_cases h : (x145 v2.toInt64 (Int64.ofNat 1) 20) = 0
    · rw [if_pos h]
      all_goals first | (dsimp only; exact (show J b = J b from rfl)) | exact (show J b = J b from rfl)
    · rw [if_neg h]
      by_cases h : (x145 v3.toInt64 (Int64.ofNat 1) 100) = 0
      · rw [if_pos h]
        all_goals first | (dsimp only; exact (show J b = J b from rfl)) | exact (show J b = J b from rfl)
      · rw [if_neg h]
        by_cases h : (x145 v4.toInt64 (Int64.ofNat 0) 100) = 0
        · rw [if_pos h]
          all_goals first | (dsimp only; exact (show J b = J b from rfl)) | exact (show J b = J b from rfl)
        · rw [if_neg h]
          by_cases h : (x145 v5.toInt64 (Int64.ofNat 0) (Int64.ofNat 1)) = 0
          · rw [if_pos h]
            all_goals first | (dsimp only; exact (show J b = J b from rfl)) | exact (show J b = J b from rfl)
          · rw [if_neg h]
            exact (x231_78_frJ _ _ _ _ _ _ n0 n1 n2).trans (x227_frJ  n2)
theorem x231_78_frL {p : Nat → Nat} {v1 : Int32} {v2 : Int32} {v3 : Int32} {v4 : Int32} {v5 : Int32} {b : Nat} : ∀ (c : Nat) (v6 : Int64) (v8 : Int32) (v9 : Int32) (J : Nat → Nat → Int32) (L : Nat → Nat → Int64), b ≠ p 5 → b ≠ p 6 → (x231_78 p v1 v2 v3 v4 v5 c v6 v8 v9 J L).2.2 b = L b := by
  intro c
  induction c with
  | zero =>
    intro v6 v8 v9 J L n0 n1
    rw [x231_78]
    all_goals first | (dsimp only; exact (show L b = L b from rfl)) | exact (show L b = L b from rfl)
  | succ c ih =>
    intro v6 v8 v9 J L n0 n1
    rw [x231_78]
    by_cases h : v2 ≤ v9
    · rw [if_pos h]
      all_goals first | (dsimp only; exact (show L b = L b from rfl)) | exact (show L b = L b from rfl)
    · rw [if_neg h]
      by_cases h : v5 = 0
      · rw [if_pos h]
        exact (ih _ _ _ _ _ n0 n1).trans (x231_87_frL _ _ _ _ _ n0 n1)
      · rw [if_neg h]
        exact (ih _ _ _ _ _ n0 n1).trans (x231_87_frL _ _ _ _ _ n0 n1)
theorem x231_frL {p : Nat → Nat} {v1 : Int32} {v2 : Int32} {v3 : Int32} {v4 : Int32} {v5 : Int32} {J : Nat → Nat → Int32} {L : Nat → Nat → Int64} {b : Nat} (n0 : b ≠ p 5) (n1 : b ≠ p 6) : (x231 p v1 v2 v3 v4 v5 J L).2.2 b = L b := by
  unfold x231
  by_cases h : (x187 p v1 J) = 0
  · rw [if_pos h]
    all_goals first | (dsimp only; exact (show L b = L b from rfl)) | exact (show L b = L b from rfl)
  · rw [if_neg h]
    by_cases h : (x145 v2.toInt64 (Int64.ofNat 1) 20) = 0
    · rw [if_pos h]
      all_goals first | (dsimp only; exact (show L b = L b from rfl)) | exact (show L b = L b from rfl)
    · rw [if_neg h]
      by_cases h : (x145 v3.toInt64 (Int64.ofNat 1) 100) = 0
      · rw [if_pos h]
        all_goals first | (dsimp only; exact (show L b = L b from rfl)) | exact (show L b = L b from rfl)
      · rw [if_neg h]
        by_cases h : (x145 v4.toInt64 (Int64.ofNat 0) 100) = 0
        · rw [if_pos h]
          all_goals first | (dsimp only; exact (show L b = L b from rfl)) | exact (show L b = L b from rfl)
        · rw [if_neg h]
          by_cases h : (x145 v5.toInt64 (Int64.ofNat 0) (Int64.ofNat 1)) = 0
          · rw [if_pos h]
            all_goals first | (dsimp only; exact (show L b = L b from rfl)) | exact (show L b = L b from rfl)
          · rw [if_neg h]
            exact (x231_78_frL _ _ _ _ _ _ n0 n1).trans (rfl)
