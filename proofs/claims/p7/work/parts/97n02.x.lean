/-! the said row: what lies where -/
def xr_b (j : Nat) : Int × Int := if j = 0 then (0, 4) else if j = 1 then (0, 6) else if j = 2 then (0, 24) else if j = 3 then (0, 8) else if 10 ≤ j ∧ j < 52 ∧ (j - 10) % 7 = 5 then (-1, 7) else if 52 ≤ j ∧ j < 172 ∧ (j - 52) % 5 = 2 then (0, 5) else if 52 ≤ j ∧ j < 172 ∧ (j - 52) % 5 = 3 then (-1, 5) else if 172 ≤ j ∧ j < 212 ∧ (j - 172) % 5 = 0 then (0, 5) else (-2147483648, 2147483647)
def xr_W (e : Nat → Int32) : Prop := ∀ j, (xr_b j).1 ≤ (e j).toInt ∧ (e j).toInt ≤ (xr_b j).2
theorem xr_up {J : Nat → Nat → Int32} {a j : Nat} {v : Int32} (h : xr_W (J a)) (hv : (xr_b j).1 ≤ v.toInt ∧ v.toInt ≤ (xr_b j).2) : xr_W (nt_u J a j v a) := by
  intro i
  by_cases e : i = j
  · subst e
    rw [me_us]
    exact hv
  · rw [me_uk e]
    exact h i
theorem xr_any {j : Nat} {v : Int32} (h : xr_b j = (-2147483648, 2147483647)) : (xr_b j).1 ≤ v.toInt ∧ v.toInt ≤ (xr_b j).2 := by
  rw [h]
  have l1 := v.le_toInt
  have l2 := v.toInt_lt
  exact ⟨l1, by omega⟩
theorem xr_0 {e : Nat → Int32} (h : xr_W e) : 0 ≤ (e 0).toInt ∧ (e 0).toInt ≤ 4 := h 0
theorem xr_1 {e : Nat → Int32} (h : xr_W e) : 0 ≤ (e 1).toInt ∧ (e 1).toInt ≤ 6 := h 1
theorem xr_2 {e : Nat → Int32} (h : xr_W e) : 0 ≤ (e 2).toInt ∧ (e 2).toInt ≤ 24 := h 2
theorem xr_3 {e : Nat → Int32} (h : xr_W e) : 0 ≤ (e 3).toInt ∧ (e 3).toInt ≤ 8 := h 3
theorem xr_on {e : Nat → Int32} (h : xr_W e) {s : Nat} (hs : s < 6) : -1 ≤ (e (10 + 7 * s + 5)).toInt ∧ (e (10 + 7 * s + 5)).toInt ≤ 7 := by
  have q := h (10 + 7 * s + 5)
  rw [show xr_b (10 + 7 * s + 5) = (-1, 7) from by rcases (by omega : s = 0 ∨ s = 1 ∨ s = 2 ∨ s = 3 ∨ s = 4 ∨ s = 5) with rfl | rfl | rfl | rfl | rfl | rfl <;> rfl] at q
  exact q
theorem xr_b2 {p : Nat} (hp : p < 24) : xr_b (52 + 5 * p + 2) = (0, 5) := by
  unfold xr_b
  rw [if_neg (by omega), if_neg (by omega), if_neg (by omega), if_neg (by omega), if_neg (by omega), if_pos (by omega)]
theorem xr_b3 {p : Nat} (hp : p < 24) : xr_b (52 + 5 * p + 3) = (-1, 5) := by
  unfold xr_b
  rw [if_neg (by omega), if_neg (by omega), if_neg (by omega), if_neg (by omega), if_neg (by omega), if_neg (by omega), if_pos (by omega)]
theorem xr_b5 {s : Nat} (hs : s < 6) : xr_b (10 + 7 * s + 5) = (-1, 7) := by
  unfold xr_b
  rw [if_neg (by omega), if_neg (by omega), if_neg (by omega), if_neg (by omega), if_pos (by omega)]
theorem xr_bp {p k : Nat} (hp : p < 24) (hk : k < 5) (h2 : k ≠ 2) (h3 : k ≠ 3) : xr_b (52 + 5 * p + k) = (-2147483648, 2147483647) := by
  unfold xr_b
  rw [if_neg (by omega), if_neg (by omega), if_neg (by omega), if_neg (by omega), if_neg (by omega), if_neg (by omega), if_neg (by omega), if_neg (by omega)]
theorem xr_bs {s k : Nat} (hs : s < 6) (hk : k < 7) (h5 : k ≠ 5) : xr_b (10 + 7 * s + k) = (-2147483648, 2147483647) := by
  unfold xr_b
  rw [if_neg (by omega), if_neg (by omega), if_neg (by omega), if_neg (by omega), if_neg (by omega), if_neg (by omega), if_neg (by omega), if_neg (by omega)]
theorem xr_bv {v k : Nat} (hv : v < 8) (hk : k < 5) (h0 : k ≠ 0) : xr_b (172 + 5 * v + k) = (-2147483648, 2147483647) := by
  unfold xr_b
  rw [if_neg (by omega), if_neg (by omega), if_neg (by omega), if_neg (by omega), if_neg (by omega), if_neg (by omega), if_neg (by omega), if_neg (by omega)]
theorem xr_ow {e : Nat → Int32} (h : xr_W e) {p : Nat} (hp : p < 24) : 0 ≤ (e (52 + 5 * p + 2)).toInt ∧ (e (52 + 5 * p + 2)).toInt ≤ 5 := by
  have q := h (52 + 5 * p + 2)
  rw [xr_b2 hp] at q
  exact q
theorem xr_in {e : Nat → Int32} (h : xr_W e) {p : Nat} (hp : p < 24) : -1 ≤ (e (52 + 5 * p + 3)).toInt ∧ (e (52 + 5 * p + 3)).toInt ≤ 5 := by
  have q := h (52 + 5 * p + 3)
  rw [xr_b3 hp] at q
  exact q
theorem xr_sh {e : Nat → Int32} (h : xr_W e) {v : Nat} (hv : v < 8) : 0 ≤ (e (172 + 5 * v)).toInt ∧ (e (172 + 5 * v)).toInt ≤ 5 := by
  have q := h (172 + 5 * v)
  rw [show xr_b (172 + 5 * v) = (0, 5) from by
    unfold xr_b
    rw [if_neg (by omega), if_neg (by omega), if_neg (by omega), if_neg (by omega), if_neg (by omega), if_neg (by omega), if_neg (by omega), if_pos (by omega)]] at q
  exact q
/-- an index reckoned -/
theorem xi_t {x : Int32} (h : 0 ≤ x.toInt) : x.toNatClampNeg = x.toInt.toNat := rfl
theorem xi_k {k : Nat} (h : k < 1000) : (Int32.ofInt (k : Int)).toInt = k := by
  have z : Int32.size = 4294967296 := rfl
  rw [Int32.toInt_ofInt, Int.bmod_eq_of_le (by omega) (by omega)]
theorem xi_3 {a m b : Nat} {x : Int32} (ha : a < 1000) (hm : m < 1000) (hb : b < 1000) (hx : 0 ≤ x.toInt) (h2 : x.toInt ≤ 1000) : ((Int32.ofInt (a : Int) + Int32.ofInt (m : Int) * x) + Int32.ofInt (b : Int)).toNatClampNeg = a + m * x.toInt.toNat + b := by
  have e1 : (Int32.ofInt (m : Int) * x).toInt = (m : Int) * x.toInt := by
    have : (m : Int) * x.toInt ≤ 999 * 1000 := Int.mul_le_mul (by omega) h2 hx (by omega)
    have : 0 ≤ (m : Int) * x.toInt := Int.mul_nonneg (by omega) hx
    rw [Int32.toInt_mul, xi_k hm, Int.bmod_eq_of_le (by omega) (by omega)]
  have l1 : (m : Int) * x.toInt ≤ 999 * 1000 := Int.mul_le_mul (by omega) h2 hx (by omega)
  have l2 : 0 ≤ (m : Int) * x.toInt := Int.mul_nonneg (by omega) hx
  have e2 : (Int32.ofInt (a : Int) + Int32.ofInt (m : Int) * x).toInt = a + (m : Int) * x.toInt := by
    rw [Int32.toInt_add, e1, xi_k ha, Int.bmod_eq_of_le (by omega) (by omega)]
  have e3 : ((Int32.ofInt (a : Int) + Int32.ofInt (m : Int) * x) + Int32.ofInt (b : Int)).toInt = a + (m : Int) * x.toInt + b := by
    rw [Int32.toInt_add, e2, xi_k hb, Int.bmod_eq_of_le (by omega) (by omega)]
  show Int.toNat _ = _
  rw [e3]
  obtain ⟨n, hn⟩ := Int.eq_ofNat_of_zero_le hx
  rw [hn, show (m : Int) * (n : Int) = ((m * n : Nat) : Int) from (Int.natCast_mul m n).symm, show ((n : Int)).toNat = n from by omega]
  omega
/-! $Calendar.endsOn -/
def x2 (q : Nat → Nat) (v1 : Int32) (v2 : Int32) (J : Nat → Nat → Int32) : Int32 := if (x71 q (J (q 12) v1.toNatClampNeg) J) = 0 then (Int32.ofInt 0)
  else if (J (q 8) ((J (q 12) v1.toNatClampNeg).toNatClampNeg)) = v2 then (Int32.ofInt 1)
    else (Int32.ofInt 0)
theorem xt2 {X : nt_X} {d : Nat} {M : nt_M} {o : Option Value × nt_M} {q : Nat → Nat} {v1 : Int32} {v2 : Int32} {J : Nat → Nat → Int32} (hq : xs_Q M q) (k : nt_ev X d 2 [.ref (q 0), .int v1, .int v2] (me_w M J) o) : o = (some (.int (x2 q v1 v2 J)), me_w M J) := by
  have k : nt_rn X d 2 (0, [(0, .ref (q 0)), (1, .int v1), (2, .int v2)], [], me_w M J) o := k
  have k := ly_revb 1 (c' := (1, [(0, .ref (q 0)), (1, .int v1), (2, .int v2)], [.ref (q 0)], me_w M J)) rfl k
  have k := lz_get (a := (q 0)) (g := 609) (M := me_w M J) (v := .ref (q 12)) rfl (nt_gfR rfl (hq.1 (0, 9, 12) (by decide))) k
  have k := ly_revb 1 (c' := (5, [(0, .ref (q 0)), (1, .int v1), (2, .int v2)], [.int v1, .ref (q 12)], me_w M J)) rfl k
  have k := mx_iald (v := J (q 12) v1.toNatClampNeg) rfl (hq.2.2.1 12 (by omega)) (rfl) k
  have k := ly_revb 3 (c' := (9, [(3, .int (J (q 12) v1.toNatClampNeg)), (0, .ref (q 0)), (1, .int v1), (2, .int v2)], [.int (J (q 12) v1.toNatClampNeg), .ref (q 0)], me_w M J)) rfl k
  obtain ⟨d1, o1, ed, kc, k⟩ := lz_c (g := 71) (q := 1) (vs := [.ref (q 0), .int (J (q 12) v1.toNatClampNeg)]) (rest := []) rfl rfl (by decide) (Or.inr (Or.inl ⟨_, rfl, rfl⟩)) rfl k
  have e1 := xt71 hq kc
  subst e1
  have k : nt_rn X _ 2 (12, [(3, .int (J (q 12) v1.toNatClampNeg)), (0, .ref (q 0)), (1, .int v1), (2, .int v2)], [.int (x71 q (J (q 12) v1.toNatClampNeg) J)], me_w M J) _ := k
  have k := ly_revb 1 (c' := (if (x71 q (J (q 12) v1.toNatClampNeg) J) = 0 then 32 else 15, [(3, .int (J (q 12) v1.toNatClampNeg)), (0, .ref (q 0)), (1, .int v1), (2, .int v2)], [], me_w M J)) rfl k
  by_cases h12 : (x71 q (J (q 12) v1.toNatClampNeg) J) = 0
  · rw [if_pos h12] at k
    have k := ly_revb 1 (c' := (33, [(3, .int (J (q 12) v1.toNatClampNeg)), (0, .ref (q 0)), (1, .int v1), (2, .int v2)], [.int (Int32.ofInt 0)], me_w M J)) rfl k
    have k := lz_ri rfl (by decide) k
    rw [k, x2, if_pos h12]
  · rw [if_neg h12] at k
    have k := ly_revb 1 (c' := (16, [(3, .int (J (q 12) v1.toNatClampNeg)), (0, .ref (q 0)), (1, .int v1), (2, .int v2)], [.ref (q 0)], me_w M J)) rfl k
    have k := lz_get (a := (q 0)) (g := 600) (M := me_w M J) (v := .ref (q 1)) rfl (nt_gfR rfl (hq.1 (0, 0, 1) (by decide))) k
    have k := lz_get (a := (q 1)) (g := 811) (M := me_w M J) (v := .ref (q 8)) rfl (nt_gfR rfl (hq.1 (1, 11, 8) (by decide))) k
    have k := ly_revb 1 (c' := (23, [(3, .int (J (q 12) v1.toNatClampNeg)), (0, .ref (q 0)), (1, .int v1), (2, .int v2)], [.int (J (q 12) v1.toNatClampNeg), .ref (q 8)], me_w M J)) rfl k
    have k := mx_iald (v := J (q 8) ((J (q 12) v1.toNatClampNeg).toNatClampNeg)) rfl (hq.2.2.1 8 (by omega)) (rfl) k
    have k := ly_revb 2 (c' := (if (J (q 8) ((J (q 12) v1.toNatClampNeg).toNatClampNeg)) = v2 then 28 else 32, [(3, .int (J (q 12) v1.toNatClampNeg)), (0, .ref (q 0)), (1, .int v1), (2, .int v2)], [], me_w M J)) rfl k
    by_cases h25 : (J (q 8) ((J (q 12) v1.toNatClampNeg).toNatClampNeg)) = v2
    · rw [if_pos h25] at k
      have k := ly_revb 2 (c' := (33, [(3, .int (J (q 12) v1.toNatClampNeg)), (0, .ref (q 0)), (1, .int v1), (2, .int v2)], [.int (Int32.ofInt 1)], me_w M J)) rfl k
      have k := lz_ri rfl (by decide) k
      rw [k, x2, if_neg h12, if_pos h25]
    · rw [if_neg h25] at k
      have k := ly_revb 1 (c' := (33, [(3, .int (J (q 12) v1.toNatClampNeg)), (0, .ref (q 0)), (1, .int v1), (2, .int v2)], [.int (Int32.ofInt 0)], me_w M J)) rfl k
      have k := lz_ri rfl (by decide) k
      rw [k, x2, if_neg h12, if_neg h25]
/-! $Calendar.comeHome -/
def x3_34 (q : Nat → Nat) (v1 : Int32) (v2 : Int32) (v3 : Int32) (v4 : Int32) : Nat → Int32 → Int32 → (Nat → Nat → Int32) → (Nat → Nat → Int32)
  | 0, v5, v6, J => (nt_u (nt_u (nt_u (nt_u (nt_u J (q 11) v1.toNatClampNeg ((J (q 11) v1.toNatClampNeg) + v5)) (q 0) 5 ((J (q 0) 5) + v3)) (q 16) v2.toNatClampNeg (Int32.ofInt 2)) (q 10) v1.toNatClampNeg (Int32.ofInt 0)) (q 12) v1.toNatClampNeg (Int32.ofInt (-1)))
  | c + 1, v5, v6, J => if (J (q 1) 1) ≤ v6 then (nt_u (nt_u (nt_u (nt_u (nt_u J (q 11) v1.toNatClampNeg ((J (q 11) v1.toNatClampNeg) + v5)) (q 0) 5 ((J (q 0) 5) + v3)) (q 16) v2.toNatClampNeg (Int32.ofInt 2)) (q 10) v1.toNatClampNeg (Int32.ofInt 0)) (q 12) v1.toNatClampNeg (Int32.ofInt (-1)))
    else (x3_34 q v1 v2 v3 v4 c (v5 - (v4 * (x75 q v1 v6 J))) (v6 + (Int32.ofInt 1)) (nt_u J (q 11) v6.toNatClampNeg ((J (q 11) v6.toNatClampNeg) + (v4 * (x75 q v1 v6 J)))))
theorem xt3_34 {X : nt_X} {d : Nat} {M : nt_M} {o : Option Value × nt_M} {q : Nat → Nat} {v1 : Int32} {v2 : Int32} {v3 : Int32} {v4 : Int32} (hq : xs_Q M q) : ∀ (c : Nat) (v5 : Int32) (v6 : Int32) (v7 : Int32) (J : Nat → Nat → Int32), (J (q 1) 1).toInt - v6.toInt ≤ c → nt_rn X d 3 (34, [(0, .ref (q 0)), (1, .int v1), (2, .int v2), (3, .int v3), (4, .int v4), (5, .int v5), (6, .int v6), (7, .int v7)], [], me_w M J) o → o = (none, me_w M (x3_34 q v1 v2 v3 v4 c v5 v6 J)) := by
  intro c
  induction c with
  | zero =>
    intro v5 v6 v7 J hc k
    have k := ly_revb 2 (c' := (37, [(0, .ref (q 0)), (1, .int v1), (2, .int v2), (3, .int v3), (4, .int v4), (5, .int v5), (6, .int v6), (7, .int v7)], [.ref (q 0), .int v6], me_w M J)) rfl k
    have k := lz_get (a := (q 0)) (g := 600) (M := me_w M J) (v := .ref (q 1)) rfl (nt_gfR rfl (hq.1 (0, 0, 1) (by decide))) k
    have k := lz_get (a := (q 1)) (g := 801) (M := me_w M J) (v := .int (J (q 1) 1)) rfl (congrArg Value.int (rfl)) k
    have k := ly_revb 1 (c' := (if (J (q 1) 1) ≤ v6 then 83 else 46, [(0, .ref (q 0)), (1, .int v1), (2, .int v2), (3, .int v3), (4, .int v4), (5, .int v5), (6, .int v6), (7, .int v7)], [], me_w M J)) rfl k
    have h43 : (J (q 1) 1) ≤ v6 := lx_end hc
    rw [if_pos h43] at k
    have k := ly_revb 1 (c' := (84, [(0, .ref (q 0)), (1, .int v1), (2, .int v2), (3, .int v3), (4, .int v4), (5, .int v5), (6, .int v6), (7, .int v7)], [.ref (q 0)], me_w M J)) rfl k
    have k := lz_get (a := (q 0)) (g := 608) (M := me_w M J) (v := .ref (q 11)) rfl (nt_gfR rfl (hq.1 (0, 8, 11) (by decide))) k
    have k := ly_revb 2 (c' := (89, [(0, .ref (q 0)), (1, .int v1), (2, .int v2), (3, .int v3), (4, .int v4), (5, .int v5), (6, .int v6), (7, .int v7)], [.int v1, .ref (q 11), .int v1, .ref (q 11)], me_w M J)) rfl k
    have k := mx_iald (v := J (q 11) v1.toNatClampNeg) rfl (hq.2.2.1 11 (by omega)) (rfl) k
    have k := ly_revb 2 (c' := (93, [(0, .ref (q 0)), (1, .int v1), (2, .int v2), (3, .int v3), (4, .int v4), (5, .int v5), (6, .int v6), (7, .int v7)], [.int ((J (q 11) v1.toNatClampNeg) + v5), .int v1, .ref (q 11)], me_w M J)) rfl k
    have k := mx_iast (q := v1.toNatClampNeg) rfl rfl k
    have k : nt_rn X _ 3 (94, [(0, .ref (q 0)), (1, .int v1), (2, .int v2), (3, .int v3), (4, .int v4), (5, .int v5), (6, .int v6), (7, .int v7)], [], me_w M (nt_u J (q 11) v1.toNatClampNeg ((J (q 11) v1.toNatClampNeg) + v5))) _ := k
    have k := ly_revb 2 (c' := (96, [(0, .ref (q 0)), (1, .int v1), (2, .int v2), (3, .int v3), (4, .int v4), (5, .int v5), (6, .int v6), (7, .int v7)], [.ref (q 0), .ref (q 0)], me_w M (nt_u J (q 11) v1.toNatClampNeg ((J (q 11) v1.toNatClampNeg) + v5)))) rfl k
    have k := lz_get (a := (q 0)) (g := 605) (M := me_w M (nt_u J (q 11) v1.toNatClampNeg ((J (q 11) v1.toNatClampNeg) + v5))) (v := .int (J (q 0) 5)) rfl (congrArg Value.int (mu_j (hq.2.1 0 11 (by omega) (by omega) (by decide)))) k
    have k := ly_revb 2 (c' := (101, [(0, .ref (q 0)), (1, .int v1), (2, .int v2), (3, .int v3), (4, .int v4), (5, .int v5), (6, .int v6), (7, .int v7)], [.int ((J (q 0) 5) + v3), .ref (q 0)], me_w M (nt_u J (q 11) v1.toNatClampNeg ((J (q 11) v1.toNatClampNeg) + v5)))) rfl k
    have k := me_put rfl (by decide) k
    have k : nt_rn X _ 3 (104, [(0, .ref (q 0)), (1, .int v1), (2, .int v2), (3, .int v3), (4, .int v4), (5, .int v5), (6, .int v6), (7, .int v7)], [], me_w M (nt_u (nt_u J (q 11) v1.toNatClampNeg ((J (q 11) v1.toNatClampNeg) + v5)) (q 0) 5 ((J (q 0) 5) + v3))) _ := k
    have k := ly_revb 1 (c' := (105, [(0, .ref (q 0)), (1, .int v1), (2, .int v2), (3, .int v3), (4, .int v4), (5, .int v5), (6, .int v6), (7, .int v7)], [.ref (q 0)], me_w M (nt_u (nt_u J (q 11) v1.toNatClampNeg ((J (q 11) v1.toNatClampNeg) + v5)) (q 0) 5 ((J (q 0) 5) + v3)))) rfl k
    have k := lz_get (a := (q 0)) (g := 613) (M := me_w M (nt_u (nt_u J (q 11) v1.toNatClampNeg ((J (q 11) v1.toNatClampNeg) + v5)) (q 0) 5 ((J (q 0) 5) + v3))) (v := .ref (q 16)) rfl (nt_gfR rfl (hq.1 (0, 13, 16) (by decide))) k
    have k := ly_revb 2 (c' := (110, [(0, .ref (q 0)), (1, .int v1), (2, .int v2), (3, .int v3), (4, .int v4), (5, .int v5), (6, .int v6), (7, .int v7)], [.int (Int32.ofInt 2), .int v2, .ref (q 16)], me_w M (nt_u (nt_u J (q 11) v1.toNatClampNeg ((J (q 11) v1.toNatClampNeg) + v5)) (q 0) 5 ((J (q 0) 5) + v3)))) rfl k
    have k := mx_iast (q := v2.toNatClampNeg) rfl rfl k
    have k : nt_rn X _ 3 (111, [(0, .ref (q 0)), (1, .int v1), (2, .int v2), (3, .int v3), (4, .int v4), (5, .int v5), (6, .int v6), (7, .int v7)], [], me_w M (nt_u (nt_u (nt_u J (q 11) v1.toNatClampNeg ((J (q 11) v1.toNatClampNeg) + v5)) (q 0) 5 ((J (q 0) 5) + v3)) (q 16) v2.toNatClampNeg (Int32.ofInt 2))) _ := k
    have k := ly_revb 1 (c' := (112, [(0, .ref (q 0)), (1, .int v1), (2, .int v2), (3, .int v3), (4, .int v4), (5, .int v5), (6, .int v6), (7, .int v7)], [.ref (q 0)], me_w M (nt_u (nt_u (nt_u J (q 11) v1.toNatClampNeg ((J (q 11) v1.toNatClampNeg) + v5)) (q 0) 5 ((J (q 0) 5) + v3)) (q 16) v2.toNatClampNeg (Int32.ofInt 2)))) rfl k
    have k := lz_get (a := (q 0)) (g := 607) (M := me_w M (nt_u (nt_u (nt_u J (q 11) v1.toNatClampNeg ((J (q 11) v1.toNatClampNeg) + v5)) (q 0) 5 ((J (q 0) 5) + v3)) (q 16) v2.toNatClampNeg (Int32.ofInt 2))) (v := .ref (q 10)) rfl (nt_gfR rfl (hq.1 (0, 7, 10) (by decide))) k
    have k := ly_revb 2 (c' := (117, [(0, .ref (q 0)), (1, .int v1), (2, .int v2), (3, .int v3), (4, .int v4), (5, .int v5), (6, .int v6), (7, .int v7)], [.int (Int32.ofInt 0), .int v1, .ref (q 10)], me_w M (nt_u (nt_u (nt_u J (q 11) v1.toNatClampNeg ((J (q 11) v1.toNatClampNeg) + v5)) (q 0) 5 ((J (q 0) 5) + v3)) (q 16) v2.toNatClampNeg (Int32.ofInt 2)))) rfl k
    have k := mx_iast (q := v1.toNatClampNeg) rfl rfl k
    have k : nt_rn X _ 3 (118, [(0, .ref (q 0)), (1, .int v1), (2, .int v2), (3, .int v3), (4, .int v4), (5, .int v5), (6, .int v6), (7, .int v7)], [], me_w M (nt_u (nt_u (nt_u (nt_u J (q 11) v1.toNatClampNeg ((J (q 11) v1.toNatClampNeg) + v5)) (q 0) 5 ((J (q 0) 5) + v3)) (q 16) v2.toNatClampNeg (Int32.ofInt 2)) (q 10) v1.toNatClampNeg (Int32.ofInt 0))) _ := k
    have k := ly_revb 1 (c' := (119, [(0, .ref (q 0)), (1, .int v1), (2, .int v2), (3, .int v3), (4, .int v4), (5, .int v5), (6, .int v6), (7, .int v7)], [.ref (q 0)], me_w M (nt_u (nt_u (nt_u (nt_u J (q 11) v1.toNatClampNeg ((J (q 11) v1.toNatClampNeg) + v5)) (q 0) 5 ((J (q 0) 5) + v3)) (q 16) v2.toNatClampNeg (Int32.ofInt 2)) (q 10) v1.toNatClampNeg (Int32.ofInt 0)))) rfl k
    have k := lz_get (a := (q 0)) (g := 609) (M := me_w M (nt_u (nt_u (nt_u (nt_u J (q 11) v1.toNatClampNeg ((J (q 11) v1.toNatClampNeg) + v5)) (q 0) 5 ((J (q 0) 5) + v3)) (q 16) v2.toNatClampNeg (Int32.ofInt 2)) (q 10) v1.toNatClampNeg (Int32.ofInt 0))) (v := .ref (q 12)) rfl (nt_gfR rfl (hq.1 (0, 9, 12) (by decide))) k
    have k := ly_revb 2 (c' := (124, [(0, .ref (q 0)), (1, .int v1), (2, .int v2), (3, .int v3), (4, .int v4), (5, .int v5), (6, .int v6), (7, .int v7)], [.int (Int32.ofInt (-1)), .int v1, .ref (q 12)], me_w M (nt_u (nt_u (nt_u (nt_u J (q 11) v1.toNatClampNeg ((J (q 11) v1.toNatClampNeg) + v5)) (q 0) 5 ((J (q 0) 5) + v3)) (q 16) v2.toNatClampNeg (Int32.ofInt 2)) (q 10) v1.toNatClampNeg (Int32.ofInt 0)))) rfl k
    have k := mx_iast (q := v1.toNatClampNeg) rfl rfl k
    have k : nt_rn X _ 3 (125, [(0, .ref (q 0)), (1, .int v1), (2, .int v2), (3, .int v3), (4, .int v4), (5, .int v5), (6, .int v6), (7, .int v7)], [], me_w M (nt_u (nt_u (nt_u (nt_u (nt_u J (q 11) v1.toNatClampNeg ((J (q 11) v1.toNatClampNeg) + v5)) (q 0) 5 ((J (q 0) 5) + v3)) (q 16) v2.toNatClampNeg (Int32.ofInt 2)) (q 10) v1.toNatClampNeg (Int32.ofInt 0)) (q 12) v1.toNatClampNeg (Int32.ofInt (-1)))) _ := k
    have k := lz_rv rfl rfl k
    rw [k, x3_34]
  | succ c ih =>
    intro v5 v6 v7 J hc k
    have k := ly_revb 2 (c' := (37, [(0, .ref (q 0)), (1, .int v1), (2, .int v2), (3, .int v3), (4, .int v4), (5, .int v5), (6, .int v6), (7, .int v7)], [.ref (q 0), .int v6], me_w M J)) rfl k
    have k := lz_get (a := (q 0)) (g := 600) (M := me_w M J) (v := .ref (q 1)) rfl (nt_gfR rfl (hq.1 (0, 0, 1) (by decide))) k
    have k := lz_get (a := (q 1)) (g := 801) (M := me_w M J) (v := .int (J (q 1) 1)) rfl (congrArg Value.int (rfl)) k
    have k := ly_revb 1 (c' := (if (J (q 1) 1) ≤ v6 then 83 else 46, [(0, .ref (q 0)), (1, .int v1), (2, .int v2), (3, .int v3), (4, .int v4), (5, .int v5), (6, .int v6), (7, .int v7)], [], me_w M J)) rfl k
    by_cases h43 : (J (q 1) 1) ≤ v6
    · rw [if_pos h43] at k
      have k := ly_revb 1 (c' := (84, [(0, .ref (q 0)), (1, .int v1), (2, .int v2), (3, .int v3), (4, .int v4), (5, .int v5), (6, .int v6), (7, .int v7)], [.ref (q 0)], me_w M J)) rfl k
      have k := lz_get (a := (q 0)) (g := 608) (M := me_w M J) (v := .ref (q 11)) rfl (nt_gfR rfl (hq.1 (0, 8, 11) (by decide))) k
      have k := ly_revb 2 (c' := (89, [(0, .ref (q 0)), (1, .int v1), (2, .int v2), (3, .int v3), (4, .int v4), (5, .int v5), (6, .int v6), (7, .int v7)], [.int v1, .ref (q 11), .int v1, .ref (q 11)], me_w M J)) rfl k
      have k := mx_iald (v := J (q 11) v1.toNatClampNeg) rfl (hq.2.2.1 11 (by omega)) (rfl) k
      have k := ly_revb 2 (c' := (93, [(0, .ref (q 0)), (1, .int v1), (2, .int v2), (3, .int v3), (4, .int v4), (5, .int v5), (6, .int v6), (7, .int v7)], [.int ((J (q 11) v1.toNatClampNeg) + v5), .int v1, .ref (q 11)], me_w M J)) rfl k
      have k := mx_iast (q := v1.toNatClampNeg) rfl rfl k
      have k : nt_rn X _ 3 (94, [(0, .ref (q 0)), (1, .int v1), (2, .int v2), (3, .int v3), (4, .int v4), (5, .int v5), (6, .int v6), (7, .int v7)], [], me_w M (nt_u J (q 11) v1.toNatClampNeg ((J (q 11) v1.toNatClampNeg) + v5))) _ := k
      have k := ly_revb 2 (c' := (96, [(0, .ref (q 0)), (1, .int v1), (2, .int v2), (3, .int v3), (4, .int v4), (5, .int v5), (6, .int v6), (7, .int v7)], [.ref (q 0), .ref (q 0)], me_w M (nt_u J (q 11) v1.toNatClampNeg ((J (q 11) v1.toNatClampNeg) + v5)))) rfl k
      have k := lz_get (a := (q 0)) (g := 605) (M := me_w M (nt_u J (q 11) v1.toNatClampNeg ((J (q 11) v1.toNatClampNeg) + v5))) (v := .int (J (q 0) 5)) rfl (congrArg Value.int (mu_j (hq.2.1 0 11 (by omega) (by omega) (by decide)))) k
      have k := ly_revb 2 (c' := (101, [(0, .ref (q 0)), (1, .int v1), (2, .int v2), (3, .int v3), (4, .int v4), (5, .int v5), (6, .int v6), (7, .int v7)], [.int ((J (q 0) 5) + v3), .ref (q 0)], me_w M (nt_u J (q 11) v1.toNatClampNeg ((J (q 11) v1.toNatClampNeg) + v5)))) rfl k
      have k := me_put rfl (by decide) k
      have k : nt_rn X _ 3 (104, [(0, .ref (q 0)), (1, .int v1), (2, .int v2), (3, .int v3), (4, .int v4), (5, .int v5), (6, .int v6), (7, .int v7)], [], me_w M (nt_u (nt_u J (q 11) v1.toNatClampNeg ((J (q 11) v1.toNatClampNeg) + v5)) (q 0) 5 ((J (q 0) 5) + v3))) _ := k
      have k := ly_revb 1 (c' := (105, [(0, .ref (q 0)), (1, .int v1), (2, .int v2), (3, .int v3), (4, .int v4), (5, .int v5), (6, .int v6), (7, .int v7)], [.ref (q 0)], me_w M (nt_u (nt_u J (q 11) v1.toNatClampNeg ((J (q 11) v1.toNatClampNeg) + v5)) (q 0) 5 ((J (q 0) 5) + v3)))) rfl k
      have k := lz_get (a := (q 0)) (g := 613) (M := me_w M (nt_u (nt_u J (q 11) v1.toNatClampNeg ((J (q 11) v1.toNatClampNeg) + v5)) (q 0) 5 ((J (q 0) 5) + v3))) (v := .ref (q 16)) rfl (nt_gfR rfl (hq.1 (0, 13, 16) (by decide))) k
      have k := ly_revb 2 (c' := (110, [(0, .ref (q 0)), (1, .int v1), (2, .int v2), (3, .int v3), (4, .int v4), (5, .int v5), (6, .int v6), (7, .int v7)], [.int (Int32.ofInt 2), .int v2, .ref (q 16)], me_w M (nt_u (nt_u J (q 11) v1.toNatClampNeg ((J (q 11) v1.toNatClampNeg) + v5)) (q 0) 5 ((J (q 0) 5) + v3)))) rfl k
      have k := mx_iast (q := v2.toNatClampNeg) rfl rfl k
      have k : nt_rn X _ 3 (111, [(0, .ref (q 0)), (1, .int v1), (2, .int v2), (3, .int v3), (4, .int v4), (5, .int v5), (6, .int v6), (7, .int v7)], [], me_w M (nt_u (nt_u (nt_u J (q 11) v1.toNatClampNeg ((J (q 11) v1.toNatClampNeg) + v5)) (q 0) 5 ((J (q 0) 5) + v3)) (q 16) v2.toNatClampNeg (Int32.ofInt 2))) _ := k
      have k := ly_revb 1 (c' := (112, [(0, .ref (q 0)), (1, .int v1), (2, .int v2), (3, .int v3), (4, .int v4), (5, .int v5), (6, .int v6), (7, .int v7)], [.ref (q 0)], me_w M (nt_u (nt_u (nt_u J (q 11) v1.toNatClampNeg ((J (q 11) v1.toNatClampNeg) + v5)) (q 0) 5 ((J (q 0) 5) + v3)) (q 16) v2.toNatClampNeg (Int32.ofInt 2)))) rfl k
      have k := lz_get (a := (q 0)) (g := 607) (M := me_w M (nt_u (nt_u (nt_u J (q 11) v1.toNatClampNeg ((J (q 11) v1.toNatClampNeg) + v5)) (q 0) 5 ((J (q 0) 5) + v3)) (q 16) v2.toNatClampNeg (Int32.ofInt 2))) (v := .ref (q 10)) rfl (nt_gfR rfl (hq.1 (0, 7, 10) (by decide))) k
      have k := ly_revb 2 (c' := (117, [(0, .ref (q 0)), (1, .int v1), (2, .int v2), (3, .int v3), (4, .int v4), (5, .int v5), (6, .int v6), (7, .int v7)], [.int (Int32.ofInt 0), .int v1, .ref (q 10)], me_w M (nt_u (nt_u (nt_u J (q 11) v1.toNatClampNeg ((J (q 11) v1.toNatClampNeg) + v5)) (q 0) 5 ((J (q 0) 5) + v3)) (q 16) v2.toNatClampNeg (Int32.ofInt 2)))) rfl k
      have k := mx_iast (q := v1.toNatClampNeg) rfl rfl k
      have k : nt_rn X _ 3 (118, [(0, .ref (q 0)), (1, .int v1), (2, .int v2), (3, .int v3), (4, .int v4), (5, .int v5), (6, .int v6), (7, .int v7)], [], me_w M (nt_u (nt_u (nt_u (nt_u J (q 11) v1.toNatClampNeg ((J (q 11) v1.toNatClampNeg) + v5)) (q 0) 5 ((J (q 0) 5) + v3)) (q 16) v2.toNatClampNeg (Int32.ofInt 2)) (q 10) v1.toNatClampNeg (Int32.ofInt 0))) _ := k
      have k := ly_revb 1 (c' := (119, [(0, .ref (q 0)), (1, .int v1), (2, .int v2), (3, .int v3), (4, .int v4), (5, .int v5), (6, .int v6), (7, .int v7)], [.ref (q 0)], me_w M (nt_u (nt_u (nt_u (nt_u J (q 11) v1.toNatClampNeg ((J (q 11) v1.toNatClampNeg) + v5)) (q 0) 5 ((J (q 0) 5) + v3)) (q 16) v2.toNatClampNeg (Int32.ofInt 2)) (q 10) v1.toNatClampNeg (Int32.ofInt 0)))) rfl k
      have k := lz_get (a := (q 0)) (g := 609) (M := me_w M (nt_u (nt_u (nt_u (nt_u J (q 11) v1.toNatClampNeg ((J (q 11) v1.toNatClampNeg) + v5)) (q 0) 5 ((J (q 0) 5) + v3)) (q 16) v2.toNatClampNeg (Int32.ofInt 2)) (q 10) v1.toNatClampNeg (Int32.ofInt 0))) (v := .ref (q 12)) rfl (nt_gfR rfl (hq.1 (0, 9, 12) (by decide))) k
      have k := ly_revb 2 (c' := (124, [(0, .ref (q 0)), (1, .int v1), (2, .int v2), (3, .int v3), (4, .int v4), (5, .int v5), (6, .int v6), (7, .int v7)], [.int (Int32.ofInt (-1)), .int v1, .ref (q 12)], me_w M (nt_u (nt_u (nt_u (nt_u J (q 11) v1.toNatClampNeg ((J (q 11) v1.toNatClampNeg) + v5)) (q 0) 5 ((J (q 0) 5) + v3)) (q 16) v2.toNatClampNeg (Int32.ofInt 2)) (q 10) v1.toNatClampNeg (Int32.ofInt 0)))) rfl k
      have k := mx_iast (q := v1.toNatClampNeg) rfl rfl k
      have k : nt_rn X _ 3 (125, [(0, .ref (q 0)), (1, .int v1), (2, .int v2), (3, .int v3), (4, .int v4), (5, .int v5), (6, .int v6), (7, .int v7)], [], me_w M (nt_u (nt_u (nt_u (nt_u (nt_u J (q 11) v1.toNatClampNeg ((J (q 11) v1.toNatClampNeg) + v5)) (q 0) 5 ((J (q 0) 5) + v3)) (q 16) v2.toNatClampNeg (Int32.ofInt 2)) (q 10) v1.toNatClampNeg (Int32.ofInt 0)) (q 12) v1.toNatClampNeg (Int32.ofInt (-1)))) _ := k
      have k := lz_rv rfl rfl k
      rw [k, x3_34, if_pos h43]
    · rw [if_neg h43] at k
      have k := ly_revb 4 (c' := (52, [(0, .ref (q 0)), (1, .int v1), (2, .int v2), (3, .int v3), (4, .int v4), (5, .int v5), (6, .int v6), (7, .int v7)], [.int v6, .int v1, .ref (q 0), .int v4], me_w M J)) rfl k
      obtain ⟨d1, o1, ed, kc, k⟩ := lz_c (g := 75) (q := 1) (vs := [.ref (q 0), .int v1, .int v6]) (rest := [.int v4]) rfl rfl (by decide) (Or.inr (Or.inl ⟨_, rfl, rfl⟩)) rfl k
      have e1 := xt75 hq kc
      subst e1
      have k : nt_rn X _ 3 (55, [(0, .ref (q 0)), (1, .int v1), (2, .int v2), (3, .int v3), (4, .int v4), (5, .int v5), (6, .int v6), (7, .int v7)], [.int (x75 q v1 v6 J), .int v4], me_w M J) _ := k
      have k := ly_revb 3 (c' := (59, [(7, .int (v4 * (x75 q v1 v6 J))), (0, .ref (q 0)), (1, .int v1), (2, .int v2), (3, .int v3), (4, .int v4), (5, .int v5), (6, .int v6)], [.ref (q 0)], me_w M J)) rfl k
      have k := lz_get (a := (q 0)) (g := 608) (M := me_w M J) (v := .ref (q 11)) rfl (nt_gfR rfl (hq.1 (0, 8, 11) (by decide))) k
      have k := ly_revb 2 (c' := (65, [(7, .int (v4 * (x75 q v1 v6 J))), (0, .ref (q 0)), (1, .int v1), (2, .int v2), (3, .int v3), (4, .int v4), (5, .int v5), (6, .int v6)], [.int v6, .ref (q 11), .int v6, .ref (q 11)], me_w M J)) rfl k
      have k := mx_iald (v := J (q 11) v6.toNatClampNeg) rfl (hq.2.2.1 11 (by omega)) (rfl) k
      have k := ly_revb 2 (c' := (69, [(7, .int (v4 * (x75 q v1 v6 J))), (0, .ref (q 0)), (1, .int v1), (2, .int v2), (3, .int v3), (4, .int v4), (5, .int v5), (6, .int v6)], [.int ((J (q 11) v6.toNatClampNeg) + (v4 * (x75 q v1 v6 J))), .int v6, .ref (q 11)], me_w M J)) rfl k
      have k := mx_iast (q := v6.toNatClampNeg) rfl rfl k
      have k : nt_rn X _ 3 (70, [(7, .int (v4 * (x75 q v1 v6 J))), (0, .ref (q 0)), (1, .int v1), (2, .int v2), (3, .int v3), (4, .int v4), (5, .int v5), (6, .int v6)], [], me_w M (nt_u J (q 11) v6.toNatClampNeg ((J (q 11) v6.toNatClampNeg) + (v4 * (x75 q v1 v6 J))))) _ := k
      have k := ly_revb 6 (c' := (34, [(6, .int (v6 + (Int32.ofInt 1))), (5, .int (v5 - (v4 * (x75 q v1 v6 J)))), (7, .int (v4 * (x75 q v1 v6 J))), (0, .ref (q 0)), (1, .int v1), (2, .int v2), (3, .int v3), (4, .int v4)], [], me_w M (nt_u J (q 11) v6.toNatClampNeg ((J (q 11) v6.toNatClampNeg) + (v4 * (x75 q v1 v6 J)))))) rfl k
      have k := nt_rn_w (a := [(6, .int (v6 + (Int32.ofInt 1))), (5, .int (v5 - (v4 * (x75 q v1 v6 J)))), (7, .int (v4 * (x75 q v1 v6 J))), (0, .ref (q 0)), (1, .int v1), (2, .int v2), (3, .int v3), (4, .int v4)]) (b := [(0, .ref (q 0)), (1, .int v1), (2, .int v2), (3, .int v3), (4, .int v4), (5, .int (v5 - (v4 * (x75 q v1 v6 J)))), (6, .int (v6 + (Int32.ofInt 1))), (7, .int (v4 * (x75 q v1 v6 J)))]) ⟨rfl, rfl, rfl, rfl, rfl, rfl, rfl, rfl, trivial⟩ rfl k
      have k := ih (v5 - (v4 * (x75 q v1 v6 J))) (v6 + (Int32.ofInt 1)) (v4 * (x75 q v1 v6 J)) (nt_u J (q 11) v6.toNatClampNeg ((J (q 11) v6.toNatClampNeg) + (v4 * (x75 q v1 v6 J)))) (by rw [show (nt_u J (q 11) v6.toNatClampNeg ((J (q 11) v6.toNatClampNeg) + (v4 * (x75 q v1 v6 J)))) (q 1) 1 = J (q 1) 1 from mu_j (hq.2.1 1 11 (by omega) (by omega) (by decide))]; exact lx_dec h43 hc) k
      rw [k, x3_34, if_neg h43]
theorem x3_34_rule {q : Nat → Nat} {v1 : Int32} {v2 : Int32} {v3 : Int32} {v4 : Int32} {I : Nat → Int32 → Int32 → (Nat → Nat → Int32) → Prop} {Q : (Nat → Nat → Int32) → Prop} (h0 : ∀ (v5 : Int32) (v6 : Int32) (J : Nat → Nat → Int32), I 0 v5 v6 J → Q (nt_u (nt_u (nt_u (nt_u (nt_u J (q 11) v1.toNatClampNeg ((J (q 11) v1.toNatClampNeg) + v5)) (q 0) 5 ((J (q 0) 5) + v3)) (q 16) v2.toNatClampNeg (Int32.ofInt 2)) (q 10) v1.toNatClampNeg (Int32.ofInt 0)) (q 12) v1.toNatClampNeg (Int32.ofInt (-1)))) (h1 : ∀ (c : Nat) (v5 : Int32) (v6 : Int32) (J : Nat → Nat → Int32), I (c + 1) v5 v6 J →
    if (J (q 1) 1) ≤ v6 then (Q (nt_u (nt_u (nt_u (nt_u (nt_u J (q 11) v1.toNatClampNeg ((J (q 11) v1.toNatClampNeg) + v5)) (q 0) 5 ((J (q 0) 5) + v3)) (q 16) v2.toNatClampNeg (Int32.ofInt 2)) (q 10) v1.toNatClampNeg (Int32.ofInt 0)) (q 12) v1.toNatClampNeg (Int32.ofInt (-1))))
    else (I c (v5 - (v4 * (x75 q v1 v6 J))) (v6 + (Int32.ofInt 1)) (nt_u J (q 11) v6.toNatClampNeg ((J (q 11) v6.toNatClampNeg) + (v4 * (x75 q v1 v6 J)))))) : ∀ (c : Nat) (v5 : Int32) (v6 : Int32) (J : Nat → Nat → Int32), I c v5 v6 J → Q (x3_34 q v1 v2 v3 v4 c v5 v6 J) := by
  intro c
  induction c with
  | zero =>
    intro v5 v6 J hi
    rw [x3_34]
    exact h0 v5 v6 J hi
  | succ c ih =>
    intro v5 v6 J hi
    have hi := h1 c v5 v6 J hi
    rw [x3_34]
    by_cases h : (J (q 1) 1) ≤ v6
    · rw [if_pos h] at hi ⊢
      exact hi
    · rw [if_neg h] at hi ⊢
      exact ih _ _ _ hi
def x3 (q : Nat → Nat) (v1 : Int32) (J : Nat → Nat → Int32) : (Nat → Nat → Int32) := (x3_34 q v1 (J (q 12) v1.toNatClampNeg) (J (q 9) ((J (q 12) v1.toNatClampNeg).toNatClampNeg)) ((J (q 9) ((J (q 12) v1.toNatClampNeg).toNatClampNeg)) / ((x66 q v1 J) + (Int32.ofInt 1))) ((J (q 1) 1).toNatClampNeg) (J (q 9) ((J (q 12) v1.toNatClampNeg).toNatClampNeg)) (Int32.ofInt 0) J)
theorem xt3 {X : nt_X} {d : Nat} {M : nt_M} {o : Option Value × nt_M} {q : Nat → Nat} {v1 : Int32} {J : Nat → Nat → Int32} (hq : xs_Q M q) (k : nt_ev X d 3 [.ref (q 0), .int v1] (me_w M J) o) : o = (none, me_w M (x3 q v1 J)) := by
  have k : nt_rn X d 3 (0, [(0, .ref (q 0)), (1, .int v1)], [], me_w M J) o := k
  have k := ly_revb 1 (c' := (1, [(0, .ref (q 0)), (1, .int v1)], [.ref (q 0)], me_w M J)) rfl k
  have k := lz_get (a := (q 0)) (g := 609) (M := me_w M J) (v := .ref (q 12)) rfl (nt_gfR rfl (hq.1 (0, 9, 12) (by decide))) k
  have k := ly_revb 1 (c' := (5, [(0, .ref (q 0)), (1, .int v1)], [.int v1, .ref (q 12)], me_w M J)) rfl k
  have k := mx_iald (v := J (q 12) v1.toNatClampNeg) rfl (hq.2.2.1 12 (by omega)) (rfl) k
  have k := ly_revb 2 (c' := (8, [(2, .int (J (q 12) v1.toNatClampNeg)), (0, .ref (q 0)), (1, .int v1)], [.ref (q 0)], me_w M J)) rfl k
  have k := lz_get (a := (q 0)) (g := 600) (M := me_w M J) (v := .ref (q 1)) rfl (nt_gfR rfl (hq.1 (0, 0, 1) (by decide))) k
  have k := lz_get (a := (q 1)) (g := 812) (M := me_w M J) (v := .ref (q 9)) rfl (nt_gfR rfl (hq.1 (1, 12, 9) (by decide))) k
  have k := ly_revb 1 (c' := (15, [(2, .int (J (q 12) v1.toNatClampNeg)), (0, .ref (q 0)), (1, .int v1)], [.int (J (q 12) v1.toNatClampNeg), .ref (q 9)], me_w M J)) rfl k
  have k := mx_iald (v := J (q 9) ((J (q 12) v1.toNatClampNeg).toNatClampNeg)) rfl (hq.2.2.1 9 (by omega)) (rfl) k
  have k := ly_revb 4 (c' := (20, [(3, .int (J (q 9) ((J (q 12) v1.toNatClampNeg).toNatClampNeg))), (2, .int (J (q 12) v1.toNatClampNeg)), (0, .ref (q 0)), (1, .int v1)], [.int v1, .ref (q 0), .int (J (q 9) ((J (q 12) v1.toNatClampNeg).toNatClampNeg))], me_w M J)) rfl k
  obtain ⟨d1, o1, ed, kc, k⟩ := lz_c (g := 66) (q := 1) (vs := [.ref (q 0), .int v1]) (rest := [.int (J (q 9) ((J (q 12) v1.toNatClampNeg).toNatClampNeg))]) rfl rfl (by decide) (Or.inr (Or.inl ⟨_, rfl, rfl⟩)) rfl k
  have e1 := xt66 hq kc
  subst e1
  have k : nt_rn X _ 3 (23, [(3, .int (J (q 9) ((J (q 12) v1.toNatClampNeg).toNatClampNeg))), (2, .int (J (q 12) v1.toNatClampNeg)), (0, .ref (q 0)), (1, .int v1)], [.int (x66 q v1 J), .int (J (q 9) ((J (q 12) v1.toNatClampNeg).toNatClampNeg))], me_w M J) _ := k
  have k := ly_revb 2 (c' := (25, [(3, .int (J (q 9) ((J (q 12) v1.toNatClampNeg).toNatClampNeg))), (2, .int (J (q 12) v1.toNatClampNeg)), (0, .ref (q 0)), (1, .int v1)], [.int ((x66 q v1 J) + (Int32.ofInt 1)), .int (J (q 9) ((J (q 12) v1.toNatClampNeg).toNatClampNeg))], me_w M J)) rfl k
  obtain ⟨hd25, k⟩ := mx_idiv rfl k
  have k := ly_revb 5 (c' := (34, [(6, .int (Int32.ofInt 0)), (5, .int (J (q 9) ((J (q 12) v1.toNatClampNeg).toNatClampNeg))), (4, .int ((J (q 9) ((J (q 12) v1.toNatClampNeg).toNatClampNeg)) / ((x66 q v1 J) + (Int32.ofInt 1)))), (3, .int (J (q 9) ((J (q 12) v1.toNatClampNeg).toNatClampNeg))), (2, .int (J (q 12) v1.toNatClampNeg)), (0, .ref (q 0)), (1, .int v1)], [], me_w M J)) rfl k
  have k := nt_rn_w (a := [(6, .int (Int32.ofInt 0)), (5, .int (J (q 9) ((J (q 12) v1.toNatClampNeg).toNatClampNeg))), (4, .int ((J (q 9) ((J (q 12) v1.toNatClampNeg).toNatClampNeg)) / ((x66 q v1 J) + (Int32.ofInt 1)))), (3, .int (J (q 9) ((J (q 12) v1.toNatClampNeg).toNatClampNeg))), (2, .int (J (q 12) v1.toNatClampNeg)), (0, .ref (q 0)), (1, .int v1)]) (b := [(0, .ref (q 0)), (1, .int v1), (2, .int (J (q 12) v1.toNatClampNeg)), (3, .int (J (q 9) ((J (q 12) v1.toNatClampNeg).toNatClampNeg))), (4, .int ((J (q 9) ((J (q 12) v1.toNatClampNeg).toNatClampNeg)) / ((x66 q v1 J) + (Int32.ofInt 1)))), (5, .int (J (q 9) ((J (q 12) v1.toNatClampNeg).toNatClampNeg))), (6, .int (Int32.ofInt 0)), (7, .int (Int32.ofInt 0))]) ⟨rfl, rfl, rfl, rfl, rfl, rfl, rfl, trivial⟩ rfl k
  have k := xt3_34 hq  ((J (q 1) 1).toNatClampNeg) (J (q 9) ((J (q 12) v1.toNatClampNeg).toNatClampNeg)) (Int32.ofInt 0) (Int32.ofInt 0) J (lx_beg (by decide)) k
  rw [k, x3]
theorem x3_34_frJ {q : Nat → Nat} {v1 : Int32} {v2 : Int32} {v3 : Int32} {v4 : Int32} {b : Nat} : ∀ (c : Nat) (v5 : Int32) (v6 : Int32) (J : Nat → Nat → Int32), b ≠ q 0 → b ≠ q 10 → b ≠ q 11 → b ≠ q 12 → b ≠ q 16 → x3_34 q v1 v2 v3 v4 c v5 v6 J b = J b := by
  intro c
  induction c with
  | zero =>
    intro v5 v6 J n0 n1 n2 n3 n4
    rw [x3_34]
    all_goals first | (dsimp only; exact (show (nt_u (nt_u (nt_u (nt_u (nt_u J (q 11) v1.toNatClampNeg ((J (q 11) v1.toNatClampNeg) + v5)) (q 0) 5 ((J (q 0) 5) + v3)) (q 16) v2.toNatClampNeg (Int32.ofInt 2)) (q 10) v1.toNatClampNeg (Int32.ofInt 0)) (q 12) v1.toNatClampNeg (Int32.ofInt (-1))) b = J b from (mu_o n3).trans ((mu_o n1).trans ((mu_o n4).trans ((mu_o n0).trans (mu_o n2)))))) | exact (show (nt_u (nt_u (nt_u (nt_u (nt_u J (q 11) v1.toNatClampNeg ((J (q 11) v1.toNatClampNeg) + v5)) (q 0) 5 ((J (q 0) 5) + v3)) (q 16) v2.toNatClampNeg (Int32.ofInt 2)) (q 10) v1.toNatClampNeg (Int32.ofInt 0)) (q 12) v1.toNatClampNeg (Int32.ofInt (-1))) b = J b from (mu_o n3).trans ((mu_o n1).trans ((mu_o n4).trans ((mu_o n0).trans (mu_o n2)))))
  | succ c ih =>
    intro v5 v6 J n0 n1 n2 n3 n4
    rw [x3_34]
    by_cases h : (J (q 1) 1) ≤ v6
    · rw [if_pos h]
      all_goals first | (dsimp only; exact (show (nt_u (nt_u (nt_u (nt_u (nt_u J (q 11) v1.toNatClampNeg ((J (q 11) v1.toNatClampNeg) + v5)) (q 0) 5 ((J (q 0) 5) + v3)) (q 16) v2.toNatClampNeg (Int32.ofInt 2)) (q 10) v1.toNatClampNeg (Int32.ofInt 0)) (q 12) v1.toNatClampNeg (Int32.ofInt (-1))) b = J b from (mu_o n3).trans ((mu_o n1).trans ((mu_o n4).trans ((mu_o n0).trans (mu_o n2)))))) | exact (show (nt_u (nt_u (nt_u (nt_u (nt_u J (q 11) v1.toNatClampNeg ((J (q 11) v1.toNatClampNeg) + v5)) (q 0) 5 ((J (q 0) 5) + v3)) (q 16) v2.toNatClampNeg (Int32.ofInt 2)) (q 10) v1.toNatClampNeg (Int32.ofInt 0)) (q 12) v1.toNatClampNeg (Int32.ofInt (-1))) b = J b from (mu_o n3).trans ((mu_o n1).trans ((mu_o n4).trans ((mu_o n0).trans (mu_o n2)))))
    · rw [if_neg h]
      exact (ih _ _ _ n0 n1 n2 n3 n4).trans (mu_o n2)
theorem x3_frJ {q : Nat → Nat} {v1 : Int32} {J : Nat → Nat → Int32} {b : Nat} (n0 : b ≠ q 0) (n1 : b ≠ q 10) (n2 : b ≠ q 11) (n3 : b ≠ q 12) (n4 : b ≠ q 16) : x3 q v1 J b = J b := by
  unfold x3
  exact (x3_34_frJ _ _ _ _ n0 n1 n2 n3 n4).trans (rfl)
/-! $Calendar.lose -/
def x10_38 (q : Nat → Nat) (v1 : Int32) : Nat → Int32 → (Nat → Nat → Int32) → (Nat → Nat → Int32)
  | 0, v3, J => J
  | c + 1, v3, J => if (J (q 1) 2) ≤ v3 then J
    else if (J (q 14) v3.toNatClampNeg) = v1 then (x10_38 q v1 c (v3 + (Int32.ofInt 1)) (nt_u J (q 15) v3.toNatClampNeg (vp_nar .boolean (Int32.ofInt 1))))
      else (x10_38 q v1 c (v3 + (Int32.ofInt 1)) J)
theorem xt10_38 {X : nt_X} {d : Nat} {M : nt_M} {o : Option Value × nt_M} {q : Nat → Nat} {v1 : Int32} {v2 : Int32} (hq : xs_Q M q) : ∀ (c : Nat) (v3 : Int32) (J : Nat → Nat → Int32), (J (q 1) 2).toInt - v3.toInt ≤ c → nt_rn X d 10 (38, [(0, .ref (q 0)), (1, .int v1), (2, .int v2), (3, .int v3)], [], me_w M J) o → o = (none, me_w M (x10_38 q v1 c v3 J)) := by
  intro c
  induction c with
  | zero =>
    intro v3 J hc k
    have k := ly_revb 2 (c' := (40, [(0, .ref (q 0)), (1, .int v1), (2, .int v2), (3, .int v3)], [.ref (q 0), .int v3], me_w M J)) rfl k
    have k := lz_get (a := (q 0)) (g := 600) (M := me_w M J) (v := .ref (q 1)) rfl (nt_gfR rfl (hq.1 (0, 0, 1) (by decide))) k
    have k := lz_get (a := (q 1)) (g := 802) (M := me_w M J) (v := .int (J (q 1) 2)) rfl (congrArg Value.int (rfl)) k
    have k := ly_revb 1 (c' := (if (J (q 1) 2) ≤ v3 then 72 else 49, [(0, .ref (q 0)), (1, .int v1), (2, .int v2), (3, .int v3)], [], me_w M J)) rfl k
    have h46 : (J (q 1) 2) ≤ v3 := lx_end hc
    rw [if_pos h46] at k
    have k := lz_rv rfl rfl k
    rw [k, x10_38]
  | succ c ih =>
    intro v3 J hc k
    have k := ly_revb 2 (c' := (40, [(0, .ref (q 0)), (1, .int v1), (2, .int v2), (3, .int v3)], [.ref (q 0), .int v3], me_w M J)) rfl k
    have k := lz_get (a := (q 0)) (g := 600) (M := me_w M J) (v := .ref (q 1)) rfl (nt_gfR rfl (hq.1 (0, 0, 1) (by decide))) k
    have k := lz_get (a := (q 1)) (g := 802) (M := me_w M J) (v := .int (J (q 1) 2)) rfl (congrArg Value.int (rfl)) k
    have k := ly_revb 1 (c' := (if (J (q 1) 2) ≤ v3 then 72 else 49, [(0, .ref (q 0)), (1, .int v1), (2, .int v2), (3, .int v3)], [], me_w M J)) rfl k
    by_cases h46 : (J (q 1) 2) ≤ v3
    · rw [if_pos h46] at k
      have k := lz_rv rfl rfl k
      rw [k, x10_38, if_pos h46]
    · rw [if_neg h46] at k
      have k := ly_revb 1 (c' := (50, [(0, .ref (q 0)), (1, .int v1), (2, .int v2), (3, .int v3)], [.ref (q 0)], me_w M J)) rfl k
      have k := lz_get (a := (q 0)) (g := 611) (M := me_w M J) (v := .ref (q 14)) rfl (nt_gfR rfl (hq.1 (0, 11, 14) (by decide))) k
      have k := ly_revb 1 (c' := (54, [(0, .ref (q 0)), (1, .int v1), (2, .int v2), (3, .int v3)], [.int v3, .ref (q 14)], me_w M J)) rfl k
      have k := mx_iald (v := J (q 14) v3.toNatClampNeg) rfl (hq.2.2.1 14 (by omega)) (rfl) k
      have k := ly_revb 2 (c' := (if (J (q 14) v3.toNatClampNeg) = v1 then 59 else 66, [(0, .ref (q 0)), (1, .int v1), (2, .int v2), (3, .int v3)], [], me_w M J)) rfl k
      by_cases h56 : (J (q 14) v3.toNatClampNeg) = v1
      · rw [if_pos h56] at k
        have k := ly_revb 1 (c' := (60, [(0, .ref (q 0)), (1, .int v1), (2, .int v2), (3, .int v3)], [.ref (q 0)], me_w M J)) rfl k
        have k := lz_get (a := (q 0)) (g := 612) (M := me_w M J) (v := .ref (q 15)) rfl (nt_gfR rfl (hq.1 (0, 12, 15) (by decide))) k
        have k := ly_revb 2 (c' := (65, [(0, .ref (q 0)), (1, .int v1), (2, .int v2), (3, .int v3)], [.int (Int32.ofInt 1), .int v3, .ref (q 15)], me_w M J)) rfl k
        have k := mx_bast (q := v3.toNatClampNeg) rfl hq.2.2.2 rfl k
        have k : nt_rn X _ 10 (66, [(0, .ref (q 0)), (1, .int v1), (2, .int v2), (3, .int v3)], [], me_w M (nt_u J (q 15) v3.toNatClampNeg (vp_nar .boolean (Int32.ofInt 1)))) _ := k
        have k := ly_revb 2 (c' := (38, [(3, .int (v3 + (Int32.ofInt 1))), (0, .ref (q 0)), (1, .int v1), (2, .int v2)], [], me_w M (nt_u J (q 15) v3.toNatClampNeg (vp_nar .boolean (Int32.ofInt 1))))) rfl k
        have k := nt_rn_w (a := [(3, .int (v3 + (Int32.ofInt 1))), (0, .ref (q 0)), (1, .int v1), (2, .int v2)]) (b := [(0, .ref (q 0)), (1, .int v1), (2, .int v2), (3, .int (v3 + (Int32.ofInt 1)))]) ⟨rfl, rfl, rfl, rfl, trivial⟩ rfl k
        have k := ih (v3 + (Int32.ofInt 1)) (nt_u J (q 15) v3.toNatClampNeg (vp_nar .boolean (Int32.ofInt 1))) (by rw [show (nt_u J (q 15) v3.toNatClampNeg (vp_nar .boolean (Int32.ofInt 1))) (q 1) 2 = J (q 1) 2 from mu_j (hq.2.1 1 15 (by omega) (by omega) (by decide))]; exact lx_dec h46 hc) k
        rw [k, x10_38, if_neg h46, if_pos h56]
      · rw [if_neg h56] at k
        have k := ly_revb 2 (c' := (38, [(3, .int (v3 + (Int32.ofInt 1))), (0, .ref (q 0)), (1, .int v1), (2, .int v2)], [], me_w M J)) rfl k
        have k := nt_rn_w (a := [(3, .int (v3 + (Int32.ofInt 1))), (0, .ref (q 0)), (1, .int v1), (2, .int v2)]) (b := [(0, .ref (q 0)), (1, .int v1), (2, .int v2), (3, .int (v3 + (Int32.ofInt 1)))]) ⟨rfl, rfl, rfl, rfl, trivial⟩ rfl k
        have k := ih (v3 + (Int32.ofInt 1)) J (lx_dec h46 hc) k
        rw [k, x10_38, if_neg h46, if_neg h56]
theorem x10_38_rule {q : Nat → Nat} {v1 : Int32} {I : Nat → Int32 → (Nat → Nat → Int32) → Prop} {Q : (Nat → Nat → Int32) → Prop} (h0 : ∀ (v3 : Int32) (J : Nat → Nat → Int32), I 0 v3 J → Q J) (h1 : ∀ (c : Nat) (v3 : Int32) (J : Nat → Nat → Int32), I (c + 1) v3 J →
    if (J (q 1) 2) ≤ v3 then (Q J)
    else if (J (q 14) v3.toNatClampNeg) = v1 then (I c (v3 + (Int32.ofInt 1)) (nt_u J (q 15) v3.toNatClampNeg (vp_nar .boolean (Int32.ofInt 1))))
      else (I c (v3 + (Int32.ofInt 1)) J)) : ∀ (c : Nat) (v3 : Int32) (J : Nat → Nat → Int32), I c v3 J → Q (x10_38 q v1 c v3 J) := by
  intro c
  induction c with
  | zero =>
    intro v3 J hi
    rw [x10_38]
    exact h0 v3 J hi
  | succ c ih =>
    intro v3 J hi
    have hi := h1 c v3 J hi
    rw [x10_38]
    by_cases h : (J (q 1) 2) ≤ v3
    · rw [if_pos h] at hi ⊢
      exact hi
    · rw [if_neg h] at hi ⊢
      by_cases h : (J (q 14) v3.toNatClampNeg) = v1
      · rw [if_pos h] at hi ⊢
        exact ih _ _ hi
      · rw [if_neg h] at hi ⊢
        exact ih _ _ hi
def x10 (q : Nat → Nat) (v1 : Int32) (J : Nat → Nat → Int32) : (Nat → Nat → Int32) := if (x71 q (J (q 12) v1.toNatClampNeg) J) = 0 then (x10_38 q v1 (((nt_u (nt_u J (q 10) v1.toNatClampNeg (Int32.ofInt 2)) (q 12) v1.toNatClampNeg (Int32.ofInt (-1))) (q 1) 2).toNatClampNeg) (Int32.ofInt 0) (nt_u (nt_u J (q 10) v1.toNatClampNeg (Int32.ofInt 2)) (q 12) v1.toNatClampNeg (Int32.ofInt (-1))))
  else (x10_38 q v1 (((nt_u (nt_u (nt_u J (q 16) ((J (q 12) v1.toNatClampNeg).toNatClampNeg) (Int32.ofInt 3)) (q 10) v1.toNatClampNeg (Int32.ofInt 2)) (q 12) v1.toNatClampNeg (Int32.ofInt (-1))) (q 1) 2).toNatClampNeg) (Int32.ofInt 0) (nt_u (nt_u (nt_u J (q 16) ((J (q 12) v1.toNatClampNeg).toNatClampNeg) (Int32.ofInt 3)) (q 10) v1.toNatClampNeg (Int32.ofInt 2)) (q 12) v1.toNatClampNeg (Int32.ofInt (-1))))
theorem xt10 {X : nt_X} {d : Nat} {M : nt_M} {o : Option Value × nt_M} {q : Nat → Nat} {v1 : Int32} {J : Nat → Nat → Int32} (hq : xs_Q M q) (k : nt_ev X d 10 [.ref (q 0), .int v1] (me_w M J) o) : o = (none, me_w M (x10 q v1 J)) := by
  have k : nt_rn X d 10 (0, [(0, .ref (q 0)), (1, .int v1)], [], me_w M J) o := k
  have k := ly_revb 1 (c' := (1, [(0, .ref (q 0)), (1, .int v1)], [.ref (q 0)], me_w M J)) rfl k
  have k := lz_get (a := (q 0)) (g := 609) (M := me_w M J) (v := .ref (q 12)) rfl (nt_gfR rfl (hq.1 (0, 9, 12) (by decide))) k
  have k := ly_revb 1 (c' := (5, [(0, .ref (q 0)), (1, .int v1)], [.int v1, .ref (q 12)], me_w M J)) rfl k
  have k := mx_iald (v := J (q 12) v1.toNatClampNeg) rfl (hq.2.2.1 12 (by omega)) (rfl) k
  have k := ly_revb 3 (c' := (9, [(2, .int (J (q 12) v1.toNatClampNeg)), (0, .ref (q 0)), (1, .int v1)], [.int (J (q 12) v1.toNatClampNeg), .ref (q 0)], me_w M J)) rfl k
  obtain ⟨d1, o1, ed, kc, k⟩ := lz_c (g := 71) (q := 1) (vs := [.ref (q 0), .int (J (q 12) v1.toNatClampNeg)]) (rest := []) rfl rfl (by decide) (Or.inr (Or.inl ⟨_, rfl, rfl⟩)) rfl k
  have e1 := xt71 hq kc
  subst e1
  have k : nt_rn X _ 10 (12, [(2, .int (J (q 12) v1.toNatClampNeg)), (0, .ref (q 0)), (1, .int v1)], [.int (x71 q (J (q 12) v1.toNatClampNeg) J)], me_w M J) _ := k
  have k := ly_revb 1 (c' := (if (x71 q (J (q 12) v1.toNatClampNeg) J) = 0 then 22 else 15, [(2, .int (J (q 12) v1.toNatClampNeg)), (0, .ref (q 0)), (1, .int v1)], [], me_w M J)) rfl k
  by_cases h12 : (x71 q (J (q 12) v1.toNatClampNeg) J) = 0
  · rw [if_pos h12] at k
    have k := ly_revb 1 (c' := (23, [(2, .int (J (q 12) v1.toNatClampNeg)), (0, .ref (q 0)), (1, .int v1)], [.ref (q 0)], me_w M J)) rfl k
    have k := lz_get (a := (q 0)) (g := 607) (M := me_w M J) (v := .ref (q 10)) rfl (nt_gfR rfl (hq.1 (0, 7, 10) (by decide))) k
    have k := ly_revb 2 (c' := (28, [(2, .int (J (q 12) v1.toNatClampNeg)), (0, .ref (q 0)), (1, .int v1)], [.int (Int32.ofInt 2), .int v1, .ref (q 10)], me_w M J)) rfl k
    have k := mx_iast (q := v1.toNatClampNeg) rfl rfl k
    have k : nt_rn X _ 10 (29, [(2, .int (J (q 12) v1.toNatClampNeg)), (0, .ref (q 0)), (1, .int v1)], [], me_w M (nt_u J (q 10) v1.toNatClampNeg (Int32.ofInt 2))) _ := k
    have k := ly_revb 1 (c' := (30, [(2, .int (J (q 12) v1.toNatClampNeg)), (0, .ref (q 0)), (1, .int v1)], [.ref (q 0)], me_w M (nt_u J (q 10) v1.toNatClampNeg (Int32.ofInt 2)))) rfl k
    have k := lz_get (a := (q 0)) (g := 609) (M := me_w M (nt_u J (q 10) v1.toNatClampNeg (Int32.ofInt 2))) (v := .ref (q 12)) rfl (nt_gfR rfl (hq.1 (0, 9, 12) (by decide))) k
    have k := ly_revb 2 (c' := (35, [(2, .int (J (q 12) v1.toNatClampNeg)), (0, .ref (q 0)), (1, .int v1)], [.int (Int32.ofInt (-1)), .int v1, .ref (q 12)], me_w M (nt_u J (q 10) v1.toNatClampNeg (Int32.ofInt 2)))) rfl k
    have k := mx_iast (q := v1.toNatClampNeg) rfl rfl k
    have k : nt_rn X _ 10 (36, [(2, .int (J (q 12) v1.toNatClampNeg)), (0, .ref (q 0)), (1, .int v1)], [], me_w M (nt_u (nt_u J (q 10) v1.toNatClampNeg (Int32.ofInt 2)) (q 12) v1.toNatClampNeg (Int32.ofInt (-1)))) _ := k
    have k := ly_revb 2 (c' := (38, [(3, .int (Int32.ofInt 0)), (2, .int (J (q 12) v1.toNatClampNeg)), (0, .ref (q 0)), (1, .int v1)], [], me_w M (nt_u (nt_u J (q 10) v1.toNatClampNeg (Int32.ofInt 2)) (q 12) v1.toNatClampNeg (Int32.ofInt (-1))))) rfl k
    have k := nt_rn_w (a := [(3, .int (Int32.ofInt 0)), (2, .int (J (q 12) v1.toNatClampNeg)), (0, .ref (q 0)), (1, .int v1)]) (b := [(0, .ref (q 0)), (1, .int v1), (2, .int (J (q 12) v1.toNatClampNeg)), (3, .int (Int32.ofInt 0))]) ⟨rfl, rfl, rfl, rfl, trivial⟩ rfl k
    have k := xt10_38 hq  (((nt_u (nt_u J (q 10) v1.toNatClampNeg (Int32.ofInt 2)) (q 12) v1.toNatClampNeg (Int32.ofInt (-1))) (q 1) 2).toNatClampNeg) (Int32.ofInt 0) (nt_u (nt_u J (q 10) v1.toNatClampNeg (Int32.ofInt 2)) (q 12) v1.toNatClampNeg (Int32.ofInt (-1))) (lx_beg (by decide)) k
    rw [k, x10, if_pos h12]
  · rw [if_neg h12] at k
    have k := ly_revb 1 (c' := (16, [(2, .int (J (q 12) v1.toNatClampNeg)), (0, .ref (q 0)), (1, .int v1)], [.ref (q 0)], me_w M J)) rfl k
    have k := lz_get (a := (q 0)) (g := 613) (M := me_w M J) (v := .ref (q 16)) rfl (nt_gfR rfl (hq.1 (0, 13, 16) (by decide))) k
    have k := ly_revb 2 (c' := (21, [(2, .int (J (q 12) v1.toNatClampNeg)), (0, .ref (q 0)), (1, .int v1)], [.int (Int32.ofInt 3), .int (J (q 12) v1.toNatClampNeg), .ref (q 16)], me_w M J)) rfl k
    have k := mx_iast (q := (J (q 12) v1.toNatClampNeg).toNatClampNeg) rfl rfl k
    have k : nt_rn X _ 10 (22, [(2, .int (J (q 12) v1.toNatClampNeg)), (0, .ref (q 0)), (1, .int v1)], [], me_w M (nt_u J (q 16) ((J (q 12) v1.toNatClampNeg).toNatClampNeg) (Int32.ofInt 3))) _ := k
    have k := ly_revb 1 (c' := (23, [(2, .int (J (q 12) v1.toNatClampNeg)), (0, .ref (q 0)), (1, .int v1)], [.ref (q 0)], me_w M (nt_u J (q 16) ((J (q 12) v1.toNatClampNeg).toNatClampNeg) (Int32.ofInt 3)))) rfl k
    have k := lz_get (a := (q 0)) (g := 607) (M := me_w M (nt_u J (q 16) ((J (q 12) v1.toNatClampNeg).toNatClampNeg) (Int32.ofInt 3))) (v := .ref (q 10)) rfl (nt_gfR rfl (hq.1 (0, 7, 10) (by decide))) k
    have k := ly_revb 2 (c' := (28, [(2, .int (J (q 12) v1.toNatClampNeg)), (0, .ref (q 0)), (1, .int v1)], [.int (Int32.ofInt 2), .int v1, .ref (q 10)], me_w M (nt_u J (q 16) ((J (q 12) v1.toNatClampNeg).toNatClampNeg) (Int32.ofInt 3)))) rfl k
    have k := mx_iast (q := v1.toNatClampNeg) rfl rfl k
    have k : nt_rn X _ 10 (29, [(2, .int (J (q 12) v1.toNatClampNeg)), (0, .ref (q 0)), (1, .int v1)], [], me_w M (nt_u (nt_u J (q 16) ((J (q 12) v1.toNatClampNeg).toNatClampNeg) (Int32.ofInt 3)) (q 10) v1.toNatClampNeg (Int32.ofInt 2))) _ := k
    have k := ly_revb 1 (c' := (30, [(2, .int (J (q 12) v1.toNatClampNeg)), (0, .ref (q 0)), (1, .int v1)], [.ref (q 0)], me_w M (nt_u (nt_u J (q 16) ((J (q 12) v1.toNatClampNeg).toNatClampNeg) (Int32.ofInt 3)) (q 10) v1.toNatClampNeg (Int32.ofInt 2)))) rfl k
    have k := lz_get (a := (q 0)) (g := 609) (M := me_w M (nt_u (nt_u J (q 16) ((J (q 12) v1.toNatClampNeg).toNatClampNeg) (Int32.ofInt 3)) (q 10) v1.toNatClampNeg (Int32.ofInt 2))) (v := .ref (q 12)) rfl (nt_gfR rfl (hq.1 (0, 9, 12) (by decide))) k
    have k := ly_revb 2 (c' := (35, [(2, .int (J (q 12) v1.toNatClampNeg)), (0, .ref (q 0)), (1, .int v1)], [.int (Int32.ofInt (-1)), .int v1, .ref (q 12)], me_w M (nt_u (nt_u J (q 16) ((J (q 12) v1.toNatClampNeg).toNatClampNeg) (Int32.ofInt 3)) (q 10) v1.toNatClampNeg (Int32.ofInt 2)))) rfl k
    have k := mx_iast (q := v1.toNatClampNeg) rfl rfl k
    have k : nt_rn X _ 10 (36, [(2, .int (J (q 12) v1.toNatClampNeg)), (0, .ref (q 0)), (1, .int v1)], [], me_w M (nt_u (nt_u (nt_u J (q 16) ((J (q 12) v1.toNatClampNeg).toNatClampNeg) (Int32.ofInt 3)) (q 10) v1.toNatClampNeg (Int32.ofInt 2)) (q 12) v1.toNatClampNeg (Int32.ofInt (-1)))) _ := k
    have k := ly_revb 2 (c' := (38, [(3, .int (Int32.ofInt 0)), (2, .int (J (q 12) v1.toNatClampNeg)), (0, .ref (q 0)), (1, .int v1)], [], me_w M (nt_u (nt_u (nt_u J (q 16) ((J (q 12) v1.toNatClampNeg).toNatClampNeg) (Int32.ofInt 3)) (q 10) v1.toNatClampNeg (Int32.ofInt 2)) (q 12) v1.toNatClampNeg (Int32.ofInt (-1))))) rfl k
    have k := nt_rn_w (a := [(3, .int (Int32.ofInt 0)), (2, .int (J (q 12) v1.toNatClampNeg)), (0, .ref (q 0)), (1, .int v1)]) (b := [(0, .ref (q 0)), (1, .int v1), (2, .int (J (q 12) v1.toNatClampNeg)), (3, .int (Int32.ofInt 0))]) ⟨rfl, rfl, rfl, rfl, trivial⟩ rfl k
    have k := xt10_38 hq  (((nt_u (nt_u (nt_u J (q 16) ((J (q 12) v1.toNatClampNeg).toNatClampNeg) (Int32.ofInt 3)) (q 10) v1.toNatClampNeg (Int32.ofInt 2)) (q 12) v1.toNatClampNeg (Int32.ofInt (-1))) (q 1) 2).toNatClampNeg) (Int32.ofInt 0) (nt_u (nt_u (nt_u J (q 16) ((J (q 12) v1.toNatClampNeg).toNatClampNeg) (Int32.ofInt 3)) (q 10) v1.toNatClampNeg (Int32.ofInt 2)) (q 12) v1.toNatClampNeg (Int32.ofInt (-1))) (lx_beg (by decide)) k
    rw [k, x10, if_neg h12]
theorem x10_38_frJ {q : Nat → Nat} {v1 : Int32} {b : Nat} : ∀ (c : Nat) (v3 : Int32) (J : Nat → Nat → Int32), b ≠ q 10 → b ≠ q 12 → b ≠ q 15 → b ≠ q 16 → x10_38 q v1 c v3 J b = J b := by
  intro c
  induction c with
  | zero =>
    intro v3 J n0 n1 n2 n3
    rw [x10_38]
    all_goals first | (dsimp only; exact (show J b = J b from rfl)) | exact (show J b = J b from rfl)
  | succ c ih =>
    intro v3 J n0 n1 n2 n3
    rw [x10_38]
    by_cases h : (J (q 1) 2) ≤ v3
    · rw [if_pos h]
      all_goals first | (dsimp only; exact (show J b = J b from rfl)) | exact (show J b = J b from rfl)
    · rw [if_neg h]
      by_cases h : (J (q 14) v3.toNatClampNeg) = v1
      · rw [if_pos h]
        exact (ih _ _ n0 n1 n2 n3).trans (mu_o n2)
      · rw [if_neg h]
        exact (ih _ _ n0 n1 n2 n3).trans (rfl)
theorem x10_frJ {q : Nat → Nat} {v1 : Int32} {J : Nat → Nat → Int32} {b : Nat} (n0 : b ≠ q 10) (n1 : b ≠ q 12) (n2 : b ≠ q 15) (n3 : b ≠ q 16) : x10 q v1 J b = J b := by
  unfold x10
  by_cases h : (x71 q (J (q 12) v1.toNatClampNeg) J) = 0
  · rw [if_pos h]
    exact (x10_38_frJ _ _ _ n0 n1 n2 n3).trans ((mu_o n1).trans (mu_o n0))
  · rw [if_neg h]
    exact (x10_38_frJ _ _ _ n0 n1 n2 n3).trans ((mu_o n1).trans ((mu_o n0).trans (mu_o n3)))
/-! $Calendar.rotAway -/
def x9_4 (q : Nat → Nat) (v1 : Int32) : Nat → Int32 → Int32 → (Nat → Nat → Int32) → (Nat → Nat → Int32)
  | 0, v2, v3, J => if v2 = 0 then J
    else if (x2 q v1 ((J (q 0) 2) + (Int32.ofInt 1)) J) = 0 then (x10 q v1 J)
      else J
  | c + 1, v2, v3, J => if (J (q 1) 2) ≤ v3 then if v2 = 0 then J
      else if (x2 q v1 ((J (q 0) 2) + (Int32.ofInt 1)) J) = 0 then (x10 q v1 J)
        else J
    else if (J (q 14) v3.toNatClampNeg) = v1 then if (J (q 13) v3.toNatClampNeg) ≤ 0 then (x9_4 q v1 c v2 (v3 + (Int32.ofInt 1)) J)
        else if ((J (q 13) v3.toNatClampNeg) - (Int32.ofInt 1)) = 0 then (x9_4 q v1 c (v2 ||| (Int32.ofInt 1)) (v3 + (Int32.ofInt 1)) (nt_u J (q 13) v3.toNatClampNeg ((J (q 13) v3.toNatClampNeg) - (Int32.ofInt 1))))
          else (x9_4 q v1 c (v2 ||| (Int32.ofInt 0)) (v3 + (Int32.ofInt 1)) (nt_u J (q 13) v3.toNatClampNeg ((J (q 13) v3.toNatClampNeg) - (Int32.ofInt 1))))
      else (x9_4 q v1 c v2 (v3 + (Int32.ofInt 1)) J)
theorem xt9_4 {X : nt_X} {d : Nat} {M : nt_M} {o : Option Value × nt_M} {q : Nat → Nat} {v1 : Int32} (hq : xs_Q M q) : ∀ (c : Nat) (v2 : Int32) (v3 : Int32) (J : Nat → Nat → Int32), (J (q 1) 2).toInt - v3.toInt ≤ c → nt_rn X d 9 (4, [(0, .ref (q 0)), (1, .int v1), (2, .int v2), (3, .int v3)], [], me_w M J) o → o = (none, me_w M (x9_4 q v1 c v2 v3 J)) := by
  intro c
  induction c with
  | zero =>
    intro v2 v3 J hc k
    have k := ly_revb 2 (c' := (6, [(0, .ref (q 0)), (1, .int v1), (2, .int v2), (3, .int v3)], [.ref (q 0), .int v3], me_w M J)) rfl k
    have k := lz_get (a := (q 0)) (g := 600) (M := me_w M J) (v := .ref (q 1)) rfl (nt_gfR rfl (hq.1 (0, 0, 1) (by decide))) k
    have k := lz_get (a := (q 1)) (g := 802) (M := me_w M J) (v := .int (J (q 1) 2)) rfl (congrArg Value.int (rfl)) k
    have k := ly_revb 1 (c' := (if (J (q 1) 2) ≤ v3 then 67 else 15, [(0, .ref (q 0)), (1, .int v1), (2, .int v2), (3, .int v3)], [], me_w M J)) rfl k
    have h12 : (J (q 1) 2) ≤ v3 := lx_end hc
    rw [if_pos h12] at k
    have k := ly_revb 2 (c' := (if v2 = 0 then 90 else 71, [(0, .ref (q 0)), (1, .int v1), (2, .int v2), (3, .int v3)], [], me_w M J)) rfl k
    by_cases h68 : v2 = 0
    · rw [if_pos h68] at k
      have k := lz_rv rfl rfl k
      rw [k, x9_4, if_pos h68]
    · rw [if_neg h68] at k
      have k := ly_revb 3 (c' := (74, [(0, .ref (q 0)), (1, .int v1), (2, .int v2), (3, .int v3)], [.ref (q 0), .int v1, .ref (q 0)], me_w M J)) rfl k
      have k := lz_get (a := (q 0)) (g := 602) (M := me_w M J) (v := .int (J (q 0) 2)) rfl (congrArg Value.int (rfl)) k
      have k := ly_revb 2 (c' := (79, [(0, .ref (q 0)), (1, .int v1), (2, .int v2), (3, .int v3)], [.int ((J (q 0) 2) + (Int32.ofInt 1)), .int v1, .ref (q 0)], me_w M J)) rfl k
      obtain ⟨d1, o1, ed, kc, k⟩ := lz_c (g := 2) (q := 0) (vs := [.ref (q 0), .int v1, .int ((J (q 0) 2) + (Int32.ofInt 1))]) (rest := []) rfl rfl (by decide) (Or.inl ⟨_, rfl, rfl⟩) rfl k
      have e1 := xt2 hq kc
      subst e1
      have k : nt_rn X _ 9 (82, [(0, .ref (q 0)), (1, .int v1), (2, .int v2), (3, .int v3)], [.int (x2 q v1 ((J (q 0) 2) + (Int32.ofInt 1)) J)], me_w M J) _ := k
      have k := ly_revb 1 (c' := (if (x2 q v1 ((J (q 0) 2) + (Int32.ofInt 1)) J) = 0 then 85 else 90, [(0, .ref (q 0)), (1, .int v1), (2, .int v2), (3, .int v3)], [], me_w M J)) rfl k
      by_cases h82 : (x2 q v1 ((J (q 0) 2) + (Int32.ofInt 1)) J) = 0
      · rw [if_pos h82] at k
        have k := ly_revb 2 (c' := (87, [(0, .ref (q 0)), (1, .int v1), (2, .int v2), (3, .int v3)], [.int v1, .ref (q 0)], me_w M J)) rfl k
        obtain ⟨d1, o1, ed, kc, k⟩ := lz_c (g := 10) (q := 0) (vs := [.ref (q 0), .int v1]) (rest := []) rfl rfl (by decide) (Or.inl ⟨_, rfl, rfl⟩) rfl k
        have e1 := xt10 hq kc
        subst e1
        have k : nt_rn X _ 9 (90, [(0, .ref (q 0)), (1, .int v1), (2, .int v2), (3, .int v3)], [], me_w M (x10 q v1 J)) _ := k
        have k := lz_rv rfl rfl k
        rw [k, x9_4, if_neg h68, if_pos h82]
      · rw [if_neg h82] at k
        have k := lz_rv rfl rfl k
        rw [k, x9_4, if_neg h68, if_neg h82]
  | succ c ih =>
    intro v2 v3 J hc k
    have k := ly_revb 2 (c' := (6, [(0, .ref (q 0)), (1, .int v1), (2, .int v2), (3, .int v3)], [.ref (q 0), .int v3], me_w M J)) rfl k
    have k := lz_get (a := (q 0)) (g := 600) (M := me_w M J) (v := .ref (q 1)) rfl (nt_gfR rfl (hq.1 (0, 0, 1) (by decide))) k
    have k := lz_get (a := (q 1)) (g := 802) (M := me_w M J) (v := .int (J (q 1) 2)) rfl (congrArg Value.int (rfl)) k
    have k := ly_revb 1 (c' := (if (J (q 1) 2) ≤ v3 then 67 else 15, [(0, .ref (q 0)), (1, .int v1), (2, .int v2), (3, .int v3)], [], me_w M J)) rfl k
    by_cases h12 : (J (q 1) 2) ≤ v3
    · rw [if_pos h12] at k
      have k := ly_revb 2 (c' := (if v2 = 0 then 90 else 71, [(0, .ref (q 0)), (1, .int v1), (2, .int v2), (3, .int v3)], [], me_w M J)) rfl k
      by_cases h68 : v2 = 0
      · rw [if_pos h68] at k
        have k := lz_rv rfl rfl k
        rw [k, x9_4, if_pos h12, if_pos h68]
      · rw [if_neg h68] at k
        have k := ly_revb 3 (c' := (74, [(0, .ref (q 0)), (1, .int v1), (2, .int v2), (3, .int v3)], [.ref (q 0), .int v1, .ref (q 0)], me_w M J)) rfl k
        have k := lz_get (a := (q 0)) (g := 602) (M := me_w M J) (v := .int (J (q 0) 2)) rfl (congrArg Value.int (rfl)) k
        have k := ly_revb 2 (c' := (79, [(0, .ref (q 0)), (1, .int v1), (2, .int v2), (3, .int v3)], [.int ((J (q 0) 2) + (Int32.ofInt 1)), .int v1, .ref (q 0)], me_w M J)) rfl k
        obtain ⟨d1, o1, ed, kc, k⟩ := lz_c (g := 2) (q := 0) (vs := [.ref (q 0), .int v1, .int ((J (q 0) 2) + (Int32.ofInt 1))]) (rest := []) rfl rfl (by decide) (Or.inl ⟨_, rfl, rfl⟩) rfl k
        have e1 := xt2 hq kc
        subst e1
        have k : nt_rn X _ 9 (82, [(0, .ref (q 0)), (1, .int v1), (2, .int v2), (3, .int v3)], [.int (x2 q v1 ((J (q 0) 2) + (Int32.ofInt 1)) J)], me_w M J) _ := k
        have k := ly_revb 1 (c' := (if (x2 q v1 ((J (q 0) 2) + (Int32.ofInt 1)) J) = 0 then 85 else 90, [(0, .ref (q 0)), (1, .int v1), (2, .int v2), (3, .int v3)], [], me_w M J)) rfl k
        by_cases h82 : (x2 q v1 ((J (q 0) 2) + (Int32.ofInt 1)) J) = 0
        · rw [if_pos h82] at k
          have k := ly_revb 2 (c' := (87, [(0, .ref (q 0)), (1, .int v1), (2, .int v2), (3, .int v3)], [.int v1, .ref (q 0)], me_w M J)) rfl k
          obtain ⟨d1, o1, ed, kc, k⟩ := lz_c (g := 10) (q := 0) (vs := [.ref (q 0), .int v1]) (rest := []) rfl rfl (by decide) (Or.inl ⟨_, rfl, rfl⟩) rfl k
          have e1 := xt10 hq kc
          subst e1
          have k : nt_rn X _ 9 (90, [(0, .ref (q 0)), (1, .int v1), (2, .int v2), (3, .int v3)], [], me_w M (x10 q v1 J)) _ := k
          have k := lz_rv rfl rfl k
          rw [k, x9_4, if_pos h12, if_neg h68, if_pos h82]
        · rw [if_neg h82] at k
          have k := lz_rv rfl rfl k
          rw [k, x9_4, if_pos h12, if_neg h68, if_neg h82]
    · rw [if_neg h12] at k
      have k := ly_revb 1 (c' := (16, [(0, .ref (q 0)), (1, .int v1), (2, .int v2), (3, .int v3)], [.ref (q 0)], me_w M J)) rfl k
      have k := lz_get (a := (q 0)) (g := 611) (M := me_w M J) (v := .ref (q 14)) rfl (nt_gfR rfl (hq.1 (0, 11, 14) (by decide))) k
      have k := ly_revb 1 (c' := (20, [(0, .ref (q 0)), (1, .int v1), (2, .int v2), (3, .int v3)], [.int v3, .ref (q 14)], me_w M J)) rfl k
      have k := mx_iald (v := J (q 14) v3.toNatClampNeg) rfl (hq.2.2.1 14 (by omega)) (rfl) k
      have k := ly_revb 2 (c' := (if (J (q 14) v3.toNatClampNeg) = v1 then 25 else 61, [(0, .ref (q 0)), (1, .int v1), (2, .int v2), (3, .int v3)], [], me_w M J)) rfl k
      by_cases h22 : (J (q 14) v3.toNatClampNeg) = v1
      · rw [if_pos h22] at k
        have k := ly_revb 1 (c' := (26, [(0, .ref (q 0)), (1, .int v1), (2, .int v2), (3, .int v3)], [.ref (q 0)], me_w M J)) rfl k
        have k := lz_get (a := (q 0)) (g := 610) (M := me_w M J) (v := .ref (q 13)) rfl (nt_gfR rfl (hq.1 (0, 10, 13) (by decide))) k
        have k := ly_revb 1 (c' := (30, [(0, .ref (q 0)), (1, .int v1), (2, .int v2), (3, .int v3)], [.int v3, .ref (q 13)], me_w M J)) rfl k
        have k := mx_iald (v := J (q 13) v3.toNatClampNeg) rfl (hq.2.2.1 13 (by omega)) (rfl) k
        have k := ly_revb 1 (c' := (if (J (q 13) v3.toNatClampNeg) ≤ 0 then 61 else 34, [(0, .ref (q 0)), (1, .int v1), (2, .int v2), (3, .int v3)], [], me_w M J)) rfl k
        by_cases h31 : (J (q 13) v3.toNatClampNeg) ≤ 0
        · rw [if_pos h31] at k
          have k := ly_revb 2 (c' := (4, [(3, .int (v3 + (Int32.ofInt 1))), (0, .ref (q 0)), (1, .int v1), (2, .int v2)], [], me_w M J)) rfl k
          have k := nt_rn_w (a := [(3, .int (v3 + (Int32.ofInt 1))), (0, .ref (q 0)), (1, .int v1), (2, .int v2)]) (b := [(0, .ref (q 0)), (1, .int v1), (2, .int v2), (3, .int (v3 + (Int32.ofInt 1)))]) ⟨rfl, rfl, rfl, rfl, trivial⟩ rfl k
          have k := ih v2 (v3 + (Int32.ofInt 1)) J (lx_dec h12 hc) k
          rw [k, x9_4, if_neg h12, if_pos h22, if_pos h31]
        · rw [if_neg h31] at k
          have k := ly_revb 1 (c' := (35, [(0, .ref (q 0)), (1, .int v1), (2, .int v2), (3, .int v3)], [.ref (q 0)], me_w M J)) rfl k
          have k := lz_get (a := (q 0)) (g := 610) (M := me_w M J) (v := .ref (q 13)) rfl (nt_gfR rfl (hq.1 (0, 10, 13) (by decide))) k
          have k := ly_revb 2 (c' := (40, [(0, .ref (q 0)), (1, .int v1), (2, .int v2), (3, .int v3)], [.int v3, .ref (q 13), .int v3, .ref (q 13)], me_w M J)) rfl k
          have k := mx_iald (v := J (q 13) v3.toNatClampNeg) rfl (hq.2.2.1 13 (by omega)) (rfl) k
          have k := ly_revb 2 (c' := (43, [(0, .ref (q 0)), (1, .int v1), (2, .int v2), (3, .int v3)], [.int ((J (q 13) v3.toNatClampNeg) - (Int32.ofInt 1)), .int v3, .ref (q 13)], me_w M J)) rfl k
          have k := mx_iast (q := v3.toNatClampNeg) rfl rfl k
          have k : nt_rn X _ 9 (44, [(0, .ref (q 0)), (1, .int v1), (2, .int v2), (3, .int v3)], [], me_w M (nt_u J (q 13) v3.toNatClampNeg ((J (q 13) v3.toNatClampNeg) - (Int32.ofInt 1)))) _ := k
          have k := ly_revb 2 (c' := (46, [(0, .ref (q 0)), (1, .int v1), (2, .int v2), (3, .int v3)], [.ref (q 0), .int v2], me_w M (nt_u J (q 13) v3.toNatClampNeg ((J (q 13) v3.toNatClampNeg) - (Int32.ofInt 1))))) rfl k
          have k := lz_get (a := (q 0)) (g := 610) (M := me_w M (nt_u J (q 13) v3.toNatClampNeg ((J (q 13) v3.toNatClampNeg) - (Int32.ofInt 1)))) (v := .ref (q 13)) rfl (nt_gfR rfl (hq.1 (0, 10, 13) (by decide))) k
          have k := ly_revb 1 (c' := (50, [(0, .ref (q 0)), (1, .int v1), (2, .int v2), (3, .int v3)], [.int v3, .ref (q 13), .int v2], me_w M (nt_u J (q 13) v3.toNatClampNeg ((J (q 13) v3.toNatClampNeg) - (Int32.ofInt 1))))) rfl k
          have k := mx_iald (v := (J (q 13) v3.toNatClampNeg) - (Int32.ofInt 1)) rfl (hq.2.2.1 13 (by omega)) (mu_s) k
          have k := ly_revb 1 (c' := (if ((J (q 13) v3.toNatClampNeg) - (Int32.ofInt 1)) = 0 then 54 else 58, [(0, .ref (q 0)), (1, .int v1), (2, .int v2), (3, .int v3)], [.int v2], me_w M (nt_u J (q 13) v3.toNatClampNeg ((J (q 13) v3.toNatClampNeg) - (Int32.ofInt 1))))) rfl k
          by_cases h51 : ((J (q 13) v3.toNatClampNeg) - (Int32.ofInt 1)) = 0
          · rw [if_pos h51] at k
            have k := ly_revb 6 (c' := (4, [(3, .int (v3 + (Int32.ofInt 1))), (2, .int (v2 ||| (Int32.ofInt 1))), (0, .ref (q 0)), (1, .int v1)], [], me_w M (nt_u J (q 13) v3.toNatClampNeg ((J (q 13) v3.toNatClampNeg) - (Int32.ofInt 1))))) rfl k
            have k := nt_rn_w (a := [(3, .int (v3 + (Int32.ofInt 1))), (2, .int (v2 ||| (Int32.ofInt 1))), (0, .ref (q 0)), (1, .int v1)]) (b := [(0, .ref (q 0)), (1, .int v1), (2, .int (v2 ||| (Int32.ofInt 1))), (3, .int (v3 + (Int32.ofInt 1)))]) ⟨rfl, rfl, rfl, rfl, trivial⟩ rfl k
            have k := ih (v2 ||| (Int32.ofInt 1)) (v3 + (Int32.ofInt 1)) (nt_u J (q 13) v3.toNatClampNeg ((J (q 13) v3.toNatClampNeg) - (Int32.ofInt 1))) (by rw [show (nt_u J (q 13) v3.toNatClampNeg ((J (q 13) v3.toNatClampNeg) - (Int32.ofInt 1))) (q 1) 2 = J (q 1) 2 from mu_j (hq.2.1 1 13 (by omega) (by omega) (by decide))]; exact lx_dec h12 hc) k
            rw [k, x9_4, if_neg h12, if_pos h22, if_neg h31, if_pos h51]
          · rw [if_neg h51] at k
            have k := ly_revb 5 (c' := (4, [(3, .int (v3 + (Int32.ofInt 1))), (2, .int (v2 ||| (Int32.ofInt 0))), (0, .ref (q 0)), (1, .int v1)], [], me_w M (nt_u J (q 13) v3.toNatClampNeg ((J (q 13) v3.toNatClampNeg) - (Int32.ofInt 1))))) rfl k
            have k := nt_rn_w (a := [(3, .int (v3 + (Int32.ofInt 1))), (2, .int (v2 ||| (Int32.ofInt 0))), (0, .ref (q 0)), (1, .int v1)]) (b := [(0, .ref (q 0)), (1, .int v1), (2, .int (v2 ||| (Int32.ofInt 0))), (3, .int (v3 + (Int32.ofInt 1)))]) ⟨rfl, rfl, rfl, rfl, trivial⟩ rfl k
            have k := ih (v2 ||| (Int32.ofInt 0)) (v3 + (Int32.ofInt 1)) (nt_u J (q 13) v3.toNatClampNeg ((J (q 13) v3.toNatClampNeg) - (Int32.ofInt 1))) (by rw [show (nt_u J (q 13) v3.toNatClampNeg ((J (q 13) v3.toNatClampNeg) - (Int32.ofInt 1))) (q 1) 2 = J (q 1) 2 from mu_j (hq.2.1 1 13 (by omega) (by omega) (by decide))]; exact lx_dec h12 hc) k
            rw [k, x9_4, if_neg h12, if_pos h22, if_neg h31, if_neg h51]
      · rw [if_neg h22] at k
        have k := ly_revb 2 (c' := (4, [(3, .int (v3 + (Int32.ofInt 1))), (0, .ref (q 0)), (1, .int v1), (2, .int v2)], [], me_w M J)) rfl k
        have k := nt_rn_w (a := [(3, .int (v3 + (Int32.ofInt 1))), (0, .ref (q 0)), (1, .int v1), (2, .int v2)]) (b := [(0, .ref (q 0)), (1, .int v1), (2, .int v2), (3, .int (v3 + (Int32.ofInt 1)))]) ⟨rfl, rfl, rfl, rfl, trivial⟩ rfl k
        have k := ih v2 (v3 + (Int32.ofInt 1)) J (lx_dec h12 hc) k
        rw [k, x9_4, if_neg h12, if_neg h22]
theorem x9_4_rule {q : Nat → Nat} {v1 : Int32} {I : Nat → Int32 → Int32 → (Nat → Nat → Int32) → Prop} {Q : (Nat → Nat → Int32) → Prop} (h0 : ∀ (v2 : Int32) (v3 : Int32) (J : Nat → Nat → Int32), I 0 v2 v3 J → Q (if v2 = 0 then J
    else if (x2 q v1 ((J (q 0) 2) + (Int32.ofInt 1)) J) = 0 then (x10 q v1 J)
      else J)) (h1 : ∀ (c : Nat) (v2 : Int32) (v3 : Int32) (J : Nat → Nat → Int32), I (c + 1) v2 v3 J →
    if (J (q 1) 2) ≤ v3 then if v2 = 0 then (Q J)
      else if (x2 q v1 ((J (q 0) 2) + (Int32.ofInt 1)) J) = 0 then (Q (x10 q v1 J))
        else (Q J)
    else if (J (q 14) v3.toNatClampNeg) = v1 then if (J (q 13) v3.toNatClampNeg) ≤ 0 then (I c v2 (v3 + (Int32.ofInt 1)) J)
        else if ((J (q 13) v3.toNatClampNeg) - (Int32.ofInt 1)) = 0 then (I c (v2 ||| (Int32.ofInt 1)) (v3 + (Int32.ofInt 1)) (nt_u J (q 13) v3.toNatClampNeg ((J (q 13) v3.toNatClampNeg) - (Int32.ofInt 1))))
          else (I c (v2 ||| (Int32.ofInt 0)) (v3 + (Int32.ofInt 1)) (nt_u J (q 13) v3.toNatClampNeg ((J (q 13) v3.toNatClampNeg) - (Int32.ofInt 1))))
      else (I c v2 (v3 + (Int32.ofInt 1)) J)) : ∀ (c : Nat) (v2 : Int32) (v3 : Int32) (J : Nat → Nat → Int32), I c v2 v3 J → Q (x9_4 q v1 c v2 v3 J) := by
  intro c
  induction c with
  | zero =>
    intro v2 v3 J hi
    rw [x9_4]
    exact h0 v2 v3 J hi
  | succ c ih =>
    intro v2 v3 J hi
    have hi := h1 c v2 v3 J hi
    rw [x9_4]
    by_cases h : (J (q 1) 2) ≤ v3
    · rw [if_pos h] at hi ⊢
      by_cases h : v2 = 0
      · rw [if_pos h] at hi ⊢
        exact hi
      · rw [if_neg h] at hi ⊢
        by_cases h : (x2 q v1 ((J (q 0) 2) + (Int32.ofInt 1)) J) = 0
        · rw [if_pos h] at hi ⊢
          exact hi
        · rw [if_neg h] at hi ⊢
          exact hi
    · rw [if_neg h] at hi ⊢
      by_cases h : (J (q 14) v3.toNatClampNeg) = v1
      · rw [if_pos h] at hi ⊢
        by_cases h : (J (q 13) v3.toNatClampNeg) ≤ 0
        · rw [if_pos h] at hi ⊢
          exact ih _ _ _ hi
        · rw [if_neg h] at hi ⊢
          by_cases h : ((J (q 13) v3.toNatClampNeg) - (Int32.ofInt 1)) = 0
          · rw [if_pos h] at hi ⊢
            exact ih _ _ _ hi
          · rw [if_neg h] at hi ⊢
            exact ih _ _ _ hi
      · rw [if_neg h] at hi ⊢
        exact ih _ _ _ hi
def x9 (q : Nat → Nat) (v1 : Int32) (J : Nat → Nat → Int32) : (Nat → Nat → Int32) := (x9_4 q v1 ((J (q 1) 2).toNatClampNeg) (Int32.ofInt 0) (Int32.ofInt 0) J)
theorem xt9 {X : nt_X} {d : Nat} {M : nt_M} {o : Option Value × nt_M} {q : Nat → Nat} {v1 : Int32} {J : Nat → Nat → Int32} (hq : xs_Q M q) (k : nt_ev X d 9 [.ref (q 0), .int v1] (me_w M J) o) : o = (none, me_w M (x9 q v1 J)) := by
  have k : nt_rn X d 9 (0, [(0, .ref (q 0)), (1, .int v1)], [], me_w M J) o := k
  have k := ly_revb 4 (c' := (4, [(3, .int (Int32.ofInt 0)), (2, .int (Int32.ofInt 0)), (0, .ref (q 0)), (1, .int v1)], [], me_w M J)) rfl k
  have k := nt_rn_w (a := [(3, .int (Int32.ofInt 0)), (2, .int (Int32.ofInt 0)), (0, .ref (q 0)), (1, .int v1)]) (b := [(0, .ref (q 0)), (1, .int v1), (2, .int (Int32.ofInt 0)), (3, .int (Int32.ofInt 0))]) ⟨rfl, rfl, rfl, rfl, trivial⟩ rfl k
  have k := xt9_4 hq  ((J (q 1) 2).toNatClampNeg) (Int32.ofInt 0) (Int32.ofInt 0) J (lx_beg (by decide)) k
  rw [k, x9]
theorem x9_4_frJ {q : Nat → Nat} {v1 : Int32} {b : Nat} : ∀ (c : Nat) (v2 : Int32) (v3 : Int32) (J : Nat → Nat → Int32), b ≠ q 10 → b ≠ q 12 → b ≠ q 13 → b ≠ q 15 → b ≠ q 16 → x9_4 q v1 c v2 v3 J b = J b := by
  intro c
  induction c with
  | zero =>
    intro v2 v3 J n0 n1 n2 n3 n4
    rw [x9_4]
    by_cases h : v2 = 0
    · rw [if_pos h]
      all_goals first | (dsimp only; exact (show J b = J b from rfl)) | exact (show J b = J b from rfl)
    · rw [if_neg h]
      by_cases h : (x2 q v1 ((J (q 0) 2) + (Int32.ofInt 1)) J) = 0
      · rw [if_pos h]
        all_goals first | (dsimp only; exact (show (x10 q v1 J) b = J b from x10_frJ  n0 n1 n3 n4)) | exact (show (x10 q v1 J) b = J b from x10_frJ  n0 n1 n3 n4)
      · rw [if_neg h]
        all_goals first | (dsimp only; exact (show J b = J b from rfl)) | exact (show J b = J b from rfl)
  | succ c ih =>
    intro v2 v3 J n0 n1 n2 n3 n4
    rw [x9_4]
    by_cases h : (J (q 1) 2) ≤ v3
    · rw [if_pos h]
      by_cases h : v2 = 0
      · rw [if_pos h]
        all_goals first | (dsimp only; exact (show J b = J b from rfl)) | exact (show J b = J b from rfl)
      · rw [if_neg h]
        by_cases h : (x2 q v1 ((J (q 0) 2) + (Int32.ofInt 1)) J) = 0
        · rw [if_pos h]
          all_goals first | (dsimp only; exact (show (x10 q v1 J) b = J b from x10_frJ  n0 n1 n3 n4)) | exact (show (x10 q v1 J) b = J b from x10_frJ  n0 n1 n3 n4)
        · rw [if_neg h]
          all_goals first | (dsimp only; exact (show J b = J b from rfl)) | exact (show J b = J b from rfl)
    · rw [if_neg h]
      by_cases h : (J (q 14) v3.toNatClampNeg) = v1
      · rw [if_pos h]
        by_cases h : (J (q 13) v3.toNatClampNeg) ≤ 0
        · rw [if_pos h]
          exact (ih _ _ _ n0 n1 n2 n3 n4).trans (rfl)
        · rw [if_neg h]
          by_cases h : ((J (q 13) v3.toNatClampNeg) - (Int32.ofInt 1)) = 0
          · rw [if_pos h]
            exact (ih _ _ _ n0 n1 n2 n3 n4).trans (mu_o n2)
          · rw [if_neg h]
            exact (ih _ _ _ n0 n1 n2 n3 n4).trans (mu_o n2)
      · rw [if_neg h]
        exact (ih _ _ _ n0 n1 n2 n3 n4).trans (rfl)
theorem x9_frJ {q : Nat → Nat} {v1 : Int32} {J : Nat → Nat → Int32} {b : Nat} (n0 : b ≠ q 10) (n1 : b ≠ q 12) (n2 : b ≠ q 13) (n3 : b ≠ q 15) (n4 : b ≠ q 16) : x9 q v1 J b = J b := by
  unfold x9
  exact (x9_4_frJ _ _ _ _ n0 n1 n2 n3 n4).trans (rfl)
/-! $Calendar.canBeTaken -/
def x7 (q : Nat → Nat) (v1 : Int32) (v2 : Int32) (J : Nat → Nat → Int32) : Int32 := if (J (q 14) v1.toNatClampNeg) = v2 then (Int32.ofInt 0)
  else if (x73 q v1 J) = 0 then (Int32.ofInt 0)
    else if (J (q 14) v1.toNatClampNeg) = (Int32.ofInt (-1)) then (Int32.ofInt 1)
      else if (x88 q (J (q 14) v1.toNatClampNeg) (J (q 0) 2) J) = 0 then (Int32.ofInt 1)
        else (Int32.ofInt 0)
theorem xt7 {X : nt_X} {d : Nat} {M : nt_M} {o : Option Value × nt_M} {q : Nat → Nat} {v1 : Int32} {v2 : Int32} {J : Nat → Nat → Int32} (hq : xs_Q M q) (k : nt_ev X d 7 [.ref (q 0), .int v1, .int v2] (me_w M J) o) : o = (some (.int (x7 q v1 v2 J)), me_w M J) := by
  have k : nt_rn X d 7 (0, [(0, .ref (q 0)), (1, .int v1), (2, .int v2)], [], me_w M J) o := k
  have k := ly_revb 1 (c' := (1, [(0, .ref (q 0)), (1, .int v1), (2, .int v2)], [.ref (q 0)], me_w M J)) rfl k
  have k := lz_get (a := (q 0)) (g := 611) (M := me_w M J) (v := .ref (q 14)) rfl (nt_gfR rfl (hq.1 (0, 11, 14) (by decide))) k
  have k := ly_revb 1 (c' := (5, [(0, .ref (q 0)), (1, .int v1), (2, .int v2)], [.int v1, .ref (q 14)], me_w M J)) rfl k
  have k := mx_iald (v := J (q 14) v1.toNatClampNeg) rfl (hq.2.2.1 14 (by omega)) (rfl) k
  have k := ly_revb 4 (c' := (if (J (q 14) v1.toNatClampNeg) = v2 then 20 else 12, [(3, .int (J (q 14) v1.toNatClampNeg)), (0, .ref (q 0)), (1, .int v1), (2, .int v2)], [], me_w M J)) rfl k
  by_cases h9 : (J (q 14) v1.toNatClampNeg) = v2
  · rw [if_pos h9] at k
    have k := ly_revb 1 (c' := (21, [(3, .int (J (q 14) v1.toNatClampNeg)), (0, .ref (q 0)), (1, .int v1), (2, .int v2)], [.int (Int32.ofInt 0)], me_w M J)) rfl k
    have k := lz_ri rfl (by decide) k
    rw [k, x7, if_pos h9]
  · rw [if_neg h9] at k
    have k := ly_revb 2 (c' := (14, [(3, .int (J (q 14) v1.toNatClampNeg)), (0, .ref (q 0)), (1, .int v1), (2, .int v2)], [.int v1, .ref (q 0)], me_w M J)) rfl k
    obtain ⟨d1, o1, ed, kc, k⟩ := lz_c (g := 73) (q := 1) (vs := [.ref (q 0), .int v1]) (rest := []) rfl rfl (by decide) (Or.inr (Or.inl ⟨_, rfl, rfl⟩)) rfl k
    have e1 := xt73 hq kc
    subst e1
    have k : nt_rn X _ 7 (17, [(3, .int (J (q 14) v1.toNatClampNeg)), (0, .ref (q 0)), (1, .int v1), (2, .int v2)], [.int (x73 q v1 J)], me_w M J) _ := k
    have k := ly_revb 1 (c' := (if (x73 q v1 J) = 0 then 20 else 22, [(3, .int (J (q 14) v1.toNatClampNeg)), (0, .ref (q 0)), (1, .int v1), (2, .int v2)], [], me_w M J)) rfl k
    by_cases h17 : (x73 q v1 J) = 0
    · rw [if_pos h17] at k
      have k := ly_revb 1 (c' := (21, [(3, .int (J (q 14) v1.toNatClampNeg)), (0, .ref (q 0)), (1, .int v1), (2, .int v2)], [.int (Int32.ofInt 0)], me_w M J)) rfl k
      have k := lz_ri rfl (by decide) k
      rw [k, x7, if_neg h9, if_pos h17]
    · rw [if_neg h17] at k
      have k := ly_revb 3 (c' := (if (J (q 14) v1.toNatClampNeg) = (Int32.ofInt (-1)) then 42 else 27, [(3, .int (J (q 14) v1.toNatClampNeg)), (0, .ref (q 0)), (1, .int v1), (2, .int v2)], [], me_w M J)) rfl k
      by_cases h24 : (J (q 14) v1.toNatClampNeg) = (Int32.ofInt (-1))
      · rw [if_pos h24] at k
        have k := ly_revb 2 (c' := (47, [(3, .int (J (q 14) v1.toNatClampNeg)), (0, .ref (q 0)), (1, .int v1), (2, .int v2)], [.int (Int32.ofInt 1)], me_w M J)) rfl k
        have k := lz_ri rfl (by decide) k
        rw [k, x7, if_neg h9, if_neg h17, if_pos h24]
      · rw [if_neg h24] at k
        have k := ly_revb 1 (c' := (28, [(3, .int (J (q 14) v1.toNatClampNeg)), (0, .ref (q 0)), (1, .int v1), (2, .int v2)], [.ref (q 0)], me_w M J)) rfl k
        have k := lz_get (a := (q 0)) (g := 600) (M := me_w M J) (v := .ref (q 1)) rfl (nt_gfR rfl (hq.1 (0, 0, 1) (by decide))) k
        have k := ly_revb 2 (c' := (33, [(3, .int (J (q 14) v1.toNatClampNeg)), (0, .ref (q 0)), (1, .int v1), (2, .int v2)], [.ref (q 0), .int (J (q 14) v1.toNatClampNeg), .ref (q 1)], me_w M J)) rfl k
        have k := lz_get (a := (q 0)) (g := 602) (M := me_w M J) (v := .int (J (q 0) 2)) rfl (congrArg Value.int (rfl)) k
        obtain ⟨d1, o1, ed, kc, k⟩ := lz_c (g := 88) (q := 1) (vs := [.ref (q 1), .int (J (q 14) v1.toNatClampNeg), .int (J (q 0) 2)]) (rest := []) rfl rfl (by decide) (Or.inr (Or.inl ⟨_, rfl, rfl⟩)) rfl k
        have e1 := xt88 hq kc
        subst e1
        have k : nt_rn X _ 7 (39, [(3, .int (J (q 14) v1.toNatClampNeg)), (0, .ref (q 0)), (1, .int v1), (2, .int v2)], [.int (x88 q (J (q 14) v1.toNatClampNeg) (J (q 0) 2) J)], me_w M J) _ := k
        have k := ly_revb 1 (c' := (if (x88 q (J (q 14) v1.toNatClampNeg) (J (q 0) 2) J) = 0 then 42 else 46, [(3, .int (J (q 14) v1.toNatClampNeg)), (0, .ref (q 0)), (1, .int v1), (2, .int v2)], [], me_w M J)) rfl k
        by_cases h39 : (x88 q (J (q 14) v1.toNatClampNeg) (J (q 0) 2) J) = 0
        · rw [if_pos h39] at k
          have k := ly_revb 2 (c' := (47, [(3, .int (J (q 14) v1.toNatClampNeg)), (0, .ref (q 0)), (1, .int v1), (2, .int v2)], [.int (Int32.ofInt 1)], me_w M J)) rfl k
          have k := lz_ri rfl (by decide) k
          rw [k, x7, if_neg h9, if_neg h17, if_neg h24, if_pos h39]
        · rw [if_neg h39] at k
          have k := ly_revb 1 (c' := (47, [(3, .int (J (q 14) v1.toNatClampNeg)), (0, .ref (q 0)), (1, .int v1), (2, .int v2)], [.int (Int32.ofInt 0)], me_w M J)) rfl k
          have k := lz_ri rfl (by decide) k
          rw [k, x7, if_neg h9, if_neg h17, if_neg h24, if_neg h39]
/-! Model.shipOf -/
def x169 (p : Nat → Nat) (v1 : Int32) (v2 : Int32) (J : Nat → Nat → Int32) : Int32 := (J (p 4) ((((Int32.ofInt 10) + ((Int32.ofInt 7) * v1)) + v2).toNatClampNeg))
theorem xt169 {X : nt_X} {d : Nat} {M : nt_M} {o : Option Value × nt_M} {p : Nat → Nat} {v1 : Int32} {v2 : Int32} {J : Nat → Nat → Int32} (hp : xs_P M p) (k : nt_ev X d 169 [.ref (p 0), .int v1, .int v2] (me_w M J) o) : o = (some (.int (x169 p v1 v2 J)), me_w M J) := by
  have k : nt_rn X d 169 (0, [(0, .ref (p 0)), (1, .int v1), (2, .int v2)], [], me_w M J) o := k
  have k := ly_revb 1 (c' := (1, [(0, .ref (p 0)), (1, .int v1), (2, .int v2)], [.ref (p 0)], me_w M J)) rfl k
  have k := lz_get (a := (p 0)) (g := 1127) (M := me_w M J) (v := .ref (p 4)) rfl (nt_gfR rfl (hp.1 (0, 27, 4) (by decide))) k
  have k := ly_revb 7 (c' := (13, [(0, .ref (p 0)), (1, .int v1), (2, .int v2)], [.int (((Int32.ofInt 10) + ((Int32.ofInt 7) * v1)) + v2), .ref (p 4)], me_w M J)) rfl k
  have k := mx_iald (v := J (p 4) ((((Int32.ofInt 10) + ((Int32.ofInt 7) * v1)) + v2).toNatClampNeg)) rfl (hp.2.2.1 4 (by omega)) (rfl) k
  have k := lz_ri rfl (by decide) k
  rw [k, x169]
/-! Model.plankOf -/
def x173 (p : Nat → Nat) (v1 : Int32) (v2 : Int32) (J : Nat → Nat → Int32) : Int32 := (J (p 4) ((((Int32.ofInt 52) + ((Int32.ofInt 5) * v1)) + v2).toNatClampNeg))
theorem xt173 {X : nt_X} {d : Nat} {M : nt_M} {o : Option Value × nt_M} {p : Nat → Nat} {v1 : Int32} {v2 : Int32} {J : Nat → Nat → Int32} (hp : xs_P M p) (k : nt_ev X d 173 [.ref (p 0), .int v1, .int v2] (me_w M J) o) : o = (some (.int (x173 p v1 v2 J)), me_w M J) := by
  have k : nt_rn X d 173 (0, [(0, .ref (p 0)), (1, .int v1), (2, .int v2)], [], me_w M J) o := k
  have k := ly_revb 1 (c' := (1, [(0, .ref (p 0)), (1, .int v1), (2, .int v2)], [.ref (p 0)], me_w M J)) rfl k
  have k := lz_get (a := (p 0)) (g := 1127) (M := me_w M J) (v := .ref (p 4)) rfl (nt_gfR rfl (hp.1 (0, 27, 4) (by decide))) k
  have k := ly_revb 7 (c' := (12, [(0, .ref (p 0)), (1, .int v1), (2, .int v2)], [.int (((Int32.ofInt 52) + ((Int32.ofInt 5) * v1)) + v2), .ref (p 4)], me_w M J)) rfl k
  have k := mx_iald (v := J (p 4) ((((Int32.ofInt 52) + ((Int32.ofInt 5) * v1)) + v2).toNatClampNeg)) rfl (hp.2.2.1 4 (by omega)) (rfl) k
  have k := lz_ri rfl (by decide) k
  rw [k, x173]
/-! Model.voyageOf -/
def x180 (p : Nat → Nat) (v1 : Int32) (v2 : Int32) (J : Nat → Nat → Int32) : Int32 := (J (p 4) ((((Int32.ofInt 172) + ((Int32.ofInt 5) * v1)) + v2).toNatClampNeg))
theorem xt180 {X : nt_X} {d : Nat} {M : nt_M} {o : Option Value × nt_M} {p : Nat → Nat} {v1 : Int32} {v2 : Int32} {J : Nat → Nat → Int32} (hp : xs_P M p) (k : nt_ev X d 180 [.ref (p 0), .int v1, .int v2] (me_w M J) o) : o = (some (.int (x180 p v1 v2 J)), me_w M J) := by
  have k : nt_rn X d 180 (0, [(0, .ref (p 0)), (1, .int v1), (2, .int v2)], [], me_w M J) o := k
  have k := ly_revb 1 (c' := (1, [(0, .ref (p 0)), (1, .int v1), (2, .int v2)], [.ref (p 0)], me_w M J)) rfl k
  have k := lz_get (a := (p 0)) (g := 1127) (M := me_w M J) (v := .ref (p 4)) rfl (nt_gfR rfl (hp.1 (0, 27, 4) (by decide))) k
  have k := ly_revb 7 (c' := (13, [(0, .ref (p 0)), (1, .int v1), (2, .int v2)], [.int (((Int32.ofInt 172) + ((Int32.ofInt 5) * v1)) + v2), .ref (p 4)], me_w M J)) rfl k
  have k := mx_iald (v := J (p 4) ((((Int32.ofInt 172) + ((Int32.ofInt 5) * v1)) + v2).toNatClampNeg)) rfl (hp.2.2.1 4 (by omega)) (rfl) k
  have k := lz_ri rfl (by decide) k
  rw [k, x180]
/-! Model.isSound -/
def x172 (p : Nat → Nat) (v1 : Int32) (J : Nat → Nat → Int32) : Int32 := if (x173 p v1 (Int32.ofInt 1) J) ≤ 0 then (Int32.ofInt 0)
  else if (x173 p v1 (Int32.ofInt 4) J) = 0 then (Int32.ofInt 1)
    else (Int32.ofInt 0)
theorem xt172 {X : nt_X} {d : Nat} {M : nt_M} {o : Option Value × nt_M} {p : Nat → Nat} {v1 : Int32} {J : Nat → Nat → Int32} (hp : xs_P M p) (k : nt_ev X d 172 [.ref (p 0), .int v1] (me_w M J) o) : o = (some (.int (x172 p v1 J)), me_w M J) := by
  have k : nt_rn X d 172 (0, [(0, .ref (p 0)), (1, .int v1)], [], me_w M J) o := k
  have k := ly_revb 3 (c' := (3, [(0, .ref (p 0)), (1, .int v1)], [.int (Int32.ofInt 1), .int v1, .ref (p 0)], me_w M J)) rfl k
  obtain ⟨d1, o1, ed, kc, k⟩ := lz_c (g := 173) (q := 1) (vs := [.ref (p 0), .int v1, .int (Int32.ofInt 1)]) (rest := []) rfl rfl (by decide) (Or.inr (Or.inl ⟨_, rfl, rfl⟩)) rfl k
  have e1 := xt173 hp kc
  subst e1
  have k : nt_rn X _ 172 (6, [(0, .ref (p 0)), (1, .int v1)], [.int (x173 p v1 (Int32.ofInt 1) J)], me_w M J) _ := k
  have k := ly_revb 1 (c' := (if (x173 p v1 (Int32.ofInt 1) J) ≤ 0 then 22 else 9, [(0, .ref (p 0)), (1, .int v1)], [], me_w M J)) rfl k
  by_cases h6 : (x173 p v1 (Int32.ofInt 1) J) ≤ 0
  · rw [if_pos h6] at k
    have k := ly_revb 1 (c' := (23, [(0, .ref (p 0)), (1, .int v1)], [.int (Int32.ofInt 0)], me_w M J)) rfl k
    have k := lz_ri rfl (by decide) k
    rw [k, x172, if_pos h6]
  · rw [if_neg h6] at k
    have k := ly_revb 3 (c' := (12, [(0, .ref (p 0)), (1, .int v1)], [.int (Int32.ofInt 4), .int v1, .ref (p 0)], me_w M J)) rfl k
    obtain ⟨d1, o1, ed, kc, k⟩ := lz_c (g := 173) (q := 1) (vs := [.ref (p 0), .int v1, .int (Int32.ofInt 4)]) (rest := []) rfl rfl (by decide) (Or.inr (Or.inl ⟨_, rfl, rfl⟩)) rfl k
    have e1 := xt173 hp kc
    subst e1
    have k : nt_rn X _ 172 (15, [(0, .ref (p 0)), (1, .int v1)], [.int (x173 p v1 (Int32.ofInt 4) J)], me_w M J) _ := k
    have k := ly_revb 1 (c' := (if (x173 p v1 (Int32.ofInt 4) J) = 0 then 18 else 22, [(0, .ref (p 0)), (1, .int v1)], [], me_w M J)) rfl k
    by_cases h15 : (x173 p v1 (Int32.ofInt 4) J) = 0
    · rw [if_pos h15] at k
      have k := ly_revb 2 (c' := (23, [(0, .ref (p 0)), (1, .int v1)], [.int (Int32.ofInt 1)], me_w M J)) rfl k
      have k := lz_ri rfl (by decide) k
      rw [k, x172, if_neg h6, if_pos h15]
    · rw [if_neg h15] at k
      have k := ly_revb 1 (c' := (23, [(0, .ref (p 0)), (1, .int v1)], [.int (Int32.ofInt 0)], me_w M J)) rfl k
      have k := lz_ri rfl (by decide) k
      rw [k, x172, if_neg h6, if_neg h15]
/-! Model.isIn -/
def x171 (p : Nat → Nat) (v1 : Int32) (v2 : Int32) (J : Nat → Nat → Int32) : Int32 := if (x172 p v1 J) = 0 then (Int32.ofInt 0)
  else if (x173 p v1 (Int32.ofInt 3) J) = v2 then (Int32.ofInt 1)
    else (Int32.ofInt 0)
theorem xt171 {X : nt_X} {d : Nat} {M : nt_M} {o : Option Value × nt_M} {p : Nat → Nat} {v1 : Int32} {v2 : Int32} {J : Nat → Nat → Int32} (hp : xs_P M p) (k : nt_ev X d 171 [.ref (p 0), .int v1, .int v2] (me_w M J) o) : o = (some (.int (x171 p v1 v2 J)), me_w M J) := by
  have k : nt_rn X d 171 (0, [(0, .ref (p 0)), (1, .int v1), (2, .int v2)], [], me_w M J) o := k
  have k := ly_revb 2 (c' := (2, [(0, .ref (p 0)), (1, .int v1), (2, .int v2)], [.int v1, .ref (p 0)], me_w M J)) rfl k
  obtain ⟨d1, o1, ed, kc, k⟩ := lz_c (g := 172) (q := 1) (vs := [.ref (p 0), .int v1]) (rest := []) rfl rfl (by decide) (Or.inr (Or.inl ⟨_, rfl, rfl⟩)) rfl k
  have e1 := xt172 hp kc
  subst e1
  have k : nt_rn X _ 171 (5, [(0, .ref (p 0)), (1, .int v1), (2, .int v2)], [.int (x172 p v1 J)], me_w M J) _ := k
  have k := ly_revb 1 (c' := (if (x172 p v1 J) = 0 then 22 else 8, [(0, .ref (p 0)), (1, .int v1), (2, .int v2)], [], me_w M J)) rfl k
  by_cases h5 : (x172 p v1 J) = 0
  · rw [if_pos h5] at k
    have k := ly_revb 1 (c' := (23, [(0, .ref (p 0)), (1, .int v1), (2, .int v2)], [.int (Int32.ofInt 0)], me_w M J)) rfl k
    have k := lz_ri rfl (by decide) k
    rw [k, x171, if_pos h5]
  · rw [if_neg h5] at k
    have k := ly_revb 3 (c' := (11, [(0, .ref (p 0)), (1, .int v1), (2, .int v2)], [.int (Int32.ofInt 3), .int v1, .ref (p 0)], me_w M J)) rfl k
    obtain ⟨d1, o1, ed, kc, k⟩ := lz_c (g := 173) (q := 1) (vs := [.ref (p 0), .int v1, .int (Int32.ofInt 3)]) (rest := []) rfl rfl (by decide) (Or.inr (Or.inl ⟨_, rfl, rfl⟩)) rfl k
    have e1 := xt173 hp kc
    subst e1
    have k : nt_rn X _ 171 (14, [(0, .ref (p 0)), (1, .int v1), (2, .int v2)], [.int (x173 p v1 (Int32.ofInt 3) J)], me_w M J) _ := k
    have k := ly_revb 2 (c' := (if (x173 p v1 (Int32.ofInt 3) J) = v2 then 18 else 22, [(0, .ref (p 0)), (1, .int v1), (2, .int v2)], [], me_w M J)) rfl k
    by_cases h15 : (x173 p v1 (Int32.ofInt 3) J) = v2
    · rw [if_pos h15] at k
      have k := ly_revb 2 (c' := (23, [(0, .ref (p 0)), (1, .int v1), (2, .int v2)], [.int (Int32.ofInt 1)], me_w M J)) rfl k
      have k := lz_ri rfl (by decide) k
      rw [k, x171, if_neg h5, if_pos h15]
    · rw [if_neg h15] at k
      have k := ly_revb 1 (c' := (23, [(0, .ref (p 0)), (1, .int v1), (2, .int v2)], [.int (Int32.ofInt 0)], me_w M J)) rfl k
      have k := lz_ri rfl (by decide) k
      rw [k, x171, if_neg h5, if_neg h15]
/-! Model.soundIn -/
def x170_4 (p : Nat → Nat) (v1 : Int32) (J : Nat → Nat → Int32) : Nat → Int32 → Int32 → Int32
  | 0, v2, v3 => v2
  | c + 1, v2, v3 => if (J (p 4) 2) ≤ v3 then v2
    else if (x171 p v3 v1 J) = 0 then (x170_4 p v1 J c (v2 + (Int32.ofInt 0)) (v3 + (Int32.ofInt 1)))
      else (x170_4 p v1 J c (v2 + (Int32.ofInt 1)) (v3 + (Int32.ofInt 1)))
theorem xt170_4 {X : nt_X} {d : Nat} {M : nt_M} {o : Option Value × nt_M} {p : Nat → Nat} {v1 : Int32} {J : Nat → Nat → Int32} (hp : xs_P M p) : ∀ (c : Nat) (v2 : Int32) (v3 : Int32), (J (p 4) 2).toInt - v3.toInt ≤ c → nt_rn X d 170 (4, [(0, .ref (p 0)), (1, .int v1), (2, .int v2), (3, .int v3)], [], me_w M J) o → o = (some (.int (x170_4 p v1 J c v2 v3)), me_w M J) := by
  intro c
  induction c with
  | zero =>
    intro v2 v3 hc k
    have k := ly_revb 2 (c' := (6, [(0, .ref (p 0)), (1, .int v1), (2, .int v2), (3, .int v3)], [.ref (p 0), .int v3], me_w M J)) rfl k
    have k := lz_get (a := (p 0)) (g := 1127) (M := me_w M J) (v := .ref (p 4)) rfl (nt_gfR rfl (hp.1 (0, 27, 4) (by decide))) k
    have k := ly_revb 1 (c' := (10, [(0, .ref (p 0)), (1, .int v1), (2, .int v2), (3, .int v3)], [.int (Int32.ofInt 2), .ref (p 4), .int v3], me_w M J)) rfl k
    have k := mx_iald (v := J (p 4) 2) rfl (hp.2.2.1 4 (by omega)) ((congrArg (J (p 4)) (show (Int32.ofInt 2).toNatClampNeg = 2 from rfl)).trans (rfl)) k
    have k := ly_revb 1 (c' := (if (J (p 4) 2) ≤ v3 then 37 else 14, [(0, .ref (p 0)), (1, .int v1), (2, .int v2), (3, .int v3)], [], me_w M J)) rfl k
    have h11 : (J (p 4) 2) ≤ v3 := lx_end hc
    rw [if_pos h11] at k
    have k := ly_revb 1 (c' := (38, [(0, .ref (p 0)), (1, .int v1), (2, .int v2), (3, .int v3)], [.int v2], me_w M J)) rfl k
    have k := lz_ri rfl (by decide) k
    rw [k, x170_4]
  | succ c ih =>
    intro v2 v3 hc k
    have k := ly_revb 2 (c' := (6, [(0, .ref (p 0)), (1, .int v1), (2, .int v2), (3, .int v3)], [.ref (p 0), .int v3], me_w M J)) rfl k
    have k := lz_get (a := (p 0)) (g := 1127) (M := me_w M J) (v := .ref (p 4)) rfl (nt_gfR rfl (hp.1 (0, 27, 4) (by decide))) k
    have k := ly_revb 1 (c' := (10, [(0, .ref (p 0)), (1, .int v1), (2, .int v2), (3, .int v3)], [.int (Int32.ofInt 2), .ref (p 4), .int v3], me_w M J)) rfl k
    have k := mx_iald (v := J (p 4) 2) rfl (hp.2.2.1 4 (by omega)) ((congrArg (J (p 4)) (show (Int32.ofInt 2).toNatClampNeg = 2 from rfl)).trans (rfl)) k
    have k := ly_revb 1 (c' := (if (J (p 4) 2) ≤ v3 then 37 else 14, [(0, .ref (p 0)), (1, .int v1), (2, .int v2), (3, .int v3)], [], me_w M J)) rfl k
    by_cases h11 : (J (p 4) 2) ≤ v3
    · rw [if_pos h11] at k
      have k := ly_revb 1 (c' := (38, [(0, .ref (p 0)), (1, .int v1), (2, .int v2), (3, .int v3)], [.int v2], me_w M J)) rfl k
      have k := lz_ri rfl (by decide) k
      rw [k, x170_4, if_pos h11]
    · rw [if_neg h11] at k
      have k := ly_revb 4 (c' := (18, [(0, .ref (p 0)), (1, .int v1), (2, .int v2), (3, .int v3)], [.int v1, .int v3, .ref (p 0), .int v2], me_w M J)) rfl k
      obtain ⟨d1, o1, ed, kc, k⟩ := lz_c (g := 171) (q := 1) (vs := [.ref (p 0), .int v3, .int v1]) (rest := [.int v2]) rfl rfl (by decide) (Or.inr (Or.inl ⟨_, rfl, rfl⟩)) rfl k
      have e1 := xt171 hp kc
      subst e1
      have k : nt_rn X _ 170 (21, [(0, .ref (p 0)), (1, .int v1), (2, .int v2), (3, .int v3)], [.int (x171 p v3 v1 J), .int v2], me_w M J) _ := k
      have k := ly_revb 1 (c' := (if (x171 p v3 v1 J) = 0 then 28 else 24, [(0, .ref (p 0)), (1, .int v1), (2, .int v2), (3, .int v3)], [.int v2], me_w M J)) rfl k
      by_cases h21 : (x171 p v3 v1 J) = 0
      · rw [if_pos h21] at k
        have k := ly_revb 5 (c' := (4, [(3, .int (v3 + (Int32.ofInt 1))), (2, .int (v2 + (Int32.ofInt 0))), (0, .ref (p 0)), (1, .int v1)], [], me_w M J)) rfl k
        have k := nt_rn_w (a := [(3, .int (v3 + (Int32.ofInt 1))), (2, .int (v2 + (Int32.ofInt 0))), (0, .ref (p 0)), (1, .int v1)]) (b := [(0, .ref (p 0)), (1, .int v1), (2, .int (v2 + (Int32.ofInt 0))), (3, .int (v3 + (Int32.ofInt 1)))]) ⟨rfl, rfl, rfl, rfl, trivial⟩ rfl k
        have k := ih (v2 + (Int32.ofInt 0)) (v3 + (Int32.ofInt 1)) (lx_dec h11 hc) k
        rw [k, x170_4, if_neg h11, if_pos h21]
      · rw [if_neg h21] at k
        have k := ly_revb 6 (c' := (4, [(3, .int (v3 + (Int32.ofInt 1))), (2, .int (v2 + (Int32.ofInt 1))), (0, .ref (p 0)), (1, .int v1)], [], me_w M J)) rfl k
        have k := nt_rn_w (a := [(3, .int (v3 + (Int32.ofInt 1))), (2, .int (v2 + (Int32.ofInt 1))), (0, .ref (p 0)), (1, .int v1)]) (b := [(0, .ref (p 0)), (1, .int v1), (2, .int (v2 + (Int32.ofInt 1))), (3, .int (v3 + (Int32.ofInt 1)))]) ⟨rfl, rfl, rfl, rfl, trivial⟩ rfl k
        have k := ih (v2 + (Int32.ofInt 1)) (v3 + (Int32.ofInt 1)) (lx_dec h11 hc) k
        rw [k, x170_4, if_neg h11, if_neg h21]
theorem x170_4_rule {p : Nat → Nat} {v1 : Int32} {J : Nat → Nat → Int32} {I : Nat → Int32 → Int32 → Prop} {Q : Int32 → Prop} (h0 : ∀ (v2 : Int32) (v3 : Int32), I 0 v2 v3 → Q v2) (h1 : ∀ (c : Nat) (v2 : Int32) (v3 : Int32), I (c + 1) v2 v3 →
    if (J (p 4) 2) ≤ v3 then (Q v2)
    else if (x171 p v3 v1 J) = 0 then (I c (v2 + (Int32.ofInt 0)) (v3 + (Int32.ofInt 1)))
      else (I c (v2 + (Int32.ofInt 1)) (v3 + (Int32.ofInt 1)))) : ∀ (c : Nat) (v2 : Int32) (v3 : Int32), I c v2 v3 → Q (x170_4 p v1 J c v2 v3) := by
  intro c
  induction c with
  | zero =>
    intro v2 v3 hi
    rw [x170_4]
    exact h0 v2 v3 hi
  | succ c ih =>
    intro v2 v3 hi
    have hi := h1 c v2 v3 hi
    rw [x170_4]
    by_cases h : (J (p 4) 2) ≤ v3
    · rw [if_pos h] at hi ⊢
      exact hi
    · rw [if_neg h] at hi ⊢
      by_cases h : (x171 p v3 v1 J) = 0
      · rw [if_pos h] at hi ⊢
        exact ih _ _ hi
      · rw [if_neg h] at hi ⊢
        exact ih _ _ hi
def x170 (p : Nat → Nat) (v1 : Int32) (J : Nat → Nat → Int32) : Int32 := (x170_4 p v1 J ((J (p 4) 2).toNatClampNeg) (Int32.ofInt 0) (Int32.ofInt 0))
theorem xt170 {X : nt_X} {d : Nat} {M : nt_M} {o : Option Value × nt_M} {p : Nat → Nat} {v1 : Int32} {J : Nat → Nat → Int32} (hp : xs_P M p) (k : nt_ev X d 170 [.ref (p 0), .int v1] (me_w M J) o) : o = (some (.int (x170 p v1 J)), me_w M J) := by
  have k : nt_rn X d 170 (0, [(0, .ref (p 0)), (1, .int v1)], [], me_w M J) o := k
  have k := ly_revb 4 (c' := (4, [(3, .int (Int32.ofInt 0)), (2, .int (Int32.ofInt 0)), (0, .ref (p 0)), (1, .int v1)], [], me_w M J)) rfl k
  have k := nt_rn_w (a := [(3, .int (Int32.ofInt 0)), (2, .int (Int32.ofInt 0)), (0, .ref (p 0)), (1, .int v1)]) (b := [(0, .ref (p 0)), (1, .int v1), (2, .int (Int32.ofInt 0)), (3, .int (Int32.ofInt 0))]) ⟨rfl, rfl, rfl, rfl, trivial⟩ rfl k
  have k := xt170_4 hp  ((J (p 4) 2).toNatClampNeg) (Int32.ofInt 0) (Int32.ofInt 0) (lx_beg (by decide)) k
  rw [k, x170]
/-! Model.lacksOf -/
def x175_10 (p : Nat → Nat) (v1 : Int32) (v2 : Int32) (J : Nat → Nat → Int32) : Nat → Int32 → Int32 → Int32
  | 0, v3, v4 => if 0 ≤ v3 then v3
    else (Int32.ofInt 0)
  | c + 1, v3, v4 => if (J (p 4) 2) ≤ v4 then if 0 ≤ v3 then v3
      else (Int32.ofInt 0)
    else if (x171 p v4 v1 J) = 0 then (x175_10 p v1 v2 J c (v3 - (Int32.ofInt 0)) (v4 + (Int32.ofInt 1)))
      else if (x173 p v4 (Int32.ofInt 0) J) = v2 then (x175_10 p v1 v2 J c (v3 - (Int32.ofInt 1)) (v4 + (Int32.ofInt 1)))
        else (x175_10 p v1 v2 J c (v3 - (Int32.ofInt 0)) (v4 + (Int32.ofInt 1)))
theorem xt175_10 {X : nt_X} {d : Nat} {M : nt_M} {o : Option Value × nt_M} {p : Nat → Nat} {v1 : Int32} {v2 : Int32} {J : Nat → Nat → Int32} (hp : xs_P M p) : ∀ (c : Nat) (v3 : Int32) (v4 : Int32), (J (p 4) 2).toInt - v4.toInt ≤ c → nt_rn X d 175 (10, [(0, .ref (p 0)), (1, .int v1), (2, .int v2), (3, .int v3), (4, .int v4)], [], me_w M J) o → o = (some (.int (x175_10 p v1 v2 J c v3 v4)), me_w M J) := by
  intro c
  induction c with
  | zero =>
    intro v3 v4 hc k
    have k := ly_revb 2 (c' := (13, [(0, .ref (p 0)), (1, .int v1), (2, .int v2), (3, .int v3), (4, .int v4)], [.ref (p 0), .int v4], me_w M J)) rfl k
    have k := lz_get (a := (p 0)) (g := 1127) (M := me_w M J) (v := .ref (p 4)) rfl (nt_gfR rfl (hp.1 (0, 27, 4) (by decide))) k
    have k := ly_revb 1 (c' := (17, [(0, .ref (p 0)), (1, .int v1), (2, .int v2), (3, .int v3), (4, .int v4)], [.int (Int32.ofInt 2), .ref (p 4), .int v4], me_w M J)) rfl k
    have k := mx_iald (v := J (p 4) 2) rfl (hp.2.2.1 4 (by omega)) ((congrArg (J (p 4)) (show (Int32.ofInt 2).toNatClampNeg = 2 from rfl)).trans (rfl)) k
    have k := ly_revb 1 (c' := (if (J (p 4) 2) ≤ v4 then 56 else 21, [(0, .ref (p 0)), (1, .int v1), (2, .int v2), (3, .int v3), (4, .int v4)], [], me_w M J)) rfl k
    have h18 : (J (p 4) 2) ≤ v4 := lx_end hc
    rw [if_pos h18] at k
    have k := ly_revb 2 (c' := (if 0 ≤ v3 then 64 else 60, [(0, .ref (p 0)), (1, .int v1), (2, .int v2), (3, .int v3), (4, .int v4)], [], me_w M J)) rfl k
    by_cases h57 : 0 ≤ v3
    · rw [if_pos h57] at k
      have k := ly_revb 1 (c' := (65, [(0, .ref (p 0)), (1, .int v1), (2, .int v2), (3, .int v3), (4, .int v4)], [.int v3], me_w M J)) rfl k
      have k := lz_ri rfl (by decide) k
      rw [k, x175_10, if_pos h57]
    · rw [if_neg h57] at k
      have k := ly_revb 2 (c' := (65, [(0, .ref (p 0)), (1, .int v1), (2, .int v2), (3, .int v3), (4, .int v4)], [.int (Int32.ofInt 0)], me_w M J)) rfl k
      have k := lz_ri rfl (by decide) k
      rw [k, x175_10, if_neg h57]
  | succ c ih =>
    intro v3 v4 hc k
    have k := ly_revb 2 (c' := (13, [(0, .ref (p 0)), (1, .int v1), (2, .int v2), (3, .int v3), (4, .int v4)], [.ref (p 0), .int v4], me_w M J)) rfl k
    have k := lz_get (a := (p 0)) (g := 1127) (M := me_w M J) (v := .ref (p 4)) rfl (nt_gfR rfl (hp.1 (0, 27, 4) (by decide))) k
    have k := ly_revb 1 (c' := (17, [(0, .ref (p 0)), (1, .int v1), (2, .int v2), (3, .int v3), (4, .int v4)], [.int (Int32.ofInt 2), .ref (p 4), .int v4], me_w M J)) rfl k
    have k := mx_iald (v := J (p 4) 2) rfl (hp.2.2.1 4 (by omega)) ((congrArg (J (p 4)) (show (Int32.ofInt 2).toNatClampNeg = 2 from rfl)).trans (rfl)) k
    have k := ly_revb 1 (c' := (if (J (p 4) 2) ≤ v4 then 56 else 21, [(0, .ref (p 0)), (1, .int v1), (2, .int v2), (3, .int v3), (4, .int v4)], [], me_w M J)) rfl k
    by_cases h18 : (J (p 4) 2) ≤ v4
    · rw [if_pos h18] at k
      have k := ly_revb 2 (c' := (if 0 ≤ v3 then 64 else 60, [(0, .ref (p 0)), (1, .int v1), (2, .int v2), (3, .int v3), (4, .int v4)], [], me_w M J)) rfl k
      by_cases h57 : 0 ≤ v3
      · rw [if_pos h57] at k
        have k := ly_revb 1 (c' := (65, [(0, .ref (p 0)), (1, .int v1), (2, .int v2), (3, .int v3), (4, .int v4)], [.int v3], me_w M J)) rfl k
        have k := lz_ri rfl (by decide) k
        rw [k, x175_10, if_pos h18, if_pos h57]
      · rw [if_neg h57] at k
        have k := ly_revb 2 (c' := (65, [(0, .ref (p 0)), (1, .int v1), (2, .int v2), (3, .int v3), (4, .int v4)], [.int (Int32.ofInt 0)], me_w M J)) rfl k
        have k := lz_ri rfl (by decide) k
        rw [k, x175_10, if_pos h18, if_neg h57]
    · rw [if_neg h18] at k
      have k := ly_revb 4 (c' := (26, [(0, .ref (p 0)), (1, .int v1), (2, .int v2), (3, .int v3), (4, .int v4)], [.int v1, .int v4, .ref (p 0), .int v3], me_w M J)) rfl k
      obtain ⟨d1, o1, ed, kc, k⟩ := lz_c (g := 171) (q := 1) (vs := [.ref (p 0), .int v4, .int v1]) (rest := [.int v3]) rfl rfl (by decide) (Or.inr (Or.inl ⟨_, rfl, rfl⟩)) rfl k
      have e1 := xt171 hp kc
      subst e1
      have k : nt_rn X _ 175 (29, [(0, .ref (p 0)), (1, .int v1), (2, .int v2), (3, .int v3), (4, .int v4)], [.int (x171 p v4 v1 J), .int v3], me_w M J) _ := k
      have k := ly_revb 1 (c' := (if (x171 p v4 v1 J) = 0 then 47 else 32, [(0, .ref (p 0)), (1, .int v1), (2, .int v2), (3, .int v3), (4, .int v4)], [.int v3], me_w M J)) rfl k
      by_cases h29 : (x171 p v4 v1 J) = 0
      · rw [if_pos h29] at k
        have k := ly_revb 5 (c' := (10, [(4, .int (v4 + (Int32.ofInt 1))), (3, .int (v3 - (Int32.ofInt 0))), (0, .ref (p 0)), (1, .int v1), (2, .int v2)], [], me_w M J)) rfl k
        have k := nt_rn_w (a := [(4, .int (v4 + (Int32.ofInt 1))), (3, .int (v3 - (Int32.ofInt 0))), (0, .ref (p 0)), (1, .int v1), (2, .int v2)]) (b := [(0, .ref (p 0)), (1, .int v1), (2, .int v2), (3, .int (v3 - (Int32.ofInt 0))), (4, .int (v4 + (Int32.ofInt 1)))]) ⟨rfl, rfl, rfl, rfl, rfl, trivial⟩ rfl k
        have k := ih (v3 - (Int32.ofInt 0)) (v4 + (Int32.ofInt 1)) (lx_dec h18 hc) k
        rw [k, x175_10, if_neg h18, if_pos h29]
      · rw [if_neg h29] at k
        have k := ly_revb 3 (c' := (36, [(0, .ref (p 0)), (1, .int v1), (2, .int v2), (3, .int v3), (4, .int v4)], [.int (Int32.ofInt 0), .int v4, .ref (p 0), .int v3], me_w M J)) rfl k
        obtain ⟨d1, o1, ed, kc, k⟩ := lz_c (g := 173) (q := 1) (vs := [.ref (p 0), .int v4, .int (Int32.ofInt 0)]) (rest := [.int v3]) rfl rfl (by decide) (Or.inr (Or.inl ⟨_, rfl, rfl⟩)) rfl k
        have e1 := xt173 hp kc
        subst e1
        have k : nt_rn X _ 175 (39, [(0, .ref (p 0)), (1, .int v1), (2, .int v2), (3, .int v3), (4, .int v4)], [.int (x173 p v4 (Int32.ofInt 0) J), .int v3], me_w M J) _ := k
        have k := ly_revb 2 (c' := (if (x173 p v4 (Int32.ofInt 0) J) = v2 then 43 else 47, [(0, .ref (p 0)), (1, .int v1), (2, .int v2), (3, .int v3), (4, .int v4)], [.int v3], me_w M J)) rfl k
        by_cases h40 : (x173 p v4 (Int32.ofInt 0) J) = v2
        · rw [if_pos h40] at k
          have k := ly_revb 6 (c' := (10, [(4, .int (v4 + (Int32.ofInt 1))), (3, .int (v3 - (Int32.ofInt 1))), (0, .ref (p 0)), (1, .int v1), (2, .int v2)], [], me_w M J)) rfl k
          have k := nt_rn_w (a := [(4, .int (v4 + (Int32.ofInt 1))), (3, .int (v3 - (Int32.ofInt 1))), (0, .ref (p 0)), (1, .int v1), (2, .int v2)]) (b := [(0, .ref (p 0)), (1, .int v1), (2, .int v2), (3, .int (v3 - (Int32.ofInt 1))), (4, .int (v4 + (Int32.ofInt 1)))]) ⟨rfl, rfl, rfl, rfl, rfl, trivial⟩ rfl k
          have k := ih (v3 - (Int32.ofInt 1)) (v4 + (Int32.ofInt 1)) (lx_dec h18 hc) k
          rw [k, x175_10, if_neg h18, if_neg h29, if_pos h40]
        · rw [if_neg h40] at k
          have k := ly_revb 5 (c' := (10, [(4, .int (v4 + (Int32.ofInt 1))), (3, .int (v3 - (Int32.ofInt 0))), (0, .ref (p 0)), (1, .int v1), (2, .int v2)], [], me_w M J)) rfl k
          have k := nt_rn_w (a := [(4, .int (v4 + (Int32.ofInt 1))), (3, .int (v3 - (Int32.ofInt 0))), (0, .ref (p 0)), (1, .int v1), (2, .int v2)]) (b := [(0, .ref (p 0)), (1, .int v1), (2, .int v2), (3, .int (v3 - (Int32.ofInt 0))), (4, .int (v4 + (Int32.ofInt 1)))]) ⟨rfl, rfl, rfl, rfl, rfl, trivial⟩ rfl k
          have k := ih (v3 - (Int32.ofInt 0)) (v4 + (Int32.ofInt 1)) (lx_dec h18 hc) k
          rw [k, x175_10, if_neg h18, if_neg h29, if_neg h40]
theorem x175_10_rule {p : Nat → Nat} {v1 : Int32} {v2 : Int32} {J : Nat → Nat → Int32} {I : Nat → Int32 → Int32 → Prop} {Q : Int32 → Prop} (h0 : ∀ (v3 : Int32) (v4 : Int32), I 0 v3 v4 → Q (if 0 ≤ v3 then v3
    else (Int32.ofInt 0))) (h1 : ∀ (c : Nat) (v3 : Int32) (v4 : Int32), I (c + 1) v3 v4 →
    if (J (p 4) 2) ≤ v4 then if 0 ≤ v3 then (Q v3)
      else (Q (Int32.ofInt 0))
    else if (x171 p v4 v1 J) = 0 then (I c (v3 - (Int32.ofInt 0)) (v4 + (Int32.ofInt 1)))
      else if (x173 p v4 (Int32.ofInt 0) J) = v2 then (I c (v3 - (Int32.ofInt 1)) (v4 + (Int32.ofInt 1)))
        else (I c (v3 - (Int32.ofInt 0)) (v4 + (Int32.ofInt 1)))) : ∀ (c : Nat) (v3 : Int32) (v4 : Int32), I c v3 v4 → Q (x175_10 p v1 v2 J c v3 v4) := by
  intro c
  induction c with
  | zero =>
    intro v3 v4 hi
    rw [x175_10]
    exact h0 v3 v4 hi
  | succ c ih =>
    intro v3 v4 hi
    have hi := h1 c v3 v4 hi
    rw [x175_10]
    by_cases h : (J (p 4) 2) ≤ v4
    · rw [if_pos h] at hi ⊢
      by_cases h : 0 ≤ v3
      · rw [if_pos h] at hi ⊢
        exact hi
      · rw [if_neg h] at hi ⊢
        exact hi
    · rw [if_neg h] at hi ⊢
      by_cases h : (x171 p v4 v1 J) = 0
      · rw [if_pos h] at hi ⊢
        exact ih _ _ hi
      · rw [if_neg h] at hi ⊢
        by_cases h : (x173 p v4 (Int32.ofInt 0) J) = v2
        · rw [if_pos h] at hi ⊢
          exact ih _ _ hi
        · rw [if_neg h] at hi ⊢
          exact ih _ _ hi
def x175 (p : Nat → Nat) (v1 : Int32) (v2 : Int32) (J : Nat → Nat → Int32) : Int32 := (x175_10 p v1 v2 J ((J (p 4) 2).toNatClampNeg) (x169 p v1 v2 J) (Int32.ofInt 0))
theorem xt175 {X : nt_X} {d : Nat} {M : nt_M} {o : Option Value × nt_M} {p : Nat → Nat} {v1 : Int32} {v2 : Int32} {J : Nat → Nat → Int32} (hp : xs_P M p) (k : nt_ev X d 175 [.ref (p 0), .int v1, .int v2] (me_w M J) o) : o = (some (.int (x175 p v1 v2 J)), me_w M J) := by
  have k : nt_rn X d 175 (0, [(0, .ref (p 0)), (1, .int v1), (2, .int v2)], [], me_w M J) o := k
  have k := ly_revb 3 (c' := (3, [(0, .ref (p 0)), (1, .int v1), (2, .int v2)], [.int v2, .int v1, .ref (p 0)], me_w M J)) rfl k
  obtain ⟨d1, o1, ed, kc, k⟩ := lz_c (g := 169) (q := 1) (vs := [.ref (p 0), .int v1, .int v2]) (rest := []) rfl rfl (by decide) (Or.inr (Or.inl ⟨_, rfl, rfl⟩)) rfl k
  have e1 := xt169 hp kc
  subst e1
  have k : nt_rn X _ 175 (6, [(0, .ref (p 0)), (1, .int v1), (2, .int v2)], [.int (x169 p v1 v2 J)], me_w M J) _ := k
  have k := ly_revb 3 (c' := (10, [(4, .int (Int32.ofInt 0)), (3, .int (x169 p v1 v2 J)), (0, .ref (p 0)), (1, .int v1), (2, .int v2)], [], me_w M J)) rfl k
  have k := nt_rn_w (a := [(4, .int (Int32.ofInt 0)), (3, .int (x169 p v1 v2 J)), (0, .ref (p 0)), (1, .int v1), (2, .int v2)]) (b := [(0, .ref (p 0)), (1, .int v1), (2, .int v2), (3, .int (x169 p v1 v2 J)), (4, .int (Int32.ofInt 0))]) ⟨rfl, rfl, rfl, rfl, rfl, trivial⟩ rfl k
  have k := xt175_10 hp  ((J (p 4) 2).toNatClampNeg) (x169 p v1 v2 J) (Int32.ofInt 0) (lx_beg (by decide)) k
  rw [k, x175]
/-! Model.isWhole -/
def x174_2 (p : Nat → Nat) (v1 : Int32) (J : Nat → Nat → Int32) : Nat → Int32 → Int32
  | 0, v2 => (Int32.ofInt 1)
  | c + 1, v2 => if (J (p 4) 0) ≤ v2 then (Int32.ofInt 1)
    else if (x175 p v1 v2 J) ≤ 0 then (x174_2 p v1 J c (v2 + (Int32.ofInt 1)))
      else (Int32.ofInt 0)
theorem xt174_2 {X : nt_X} {d : Nat} {M : nt_M} {o : Option Value × nt_M} {p : Nat → Nat} {v1 : Int32} {J : Nat → Nat → Int32} (hp : xs_P M p) : ∀ (c : Nat) (v2 : Int32), (J (p 4) 0).toInt - v2.toInt ≤ c → nt_rn X d 174 (2, [(0, .ref (p 0)), (1, .int v1), (2, .int v2)], [], me_w M J) o → o = (some (.int (x174_2 p v1 J c v2)), me_w M J) := by
  intro c
  induction c with
  | zero =>
    intro v2 hc k
    have k := ly_revb 2 (c' := (4, [(0, .ref (p 0)), (1, .int v1), (2, .int v2)], [.ref (p 0), .int v2], me_w M J)) rfl k
    have k := lz_get (a := (p 0)) (g := 1127) (M := me_w M J) (v := .ref (p 4)) rfl (nt_gfR rfl (hp.1 (0, 27, 4) (by decide))) k
    have k := ly_revb 1 (c' := (8, [(0, .ref (p 0)), (1, .int v1), (2, .int v2)], [.int (Int32.ofInt 0), .ref (p 4), .int v2], me_w M J)) rfl k
    have k := mx_iald (v := J (p 4) 0) rfl (hp.2.2.1 4 (by omega)) ((congrArg (J (p 4)) (show (Int32.ofInt 0).toNatClampNeg = 0 from rfl)).trans (rfl)) k
    have k := ly_revb 1 (c' := (if (J (p 4) 0) ≤ v2 then 29 else 12, [(0, .ref (p 0)), (1, .int v1), (2, .int v2)], [], me_w M J)) rfl k
    have h9 : (J (p 4) 0) ≤ v2 := lx_end hc
    rw [if_pos h9] at k
    have k := ly_revb 1 (c' := (30, [(0, .ref (p 0)), (1, .int v1), (2, .int v2)], [.int (Int32.ofInt 1)], me_w M J)) rfl k
    have k := lz_ri rfl (by decide) k
    rw [k, x174_2]
  | succ c ih =>
    intro v2 hc k
    have k := ly_revb 2 (c' := (4, [(0, .ref (p 0)), (1, .int v1), (2, .int v2)], [.ref (p 0), .int v2], me_w M J)) rfl k
    have k := lz_get (a := (p 0)) (g := 1127) (M := me_w M J) (v := .ref (p 4)) rfl (nt_gfR rfl (hp.1 (0, 27, 4) (by decide))) k
    have k := ly_revb 1 (c' := (8, [(0, .ref (p 0)), (1, .int v1), (2, .int v2)], [.int (Int32.ofInt 0), .ref (p 4), .int v2], me_w M J)) rfl k
    have k := mx_iald (v := J (p 4) 0) rfl (hp.2.2.1 4 (by omega)) ((congrArg (J (p 4)) (show (Int32.ofInt 0).toNatClampNeg = 0 from rfl)).trans (rfl)) k
    have k := ly_revb 1 (c' := (if (J (p 4) 0) ≤ v2 then 29 else 12, [(0, .ref (p 0)), (1, .int v1), (2, .int v2)], [], me_w M J)) rfl k
    by_cases h9 : (J (p 4) 0) ≤ v2
    · rw [if_pos h9] at k
      have k := ly_revb 1 (c' := (30, [(0, .ref (p 0)), (1, .int v1), (2, .int v2)], [.int (Int32.ofInt 1)], me_w M J)) rfl k
      have k := lz_ri rfl (by decide) k
      rw [k, x174_2, if_pos h9]
    · rw [if_neg h9] at k
      have k := ly_revb 3 (c' := (15, [(0, .ref (p 0)), (1, .int v1), (2, .int v2)], [.int v2, .int v1, .ref (p 0)], me_w M J)) rfl k
      obtain ⟨d1, o1, ed, kc, k⟩ := lz_c (g := 175) (q := 1) (vs := [.ref (p 0), .int v1, .int v2]) (rest := []) rfl rfl (by decide) (Or.inr (Or.inl ⟨_, rfl, rfl⟩)) rfl k
      have e1 := xt175 hp kc
      subst e1
      have k : nt_rn X _ 174 (18, [(0, .ref (p 0)), (1, .int v1), (2, .int v2)], [.int (x175 p v1 v2 J)], me_w M J) _ := k
      have k := ly_revb 1 (c' := (if (x175 p v1 v2 J) ≤ 0 then 23 else 21, [(0, .ref (p 0)), (1, .int v1), (2, .int v2)], [], me_w M J)) rfl k
      by_cases h18 : (x175 p v1 v2 J) ≤ 0
      · rw [if_pos h18] at k
        have k := ly_revb 2 (c' := (2, [(2, .int (v2 + (Int32.ofInt 1))), (0, .ref (p 0)), (1, .int v1)], [], me_w M J)) rfl k
        have k := nt_rn_w (a := [(2, .int (v2 + (Int32.ofInt 1))), (0, .ref (p 0)), (1, .int v1)]) (b := [(0, .ref (p 0)), (1, .int v1), (2, .int (v2 + (Int32.ofInt 1)))]) ⟨rfl, rfl, rfl, trivial⟩ rfl k
        have k := ih (v2 + (Int32.ofInt 1)) (lx_dec h9 hc) k
        rw [k, x174_2, if_neg h9, if_pos h18]
      · rw [if_neg h18] at k
        have k := ly_revb 1 (c' := (22, [(0, .ref (p 0)), (1, .int v1), (2, .int v2)], [.int (Int32.ofInt 0)], me_w M J)) rfl k
        have k := lz_ri rfl (by decide) k
        rw [k, x174_2, if_neg h9, if_neg h18]
theorem x174_2_rule {p : Nat → Nat} {v1 : Int32} {J : Nat → Nat → Int32} {I : Nat → Int32 → Prop} {Q : Int32 → Prop} (h0 : ∀ (v2 : Int32), I 0 v2 → Q (Int32.ofInt 1)) (h1 : ∀ (c : Nat) (v2 : Int32), I (c + 1) v2 →
    if (J (p 4) 0) ≤ v2 then (Q (Int32.ofInt 1))
    else if (x175 p v1 v2 J) ≤ 0 then (I c (v2 + (Int32.ofInt 1)))
      else (Q (Int32.ofInt 0))) : ∀ (c : Nat) (v2 : Int32), I c v2 → Q (x174_2 p v1 J c v2) := by
  intro c
  induction c with
  | zero =>
    intro v2 hi
    rw [x174_2]
    exact h0 v2 hi
  | succ c ih =>
    intro v2 hi
    have hi := h1 c v2 hi
    rw [x174_2]
    by_cases h : (J (p 4) 0) ≤ v2
    · rw [if_pos h] at hi ⊢
      exact hi
    · rw [if_neg h] at hi ⊢
      by_cases h : (x175 p v1 v2 J) ≤ 0
      · rw [if_pos h] at hi ⊢
        exact ih _ hi
      · rw [if_neg h] at hi ⊢
        exact hi
def x174 (p : Nat → Nat) (v1 : Int32) (J : Nat → Nat → Int32) : Int32 := (x174_2 p v1 J ((J (p 4) 0).toNatClampNeg) (Int32.ofInt 0))
theorem xt174 {X : nt_X} {d : Nat} {M : nt_M} {o : Option Value × nt_M} {p : Nat → Nat} {v1 : Int32} {J : Nat → Nat → Int32} (hp : xs_P M p) (k : nt_ev X d 174 [.ref (p 0), .int v1] (me_w M J) o) : o = (some (.int (x174 p v1 J)), me_w M J) := by
  have k : nt_rn X d 174 (0, [(0, .ref (p 0)), (1, .int v1)], [], me_w M J) o := k
  have k := ly_revb 2 (c' := (2, [(2, .int (Int32.ofInt 0)), (0, .ref (p 0)), (1, .int v1)], [], me_w M J)) rfl k
  have k := nt_rn_w (a := [(2, .int (Int32.ofInt 0)), (0, .ref (p 0)), (1, .int v1)]) (b := [(0, .ref (p 0)), (1, .int v1), (2, .int (Int32.ofInt 0))]) ⟨rfl, rfl, rfl, trivial⟩ rfl k
  have k := xt174_2 hp  ((J (p 4) 0).toNatClampNeg) (Int32.ofInt 0) (lx_beg (by decide)) k
  rw [k, x174]
/-! Model.areHands -/
def x184 (p : Nat → Nat) (J : Nat → Nat → Int32) : Int32 := if (J (p 4) 5) ≤ (J (p 4) 6) then (Int32.ofInt 0)
  else (Int32.ofInt 1)
theorem xt184 {X : nt_X} {d : Nat} {M : nt_M} {o : Option Value × nt_M} {p : Nat → Nat} {J : Nat → Nat → Int32} (hp : xs_P M p) (k : nt_ev X d 184 [.ref (p 0)] (me_w M J) o) : o = (some (.int (x184 p J)), me_w M J) := by
  have k : nt_rn X d 184 (0, [(0, .ref (p 0))], [], me_w M J) o := k
  have k := ly_revb 1 (c' := (1, [(0, .ref (p 0))], [.ref (p 0)], me_w M J)) rfl k
  have k := lz_get (a := (p 0)) (g := 1127) (M := me_w M J) (v := .ref (p 4)) rfl (nt_gfR rfl (hp.1 (0, 27, 4) (by decide))) k
  have k := ly_revb 1 (c' := (6, [(0, .ref (p 0))], [.int (Int32.ofInt 6), .ref (p 4)], me_w M J)) rfl k
  have k := mx_iald (v := J (p 4) 6) rfl (hp.2.2.1 4 (by omega)) ((congrArg (J (p 4)) (show (Int32.ofInt 6).toNatClampNeg = 6 from rfl)).trans (rfl)) k
  have k := ly_revb 1 (c' := (8, [(0, .ref (p 0))], [.ref (p 0), .int (J (p 4) 6)], me_w M J)) rfl k
  have k := lz_get (a := (p 0)) (g := 1127) (M := me_w M J) (v := .ref (p 4)) rfl (nt_gfR rfl (hp.1 (0, 27, 4) (by decide))) k
  have k := ly_revb 1 (c' := (12, [(0, .ref (p 0))], [.int (Int32.ofInt 5), .ref (p 4), .int (J (p 4) 6)], me_w M J)) rfl k
  have k := mx_iald (v := J (p 4) 5) rfl (hp.2.2.1 4 (by omega)) ((congrArg (J (p 4)) (show (Int32.ofInt 5).toNatClampNeg = 5 from rfl)).trans (rfl)) k
  have k := ly_revb 1 (c' := (if (J (p 4) 5) ≤ (J (p 4) 6) then 20 else 16, [(0, .ref (p 0))], [], me_w M J)) rfl k
  by_cases h13 : (J (p 4) 5) ≤ (J (p 4) 6)
  · rw [if_pos h13] at k
    have k := ly_revb 1 (c' := (21, [(0, .ref (p 0))], [.int (Int32.ofInt 0)], me_w M J)) rfl k
    have k := lz_ri rfl (by decide) k
    rw [k, x184, if_pos h13]
  · rw [if_neg h13] at k
    have k := ly_revb 2 (c' := (21, [(0, .ref (p 0))], [.int (Int32.ofInt 1)], me_w M J)) rfl k
    have k := lz_ri rfl (by decide) k
    rw [k, x184, if_neg h13]
/-! Model.moves -/
def x185 (p : Nat → Nat) (v1 : Int32) (v2 : Int32) (J : Nat → Nat → Int32) : (Nat → Nat → Int32) := (nt_u (nt_u (nt_u J (p 4) ((((Int32.ofInt 52) + ((Int32.ofInt 5) * v1)) + (Int32.ofInt 3)).toNatClampNeg) v2) (p 4) 6 (((nt_u J (p 4) ((((Int32.ofInt 52) + ((Int32.ofInt 5) * v1)) + (Int32.ofInt 3)).toNatClampNeg) v2) (p 4) 6) + (Int32.ofInt 1))) (p 4) 8 (((nt_u J (p 4) ((((Int32.ofInt 52) + ((Int32.ofInt 5) * v1)) + (Int32.ofInt 3)).toNatClampNeg) v2) (p 4) 8) + (Int32.ofInt 1)))
theorem xt185 {X : nt_X} {d : Nat} {M : nt_M} {o : Option Value × nt_M} {p : Nat → Nat} {v1 : Int32} {v2 : Int32} {J : Nat → Nat → Int32} (hp : xs_P M p) (k : nt_ev X d 185 [.ref (p 0), .int v1, .int v2] (me_w M J) o) : o = (none, me_w M (x185 p v1 v2 J)) := by
  have k : nt_rn X d 185 (0, [(0, .ref (p 0)), (1, .int v1), (2, .int v2)], [], me_w M J) o := k
  have k := ly_revb 1 (c' := (1, [(0, .ref (p 0)), (1, .int v1), (2, .int v2)], [.ref (p 0)], me_w M J)) rfl k
  have k := lz_get (a := (p 0)) (g := 1127) (M := me_w M J) (v := .ref (p 4)) rfl (nt_gfR rfl (hp.1 (0, 27, 4) (by decide))) k
  have k := ly_revb 8 (c' := (13, [(0, .ref (p 0)), (1, .int v1), (2, .int v2)], [.int v2, .int (((Int32.ofInt 52) + ((Int32.ofInt 5) * v1)) + (Int32.ofInt 3)), .ref (p 4)], me_w M J)) rfl k
  have k := mx_iast (q := (((Int32.ofInt 52) + ((Int32.ofInt 5) * v1)) + (Int32.ofInt 3)).toNatClampNeg) rfl rfl k
  have k : nt_rn X _ 185 (14, [(0, .ref (p 0)), (1, .int v1), (2, .int v2)], [], me_w M (nt_u J (p 4) ((((Int32.ofInt 52) + ((Int32.ofInt 5) * v1)) + (Int32.ofInt 3)).toNatClampNeg) v2)) _ := k
  have k := ly_revb 1 (c' := (15, [(0, .ref (p 0)), (1, .int v1), (2, .int v2)], [.ref (p 0)], me_w M (nt_u J (p 4) ((((Int32.ofInt 52) + ((Int32.ofInt 5) * v1)) + (Int32.ofInt 3)).toNatClampNeg) v2))) rfl k
  have k := lz_get (a := (p 0)) (g := 1127) (M := me_w M (nt_u J (p 4) ((((Int32.ofInt 52) + ((Int32.ofInt 5) * v1)) + (Int32.ofInt 3)).toNatClampNeg) v2)) (v := .ref (p 4)) rfl (nt_gfR rfl (hp.1 (0, 27, 4) (by decide))) k
  have k := ly_revb 2 (c' := (21, [(0, .ref (p 0)), (1, .int v1), (2, .int v2)], [.int (Int32.ofInt 6), .ref (p 4), .int (Int32.ofInt 6), .ref (p 4)], me_w M (nt_u J (p 4) ((((Int32.ofInt 52) + ((Int32.ofInt 5) * v1)) + (Int32.ofInt 3)).toNatClampNeg) v2))) rfl k
  have k := mx_iald (v := (nt_u J (p 4) ((((Int32.ofInt 52) + ((Int32.ofInt 5) * v1)) + (Int32.ofInt 3)).toNatClampNeg) v2) (p 4) 6) rfl (hp.2.2.1 4 (by omega)) ((congrArg ((nt_u J (p 4) ((((Int32.ofInt 52) + ((Int32.ofInt 5) * v1)) + (Int32.ofInt 3)).toNatClampNeg) v2) (p 4)) (show (Int32.ofInt 6).toNatClampNeg = 6 from rfl)).trans (rfl)) k
  have k := ly_revb 2 (c' := (24, [(0, .ref (p 0)), (1, .int v1), (2, .int v2)], [.int (((nt_u J (p 4) ((((Int32.ofInt 52) + ((Int32.ofInt 5) * v1)) + (Int32.ofInt 3)).toNatClampNeg) v2) (p 4) 6) + (Int32.ofInt 1)), .int (Int32.ofInt 6), .ref (p 4)], me_w M (nt_u J (p 4) ((((Int32.ofInt 52) + ((Int32.ofInt 5) * v1)) + (Int32.ofInt 3)).toNatClampNeg) v2))) rfl k
  have k := mx_iast (q := 6) rfl (show (Int32.ofInt 6).toNatClampNeg = 6 from rfl) k
  have k : nt_rn X _ 185 (25, [(0, .ref (p 0)), (1, .int v1), (2, .int v2)], [], me_w M (nt_u (nt_u J (p 4) ((((Int32.ofInt 52) + ((Int32.ofInt 5) * v1)) + (Int32.ofInt 3)).toNatClampNeg) v2) (p 4) 6 (((nt_u J (p 4) ((((Int32.ofInt 52) + ((Int32.ofInt 5) * v1)) + (Int32.ofInt 3)).toNatClampNeg) v2) (p 4) 6) + (Int32.ofInt 1)))) _ := k
  have k := ly_revb 1 (c' := (26, [(0, .ref (p 0)), (1, .int v1), (2, .int v2)], [.ref (p 0)], me_w M (nt_u (nt_u J (p 4) ((((Int32.ofInt 52) + ((Int32.ofInt 5) * v1)) + (Int32.ofInt 3)).toNatClampNeg) v2) (p 4) 6 (((nt_u J (p 4) ((((Int32.ofInt 52) + ((Int32.ofInt 5) * v1)) + (Int32.ofInt 3)).toNatClampNeg) v2) (p 4) 6) + (Int32.ofInt 1))))) rfl k
  have k := lz_get (a := (p 0)) (g := 1127) (M := me_w M (nt_u (nt_u J (p 4) ((((Int32.ofInt 52) + ((Int32.ofInt 5) * v1)) + (Int32.ofInt 3)).toNatClampNeg) v2) (p 4) 6 (((nt_u J (p 4) ((((Int32.ofInt 52) + ((Int32.ofInt 5) * v1)) + (Int32.ofInt 3)).toNatClampNeg) v2) (p 4) 6) + (Int32.ofInt 1)))) (v := .ref (p 4)) rfl (nt_gfR rfl (hp.1 (0, 27, 4) (by decide))) k
  have k := ly_revb 2 (c' := (32, [(0, .ref (p 0)), (1, .int v1), (2, .int v2)], [.int (Int32.ofInt 8), .ref (p 4), .int (Int32.ofInt 8), .ref (p 4)], me_w M (nt_u (nt_u J (p 4) ((((Int32.ofInt 52) + ((Int32.ofInt 5) * v1)) + (Int32.ofInt 3)).toNatClampNeg) v2) (p 4) 6 (((nt_u J (p 4) ((((Int32.ofInt 52) + ((Int32.ofInt 5) * v1)) + (Int32.ofInt 3)).toNatClampNeg) v2) (p 4) 6) + (Int32.ofInt 1))))) rfl k
  have k := mx_iald (v := (nt_u J (p 4) ((((Int32.ofInt 52) + ((Int32.ofInt 5) * v1)) + (Int32.ofInt 3)).toNatClampNeg) v2) (p 4) 8) rfl (hp.2.2.1 4 (by omega)) ((congrArg ((nt_u (nt_u J (p 4) ((((Int32.ofInt 52) + ((Int32.ofInt 5) * v1)) + (Int32.ofInt 3)).toNatClampNeg) v2) (p 4) 6 (((nt_u J (p 4) ((((Int32.ofInt 52) + ((Int32.ofInt 5) * v1)) + (Int32.ofInt 3)).toNatClampNeg) v2) (p 4) 6) + (Int32.ofInt 1))) (p 4)) (show (Int32.ofInt 8).toNatClampNeg = 8 from rfl)).trans (mu_k (by decide))) k
  have k := ly_revb 2 (c' := (35, [(0, .ref (p 0)), (1, .int v1), (2, .int v2)], [.int (((nt_u J (p 4) ((((Int32.ofInt 52) + ((Int32.ofInt 5) * v1)) + (Int32.ofInt 3)).toNatClampNeg) v2) (p 4) 8) + (Int32.ofInt 1)), .int (Int32.ofInt 8), .ref (p 4)], me_w M (nt_u (nt_u J (p 4) ((((Int32.ofInt 52) + ((Int32.ofInt 5) * v1)) + (Int32.ofInt 3)).toNatClampNeg) v2) (p 4) 6 (((nt_u J (p 4) ((((Int32.ofInt 52) + ((Int32.ofInt 5) * v1)) + (Int32.ofInt 3)).toNatClampNeg) v2) (p 4) 6) + (Int32.ofInt 1))))) rfl k
  have k := mx_iast (q := 8) rfl (show (Int32.ofInt 8).toNatClampNeg = 8 from rfl) k
  have k : nt_rn X _ 185 (36, [(0, .ref (p 0)), (1, .int v1), (2, .int v2)], [], me_w M (nt_u (nt_u (nt_u J (p 4) ((((Int32.ofInt 52) + ((Int32.ofInt 5) * v1)) + (Int32.ofInt 3)).toNatClampNeg) v2) (p 4) 6 (((nt_u J (p 4) ((((Int32.ofInt 52) + ((Int32.ofInt 5) * v1)) + (Int32.ofInt 3)).toNatClampNeg) v2) (p 4) 6) + (Int32.ofInt 1))) (p 4) 8 (((nt_u J (p 4) ((((Int32.ofInt 52) + ((Int32.ofInt 5) * v1)) + (Int32.ofInt 3)).toNatClampNeg) v2) (p 4) 8) + (Int32.ofInt 1)))) _ := k
  have k := lz_rv rfl rfl k
  rw [k, x185]
theorem x185_frJ {p : Nat → Nat} {v1 : Int32} {v2 : Int32} {J : Nat → Nat → Int32} {b : Nat} (n0 : b ≠ p 4) : x185 p v1 v2 J b = J b := by
  unfold x185
  all_goals first | (dsimp only; exact (show (nt_u (nt_u (nt_u J (p 4) ((((Int32.ofInt 52) + ((Int32.ofInt 5) * v1)) + (Int32.ofInt 3)).toNatClampNeg) v2) (p 4) 6 (((nt_u J (p 4) ((((Int32.ofInt 52) + ((Int32.ofInt 5) * v1)) + (Int32.ofInt 3)).toNatClampNeg) v2) (p 4) 6) + (Int32.ofInt 1))) (p 4) 8 (((nt_u J (p 4) ((((Int32.ofInt 52) + ((Int32.ofInt 5) * v1)) + (Int32.ofInt 3)).toNatClampNeg) v2) (p 4) 8) + (Int32.ofInt 1))) b = J b from (mu_o n0).trans ((mu_o n0).trans (mu_o n0)))) | exact (show (nt_u (nt_u (nt_u J (p 4) ((((Int32.ofInt 52) + ((Int32.ofInt 5) * v1)) + (Int32.ofInt 3)).toNatClampNeg) v2) (p 4) 6 (((nt_u J (p 4) ((((Int32.ofInt 52) + ((Int32.ofInt 5) * v1)) + (Int32.ofInt 3)).toNatClampNeg) v2) (p 4) 6) + (Int32.ofInt 1))) (p 4) 8 (((nt_u J (p 4) ((((Int32.ofInt 52) + ((Int32.ofInt 5) * v1)) + (Int32.ofInt 3)).toNatClampNeg) v2) (p 4) 8) + (Int32.ofInt 1))) b = J b from (mu_o n0).trans ((mu_o n0).trans (mu_o n0)))
/-! Model.isAshore -/
def x182 (p : Nat → Nat) (v1 : Int32) (J : Nat → Nat → Int32) : Int32 := if (x169 p v1 (Int32.ofInt 4) J) = 0 then (Int32.ofInt 1)
  else (Int32.ofInt 0)
theorem xt182 {X : nt_X} {d : Nat} {M : nt_M} {o : Option Value × nt_M} {p : Nat → Nat} {v1 : Int32} {J : Nat → Nat → Int32} (hp : xs_P M p) (k : nt_ev X d 182 [.ref (p 0), .int v1] (me_w M J) o) : o = (some (.int (x182 p v1 J)), me_w M J) := by
  have k : nt_rn X d 182 (0, [(0, .ref (p 0)), (1, .int v1)], [], me_w M J) o := k
  have k := ly_revb 3 (c' := (3, [(0, .ref (p 0)), (1, .int v1)], [.int (Int32.ofInt 4), .int v1, .ref (p 0)], me_w M J)) rfl k
  obtain ⟨d1, o1, ed, kc, k⟩ := lz_c (g := 169) (q := 1) (vs := [.ref (p 0), .int v1, .int (Int32.ofInt 4)]) (rest := []) rfl rfl (by decide) (Or.inr (Or.inl ⟨_, rfl, rfl⟩)) rfl k
  have e1 := xt169 hp kc
  subst e1
  have k : nt_rn X _ 182 (6, [(0, .ref (p 0)), (1, .int v1)], [.int (x169 p v1 (Int32.ofInt 4) J)], me_w M J) _ := k
  have k := ly_revb 1 (c' := (if (x169 p v1 (Int32.ofInt 4) J) = 0 then 9 else 13, [(0, .ref (p 0)), (1, .int v1)], [], me_w M J)) rfl k
  by_cases h6 : (x169 p v1 (Int32.ofInt 4) J) = 0
  · rw [if_pos h6] at k
    have k := ly_revb 2 (c' := (14, [(0, .ref (p 0)), (1, .int v1)], [.int (Int32.ofInt 1)], me_w M J)) rfl k
    have k := lz_ri rfl (by decide) k
    rw [k, x182, if_pos h6]
  · rw [if_neg h6] at k
    have k := ly_revb 1 (c' := (14, [(0, .ref (p 0)), (1, .int v1)], [.int (Int32.ofInt 0)], me_w M J)) rfl k
    have k := lz_ri rfl (by decide) k
    rw [k, x182, if_neg h6]
/-! Model.isAtHand -/
def x183 (p : Nat → Nat) (v1 : Int32) (J : Nat → Nat → Int32) : Int32 := if (x172 p v1 J) = 0 then (Int32.ofInt 0)
  else if (x173 p v1 (Int32.ofInt 3) J) < 0 then (Int32.ofInt 1)
    else if (x182 p (x173 p v1 (Int32.ofInt 3) J) J) = 0 then (Int32.ofInt 0)
      else (Int32.ofInt 1)
theorem xt183 {X : nt_X} {d : Nat} {M : nt_M} {o : Option Value × nt_M} {p : Nat → Nat} {v1 : Int32} {J : Nat → Nat → Int32} (hp : xs_P M p) (k : nt_ev X d 183 [.ref (p 0), .int v1] (me_w M J) o) : o = (some (.int (x183 p v1 J)), me_w M J) := by
  have k : nt_rn X d 183 (0, [(0, .ref (p 0)), (1, .int v1)], [], me_w M J) o := k
  have k := ly_revb 2 (c' := (2, [(0, .ref (p 0)), (1, .int v1)], [.int v1, .ref (p 0)], me_w M J)) rfl k
  obtain ⟨d1, o1, ed, kc, k⟩ := lz_c (g := 172) (q := 1) (vs := [.ref (p 0), .int v1]) (rest := []) rfl rfl (by decide) (Or.inr (Or.inl ⟨_, rfl, rfl⟩)) rfl k
  have e1 := xt172 hp kc
  subst e1
  have k : nt_rn X _ 183 (5, [(0, .ref (p 0)), (1, .int v1)], [.int (x172 p v1 J)], me_w M J) _ := k
  have k := ly_revb 1 (c' := (if (x172 p v1 J) = 0 then 34 else 8, [(0, .ref (p 0)), (1, .int v1)], [], me_w M J)) rfl k
  by_cases h5 : (x172 p v1 J) = 0
  · rw [if_pos h5] at k
    have k := ly_revb 1 (c' := (35, [(0, .ref (p 0)), (1, .int v1)], [.int (Int32.ofInt 0)], me_w M J)) rfl k
    have k := lz_ri rfl (by decide) k
    rw [k, x183, if_pos h5]
  · rw [if_neg h5] at k
    have k := ly_revb 3 (c' := (11, [(0, .ref (p 0)), (1, .int v1)], [.int (Int32.ofInt 3), .int v1, .ref (p 0)], me_w M J)) rfl k
    obtain ⟨d1, o1, ed, kc, k⟩ := lz_c (g := 173) (q := 1) (vs := [.ref (p 0), .int v1, .int (Int32.ofInt 3)]) (rest := []) rfl rfl (by decide) (Or.inr (Or.inl ⟨_, rfl, rfl⟩)) rfl k
    have e1 := xt173 hp kc
    subst e1
    have k : nt_rn X _ 183 (14, [(0, .ref (p 0)), (1, .int v1)], [.int (x173 p v1 (Int32.ofInt 3) J)], me_w M J) _ := k
    have k := ly_revb 1 (c' := (if (x173 p v1 (Int32.ofInt 3) J) < 0 then 30 else 17, [(0, .ref (p 0)), (1, .int v1)], [], me_w M J)) rfl k
    by_cases h14 : (x173 p v1 (Int32.ofInt 3) J) < 0
    · rw [if_pos h14] at k
      have k := ly_revb 2 (c' := (35, [(0, .ref (p 0)), (1, .int v1)], [.int (Int32.ofInt 1)], me_w M J)) rfl k
      have k := lz_ri rfl (by decide) k
      rw [k, x183, if_neg h5, if_pos h14]
    · rw [if_neg h14] at k
      have k := ly_revb 4 (c' := (21, [(0, .ref (p 0)), (1, .int v1)], [.int (Int32.ofInt 3), .int v1, .ref (p 0), .ref (p 0)], me_w M J)) rfl k
      obtain ⟨d1, o1, ed, kc, k⟩ := lz_c (g := 173) (q := 1) (vs := [.ref (p 0), .int v1, .int (Int32.ofInt 3)]) (rest := [.ref (p 0)]) rfl rfl (by decide) (Or.inr (Or.inl ⟨_, rfl, rfl⟩)) rfl k
      have e1 := xt173 hp kc
      subst e1
      have k : nt_rn X _ 183 (24, [(0, .ref (p 0)), (1, .int v1)], [.int (x173 p v1 (Int32.ofInt 3) J), .ref (p 0)], me_w M J) _ := k
      obtain ⟨d1, o1, ed, kc, k⟩ := lz_c (g := 182) (q := 1) (vs := [.ref (p 0), .int (x173 p v1 (Int32.ofInt 3) J)]) (rest := []) rfl rfl (by decide) (Or.inr (Or.inl ⟨_, rfl, rfl⟩)) rfl k
      have e1 := xt182 hp kc
      subst e1
      have k : nt_rn X _ 183 (27, [(0, .ref (p 0)), (1, .int v1)], [.int (x182 p (x173 p v1 (Int32.ofInt 3) J) J)], me_w M J) _ := k
      have k := ly_revb 1 (c' := (if (x182 p (x173 p v1 (Int32.ofInt 3) J) J) = 0 then 34 else 30, [(0, .ref (p 0)), (1, .int v1)], [], me_w M J)) rfl k
      by_cases h27 : (x182 p (x173 p v1 (Int32.ofInt 3) J) J) = 0
      · rw [if_pos h27] at k
        have k := ly_revb 1 (c' := (35, [(0, .ref (p 0)), (1, .int v1)], [.int (Int32.ofInt 0)], me_w M J)) rfl k
        have k := lz_ri rfl (by decide) k
        rw [k, x183, if_neg h5, if_neg h14, if_pos h27]
      · rw [if_neg h27] at k
        have k := ly_revb 2 (c' := (35, [(0, .ref (p 0)), (1, .int v1)], [.int (Int32.ofInt 1)], me_w M J)) rfl k
        have k := lz_ri rfl (by decide) k
        rw [k, x183, if_neg h5, if_neg h14, if_neg h27]
/-! Model.beginsToday -/
def x195_2 (p : Nat → Nat) (v1 : Int32) (J : Nat → Nat → Int32) : Nat → Int32 → Int32
  | 0, v2 => (Int32.ofInt 0)
  | c + 1, v2 => if (J (p 4) 3) ≤ v2 then (Int32.ofInt 0)
    else if (x180 p v2 (Int32.ofInt 0) J) = v1 then if (x180 p v2 (Int32.ofInt 1) J) = (J (p 4) 4) then (Int32.ofInt 1)
        else (x195_2 p v1 J c (v2 + (Int32.ofInt 1)))
      else (x195_2 p v1 J c (v2 + (Int32.ofInt 1)))
theorem xt195_2 {X : nt_X} {d : Nat} {M : nt_M} {o : Option Value × nt_M} {p : Nat → Nat} {v1 : Int32} {J : Nat → Nat → Int32} (hp : xs_P M p) : ∀ (c : Nat) (v2 : Int32), (J (p 4) 3).toInt - v2.toInt ≤ c → nt_rn X d 195 (2, [(0, .ref (p 0)), (1, .int v1), (2, .int v2)], [], me_w M J) o → o = (some (.int (x195_2 p v1 J c v2)), me_w M J) := by
  intro c
  induction c with
  | zero =>
    intro v2 hc k
    have k := ly_revb 2 (c' := (4, [(0, .ref (p 0)), (1, .int v1), (2, .int v2)], [.ref (p 0), .int v2], me_w M J)) rfl k
    have k := lz_get (a := (p 0)) (g := 1127) (M := me_w M J) (v := .ref (p 4)) rfl (nt_gfR rfl (hp.1 (0, 27, 4) (by decide))) k
    have k := ly_revb 1 (c' := (8, [(0, .ref (p 0)), (1, .int v1), (2, .int v2)], [.int (Int32.ofInt 3), .ref (p 4), .int v2], me_w M J)) rfl k
    have k := mx_iald (v := J (p 4) 3) rfl (hp.2.2.1 4 (by omega)) ((congrArg (J (p 4)) (show (Int32.ofInt 3).toNatClampNeg = 3 from rfl)).trans (rfl)) k
    have k := ly_revb 1 (c' := (if (J (p 4) 3) ≤ v2 then 45 else 12, [(0, .ref (p 0)), (1, .int v1), (2, .int v2)], [], me_w M J)) rfl k
    have h9 : (J (p 4) 3) ≤ v2 := lx_end hc
    rw [if_pos h9] at k
    have k := ly_revb 1 (c' := (46, [(0, .ref (p 0)), (1, .int v1), (2, .int v2)], [.int (Int32.ofInt 0)], me_w M J)) rfl k
    have k := lz_ri rfl (by decide) k
    rw [k, x195_2]
  | succ c ih =>
    intro v2 hc k
    have k := ly_revb 2 (c' := (4, [(0, .ref (p 0)), (1, .int v1), (2, .int v2)], [.ref (p 0), .int v2], me_w M J)) rfl k
    have k := lz_get (a := (p 0)) (g := 1127) (M := me_w M J) (v := .ref (p 4)) rfl (nt_gfR rfl (hp.1 (0, 27, 4) (by decide))) k
    have k := ly_revb 1 (c' := (8, [(0, .ref (p 0)), (1, .int v1), (2, .int v2)], [.int (Int32.ofInt 3), .ref (p 4), .int v2], me_w M J)) rfl k
    have k := mx_iald (v := J (p 4) 3) rfl (hp.2.2.1 4 (by omega)) ((congrArg (J (p 4)) (show (Int32.ofInt 3).toNatClampNeg = 3 from rfl)).trans (rfl)) k
    have k := ly_revb 1 (c' := (if (J (p 4) 3) ≤ v2 then 45 else 12, [(0, .ref (p 0)), (1, .int v1), (2, .int v2)], [], me_w M J)) rfl k
    by_cases h9 : (J (p 4) 3) ≤ v2
    · rw [if_pos h9] at k
      have k := ly_revb 1 (c' := (46, [(0, .ref (p 0)), (1, .int v1), (2, .int v2)], [.int (Int32.ofInt 0)], me_w M J)) rfl k
      have k := lz_ri rfl (by decide) k
      rw [k, x195_2, if_pos h9]
    · rw [if_neg h9] at k
      have k := ly_revb 3 (c' := (15, [(0, .ref (p 0)), (1, .int v1), (2, .int v2)], [.int (Int32.ofInt 0), .int v2, .ref (p 0)], me_w M J)) rfl k
      obtain ⟨d1, o1, ed, kc, k⟩ := lz_c (g := 180) (q := 1) (vs := [.ref (p 0), .int v2, .int (Int32.ofInt 0)]) (rest := []) rfl rfl (by decide) (Or.inr (Or.inl ⟨_, rfl, rfl⟩)) rfl k
      have e1 := xt180 hp kc
      subst e1
      have k : nt_rn X _ 195 (18, [(0, .ref (p 0)), (1, .int v1), (2, .int v2)], [.int (x180 p v2 (Int32.ofInt 0) J)], me_w M J) _ := k
      have k := ly_revb 2 (c' := (if (x180 p v2 (Int32.ofInt 0) J) = v1 then 22 else 39, [(0, .ref (p 0)), (1, .int v1), (2, .int v2)], [], me_w M J)) rfl k
      by_cases h19 : (x180 p v2 (Int32.ofInt 0) J) = v1
      · rw [if_pos h19] at k
        have k := ly_revb 3 (c' := (25, [(0, .ref (p 0)), (1, .int v1), (2, .int v2)], [.int (Int32.ofInt 1), .int v2, .ref (p 0)], me_w M J)) rfl k
        obtain ⟨d1, o1, ed, kc, k⟩ := lz_c (g := 180) (q := 1) (vs := [.ref (p 0), .int v2, .int (Int32.ofInt 1)]) (rest := []) rfl rfl (by decide) (Or.inr (Or.inl ⟨_, rfl, rfl⟩)) rfl k
        have e1 := xt180 hp kc
        subst e1
        have k : nt_rn X _ 195 (28, [(0, .ref (p 0)), (1, .int v1), (2, .int v2)], [.int (x180 p v2 (Int32.ofInt 1) J)], me_w M J) _ := k
        have k := ly_revb 1 (c' := (29, [(0, .ref (p 0)), (1, .int v1), (2, .int v2)], [.ref (p 0), .int (x180 p v2 (Int32.ofInt 1) J)], me_w M J)) rfl k
        have k := lz_get (a := (p 0)) (g := 1127) (M := me_w M J) (v := .ref (p 4)) rfl (nt_gfR rfl (hp.1 (0, 27, 4) (by decide))) k
        have k := ly_revb 1 (c' := (33, [(0, .ref (p 0)), (1, .int v1), (2, .int v2)], [.int (Int32.ofInt 4), .ref (p 4), .int (x180 p v2 (Int32.ofInt 1) J)], me_w M J)) rfl k
        have k := mx_iald (v := J (p 4) 4) rfl (hp.2.2.1 4 (by omega)) ((congrArg (J (p 4)) (show (Int32.ofInt 4).toNatClampNeg = 4 from rfl)).trans (rfl)) k
        have k := ly_revb 1 (c' := (if (x180 p v2 (Int32.ofInt 1) J) = (J (p 4) 4) then 37 else 39, [(0, .ref (p 0)), (1, .int v1), (2, .int v2)], [], me_w M J)) rfl k
        by_cases h34 : (x180 p v2 (Int32.ofInt 1) J) = (J (p 4) 4)
        · rw [if_pos h34] at k
          have k := ly_revb 1 (c' := (38, [(0, .ref (p 0)), (1, .int v1), (2, .int v2)], [.int (Int32.ofInt 1)], me_w M J)) rfl k
          have k := lz_ri rfl (by decide) k
          rw [k, x195_2, if_neg h9, if_pos h19, if_pos h34]
        · rw [if_neg h34] at k
          have k := ly_revb 2 (c' := (2, [(2, .int (v2 + (Int32.ofInt 1))), (0, .ref (p 0)), (1, .int v1)], [], me_w M J)) rfl k
          have k := nt_rn_w (a := [(2, .int (v2 + (Int32.ofInt 1))), (0, .ref (p 0)), (1, .int v1)]) (b := [(0, .ref (p 0)), (1, .int v1), (2, .int (v2 + (Int32.ofInt 1)))]) ⟨rfl, rfl, rfl, trivial⟩ rfl k
          have k := ih (v2 + (Int32.ofInt 1)) (lx_dec h9 hc) k
          rw [k, x195_2, if_neg h9, if_pos h19, if_neg h34]
      · rw [if_neg h19] at k
        have k := ly_revb 2 (c' := (2, [(2, .int (v2 + (Int32.ofInt 1))), (0, .ref (p 0)), (1, .int v1)], [], me_w M J)) rfl k
        have k := nt_rn_w (a := [(2, .int (v2 + (Int32.ofInt 1))), (0, .ref (p 0)), (1, .int v1)]) (b := [(0, .ref (p 0)), (1, .int v1), (2, .int (v2 + (Int32.ofInt 1)))]) ⟨rfl, rfl, rfl, trivial⟩ rfl k
        have k := ih (v2 + (Int32.ofInt 1)) (lx_dec h9 hc) k
        rw [k, x195_2, if_neg h9, if_neg h19]
theorem x195_2_rule {p : Nat → Nat} {v1 : Int32} {J : Nat → Nat → Int32} {I : Nat → Int32 → Prop} {Q : Int32 → Prop} (h0 : ∀ (v2 : Int32), I 0 v2 → Q (Int32.ofInt 0)) (h1 : ∀ (c : Nat) (v2 : Int32), I (c + 1) v2 →
    if (J (p 4) 3) ≤ v2 then (Q (Int32.ofInt 0))
    else if (x180 p v2 (Int32.ofInt 0) J) = v1 then if (x180 p v2 (Int32.ofInt 1) J) = (J (p 4) 4) then (Q (Int32.ofInt 1))
        else (I c (v2 + (Int32.ofInt 1)))
      else (I c (v2 + (Int32.ofInt 1)))) : ∀ (c : Nat) (v2 : Int32), I c v2 → Q (x195_2 p v1 J c v2) := by
  intro c
  induction c with
  | zero =>
    intro v2 hi
    rw [x195_2]
    exact h0 v2 hi
  | succ c ih =>
    intro v2 hi
    have hi := h1 c v2 hi
    rw [x195_2]
    by_cases h : (J (p 4) 3) ≤ v2
    · rw [if_pos h] at hi ⊢
      exact hi
    · rw [if_neg h] at hi ⊢
      by_cases h : (x180 p v2 (Int32.ofInt 0) J) = v1
      · rw [if_pos h] at hi ⊢
        by_cases h : (x180 p v2 (Int32.ofInt 1) J) = (J (p 4) 4)
        · rw [if_pos h] at hi ⊢
          exact hi
        · rw [if_neg h] at hi ⊢
          exact ih _ hi
      · rw [if_neg h] at hi ⊢
        exact ih _ hi
def x195 (p : Nat → Nat) (v1 : Int32) (J : Nat → Nat → Int32) : Int32 := (x195_2 p v1 J ((J (p 4) 3).toNatClampNeg) (Int32.ofInt 0))
theorem xt195 {X : nt_X} {d : Nat} {M : nt_M} {o : Option Value × nt_M} {p : Nat → Nat} {v1 : Int32} {J : Nat → Nat → Int32} (hp : xs_P M p) (k : nt_ev X d 195 [.ref (p 0), .int v1] (me_w M J) o) : o = (some (.int (x195 p v1 J)), me_w M J) := by
  have k : nt_rn X d 195 (0, [(0, .ref (p 0)), (1, .int v1)], [], me_w M J) o := k
  have k := ly_revb 2 (c' := (2, [(2, .int (Int32.ofInt 0)), (0, .ref (p 0)), (1, .int v1)], [], me_w M J)) rfl k
  have k := nt_rn_w (a := [(2, .int (Int32.ofInt 0)), (0, .ref (p 0)), (1, .int v1)]) (b := [(0, .ref (p 0)), (1, .int v1), (2, .int (Int32.ofInt 0))]) ⟨rfl, rfl, rfl, trivial⟩ rfl k
  have k := xt195_2 hp  ((J (p 4) 3).toNatClampNeg) (Int32.ofInt 0) (lx_beg (by decide)) k
  rw [k, x195]
/-! Model.canTake -/
def x194 (p : Nat → Nat) (v1 : Int32) (v2 : Int32) (v3 : Int32) (J : Nat → Nat → Int32) : Int32 := if (x183 p v1 J) = 0 then (Int32.ofInt 0)
  else if (x173 p v1 (Int32.ofInt 0) J) = v3 then if (x173 p v1 (Int32.ofInt 3) J) = v2 then (Int32.ofInt 0)
      else if (x173 p v1 (Int32.ofInt 3) J) < 0 then (Int32.ofInt 1)
        else if (x195 p (x173 p v1 (Int32.ofInt 3) J) J) = 0 then (Int32.ofInt 1)
          else (Int32.ofInt 0)
    else (Int32.ofInt 0)
theorem xt194 {X : nt_X} {d : Nat} {M : nt_M} {o : Option Value × nt_M} {p : Nat → Nat} {v1 : Int32} {v2 : Int32} {v3 : Int32} {J : Nat → Nat → Int32} (hp : xs_P M p) (k : nt_ev X d 194 [.ref (p 0), .int v1, .int v2, .int v3] (me_w M J) o) : o = (some (.int (x194 p v1 v2 v3 J)), me_w M J) := by
  have k : nt_rn X d 194 (0, [(0, .ref (p 0)), (1, .int v1), (2, .int v2), (3, .int v3)], [], me_w M J) o := k
  have k := ly_revb 3 (c' := (3, [(0, .ref (p 0)), (1, .int v1), (2, .int v2), (3, .int v3)], [.int (Int32.ofInt 3), .int v1, .ref (p 0)], me_w M J)) rfl k
  obtain ⟨d1, o1, ed, kc, k⟩ := lz_c (g := 173) (q := 1) (vs := [.ref (p 0), .int v1, .int (Int32.ofInt 3)]) (rest := []) rfl rfl (by decide) (Or.inr (Or.inl ⟨_, rfl, rfl⟩)) rfl k
  have e1 := xt173 hp kc
  subst e1
  have k : nt_rn X _ 194 (6, [(0, .ref (p 0)), (1, .int v1), (2, .int v2), (3, .int v3)], [.int (x173 p v1 (Int32.ofInt 3) J)], me_w M J) _ := k
  have k := ly_revb 3 (c' := (10, [(4, .int (x173 p v1 (Int32.ofInt 3) J)), (0, .ref (p 0)), (1, .int v1), (2, .int v2), (3, .int v3)], [.int v1, .ref (p 0)], me_w M J)) rfl k
  obtain ⟨d1, o1, ed, kc, k⟩ := lz_c (g := 183) (q := 1) (vs := [.ref (p 0), .int v1]) (rest := []) rfl rfl (by decide) (Or.inr (Or.inl ⟨_, rfl, rfl⟩)) rfl k
  have e1 := xt183 hp kc
  subst e1
  have k : nt_rn X _ 194 (13, [(4, .int (x173 p v1 (Int32.ofInt 3) J)), (0, .ref (p 0)), (1, .int v1), (2, .int v2), (3, .int v3)], [.int (x183 p v1 J)], me_w M J) _ := k
  have k := ly_revb 1 (c' := (if (x183 p v1 J) = 0 then 50 else 16, [(4, .int (x173 p v1 (Int32.ofInt 3) J)), (0, .ref (p 0)), (1, .int v1), (2, .int v2), (3, .int v3)], [], me_w M J)) rfl k
  by_cases h13 : (x183 p v1 J) = 0
  · rw [if_pos h13] at k
    have k := ly_revb 1 (c' := (51, [(4, .int (x173 p v1 (Int32.ofInt 3) J)), (0, .ref (p 0)), (1, .int v1), (2, .int v2), (3, .int v3)], [.int (Int32.ofInt 0)], me_w M J)) rfl k
    have k := lz_ri rfl (by decide) k
    rw [k, x194, if_pos h13]
  · rw [if_neg h13] at k
    have k := ly_revb 3 (c' := (19, [(4, .int (x173 p v1 (Int32.ofInt 3) J)), (0, .ref (p 0)), (1, .int v1), (2, .int v2), (3, .int v3)], [.int (Int32.ofInt 0), .int v1, .ref (p 0)], me_w M J)) rfl k
    obtain ⟨d1, o1, ed, kc, k⟩ := lz_c (g := 173) (q := 1) (vs := [.ref (p 0), .int v1, .int (Int32.ofInt 0)]) (rest := []) rfl rfl (by decide) (Or.inr (Or.inl ⟨_, rfl, rfl⟩)) rfl k
    have e1 := xt173 hp kc
    subst e1
    have k : nt_rn X _ 194 (22, [(4, .int (x173 p v1 (Int32.ofInt 3) J)), (0, .ref (p 0)), (1, .int v1), (2, .int v2), (3, .int v3)], [.int (x173 p v1 (Int32.ofInt 0) J)], me_w M J) _ := k
    have k := ly_revb 2 (c' := (if (x173 p v1 (Int32.ofInt 0) J) = v3 then 26 else 50, [(4, .int (x173 p v1 (Int32.ofInt 3) J)), (0, .ref (p 0)), (1, .int v1), (2, .int v2), (3, .int v3)], [], me_w M J)) rfl k
    by_cases h23 : (x173 p v1 (Int32.ofInt 0) J) = v3
    · rw [if_pos h23] at k
      have k := ly_revb 3 (c' := (if (x173 p v1 (Int32.ofInt 3) J) = v2 then 50 else 32, [(4, .int (x173 p v1 (Int32.ofInt 3) J)), (0, .ref (p 0)), (1, .int v1), (2, .int v2), (3, .int v3)], [], me_w M J)) rfl k
      by_cases h29 : (x173 p v1 (Int32.ofInt 3) J) = v2
      · rw [if_pos h29] at k
        have k := ly_revb 1 (c' := (51, [(4, .int (x173 p v1 (Int32.ofInt 3) J)), (0, .ref (p 0)), (1, .int v1), (2, .int v2), (3, .int v3)], [.int (Int32.ofInt 0)], me_w M J)) rfl k
        have k := lz_ri rfl (by decide) k
        rw [k, x194, if_neg h13, if_pos h23, if_pos h29]
      · rw [if_neg h29] at k
        have k := ly_revb 2 (c' := (if (x173 p v1 (Int32.ofInt 3) J) < 0 then 46 else 37, [(4, .int (x173 p v1 (Int32.ofInt 3) J)), (0, .ref (p 0)), (1, .int v1), (2, .int v2), (3, .int v3)], [], me_w M J)) rfl k
        by_cases h34 : (x173 p v1 (Int32.ofInt 3) J) < 0
        · rw [if_pos h34] at k
          have k := ly_revb 2 (c' := (51, [(4, .int (x173 p v1 (Int32.ofInt 3) J)), (0, .ref (p 0)), (1, .int v1), (2, .int v2), (3, .int v3)], [.int (Int32.ofInt 1)], me_w M J)) rfl k
          have k := lz_ri rfl (by decide) k
          rw [k, x194, if_neg h13, if_pos h23, if_neg h29, if_pos h34]
        · rw [if_neg h34] at k
          have k := ly_revb 2 (c' := (40, [(4, .int (x173 p v1 (Int32.ofInt 3) J)), (0, .ref (p 0)), (1, .int v1), (2, .int v2), (3, .int v3)], [.int (x173 p v1 (Int32.ofInt 3) J), .ref (p 0)], me_w M J)) rfl k
          obtain ⟨d1, o1, ed, kc, k⟩ := lz_c (g := 195) (q := 1) (vs := [.ref (p 0), .int (x173 p v1 (Int32.ofInt 3) J)]) (rest := []) rfl rfl (by decide) (Or.inr (Or.inl ⟨_, rfl, rfl⟩)) rfl k
          have e1 := xt195 hp kc
          subst e1
          have k : nt_rn X _ 194 (43, [(4, .int (x173 p v1 (Int32.ofInt 3) J)), (0, .ref (p 0)), (1, .int v1), (2, .int v2), (3, .int v3)], [.int (x195 p (x173 p v1 (Int32.ofInt 3) J) J)], me_w M J) _ := k
          have k := ly_revb 1 (c' := (if (x195 p (x173 p v1 (Int32.ofInt 3) J) J) = 0 then 46 else 50, [(4, .int (x173 p v1 (Int32.ofInt 3) J)), (0, .ref (p 0)), (1, .int v1), (2, .int v2), (3, .int v3)], [], me_w M J)) rfl k
          by_cases h43 : (x195 p (x173 p v1 (Int32.ofInt 3) J) J) = 0
          · rw [if_pos h43] at k
            have k := ly_revb 2 (c' := (51, [(4, .int (x173 p v1 (Int32.ofInt 3) J)), (0, .ref (p 0)), (1, .int v1), (2, .int v2), (3, .int v3)], [.int (Int32.ofInt 1)], me_w M J)) rfl k
            have k := lz_ri rfl (by decide) k
            rw [k, x194, if_neg h13, if_pos h23, if_neg h29, if_neg h34, if_pos h43]
          · rw [if_neg h43] at k
            have k := ly_revb 1 (c' := (51, [(4, .int (x173 p v1 (Int32.ofInt 3) J)), (0, .ref (p 0)), (1, .int v1), (2, .int v2), (3, .int v3)], [.int (Int32.ofInt 0)], me_w M J)) rfl k
            have k := lz_ri rfl (by decide) k
            rw [k, x194, if_neg h13, if_pos h23, if_neg h29, if_neg h34, if_neg h43]
    · rw [if_neg h23] at k
      have k := ly_revb 1 (c' := (51, [(4, .int (x173 p v1 (Int32.ofInt 3) J)), (0, .ref (p 0)), (1, .int v1), (2, .int v2), (3, .int v3)], [.int (Int32.ofInt 0)], me_w M J)) rfl k
      have k := lz_ri rfl (by decide) k
      rw [k, x194, if_neg h13, if_neg h23]
