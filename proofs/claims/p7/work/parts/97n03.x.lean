/-! the reference's writers -/
theorem xk_dec {J : Nat → Nat → Int32} {a k c : Nat} {i : Int32} (hW : xr_W (J a)) (n : ¬ J a k ≤ i) (h0 : 0 ≤ i.toInt) (hc : (J a k).toInt - i.toInt ≤ (c + 1 : Nat)) : xr_W (J a) ∧ 0 ≤ (i + Int32.ofInt 1).toInt ∧ (J a k).toInt - (i + Int32.ofInt 1).toInt ≤ c := ⟨hW, by rw [lx_inc n]; omega, lx_dec n hc⟩
theorem xk_decw {J : Nat → Nat → Int32} {a k c j : Nat} {i v : Int32} (hW : xr_W (J a)) (hj : xr_b j = (-2147483648, 2147483647)) (hk : k < 4) (hj4 : 4 ≤ j) (n : ¬ J a k ≤ i) (h0 : 0 ≤ i.toInt) (hc : (J a k).toInt - i.toInt ≤ (c + 1 : Nat)) : xr_W (nt_u J a j v a) ∧ 0 ≤ (i + Int32.ofInt 1).toInt ∧ (nt_u J a j v a k).toInt - (i + Int32.ofInt 1).toInt ≤ c := ⟨xr_up hW (xr_any hj), by rw [lx_inc n]; omega, by rw [me_uk (by omega)]; exact lx_dec n hc⟩
theorem xi_lt {b i : Int32} {n : Int} (n1 : ¬ b ≤ i) (h : b.toInt ≤ n) : i.toInt < n := by
  have : ¬ b.toInt ≤ i.toInt := fun c => n1 (Int32.le_iff_toInt_le.mpr c)
  omega
theorem xi_p1 {x : Int32} (hx : 0 ≤ x.toInt) (h2 : x.toInt ≤ 1000) : ((Int32.ofInt 52 + Int32.ofInt 5 * x) + Int32.ofInt 1).toNatClampNeg = 52 + 5 * x.toInt.toNat + 1 := xi_3 (a := 52) (m := 5) (b := 1) (by omega) (by omega) (by omega) hx h2
theorem xi_p2 {x : Int32} (hx : 0 ≤ x.toInt) (h2 : x.toInt ≤ 1000) : ((Int32.ofInt 52 + Int32.ofInt 5 * x) + Int32.ofInt 2).toNatClampNeg = 52 + 5 * x.toInt.toNat + 2 := xi_3 (a := 52) (m := 5) (b := 2) (by omega) (by omega) (by omega) hx h2
theorem xi_p3 {x : Int32} (hx : 0 ≤ x.toInt) (h2 : x.toInt ≤ 1000) : ((Int32.ofInt 52 + Int32.ofInt 5 * x) + Int32.ofInt 3).toNatClampNeg = 52 + 5 * x.toInt.toNat + 3 := xi_3 (a := 52) (m := 5) (b := 3) (by omega) (by omega) (by omega) hx h2
theorem xi_p4 {x : Int32} (hx : 0 ≤ x.toInt) (h2 : x.toInt ≤ 1000) : ((Int32.ofInt 52 + Int32.ofInt 5 * x) + Int32.ofInt 4).toNatClampNeg = 52 + 5 * x.toInt.toNat + 4 := xi_3 (a := 52) (m := 5) (b := 4) (by omega) (by omega) (by omega) hx h2
theorem xi_s4 {x : Int32} (hx : 0 ≤ x.toInt) (h2 : x.toInt ≤ 1000) : ((Int32.ofInt 10 + Int32.ofInt 7 * x) + Int32.ofInt 4).toNatClampNeg = 10 + 7 * x.toInt.toNat + 4 := xi_3 (a := 10) (m := 7) (b := 4) (by omega) (by omega) (by omega) hx h2
theorem xi_s5 {x : Int32} (hx : 0 ≤ x.toInt) (h2 : x.toInt ≤ 1000) : ((Int32.ofInt 10 + Int32.ofInt 7 * x) + Int32.ofInt 5).toNatClampNeg = 10 + 7 * x.toInt.toNat + 5 := xi_3 (a := 10) (m := 7) (b := 5) (by omega) (by omega) (by omega) hx h2
theorem xi_s6 {x : Int32} (hx : 0 ≤ x.toInt) (h2 : x.toInt ≤ 1000) : ((Int32.ofInt 10 + Int32.ofInt 7 * x) + Int32.ofInt 6).toNatClampNeg = 10 + 7 * x.toInt.toNat + 6 := xi_3 (a := 10) (m := 7) (b := 6) (by omega) (by omega) (by omega) hx h2
theorem xi_v4 {x : Int32} (hx : 0 ≤ x.toInt) (h2 : x.toInt ≤ 1000) : ((Int32.ofInt 172 + Int32.ofInt 5 * x) + Int32.ofInt 4).toNatClampNeg = 172 + 5 * x.toInt.toNat + 4 := xi_3 (a := 172) (m := 5) (b := 4) (by omega) (by omega) (by omega) hx h2
theorem xi_ow {p : Nat → Nat} {J : Nat → Nat → Int32} {i : Int32} (hW : xr_W (J (p 4))) (h0 : 0 ≤ i.toInt) (h1 : i.toInt < 24) : 0 ≤ (x173 p i (Int32.ofInt 2) J).toInt ∧ (x173 p i (Int32.ofInt 2) J).toInt ≤ 5 := by
  unfold x173
  rw [xi_p2 h0 (by omega)]
  exact xr_ow hW (by omega)
theorem xk_ow {p : Nat → Nat} {J : Nat → Nat → Int32} {i : Int32} (hW : xr_W (J (p 4))) (n : ¬ J (p 4) 2 ≤ i) (h0 : 0 ≤ i.toInt) : ∃ s, s < 6 ∧ ((Int32.ofInt 10 + Int32.ofInt 7 * x173 p i (Int32.ofInt 2) J) + Int32.ofInt 6).toNatClampNeg = 10 + 7 * s + 6 := by
  have o := xi_ow hW h0 (xi_lt n (xr_2 hW).2)
  exact ⟨_, by omega, xi_s6 o.1 (by omega)⟩
/-! Model.comesHome -/
def x191_31 (p : Nat → Nat) (v1 : Int32) (v2 : Int32) (v3 : Int32) (v4 : Int32) : Nat → Int32 → Int32 → (Nat → Nat → Int32) → (Nat → Nat → Int32)
  | 0, v5, v6, J => (nt_u (nt_u (nt_u (nt_u (nt_u J (p 4) ((((Int32.ofInt 10) + ((Int32.ofInt 7) * v2)) + (Int32.ofInt 6)).toNatClampNeg) ((J (p 4) ((((Int32.ofInt 10) + ((Int32.ofInt 7) * v2)) + (Int32.ofInt 6)).toNatClampNeg)) + v5)) (p 4) 7 (((nt_u J (p 4) ((((Int32.ofInt 10) + ((Int32.ofInt 7) * v2)) + (Int32.ofInt 6)).toNatClampNeg) ((J (p 4) ((((Int32.ofInt 10) + ((Int32.ofInt 7) * v2)) + (Int32.ofInt 6)).toNatClampNeg)) + v5)) (p 4) 7) + v3)) (p 4) ((((Int32.ofInt 10) + ((Int32.ofInt 7) * v2)) + (Int32.ofInt 4)).toNatClampNeg) (Int32.ofInt 0)) (p 4) ((((Int32.ofInt 10) + ((Int32.ofInt 7) * v2)) + (Int32.ofInt 5)).toNatClampNeg) (Int32.ofInt (-1))) (p 4) ((((Int32.ofInt 172) + ((Int32.ofInt 5) * v1)) + (Int32.ofInt 4)).toNatClampNeg) (Int32.ofInt 2))
  | c + 1, v5, v6, J => if (J (p 4) 2) ≤ v6 then (nt_u (nt_u (nt_u (nt_u (nt_u J (p 4) ((((Int32.ofInt 10) + ((Int32.ofInt 7) * v2)) + (Int32.ofInt 6)).toNatClampNeg) ((J (p 4) ((((Int32.ofInt 10) + ((Int32.ofInt 7) * v2)) + (Int32.ofInt 6)).toNatClampNeg)) + v5)) (p 4) 7 (((nt_u J (p 4) ((((Int32.ofInt 10) + ((Int32.ofInt 7) * v2)) + (Int32.ofInt 6)).toNatClampNeg) ((J (p 4) ((((Int32.ofInt 10) + ((Int32.ofInt 7) * v2)) + (Int32.ofInt 6)).toNatClampNeg)) + v5)) (p 4) 7) + v3)) (p 4) ((((Int32.ofInt 10) + ((Int32.ofInt 7) * v2)) + (Int32.ofInt 4)).toNatClampNeg) (Int32.ofInt 0)) (p 4) ((((Int32.ofInt 10) + ((Int32.ofInt 7) * v2)) + (Int32.ofInt 5)).toNatClampNeg) (Int32.ofInt (-1))) (p 4) ((((Int32.ofInt 172) + ((Int32.ofInt 5) * v1)) + (Int32.ofInt 4)).toNatClampNeg) (Int32.ofInt 2))
    else if (x171 p v6 v2 J) = 0 then (x191_31 p v1 v2 v3 v4 c v5 (v6 + (Int32.ofInt 1)) J)
      else (x191_31 p v1 v2 v3 v4 c (v5 - v4) (v6 + (Int32.ofInt 1)) (nt_u J (p 4) ((((Int32.ofInt 10) + ((Int32.ofInt 7) * (x173 p v6 (Int32.ofInt 2) J))) + (Int32.ofInt 6)).toNatClampNeg) ((J (p 4) ((((Int32.ofInt 10) + ((Int32.ofInt 7) * (x173 p v6 (Int32.ofInt 2) J))) + (Int32.ofInt 6)).toNatClampNeg)) + v4)))
theorem xt191_31 {X : nt_X} {d : Nat} {M : nt_M} {o : Option Value × nt_M} {p : Nat → Nat} {v1 : Int32} {v2 : Int32} {v3 : Int32} {v4 : Int32} (hp : xs_P M p) : ∀ (c : Nat) (v5 : Int32) (v6 : Int32) (J : Nat → Nat → Int32), (xr_W (J (p 4)) ∧ 0 ≤ v6.toInt ∧ (J (p 4) 2).toInt - v6.toInt ≤ c) → nt_rn X d 191 (31, [(0, .ref (p 0)), (1, .int v1), (2, .int v2), (3, .int v3), (4, .int v4), (5, .int v5), (6, .int v6)], [], me_w M J) o → o = (none, me_w M (x191_31 p v1 v2 v3 v4 c v5 v6 J)) := by
  intro c
  induction c with
  | zero =>
    intro v5 v6 J hc k
    have k := ly_revb 2 (c' := (34, [(0, .ref (p 0)), (1, .int v1), (2, .int v2), (3, .int v3), (4, .int v4), (5, .int v5), (6, .int v6)], [.ref (p 0), .int v6], me_w M J)) rfl k
    have k := lz_get (a := (p 0)) (g := 1127) (M := me_w M J) (v := .ref (p 4)) rfl (nt_gfR rfl (hp.1 (0, 27, 4) (by decide))) k
    have k := ly_revb 1 (c' := (38, [(0, .ref (p 0)), (1, .int v1), (2, .int v2), (3, .int v3), (4, .int v4), (5, .int v5), (6, .int v6)], [.int (Int32.ofInt 2), .ref (p 4), .int v6], me_w M J)) rfl k
    have k := mx_iald (v := J (p 4) 2) rfl (hp.2.2.1 4 (by omega)) ((congrArg (J (p 4)) (show (Int32.ofInt 2).toNatClampNeg = 2 from rfl)).trans (rfl)) k
    have k := ly_revb 1 (c' := (if (J (p 4) 2) ≤ v6 then 94 else 42, [(0, .ref (p 0)), (1, .int v1), (2, .int v2), (3, .int v3), (4, .int v4), (5, .int v5), (6, .int v6)], [], me_w M J)) rfl k
    have h39 : (J (p 4) 2) ≤ v6 := lx_end hc.2.2
    rw [if_pos h39] at k
    have k := ly_revb 1 (c' := (95, [(0, .ref (p 0)), (1, .int v1), (2, .int v2), (3, .int v3), (4, .int v4), (5, .int v5), (6, .int v6)], [.ref (p 0)], me_w M J)) rfl k
    have k := lz_get (a := (p 0)) (g := 1127) (M := me_w M J) (v := .ref (p 4)) rfl (nt_gfR rfl (hp.1 (0, 27, 4) (by decide))) k
    have k := ly_revb 8 (c' := (109, [(0, .ref (p 0)), (1, .int v1), (2, .int v2), (3, .int v3), (4, .int v4), (5, .int v5), (6, .int v6)], [.int (((Int32.ofInt 10) + ((Int32.ofInt 7) * v2)) + (Int32.ofInt 6)), .ref (p 4), .int (((Int32.ofInt 10) + ((Int32.ofInt 7) * v2)) + (Int32.ofInt 6)), .ref (p 4)], me_w M J)) rfl k
    have k := mx_iald (v := J (p 4) ((((Int32.ofInt 10) + ((Int32.ofInt 7) * v2)) + (Int32.ofInt 6)).toNatClampNeg)) rfl (hp.2.2.1 4 (by omega)) (rfl) k
    have k := ly_revb 2 (c' := (113, [(0, .ref (p 0)), (1, .int v1), (2, .int v2), (3, .int v3), (4, .int v4), (5, .int v5), (6, .int v6)], [.int ((J (p 4) ((((Int32.ofInt 10) + ((Int32.ofInt 7) * v2)) + (Int32.ofInt 6)).toNatClampNeg)) + v5), .int (((Int32.ofInt 10) + ((Int32.ofInt 7) * v2)) + (Int32.ofInt 6)), .ref (p 4)], me_w M J)) rfl k
    have k := mx_iast (q := (((Int32.ofInt 10) + ((Int32.ofInt 7) * v2)) + (Int32.ofInt 6)).toNatClampNeg) rfl rfl k
    have k : nt_rn X _ 191 (114, [(0, .ref (p 0)), (1, .int v1), (2, .int v2), (3, .int v3), (4, .int v4), (5, .int v5), (6, .int v6)], [], me_w M (nt_u J (p 4) ((((Int32.ofInt 10) + ((Int32.ofInt 7) * v2)) + (Int32.ofInt 6)).toNatClampNeg) ((J (p 4) ((((Int32.ofInt 10) + ((Int32.ofInt 7) * v2)) + (Int32.ofInt 6)).toNatClampNeg)) + v5))) _ := k
    have k := ly_revb 1 (c' := (115, [(0, .ref (p 0)), (1, .int v1), (2, .int v2), (3, .int v3), (4, .int v4), (5, .int v5), (6, .int v6)], [.ref (p 0)], me_w M (nt_u J (p 4) ((((Int32.ofInt 10) + ((Int32.ofInt 7) * v2)) + (Int32.ofInt 6)).toNatClampNeg) ((J (p 4) ((((Int32.ofInt 10) + ((Int32.ofInt 7) * v2)) + (Int32.ofInt 6)).toNatClampNeg)) + v5)))) rfl k
    have k := lz_get (a := (p 0)) (g := 1127) (M := me_w M (nt_u J (p 4) ((((Int32.ofInt 10) + ((Int32.ofInt 7) * v2)) + (Int32.ofInt 6)).toNatClampNeg) ((J (p 4) ((((Int32.ofInt 10) + ((Int32.ofInt 7) * v2)) + (Int32.ofInt 6)).toNatClampNeg)) + v5))) (v := .ref (p 4)) rfl (nt_gfR rfl (hp.1 (0, 27, 4) (by decide))) k
    have k := ly_revb 2 (c' := (121, [(0, .ref (p 0)), (1, .int v1), (2, .int v2), (3, .int v3), (4, .int v4), (5, .int v5), (6, .int v6)], [.int (Int32.ofInt 7), .ref (p 4), .int (Int32.ofInt 7), .ref (p 4)], me_w M (nt_u J (p 4) ((((Int32.ofInt 10) + ((Int32.ofInt 7) * v2)) + (Int32.ofInt 6)).toNatClampNeg) ((J (p 4) ((((Int32.ofInt 10) + ((Int32.ofInt 7) * v2)) + (Int32.ofInt 6)).toNatClampNeg)) + v5)))) rfl k
    have k := mx_iald (v := (nt_u J (p 4) ((((Int32.ofInt 10) + ((Int32.ofInt 7) * v2)) + (Int32.ofInt 6)).toNatClampNeg) ((J (p 4) ((((Int32.ofInt 10) + ((Int32.ofInt 7) * v2)) + (Int32.ofInt 6)).toNatClampNeg)) + v5)) (p 4) 7) rfl (hp.2.2.1 4 (by omega)) ((congrArg ((nt_u J (p 4) ((((Int32.ofInt 10) + ((Int32.ofInt 7) * v2)) + (Int32.ofInt 6)).toNatClampNeg) ((J (p 4) ((((Int32.ofInt 10) + ((Int32.ofInt 7) * v2)) + (Int32.ofInt 6)).toNatClampNeg)) + v5)) (p 4)) (show (Int32.ofInt 7).toNatClampNeg = 7 from rfl)).trans (rfl)) k
    have k := ly_revb 2 (c' := (124, [(0, .ref (p 0)), (1, .int v1), (2, .int v2), (3, .int v3), (4, .int v4), (5, .int v5), (6, .int v6)], [.int (((nt_u J (p 4) ((((Int32.ofInt 10) + ((Int32.ofInt 7) * v2)) + (Int32.ofInt 6)).toNatClampNeg) ((J (p 4) ((((Int32.ofInt 10) + ((Int32.ofInt 7) * v2)) + (Int32.ofInt 6)).toNatClampNeg)) + v5)) (p 4) 7) + v3), .int (Int32.ofInt 7), .ref (p 4)], me_w M (nt_u J (p 4) ((((Int32.ofInt 10) + ((Int32.ofInt 7) * v2)) + (Int32.ofInt 6)).toNatClampNeg) ((J (p 4) ((((Int32.ofInt 10) + ((Int32.ofInt 7) * v2)) + (Int32.ofInt 6)).toNatClampNeg)) + v5)))) rfl k
    have k := mx_iast (q := 7) rfl (show (Int32.ofInt 7).toNatClampNeg = 7 from rfl) k
    have k : nt_rn X _ 191 (125, [(0, .ref (p 0)), (1, .int v1), (2, .int v2), (3, .int v3), (4, .int v4), (5, .int v5), (6, .int v6)], [], me_w M (nt_u (nt_u J (p 4) ((((Int32.ofInt 10) + ((Int32.ofInt 7) * v2)) + (Int32.ofInt 6)).toNatClampNeg) ((J (p 4) ((((Int32.ofInt 10) + ((Int32.ofInt 7) * v2)) + (Int32.ofInt 6)).toNatClampNeg)) + v5)) (p 4) 7 (((nt_u J (p 4) ((((Int32.ofInt 10) + ((Int32.ofInt 7) * v2)) + (Int32.ofInt 6)).toNatClampNeg) ((J (p 4) ((((Int32.ofInt 10) + ((Int32.ofInt 7) * v2)) + (Int32.ofInt 6)).toNatClampNeg)) + v5)) (p 4) 7) + v3))) _ := k
    have k := ly_revb 1 (c' := (126, [(0, .ref (p 0)), (1, .int v1), (2, .int v2), (3, .int v3), (4, .int v4), (5, .int v5), (6, .int v6)], [.ref (p 0)], me_w M (nt_u (nt_u J (p 4) ((((Int32.ofInt 10) + ((Int32.ofInt 7) * v2)) + (Int32.ofInt 6)).toNatClampNeg) ((J (p 4) ((((Int32.ofInt 10) + ((Int32.ofInt 7) * v2)) + (Int32.ofInt 6)).toNatClampNeg)) + v5)) (p 4) 7 (((nt_u J (p 4) ((((Int32.ofInt 10) + ((Int32.ofInt 7) * v2)) + (Int32.ofInt 6)).toNatClampNeg) ((J (p 4) ((((Int32.ofInt 10) + ((Int32.ofInt 7) * v2)) + (Int32.ofInt 6)).toNatClampNeg)) + v5)) (p 4) 7) + v3)))) rfl k
    have k := lz_get (a := (p 0)) (g := 1127) (M := me_w M (nt_u (nt_u J (p 4) ((((Int32.ofInt 10) + ((Int32.ofInt 7) * v2)) + (Int32.ofInt 6)).toNatClampNeg) ((J (p 4) ((((Int32.ofInt 10) + ((Int32.ofInt 7) * v2)) + (Int32.ofInt 6)).toNatClampNeg)) + v5)) (p 4) 7 (((nt_u J (p 4) ((((Int32.ofInt 10) + ((Int32.ofInt 7) * v2)) + (Int32.ofInt 6)).toNatClampNeg) ((J (p 4) ((((Int32.ofInt 10) + ((Int32.ofInt 7) * v2)) + (Int32.ofInt 6)).toNatClampNeg)) + v5)) (p 4) 7) + v3))) (v := .ref (p 4)) rfl (nt_gfR rfl (hp.1 (0, 27, 4) (by decide))) k
    have k := ly_revb 8 (c' := (139, [(0, .ref (p 0)), (1, .int v1), (2, .int v2), (3, .int v3), (4, .int v4), (5, .int v5), (6, .int v6)], [.int (Int32.ofInt 0), .int (((Int32.ofInt 10) + ((Int32.ofInt 7) * v2)) + (Int32.ofInt 4)), .ref (p 4)], me_w M (nt_u (nt_u J (p 4) ((((Int32.ofInt 10) + ((Int32.ofInt 7) * v2)) + (Int32.ofInt 6)).toNatClampNeg) ((J (p 4) ((((Int32.ofInt 10) + ((Int32.ofInt 7) * v2)) + (Int32.ofInt 6)).toNatClampNeg)) + v5)) (p 4) 7 (((nt_u J (p 4) ((((Int32.ofInt 10) + ((Int32.ofInt 7) * v2)) + (Int32.ofInt 6)).toNatClampNeg) ((J (p 4) ((((Int32.ofInt 10) + ((Int32.ofInt 7) * v2)) + (Int32.ofInt 6)).toNatClampNeg)) + v5)) (p 4) 7) + v3)))) rfl k
    have k := mx_iast (q := (((Int32.ofInt 10) + ((Int32.ofInt 7) * v2)) + (Int32.ofInt 4)).toNatClampNeg) rfl rfl k
    have k : nt_rn X _ 191 (140, [(0, .ref (p 0)), (1, .int v1), (2, .int v2), (3, .int v3), (4, .int v4), (5, .int v5), (6, .int v6)], [], me_w M (nt_u (nt_u (nt_u J (p 4) ((((Int32.ofInt 10) + ((Int32.ofInt 7) * v2)) + (Int32.ofInt 6)).toNatClampNeg) ((J (p 4) ((((Int32.ofInt 10) + ((Int32.ofInt 7) * v2)) + (Int32.ofInt 6)).toNatClampNeg)) + v5)) (p 4) 7 (((nt_u J (p 4) ((((Int32.ofInt 10) + ((Int32.ofInt 7) * v2)) + (Int32.ofInt 6)).toNatClampNeg) ((J (p 4) ((((Int32.ofInt 10) + ((Int32.ofInt 7) * v2)) + (Int32.ofInt 6)).toNatClampNeg)) + v5)) (p 4) 7) + v3)) (p 4) ((((Int32.ofInt 10) + ((Int32.ofInt 7) * v2)) + (Int32.ofInt 4)).toNatClampNeg) (Int32.ofInt 0))) _ := k
    have k := ly_revb 1 (c' := (141, [(0, .ref (p 0)), (1, .int v1), (2, .int v2), (3, .int v3), (4, .int v4), (5, .int v5), (6, .int v6)], [.ref (p 0)], me_w M (nt_u (nt_u (nt_u J (p 4) ((((Int32.ofInt 10) + ((Int32.ofInt 7) * v2)) + (Int32.ofInt 6)).toNatClampNeg) ((J (p 4) ((((Int32.ofInt 10) + ((Int32.ofInt 7) * v2)) + (Int32.ofInt 6)).toNatClampNeg)) + v5)) (p 4) 7 (((nt_u J (p 4) ((((Int32.ofInt 10) + ((Int32.ofInt 7) * v2)) + (Int32.ofInt 6)).toNatClampNeg) ((J (p 4) ((((Int32.ofInt 10) + ((Int32.ofInt 7) * v2)) + (Int32.ofInt 6)).toNatClampNeg)) + v5)) (p 4) 7) + v3)) (p 4) ((((Int32.ofInt 10) + ((Int32.ofInt 7) * v2)) + (Int32.ofInt 4)).toNatClampNeg) (Int32.ofInt 0)))) rfl k
    have k := lz_get (a := (p 0)) (g := 1127) (M := me_w M (nt_u (nt_u (nt_u J (p 4) ((((Int32.ofInt 10) + ((Int32.ofInt 7) * v2)) + (Int32.ofInt 6)).toNatClampNeg) ((J (p 4) ((((Int32.ofInt 10) + ((Int32.ofInt 7) * v2)) + (Int32.ofInt 6)).toNatClampNeg)) + v5)) (p 4) 7 (((nt_u J (p 4) ((((Int32.ofInt 10) + ((Int32.ofInt 7) * v2)) + (Int32.ofInt 6)).toNatClampNeg) ((J (p 4) ((((Int32.ofInt 10) + ((Int32.ofInt 7) * v2)) + (Int32.ofInt 6)).toNatClampNeg)) + v5)) (p 4) 7) + v3)) (p 4) ((((Int32.ofInt 10) + ((Int32.ofInt 7) * v2)) + (Int32.ofInt 4)).toNatClampNeg) (Int32.ofInt 0))) (v := .ref (p 4)) rfl (nt_gfR rfl (hp.1 (0, 27, 4) (by decide))) k
    have k := ly_revb 8 (c' := (154, [(0, .ref (p 0)), (1, .int v1), (2, .int v2), (3, .int v3), (4, .int v4), (5, .int v5), (6, .int v6)], [.int (Int32.ofInt (-1)), .int (((Int32.ofInt 10) + ((Int32.ofInt 7) * v2)) + (Int32.ofInt 5)), .ref (p 4)], me_w M (nt_u (nt_u (nt_u J (p 4) ((((Int32.ofInt 10) + ((Int32.ofInt 7) * v2)) + (Int32.ofInt 6)).toNatClampNeg) ((J (p 4) ((((Int32.ofInt 10) + ((Int32.ofInt 7) * v2)) + (Int32.ofInt 6)).toNatClampNeg)) + v5)) (p 4) 7 (((nt_u J (p 4) ((((Int32.ofInt 10) + ((Int32.ofInt 7) * v2)) + (Int32.ofInt 6)).toNatClampNeg) ((J (p 4) ((((Int32.ofInt 10) + ((Int32.ofInt 7) * v2)) + (Int32.ofInt 6)).toNatClampNeg)) + v5)) (p 4) 7) + v3)) (p 4) ((((Int32.ofInt 10) + ((Int32.ofInt 7) * v2)) + (Int32.ofInt 4)).toNatClampNeg) (Int32.ofInt 0)))) rfl k
    have k := mx_iast (q := (((Int32.ofInt 10) + ((Int32.ofInt 7) * v2)) + (Int32.ofInt 5)).toNatClampNeg) rfl rfl k
    have k : nt_rn X _ 191 (155, [(0, .ref (p 0)), (1, .int v1), (2, .int v2), (3, .int v3), (4, .int v4), (5, .int v5), (6, .int v6)], [], me_w M (nt_u (nt_u (nt_u (nt_u J (p 4) ((((Int32.ofInt 10) + ((Int32.ofInt 7) * v2)) + (Int32.ofInt 6)).toNatClampNeg) ((J (p 4) ((((Int32.ofInt 10) + ((Int32.ofInt 7) * v2)) + (Int32.ofInt 6)).toNatClampNeg)) + v5)) (p 4) 7 (((nt_u J (p 4) ((((Int32.ofInt 10) + ((Int32.ofInt 7) * v2)) + (Int32.ofInt 6)).toNatClampNeg) ((J (p 4) ((((Int32.ofInt 10) + ((Int32.ofInt 7) * v2)) + (Int32.ofInt 6)).toNatClampNeg)) + v5)) (p 4) 7) + v3)) (p 4) ((((Int32.ofInt 10) + ((Int32.ofInt 7) * v2)) + (Int32.ofInt 4)).toNatClampNeg) (Int32.ofInt 0)) (p 4) ((((Int32.ofInt 10) + ((Int32.ofInt 7) * v2)) + (Int32.ofInt 5)).toNatClampNeg) (Int32.ofInt (-1)))) _ := k
    have k := ly_revb 1 (c' := (156, [(0, .ref (p 0)), (1, .int v1), (2, .int v2), (3, .int v3), (4, .int v4), (5, .int v5), (6, .int v6)], [.ref (p 0)], me_w M (nt_u (nt_u (nt_u (nt_u J (p 4) ((((Int32.ofInt 10) + ((Int32.ofInt 7) * v2)) + (Int32.ofInt 6)).toNatClampNeg) ((J (p 4) ((((Int32.ofInt 10) + ((Int32.ofInt 7) * v2)) + (Int32.ofInt 6)).toNatClampNeg)) + v5)) (p 4) 7 (((nt_u J (p 4) ((((Int32.ofInt 10) + ((Int32.ofInt 7) * v2)) + (Int32.ofInt 6)).toNatClampNeg) ((J (p 4) ((((Int32.ofInt 10) + ((Int32.ofInt 7) * v2)) + (Int32.ofInt 6)).toNatClampNeg)) + v5)) (p 4) 7) + v3)) (p 4) ((((Int32.ofInt 10) + ((Int32.ofInt 7) * v2)) + (Int32.ofInt 4)).toNatClampNeg) (Int32.ofInt 0)) (p 4) ((((Int32.ofInt 10) + ((Int32.ofInt 7) * v2)) + (Int32.ofInt 5)).toNatClampNeg) (Int32.ofInt (-1))))) rfl k
    have k := lz_get (a := (p 0)) (g := 1127) (M := me_w M (nt_u (nt_u (nt_u (nt_u J (p 4) ((((Int32.ofInt 10) + ((Int32.ofInt 7) * v2)) + (Int32.ofInt 6)).toNatClampNeg) ((J (p 4) ((((Int32.ofInt 10) + ((Int32.ofInt 7) * v2)) + (Int32.ofInt 6)).toNatClampNeg)) + v5)) (p 4) 7 (((nt_u J (p 4) ((((Int32.ofInt 10) + ((Int32.ofInt 7) * v2)) + (Int32.ofInt 6)).toNatClampNeg) ((J (p 4) ((((Int32.ofInt 10) + ((Int32.ofInt 7) * v2)) + (Int32.ofInt 6)).toNatClampNeg)) + v5)) (p 4) 7) + v3)) (p 4) ((((Int32.ofInt 10) + ((Int32.ofInt 7) * v2)) + (Int32.ofInt 4)).toNatClampNeg) (Int32.ofInt 0)) (p 4) ((((Int32.ofInt 10) + ((Int32.ofInt 7) * v2)) + (Int32.ofInt 5)).toNatClampNeg) (Int32.ofInt (-1)))) (v := .ref (p 4)) rfl (nt_gfR rfl (hp.1 (0, 27, 4) (by decide))) k
    have k := ly_revb 8 (c' := (169, [(0, .ref (p 0)), (1, .int v1), (2, .int v2), (3, .int v3), (4, .int v4), (5, .int v5), (6, .int v6)], [.int (Int32.ofInt 2), .int (((Int32.ofInt 172) + ((Int32.ofInt 5) * v1)) + (Int32.ofInt 4)), .ref (p 4)], me_w M (nt_u (nt_u (nt_u (nt_u J (p 4) ((((Int32.ofInt 10) + ((Int32.ofInt 7) * v2)) + (Int32.ofInt 6)).toNatClampNeg) ((J (p 4) ((((Int32.ofInt 10) + ((Int32.ofInt 7) * v2)) + (Int32.ofInt 6)).toNatClampNeg)) + v5)) (p 4) 7 (((nt_u J (p 4) ((((Int32.ofInt 10) + ((Int32.ofInt 7) * v2)) + (Int32.ofInt 6)).toNatClampNeg) ((J (p 4) ((((Int32.ofInt 10) + ((Int32.ofInt 7) * v2)) + (Int32.ofInt 6)).toNatClampNeg)) + v5)) (p 4) 7) + v3)) (p 4) ((((Int32.ofInt 10) + ((Int32.ofInt 7) * v2)) + (Int32.ofInt 4)).toNatClampNeg) (Int32.ofInt 0)) (p 4) ((((Int32.ofInt 10) + ((Int32.ofInt 7) * v2)) + (Int32.ofInt 5)).toNatClampNeg) (Int32.ofInt (-1))))) rfl k
    have k := mx_iast (q := (((Int32.ofInt 172) + ((Int32.ofInt 5) * v1)) + (Int32.ofInt 4)).toNatClampNeg) rfl rfl k
    have k : nt_rn X _ 191 (170, [(0, .ref (p 0)), (1, .int v1), (2, .int v2), (3, .int v3), (4, .int v4), (5, .int v5), (6, .int v6)], [], me_w M (nt_u (nt_u (nt_u (nt_u (nt_u J (p 4) ((((Int32.ofInt 10) + ((Int32.ofInt 7) * v2)) + (Int32.ofInt 6)).toNatClampNeg) ((J (p 4) ((((Int32.ofInt 10) + ((Int32.ofInt 7) * v2)) + (Int32.ofInt 6)).toNatClampNeg)) + v5)) (p 4) 7 (((nt_u J (p 4) ((((Int32.ofInt 10) + ((Int32.ofInt 7) * v2)) + (Int32.ofInt 6)).toNatClampNeg) ((J (p 4) ((((Int32.ofInt 10) + ((Int32.ofInt 7) * v2)) + (Int32.ofInt 6)).toNatClampNeg)) + v5)) (p 4) 7) + v3)) (p 4) ((((Int32.ofInt 10) + ((Int32.ofInt 7) * v2)) + (Int32.ofInt 4)).toNatClampNeg) (Int32.ofInt 0)) (p 4) ((((Int32.ofInt 10) + ((Int32.ofInt 7) * v2)) + (Int32.ofInt 5)).toNatClampNeg) (Int32.ofInt (-1))) (p 4) ((((Int32.ofInt 172) + ((Int32.ofInt 5) * v1)) + (Int32.ofInt 4)).toNatClampNeg) (Int32.ofInt 2))) _ := k
    have k := lz_rv rfl rfl k
    rw [k, x191_31]
  | succ c ih =>
    intro v5 v6 J hc k
    have k := ly_revb 2 (c' := (34, [(0, .ref (p 0)), (1, .int v1), (2, .int v2), (3, .int v3), (4, .int v4), (5, .int v5), (6, .int v6)], [.ref (p 0), .int v6], me_w M J)) rfl k
    have k := lz_get (a := (p 0)) (g := 1127) (M := me_w M J) (v := .ref (p 4)) rfl (nt_gfR rfl (hp.1 (0, 27, 4) (by decide))) k
    have k := ly_revb 1 (c' := (38, [(0, .ref (p 0)), (1, .int v1), (2, .int v2), (3, .int v3), (4, .int v4), (5, .int v5), (6, .int v6)], [.int (Int32.ofInt 2), .ref (p 4), .int v6], me_w M J)) rfl k
    have k := mx_iald (v := J (p 4) 2) rfl (hp.2.2.1 4 (by omega)) ((congrArg (J (p 4)) (show (Int32.ofInt 2).toNatClampNeg = 2 from rfl)).trans (rfl)) k
    have k := ly_revb 1 (c' := (if (J (p 4) 2) ≤ v6 then 94 else 42, [(0, .ref (p 0)), (1, .int v1), (2, .int v2), (3, .int v3), (4, .int v4), (5, .int v5), (6, .int v6)], [], me_w M J)) rfl k
    by_cases h39 : (J (p 4) 2) ≤ v6
    · rw [if_pos h39] at k
      have k := ly_revb 1 (c' := (95, [(0, .ref (p 0)), (1, .int v1), (2, .int v2), (3, .int v3), (4, .int v4), (5, .int v5), (6, .int v6)], [.ref (p 0)], me_w M J)) rfl k
      have k := lz_get (a := (p 0)) (g := 1127) (M := me_w M J) (v := .ref (p 4)) rfl (nt_gfR rfl (hp.1 (0, 27, 4) (by decide))) k
      have k := ly_revb 8 (c' := (109, [(0, .ref (p 0)), (1, .int v1), (2, .int v2), (3, .int v3), (4, .int v4), (5, .int v5), (6, .int v6)], [.int (((Int32.ofInt 10) + ((Int32.ofInt 7) * v2)) + (Int32.ofInt 6)), .ref (p 4), .int (((Int32.ofInt 10) + ((Int32.ofInt 7) * v2)) + (Int32.ofInt 6)), .ref (p 4)], me_w M J)) rfl k
      have k := mx_iald (v := J (p 4) ((((Int32.ofInt 10) + ((Int32.ofInt 7) * v2)) + (Int32.ofInt 6)).toNatClampNeg)) rfl (hp.2.2.1 4 (by omega)) (rfl) k
      have k := ly_revb 2 (c' := (113, [(0, .ref (p 0)), (1, .int v1), (2, .int v2), (3, .int v3), (4, .int v4), (5, .int v5), (6, .int v6)], [.int ((J (p 4) ((((Int32.ofInt 10) + ((Int32.ofInt 7) * v2)) + (Int32.ofInt 6)).toNatClampNeg)) + v5), .int (((Int32.ofInt 10) + ((Int32.ofInt 7) * v2)) + (Int32.ofInt 6)), .ref (p 4)], me_w M J)) rfl k
      have k := mx_iast (q := (((Int32.ofInt 10) + ((Int32.ofInt 7) * v2)) + (Int32.ofInt 6)).toNatClampNeg) rfl rfl k
      have k : nt_rn X _ 191 (114, [(0, .ref (p 0)), (1, .int v1), (2, .int v2), (3, .int v3), (4, .int v4), (5, .int v5), (6, .int v6)], [], me_w M (nt_u J (p 4) ((((Int32.ofInt 10) + ((Int32.ofInt 7) * v2)) + (Int32.ofInt 6)).toNatClampNeg) ((J (p 4) ((((Int32.ofInt 10) + ((Int32.ofInt 7) * v2)) + (Int32.ofInt 6)).toNatClampNeg)) + v5))) _ := k
      have k := ly_revb 1 (c' := (115, [(0, .ref (p 0)), (1, .int v1), (2, .int v2), (3, .int v3), (4, .int v4), (5, .int v5), (6, .int v6)], [.ref (p 0)], me_w M (nt_u J (p 4) ((((Int32.ofInt 10) + ((Int32.ofInt 7) * v2)) + (Int32.ofInt 6)).toNatClampNeg) ((J (p 4) ((((Int32.ofInt 10) + ((Int32.ofInt 7) * v2)) + (Int32.ofInt 6)).toNatClampNeg)) + v5)))) rfl k
      have k := lz_get (a := (p 0)) (g := 1127) (M := me_w M (nt_u J (p 4) ((((Int32.ofInt 10) + ((Int32.ofInt 7) * v2)) + (Int32.ofInt 6)).toNatClampNeg) ((J (p 4) ((((Int32.ofInt 10) + ((Int32.ofInt 7) * v2)) + (Int32.ofInt 6)).toNatClampNeg)) + v5))) (v := .ref (p 4)) rfl (nt_gfR rfl (hp.1 (0, 27, 4) (by decide))) k
      have k := ly_revb 2 (c' := (121, [(0, .ref (p 0)), (1, .int v1), (2, .int v2), (3, .int v3), (4, .int v4), (5, .int v5), (6, .int v6)], [.int (Int32.ofInt 7), .ref (p 4), .int (Int32.ofInt 7), .ref (p 4)], me_w M (nt_u J (p 4) ((((Int32.ofInt 10) + ((Int32.ofInt 7) * v2)) + (Int32.ofInt 6)).toNatClampNeg) ((J (p 4) ((((Int32.ofInt 10) + ((Int32.ofInt 7) * v2)) + (Int32.ofInt 6)).toNatClampNeg)) + v5)))) rfl k
      have k := mx_iald (v := (nt_u J (p 4) ((((Int32.ofInt 10) + ((Int32.ofInt 7) * v2)) + (Int32.ofInt 6)).toNatClampNeg) ((J (p 4) ((((Int32.ofInt 10) + ((Int32.ofInt 7) * v2)) + (Int32.ofInt 6)).toNatClampNeg)) + v5)) (p 4) 7) rfl (hp.2.2.1 4 (by omega)) ((congrArg ((nt_u J (p 4) ((((Int32.ofInt 10) + ((Int32.ofInt 7) * v2)) + (Int32.ofInt 6)).toNatClampNeg) ((J (p 4) ((((Int32.ofInt 10) + ((Int32.ofInt 7) * v2)) + (Int32.ofInt 6)).toNatClampNeg)) + v5)) (p 4)) (show (Int32.ofInt 7).toNatClampNeg = 7 from rfl)).trans (rfl)) k
      have k := ly_revb 2 (c' := (124, [(0, .ref (p 0)), (1, .int v1), (2, .int v2), (3, .int v3), (4, .int v4), (5, .int v5), (6, .int v6)], [.int (((nt_u J (p 4) ((((Int32.ofInt 10) + ((Int32.ofInt 7) * v2)) + (Int32.ofInt 6)).toNatClampNeg) ((J (p 4) ((((Int32.ofInt 10) + ((Int32.ofInt 7) * v2)) + (Int32.ofInt 6)).toNatClampNeg)) + v5)) (p 4) 7) + v3), .int (Int32.ofInt 7), .ref (p 4)], me_w M (nt_u J (p 4) ((((Int32.ofInt 10) + ((Int32.ofInt 7) * v2)) + (Int32.ofInt 6)).toNatClampNeg) ((J (p 4) ((((Int32.ofInt 10) + ((Int32.ofInt 7) * v2)) + (Int32.ofInt 6)).toNatClampNeg)) + v5)))) rfl k
      have k := mx_iast (q := 7) rfl (show (Int32.ofInt 7).toNatClampNeg = 7 from rfl) k
      have k : nt_rn X _ 191 (125, [(0, .ref (p 0)), (1, .int v1), (2, .int v2), (3, .int v3), (4, .int v4), (5, .int v5), (6, .int v6)], [], me_w M (nt_u (nt_u J (p 4) ((((Int32.ofInt 10) + ((Int32.ofInt 7) * v2)) + (Int32.ofInt 6)).toNatClampNeg) ((J (p 4) ((((Int32.ofInt 10) + ((Int32.ofInt 7) * v2)) + (Int32.ofInt 6)).toNatClampNeg)) + v5)) (p 4) 7 (((nt_u J (p 4) ((((Int32.ofInt 10) + ((Int32.ofInt 7) * v2)) + (Int32.ofInt 6)).toNatClampNeg) ((J (p 4) ((((Int32.ofInt 10) + ((Int32.ofInt 7) * v2)) + (Int32.ofInt 6)).toNatClampNeg)) + v5)) (p 4) 7) + v3))) _ := k
      have k := ly_revb 1 (c' := (126, [(0, .ref (p 0)), (1, .int v1), (2, .int v2), (3, .int v3), (4, .int v4), (5, .int v5), (6, .int v6)], [.ref (p 0)], me_w M (nt_u (nt_u J (p 4) ((((Int32.ofInt 10) + ((Int32.ofInt 7) * v2)) + (Int32.ofInt 6)).toNatClampNeg) ((J (p 4) ((((Int32.ofInt 10) + ((Int32.ofInt 7) * v2)) + (Int32.ofInt 6)).toNatClampNeg)) + v5)) (p 4) 7 (((nt_u J (p 4) ((((Int32.ofInt 10) + ((Int32.ofInt 7) * v2)) + (Int32.ofInt 6)).toNatClampNeg) ((J (p 4) ((((Int32.ofInt 10) + ((Int32.ofInt 7) * v2)) + (Int32.ofInt 6)).toNatClampNeg)) + v5)) (p 4) 7) + v3)))) rfl k
      have k := lz_get (a := (p 0)) (g := 1127) (M := me_w M (nt_u (nt_u J (p 4) ((((Int32.ofInt 10) + ((Int32.ofInt 7) * v2)) + (Int32.ofInt 6)).toNatClampNeg) ((J (p 4) ((((Int32.ofInt 10) + ((Int32.ofInt 7) * v2)) + (Int32.ofInt 6)).toNatClampNeg)) + v5)) (p 4) 7 (((nt_u J (p 4) ((((Int32.ofInt 10) + ((Int32.ofInt 7) * v2)) + (Int32.ofInt 6)).toNatClampNeg) ((J (p 4) ((((Int32.ofInt 10) + ((Int32.ofInt 7) * v2)) + (Int32.ofInt 6)).toNatClampNeg)) + v5)) (p 4) 7) + v3))) (v := .ref (p 4)) rfl (nt_gfR rfl (hp.1 (0, 27, 4) (by decide))) k
      have k := ly_revb 8 (c' := (139, [(0, .ref (p 0)), (1, .int v1), (2, .int v2), (3, .int v3), (4, .int v4), (5, .int v5), (6, .int v6)], [.int (Int32.ofInt 0), .int (((Int32.ofInt 10) + ((Int32.ofInt 7) * v2)) + (Int32.ofInt 4)), .ref (p 4)], me_w M (nt_u (nt_u J (p 4) ((((Int32.ofInt 10) + ((Int32.ofInt 7) * v2)) + (Int32.ofInt 6)).toNatClampNeg) ((J (p 4) ((((Int32.ofInt 10) + ((Int32.ofInt 7) * v2)) + (Int32.ofInt 6)).toNatClampNeg)) + v5)) (p 4) 7 (((nt_u J (p 4) ((((Int32.ofInt 10) + ((Int32.ofInt 7) * v2)) + (Int32.ofInt 6)).toNatClampNeg) ((J (p 4) ((((Int32.ofInt 10) + ((Int32.ofInt 7) * v2)) + (Int32.ofInt 6)).toNatClampNeg)) + v5)) (p 4) 7) + v3)))) rfl k
      have k := mx_iast (q := (((Int32.ofInt 10) + ((Int32.ofInt 7) * v2)) + (Int32.ofInt 4)).toNatClampNeg) rfl rfl k
      have k : nt_rn X _ 191 (140, [(0, .ref (p 0)), (1, .int v1), (2, .int v2), (3, .int v3), (4, .int v4), (5, .int v5), (6, .int v6)], [], me_w M (nt_u (nt_u (nt_u J (p 4) ((((Int32.ofInt 10) + ((Int32.ofInt 7) * v2)) + (Int32.ofInt 6)).toNatClampNeg) ((J (p 4) ((((Int32.ofInt 10) + ((Int32.ofInt 7) * v2)) + (Int32.ofInt 6)).toNatClampNeg)) + v5)) (p 4) 7 (((nt_u J (p 4) ((((Int32.ofInt 10) + ((Int32.ofInt 7) * v2)) + (Int32.ofInt 6)).toNatClampNeg) ((J (p 4) ((((Int32.ofInt 10) + ((Int32.ofInt 7) * v2)) + (Int32.ofInt 6)).toNatClampNeg)) + v5)) (p 4) 7) + v3)) (p 4) ((((Int32.ofInt 10) + ((Int32.ofInt 7) * v2)) + (Int32.ofInt 4)).toNatClampNeg) (Int32.ofInt 0))) _ := k
      have k := ly_revb 1 (c' := (141, [(0, .ref (p 0)), (1, .int v1), (2, .int v2), (3, .int v3), (4, .int v4), (5, .int v5), (6, .int v6)], [.ref (p 0)], me_w M (nt_u (nt_u (nt_u J (p 4) ((((Int32.ofInt 10) + ((Int32.ofInt 7) * v2)) + (Int32.ofInt 6)).toNatClampNeg) ((J (p 4) ((((Int32.ofInt 10) + ((Int32.ofInt 7) * v2)) + (Int32.ofInt 6)).toNatClampNeg)) + v5)) (p 4) 7 (((nt_u J (p 4) ((((Int32.ofInt 10) + ((Int32.ofInt 7) * v2)) + (Int32.ofInt 6)).toNatClampNeg) ((J (p 4) ((((Int32.ofInt 10) + ((Int32.ofInt 7) * v2)) + (Int32.ofInt 6)).toNatClampNeg)) + v5)) (p 4) 7) + v3)) (p 4) ((((Int32.ofInt 10) + ((Int32.ofInt 7) * v2)) + (Int32.ofInt 4)).toNatClampNeg) (Int32.ofInt 0)))) rfl k
      have k := lz_get (a := (p 0)) (g := 1127) (M := me_w M (nt_u (nt_u (nt_u J (p 4) ((((Int32.ofInt 10) + ((Int32.ofInt 7) * v2)) + (Int32.ofInt 6)).toNatClampNeg) ((J (p 4) ((((Int32.ofInt 10) + ((Int32.ofInt 7) * v2)) + (Int32.ofInt 6)).toNatClampNeg)) + v5)) (p 4) 7 (((nt_u J (p 4) ((((Int32.ofInt 10) + ((Int32.ofInt 7) * v2)) + (Int32.ofInt 6)).toNatClampNeg) ((J (p 4) ((((Int32.ofInt 10) + ((Int32.ofInt 7) * v2)) + (Int32.ofInt 6)).toNatClampNeg)) + v5)) (p 4) 7) + v3)) (p 4) ((((Int32.ofInt 10) + ((Int32.ofInt 7) * v2)) + (Int32.ofInt 4)).toNatClampNeg) (Int32.ofInt 0))) (v := .ref (p 4)) rfl (nt_gfR rfl (hp.1 (0, 27, 4) (by decide))) k
      have k := ly_revb 8 (c' := (154, [(0, .ref (p 0)), (1, .int v1), (2, .int v2), (3, .int v3), (4, .int v4), (5, .int v5), (6, .int v6)], [.int (Int32.ofInt (-1)), .int (((Int32.ofInt 10) + ((Int32.ofInt 7) * v2)) + (Int32.ofInt 5)), .ref (p 4)], me_w M (nt_u (nt_u (nt_u J (p 4) ((((Int32.ofInt 10) + ((Int32.ofInt 7) * v2)) + (Int32.ofInt 6)).toNatClampNeg) ((J (p 4) ((((Int32.ofInt 10) + ((Int32.ofInt 7) * v2)) + (Int32.ofInt 6)).toNatClampNeg)) + v5)) (p 4) 7 (((nt_u J (p 4) ((((Int32.ofInt 10) + ((Int32.ofInt 7) * v2)) + (Int32.ofInt 6)).toNatClampNeg) ((J (p 4) ((((Int32.ofInt 10) + ((Int32.ofInt 7) * v2)) + (Int32.ofInt 6)).toNatClampNeg)) + v5)) (p 4) 7) + v3)) (p 4) ((((Int32.ofInt 10) + ((Int32.ofInt 7) * v2)) + (Int32.ofInt 4)).toNatClampNeg) (Int32.ofInt 0)))) rfl k
      have k := mx_iast (q := (((Int32.ofInt 10) + ((Int32.ofInt 7) * v2)) + (Int32.ofInt 5)).toNatClampNeg) rfl rfl k
      have k : nt_rn X _ 191 (155, [(0, .ref (p 0)), (1, .int v1), (2, .int v2), (3, .int v3), (4, .int v4), (5, .int v5), (6, .int v6)], [], me_w M (nt_u (nt_u (nt_u (nt_u J (p 4) ((((Int32.ofInt 10) + ((Int32.ofInt 7) * v2)) + (Int32.ofInt 6)).toNatClampNeg) ((J (p 4) ((((Int32.ofInt 10) + ((Int32.ofInt 7) * v2)) + (Int32.ofInt 6)).toNatClampNeg)) + v5)) (p 4) 7 (((nt_u J (p 4) ((((Int32.ofInt 10) + ((Int32.ofInt 7) * v2)) + (Int32.ofInt 6)).toNatClampNeg) ((J (p 4) ((((Int32.ofInt 10) + ((Int32.ofInt 7) * v2)) + (Int32.ofInt 6)).toNatClampNeg)) + v5)) (p 4) 7) + v3)) (p 4) ((((Int32.ofInt 10) + ((Int32.ofInt 7) * v2)) + (Int32.ofInt 4)).toNatClampNeg) (Int32.ofInt 0)) (p 4) ((((Int32.ofInt 10) + ((Int32.ofInt 7) * v2)) + (Int32.ofInt 5)).toNatClampNeg) (Int32.ofInt (-1)))) _ := k
      have k := ly_revb 1 (c' := (156, [(0, .ref (p 0)), (1, .int v1), (2, .int v2), (3, .int v3), (4, .int v4), (5, .int v5), (6, .int v6)], [.ref (p 0)], me_w M (nt_u (nt_u (nt_u (nt_u J (p 4) ((((Int32.ofInt 10) + ((Int32.ofInt 7) * v2)) + (Int32.ofInt 6)).toNatClampNeg) ((J (p 4) ((((Int32.ofInt 10) + ((Int32.ofInt 7) * v2)) + (Int32.ofInt 6)).toNatClampNeg)) + v5)) (p 4) 7 (((nt_u J (p 4) ((((Int32.ofInt 10) + ((Int32.ofInt 7) * v2)) + (Int32.ofInt 6)).toNatClampNeg) ((J (p 4) ((((Int32.ofInt 10) + ((Int32.ofInt 7) * v2)) + (Int32.ofInt 6)).toNatClampNeg)) + v5)) (p 4) 7) + v3)) (p 4) ((((Int32.ofInt 10) + ((Int32.ofInt 7) * v2)) + (Int32.ofInt 4)).toNatClampNeg) (Int32.ofInt 0)) (p 4) ((((Int32.ofInt 10) + ((Int32.ofInt 7) * v2)) + (Int32.ofInt 5)).toNatClampNeg) (Int32.ofInt (-1))))) rfl k
      have k := lz_get (a := (p 0)) (g := 1127) (M := me_w M (nt_u (nt_u (nt_u (nt_u J (p 4) ((((Int32.ofInt 10) + ((Int32.ofInt 7) * v2)) + (Int32.ofInt 6)).toNatClampNeg) ((J (p 4) ((((Int32.ofInt 10) + ((Int32.ofInt 7) * v2)) + (Int32.ofInt 6)).toNatClampNeg)) + v5)) (p 4) 7 (((nt_u J (p 4) ((((Int32.ofInt 10) + ((Int32.ofInt 7) * v2)) + (Int32.ofInt 6)).toNatClampNeg) ((J (p 4) ((((Int32.ofInt 10) + ((Int32.ofInt 7) * v2)) + (Int32.ofInt 6)).toNatClampNeg)) + v5)) (p 4) 7) + v3)) (p 4) ((((Int32.ofInt 10) + ((Int32.ofInt 7) * v2)) + (Int32.ofInt 4)).toNatClampNeg) (Int32.ofInt 0)) (p 4) ((((Int32.ofInt 10) + ((Int32.ofInt 7) * v2)) + (Int32.ofInt 5)).toNatClampNeg) (Int32.ofInt (-1)))) (v := .ref (p 4)) rfl (nt_gfR rfl (hp.1 (0, 27, 4) (by decide))) k
      have k := ly_revb 8 (c' := (169, [(0, .ref (p 0)), (1, .int v1), (2, .int v2), (3, .int v3), (4, .int v4), (5, .int v5), (6, .int v6)], [.int (Int32.ofInt 2), .int (((Int32.ofInt 172) + ((Int32.ofInt 5) * v1)) + (Int32.ofInt 4)), .ref (p 4)], me_w M (nt_u (nt_u (nt_u (nt_u J (p 4) ((((Int32.ofInt 10) + ((Int32.ofInt 7) * v2)) + (Int32.ofInt 6)).toNatClampNeg) ((J (p 4) ((((Int32.ofInt 10) + ((Int32.ofInt 7) * v2)) + (Int32.ofInt 6)).toNatClampNeg)) + v5)) (p 4) 7 (((nt_u J (p 4) ((((Int32.ofInt 10) + ((Int32.ofInt 7) * v2)) + (Int32.ofInt 6)).toNatClampNeg) ((J (p 4) ((((Int32.ofInt 10) + ((Int32.ofInt 7) * v2)) + (Int32.ofInt 6)).toNatClampNeg)) + v5)) (p 4) 7) + v3)) (p 4) ((((Int32.ofInt 10) + ((Int32.ofInt 7) * v2)) + (Int32.ofInt 4)).toNatClampNeg) (Int32.ofInt 0)) (p 4) ((((Int32.ofInt 10) + ((Int32.ofInt 7) * v2)) + (Int32.ofInt 5)).toNatClampNeg) (Int32.ofInt (-1))))) rfl k
      have k := mx_iast (q := (((Int32.ofInt 172) + ((Int32.ofInt 5) * v1)) + (Int32.ofInt 4)).toNatClampNeg) rfl rfl k
      have k : nt_rn X _ 191 (170, [(0, .ref (p 0)), (1, .int v1), (2, .int v2), (3, .int v3), (4, .int v4), (5, .int v5), (6, .int v6)], [], me_w M (nt_u (nt_u (nt_u (nt_u (nt_u J (p 4) ((((Int32.ofInt 10) + ((Int32.ofInt 7) * v2)) + (Int32.ofInt 6)).toNatClampNeg) ((J (p 4) ((((Int32.ofInt 10) + ((Int32.ofInt 7) * v2)) + (Int32.ofInt 6)).toNatClampNeg)) + v5)) (p 4) 7 (((nt_u J (p 4) ((((Int32.ofInt 10) + ((Int32.ofInt 7) * v2)) + (Int32.ofInt 6)).toNatClampNeg) ((J (p 4) ((((Int32.ofInt 10) + ((Int32.ofInt 7) * v2)) + (Int32.ofInt 6)).toNatClampNeg)) + v5)) (p 4) 7) + v3)) (p 4) ((((Int32.ofInt 10) + ((Int32.ofInt 7) * v2)) + (Int32.ofInt 4)).toNatClampNeg) (Int32.ofInt 0)) (p 4) ((((Int32.ofInt 10) + ((Int32.ofInt 7) * v2)) + (Int32.ofInt 5)).toNatClampNeg) (Int32.ofInt (-1))) (p 4) ((((Int32.ofInt 172) + ((Int32.ofInt 5) * v1)) + (Int32.ofInt 4)).toNatClampNeg) (Int32.ofInt 2))) _ := k
      have k := lz_rv rfl rfl k
      rw [k, x191_31, if_pos h39]
    · rw [if_neg h39] at k
      have k := ly_revb 3 (c' := (46, [(0, .ref (p 0)), (1, .int v1), (2, .int v2), (3, .int v3), (4, .int v4), (5, .int v5), (6, .int v6)], [.int v2, .int v6, .ref (p 0)], me_w M J)) rfl k
      obtain ⟨d1, o1, ed, kc, k⟩ := lz_c (g := 171) (q := 1) (vs := [.ref (p 0), .int v6, .int v2]) (rest := []) rfl rfl (by decide) (Or.inr (Or.inl ⟨_, rfl, rfl⟩)) rfl k
      have e1 := xt171 hp kc
      subst e1
      have k : nt_rn X _ 191 (49, [(0, .ref (p 0)), (1, .int v1), (2, .int v2), (3, .int v3), (4, .int v4), (5, .int v5), (6, .int v6)], [.int (x171 p v6 v2 J)], me_w M J) _ := k
      have k := ly_revb 1 (c' := (if (x171 p v6 v2 J) = 0 then 52 else 55, [(0, .ref (p 0)), (1, .int v1), (2, .int v2), (3, .int v3), (4, .int v4), (5, .int v5), (6, .int v6)], [], me_w M J)) rfl k
      by_cases h49 : (x171 p v6 v2 J) = 0
      · rw [if_pos h49] at k
        have k := ly_revb 3 (c' := (31, [(6, .int (v6 + (Int32.ofInt 1))), (0, .ref (p 0)), (1, .int v1), (2, .int v2), (3, .int v3), (4, .int v4), (5, .int v5)], [], me_w M J)) rfl k
        have k := nt_rn_w (a := [(6, .int (v6 + (Int32.ofInt 1))), (0, .ref (p 0)), (1, .int v1), (2, .int v2), (3, .int v3), (4, .int v4), (5, .int v5)]) (b := [(0, .ref (p 0)), (1, .int v1), (2, .int v2), (3, .int v3), (4, .int v4), (5, .int v5), (6, .int (v6 + (Int32.ofInt 1)))]) ⟨rfl, rfl, rfl, rfl, rfl, rfl, rfl, trivial⟩ rfl k
        have k := ih v5 (v6 + (Int32.ofInt 1)) J (xk_dec hc.1 h39 hc.2.1 hc.2.2) k
        rw [k, x191_31, if_neg h39, if_pos h49]
      · rw [if_neg h49] at k
        have k := ly_revb 1 (c' := (56, [(0, .ref (p 0)), (1, .int v1), (2, .int v2), (3, .int v3), (4, .int v4), (5, .int v5), (6, .int v6)], [.ref (p 0)], me_w M J)) rfl k
        have k := lz_get (a := (p 0)) (g := 1127) (M := me_w M J) (v := .ref (p 4)) rfl (nt_gfR rfl (hp.1 (0, 27, 4) (by decide))) k
        have k := ly_revb 5 (c' := (67, [(0, .ref (p 0)), (1, .int v1), (2, .int v2), (3, .int v3), (4, .int v4), (5, .int v5), (6, .int v6)], [.int (Int32.ofInt 2), .int v6, .ref (p 0), .int (Int32.ofInt 7), .int (Int32.ofInt 10), .ref (p 4)], me_w M J)) rfl k
        obtain ⟨d1, o1, ed, kc, k⟩ := lz_c (g := 173) (q := 1) (vs := [.ref (p 0), .int v6, .int (Int32.ofInt 2)]) (rest := [.int (Int32.ofInt 7), .int (Int32.ofInt 10), .ref (p 4)]) rfl rfl (by decide) (Or.inr (Or.inl ⟨_, rfl, rfl⟩)) rfl k
        have e1 := xt173 hp kc
        subst e1
        have k : nt_rn X _ 191 (70, [(0, .ref (p 0)), (1, .int v1), (2, .int v2), (3, .int v3), (4, .int v4), (5, .int v5), (6, .int v6)], [.int (x173 p v6 (Int32.ofInt 2) J), .int (Int32.ofInt 7), .int (Int32.ofInt 10), .ref (p 4)], me_w M J) _ := k
        have k := ly_revb 5 (c' := (76, [(0, .ref (p 0)), (1, .int v1), (2, .int v2), (3, .int v3), (4, .int v4), (5, .int v5), (6, .int v6)], [.int (((Int32.ofInt 10) + ((Int32.ofInt 7) * (x173 p v6 (Int32.ofInt 2) J))) + (Int32.ofInt 6)), .ref (p 4), .int (((Int32.ofInt 10) + ((Int32.ofInt 7) * (x173 p v6 (Int32.ofInt 2) J))) + (Int32.ofInt 6)), .ref (p 4)], me_w M J)) rfl k
        have k := mx_iald (v := J (p 4) ((((Int32.ofInt 10) + ((Int32.ofInt 7) * (x173 p v6 (Int32.ofInt 2) J))) + (Int32.ofInt 6)).toNatClampNeg)) rfl (hp.2.2.1 4 (by omega)) (rfl) k
        have k := ly_revb 2 (c' := (80, [(0, .ref (p 0)), (1, .int v1), (2, .int v2), (3, .int v3), (4, .int v4), (5, .int v5), (6, .int v6)], [.int ((J (p 4) ((((Int32.ofInt 10) + ((Int32.ofInt 7) * (x173 p v6 (Int32.ofInt 2) J))) + (Int32.ofInt 6)).toNatClampNeg)) + v4), .int (((Int32.ofInt 10) + ((Int32.ofInt 7) * (x173 p v6 (Int32.ofInt 2) J))) + (Int32.ofInt 6)), .ref (p 4)], me_w M J)) rfl k
        have k := mx_iast (q := (((Int32.ofInt 10) + ((Int32.ofInt 7) * (x173 p v6 (Int32.ofInt 2) J))) + (Int32.ofInt 6)).toNatClampNeg) rfl rfl k
        have k : nt_rn X _ 191 (81, [(0, .ref (p 0)), (1, .int v1), (2, .int v2), (3, .int v3), (4, .int v4), (5, .int v5), (6, .int v6)], [], me_w M (nt_u J (p 4) ((((Int32.ofInt 10) + ((Int32.ofInt 7) * (x173 p v6 (Int32.ofInt 2) J))) + (Int32.ofInt 6)).toNatClampNeg) ((J (p 4) ((((Int32.ofInt 10) + ((Int32.ofInt 7) * (x173 p v6 (Int32.ofInt 2) J))) + (Int32.ofInt 6)).toNatClampNeg)) + v4))) _ := k
        have k := ly_revb 6 (c' := (31, [(6, .int (v6 + (Int32.ofInt 1))), (5, .int (v5 - v4)), (0, .ref (p 0)), (1, .int v1), (2, .int v2), (3, .int v3), (4, .int v4)], [], me_w M (nt_u J (p 4) ((((Int32.ofInt 10) + ((Int32.ofInt 7) * (x173 p v6 (Int32.ofInt 2) J))) + (Int32.ofInt 6)).toNatClampNeg) ((J (p 4) ((((Int32.ofInt 10) + ((Int32.ofInt 7) * (x173 p v6 (Int32.ofInt 2) J))) + (Int32.ofInt 6)).toNatClampNeg)) + v4)))) rfl k
        have k := nt_rn_w (a := [(6, .int (v6 + (Int32.ofInt 1))), (5, .int (v5 - v4)), (0, .ref (p 0)), (1, .int v1), (2, .int v2), (3, .int v3), (4, .int v4)]) (b := [(0, .ref (p 0)), (1, .int v1), (2, .int v2), (3, .int v3), (4, .int v4), (5, .int (v5 - v4)), (6, .int (v6 + (Int32.ofInt 1)))]) ⟨rfl, rfl, rfl, rfl, rfl, rfl, rfl, trivial⟩ rfl k
        have k := ih (v5 - v4) (v6 + (Int32.ofInt 1)) (nt_u J (p 4) ((((Int32.ofInt 10) + ((Int32.ofInt 7) * (x173 p v6 (Int32.ofInt 2) J))) + (Int32.ofInt 6)).toNatClampNeg) ((J (p 4) ((((Int32.ofInt 10) + ((Int32.ofInt 7) * (x173 p v6 (Int32.ofInt 2) J))) + (Int32.ofInt 6)).toNatClampNeg)) + v4)) (by obtain ⟨s, hs, e⟩ := xk_ow hc.1 h39 hc.2.1; exact xk_decw hc.1 (by rw [e]; exact xr_bs hs (by omega) (by omega)) (by omega) (by rw [e]; omega) h39 hc.2.1 hc.2.2) k
        rw [k, x191_31, if_neg h39, if_neg h49]
theorem x191_31_rule {p : Nat → Nat} {v1 : Int32} {v2 : Int32} {v3 : Int32} {v4 : Int32} {I : Nat → Int32 → Int32 → (Nat → Nat → Int32) → Prop} {Q : (Nat → Nat → Int32) → Prop} (h0 : ∀ (v5 : Int32) (v6 : Int32) (J : Nat → Nat → Int32), I 0 v5 v6 J → Q (nt_u (nt_u (nt_u (nt_u (nt_u J (p 4) ((((Int32.ofInt 10) + ((Int32.ofInt 7) * v2)) + (Int32.ofInt 6)).toNatClampNeg) ((J (p 4) ((((Int32.ofInt 10) + ((Int32.ofInt 7) * v2)) + (Int32.ofInt 6)).toNatClampNeg)) + v5)) (p 4) 7 (((nt_u J (p 4) ((((Int32.ofInt 10) + ((Int32.ofInt 7) * v2)) + (Int32.ofInt 6)).toNatClampNeg) ((J (p 4) ((((Int32.ofInt 10) + ((Int32.ofInt 7) * v2)) + (Int32.ofInt 6)).toNatClampNeg)) + v5)) (p 4) 7) + v3)) (p 4) ((((Int32.ofInt 10) + ((Int32.ofInt 7) * v2)) + (Int32.ofInt 4)).toNatClampNeg) (Int32.ofInt 0)) (p 4) ((((Int32.ofInt 10) + ((Int32.ofInt 7) * v2)) + (Int32.ofInt 5)).toNatClampNeg) (Int32.ofInt (-1))) (p 4) ((((Int32.ofInt 172) + ((Int32.ofInt 5) * v1)) + (Int32.ofInt 4)).toNatClampNeg) (Int32.ofInt 2))) (h1 : ∀ (c : Nat) (v5 : Int32) (v6 : Int32) (J : Nat → Nat → Int32), I (c + 1) v5 v6 J →
    if (J (p 4) 2) ≤ v6 then (Q (nt_u (nt_u (nt_u (nt_u (nt_u J (p 4) ((((Int32.ofInt 10) + ((Int32.ofInt 7) * v2)) + (Int32.ofInt 6)).toNatClampNeg) ((J (p 4) ((((Int32.ofInt 10) + ((Int32.ofInt 7) * v2)) + (Int32.ofInt 6)).toNatClampNeg)) + v5)) (p 4) 7 (((nt_u J (p 4) ((((Int32.ofInt 10) + ((Int32.ofInt 7) * v2)) + (Int32.ofInt 6)).toNatClampNeg) ((J (p 4) ((((Int32.ofInt 10) + ((Int32.ofInt 7) * v2)) + (Int32.ofInt 6)).toNatClampNeg)) + v5)) (p 4) 7) + v3)) (p 4) ((((Int32.ofInt 10) + ((Int32.ofInt 7) * v2)) + (Int32.ofInt 4)).toNatClampNeg) (Int32.ofInt 0)) (p 4) ((((Int32.ofInt 10) + ((Int32.ofInt 7) * v2)) + (Int32.ofInt 5)).toNatClampNeg) (Int32.ofInt (-1))) (p 4) ((((Int32.ofInt 172) + ((Int32.ofInt 5) * v1)) + (Int32.ofInt 4)).toNatClampNeg) (Int32.ofInt 2)))
    else if (x171 p v6 v2 J) = 0 then (I c v5 (v6 + (Int32.ofInt 1)) J)
      else (I c (v5 - v4) (v6 + (Int32.ofInt 1)) (nt_u J (p 4) ((((Int32.ofInt 10) + ((Int32.ofInt 7) * (x173 p v6 (Int32.ofInt 2) J))) + (Int32.ofInt 6)).toNatClampNeg) ((J (p 4) ((((Int32.ofInt 10) + ((Int32.ofInt 7) * (x173 p v6 (Int32.ofInt 2) J))) + (Int32.ofInt 6)).toNatClampNeg)) + v4)))) : ∀ (c : Nat) (v5 : Int32) (v6 : Int32) (J : Nat → Nat → Int32), I c v5 v6 J → Q (x191_31 p v1 v2 v3 v4 c v5 v6 J) := by
  intro c
  induction c with
  | zero =>
    intro v5 v6 J hi
    rw [x191_31]
    exact h0 v5 v6 J hi
  | succ c ih =>
    intro v5 v6 J hi
    have hi := h1 c v5 v6 J hi
    rw [x191_31]
    by_cases h : (J (p 4) 2) ≤ v6
    · rw [if_pos h] at hi ⊢
      exact hi
    · rw [if_neg h] at hi ⊢
      by_cases h : (x171 p v6 v2 J) = 0
      · rw [if_pos h] at hi ⊢
        exact ih _ _ _ hi
      · rw [if_neg h] at hi ⊢
        exact ih _ _ _ hi
def x191 (p : Nat → Nat) (v1 : Int32) (J : Nat → Nat → Int32) : (Nat → Nat → Int32) := (x191_31 p v1 (x180 p v1 (Int32.ofInt 0) J) (x180 p v1 (Int32.ofInt 3) J) ((x180 p v1 (Int32.ofInt 3) J) / ((x170 p (x180 p v1 (Int32.ofInt 0) J) J) + (Int32.ofInt 1))) ((J (p 4) 2).toNatClampNeg) (x180 p v1 (Int32.ofInt 3) J) (Int32.ofInt 0) J)
theorem xt191 {X : nt_X} {d : Nat} {M : nt_M} {o : Option Value × nt_M} {p : Nat → Nat} {v1 : Int32} {J : Nat → Nat → Int32} (hp : xs_P M p) (hw : xr_W (J (p 4))) (k : nt_ev X d 191 [.ref (p 0), .int v1] (me_w M J) o) : o = (none, me_w M (x191 p v1 J)) := by
  have k : nt_rn X d 191 (0, [(0, .ref (p 0)), (1, .int v1)], [], me_w M J) o := k
  have k := ly_revb 3 (c' := (3, [(0, .ref (p 0)), (1, .int v1)], [.int (Int32.ofInt 0), .int v1, .ref (p 0)], me_w M J)) rfl k
  obtain ⟨d1, o1, ed, kc, k⟩ := lz_c (g := 180) (q := 1) (vs := [.ref (p 0), .int v1, .int (Int32.ofInt 0)]) (rest := []) rfl rfl (by decide) (Or.inr (Or.inl ⟨_, rfl, rfl⟩)) rfl k
  have e1 := xt180 hp kc
  subst e1
  have k : nt_rn X _ 191 (6, [(0, .ref (p 0)), (1, .int v1)], [.int (x180 p v1 (Int32.ofInt 0) J)], me_w M J) _ := k
  have k := ly_revb 4 (c' := (10, [(2, .int (x180 p v1 (Int32.ofInt 0) J)), (0, .ref (p 0)), (1, .int v1)], [.int (Int32.ofInt 3), .int v1, .ref (p 0)], me_w M J)) rfl k
  obtain ⟨d1, o1, ed, kc, k⟩ := lz_c (g := 180) (q := 1) (vs := [.ref (p 0), .int v1, .int (Int32.ofInt 3)]) (rest := []) rfl rfl (by decide) (Or.inr (Or.inl ⟨_, rfl, rfl⟩)) rfl k
  have e1 := xt180 hp kc
  subst e1
  have k : nt_rn X _ 191 (13, [(2, .int (x180 p v1 (Int32.ofInt 0) J)), (0, .ref (p 0)), (1, .int v1)], [.int (x180 p v1 (Int32.ofInt 3) J)], me_w M J) _ := k
  have k := ly_revb 4 (c' := (17, [(3, .int (x180 p v1 (Int32.ofInt 3) J)), (2, .int (x180 p v1 (Int32.ofInt 0) J)), (0, .ref (p 0)), (1, .int v1)], [.int (x180 p v1 (Int32.ofInt 0) J), .ref (p 0), .int (x180 p v1 (Int32.ofInt 3) J)], me_w M J)) rfl k
  obtain ⟨d1, o1, ed, kc, k⟩ := lz_c (g := 170) (q := 1) (vs := [.ref (p 0), .int (x180 p v1 (Int32.ofInt 0) J)]) (rest := [.int (x180 p v1 (Int32.ofInt 3) J)]) rfl rfl (by decide) (Or.inr (Or.inl ⟨_, rfl, rfl⟩)) rfl k
  have e1 := xt170 hp kc
  subst e1
  have k : nt_rn X _ 191 (20, [(3, .int (x180 p v1 (Int32.ofInt 3) J)), (2, .int (x180 p v1 (Int32.ofInt 0) J)), (0, .ref (p 0)), (1, .int v1)], [.int (x170 p (x180 p v1 (Int32.ofInt 0) J) J), .int (x180 p v1 (Int32.ofInt 3) J)], me_w M J) _ := k
  have k := ly_revb 2 (c' := (22, [(3, .int (x180 p v1 (Int32.ofInt 3) J)), (2, .int (x180 p v1 (Int32.ofInt 0) J)), (0, .ref (p 0)), (1, .int v1)], [.int ((x170 p (x180 p v1 (Int32.ofInt 0) J) J) + (Int32.ofInt 1)), .int (x180 p v1 (Int32.ofInt 3) J)], me_w M J)) rfl k
  obtain ⟨hd22, k⟩ := mx_idiv rfl k
  have k := ly_revb 5 (c' := (31, [(6, .int (Int32.ofInt 0)), (5, .int (x180 p v1 (Int32.ofInt 3) J)), (4, .int ((x180 p v1 (Int32.ofInt 3) J) / ((x170 p (x180 p v1 (Int32.ofInt 0) J) J) + (Int32.ofInt 1)))), (3, .int (x180 p v1 (Int32.ofInt 3) J)), (2, .int (x180 p v1 (Int32.ofInt 0) J)), (0, .ref (p 0)), (1, .int v1)], [], me_w M J)) rfl k
  have k := nt_rn_w (a := [(6, .int (Int32.ofInt 0)), (5, .int (x180 p v1 (Int32.ofInt 3) J)), (4, .int ((x180 p v1 (Int32.ofInt 3) J) / ((x170 p (x180 p v1 (Int32.ofInt 0) J) J) + (Int32.ofInt 1)))), (3, .int (x180 p v1 (Int32.ofInt 3) J)), (2, .int (x180 p v1 (Int32.ofInt 0) J)), (0, .ref (p 0)), (1, .int v1)]) (b := [(0, .ref (p 0)), (1, .int v1), (2, .int (x180 p v1 (Int32.ofInt 0) J)), (3, .int (x180 p v1 (Int32.ofInt 3) J)), (4, .int ((x180 p v1 (Int32.ofInt 3) J) / ((x170 p (x180 p v1 (Int32.ofInt 0) J) J) + (Int32.ofInt 1)))), (5, .int (x180 p v1 (Int32.ofInt 3) J)), (6, .int (Int32.ofInt 0))]) ⟨rfl, rfl, rfl, rfl, rfl, rfl, rfl, trivial⟩ rfl k
  have k := xt191_31 hp  ((J (p 4) 2).toNatClampNeg) (x180 p v1 (Int32.ofInt 3) J) (Int32.ofInt 0) J (⟨hw, by decide, lx_beg (by decide)⟩) k
  rw [k, x191]
theorem x191_31_frJ {p : Nat → Nat} {v1 : Int32} {v2 : Int32} {v3 : Int32} {v4 : Int32} {b : Nat} : ∀ (c : Nat) (v5 : Int32) (v6 : Int32) (J : Nat → Nat → Int32), b ≠ p 4 → x191_31 p v1 v2 v3 v4 c v5 v6 J b = J b := by
  intro c
  induction c with
  | zero =>
    intro v5 v6 J n0
    rw [x191_31]
    all_goals first | (dsimp only; exact (show (nt_u (nt_u (nt_u (nt_u (nt_u J (p 4) ((((Int32.ofInt 10) + ((Int32.ofInt 7) * v2)) + (Int32.ofInt 6)).toNatClampNeg) ((J (p 4) ((((Int32.ofInt 10) + ((Int32.ofInt 7) * v2)) + (Int32.ofInt 6)).toNatClampNeg)) + v5)) (p 4) 7 (((nt_u J (p 4) ((((Int32.ofInt 10) + ((Int32.ofInt 7) * v2)) + (Int32.ofInt 6)).toNatClampNeg) ((J (p 4) ((((Int32.ofInt 10) + ((Int32.ofInt 7) * v2)) + (Int32.ofInt 6)).toNatClampNeg)) + v5)) (p 4) 7) + v3)) (p 4) ((((Int32.ofInt 10) + ((Int32.ofInt 7) * v2)) + (Int32.ofInt 4)).toNatClampNeg) (Int32.ofInt 0)) (p 4) ((((Int32.ofInt 10) + ((Int32.ofInt 7) * v2)) + (Int32.ofInt 5)).toNatClampNeg) (Int32.ofInt (-1))) (p 4) ((((Int32.ofInt 172) + ((Int32.ofInt 5) * v1)) + (Int32.ofInt 4)).toNatClampNeg) (Int32.ofInt 2)) b = J b from (mu_o n0).trans ((mu_o n0).trans ((mu_o n0).trans ((mu_o n0).trans (mu_o n0)))))) | exact (show (nt_u (nt_u (nt_u (nt_u (nt_u J (p 4) ((((Int32.ofInt 10) + ((Int32.ofInt 7) * v2)) + (Int32.ofInt 6)).toNatClampNeg) ((J (p 4) ((((Int32.ofInt 10) + ((Int32.ofInt 7) * v2)) + (Int32.ofInt 6)).toNatClampNeg)) + v5)) (p 4) 7 (((nt_u J (p 4) ((((Int32.ofInt 10) + ((Int32.ofInt 7) * v2)) + (Int32.ofInt 6)).toNatClampNeg) ((J (p 4) ((((Int32.ofInt 10) + ((Int32.ofInt 7) * v2)) + (Int32.ofInt 6)).toNatClampNeg)) + v5)) (p 4) 7) + v3)) (p 4) ((((Int32.ofInt 10) + ((Int32.ofInt 7) * v2)) + (Int32.ofInt 4)).toNatClampNeg) (Int32.ofInt 0)) (p 4) ((((Int32.ofInt 10) + ((Int32.ofInt 7) * v2)) + (Int32.ofInt 5)).toNatClampNeg) (Int32.ofInt (-1))) (p 4) ((((Int32.ofInt 172) + ((Int32.ofInt 5) * v1)) + (Int32.ofInt 4)).toNatClampNeg) (Int32.ofInt 2)) b = J b from (mu_o n0).trans ((mu_o n0).trans ((mu_o n0).trans ((mu_o n0).trans (mu_o n0)))))
  | succ c ih =>
    intro v5 v6 J n0
    rw [x191_31]
    by_cases h : (J (p 4) 2) ≤ v6
    · rw [if_pos h]
      all_goals first | (dsimp only; exact (show (nt_u (nt_u (nt_u (nt_u (nt_u J (p 4) ((((Int32.ofInt 10) + ((Int32.ofInt 7) * v2)) + (Int32.ofInt 6)).toNatClampNeg) ((J (p 4) ((((Int32.ofInt 10) + ((Int32.ofInt 7) * v2)) + (Int32.ofInt 6)).toNatClampNeg)) + v5)) (p 4) 7 (((nt_u J (p 4) ((((Int32.ofInt 10) + ((Int32.ofInt 7) * v2)) + (Int32.ofInt 6)).toNatClampNeg) ((J (p 4) ((((Int32.ofInt 10) + ((Int32.ofInt 7) * v2)) + (Int32.ofInt 6)).toNatClampNeg)) + v5)) (p 4) 7) + v3)) (p 4) ((((Int32.ofInt 10) + ((Int32.ofInt 7) * v2)) + (Int32.ofInt 4)).toNatClampNeg) (Int32.ofInt 0)) (p 4) ((((Int32.ofInt 10) + ((Int32.ofInt 7) * v2)) + (Int32.ofInt 5)).toNatClampNeg) (Int32.ofInt (-1))) (p 4) ((((Int32.ofInt 172) + ((Int32.ofInt 5) * v1)) + (Int32.ofInt 4)).toNatClampNeg) (Int32.ofInt 2)) b = J b from (mu_o n0).trans ((mu_o n0).trans ((mu_o n0).trans ((mu_o n0).trans (mu_o n0)))))) | exact (show (nt_u (nt_u (nt_u (nt_u (nt_u J (p 4) ((((Int32.ofInt 10) + ((Int32.ofInt 7) * v2)) + (Int32.ofInt 6)).toNatClampNeg) ((J (p 4) ((((Int32.ofInt 10) + ((Int32.ofInt 7) * v2)) + (Int32.ofInt 6)).toNatClampNeg)) + v5)) (p 4) 7 (((nt_u J (p 4) ((((Int32.ofInt 10) + ((Int32.ofInt 7) * v2)) + (Int32.ofInt 6)).toNatClampNeg) ((J (p 4) ((((Int32.ofInt 10) + ((Int32.ofInt 7) * v2)) + (Int32.ofInt 6)).toNatClampNeg)) + v5)) (p 4) 7) + v3)) (p 4) ((((Int32.ofInt 10) + ((Int32.ofInt 7) * v2)) + (Int32.ofInt 4)).toNatClampNeg) (Int32.ofInt 0)) (p 4) ((((Int32.ofInt 10) + ((Int32.ofInt 7) * v2)) + (Int32.ofInt 5)).toNatClampNeg) (Int32.ofInt (-1))) (p 4) ((((Int32.ofInt 172) + ((Int32.ofInt 5) * v1)) + (Int32.ofInt 4)).toNatClampNeg) (Int32.ofInt 2)) b = J b from (mu_o n0).trans ((mu_o n0).trans ((mu_o n0).trans ((mu_o n0).trans (mu_o n0)))))
    · rw [if_neg h]
      by_cases h : (x171 p v6 v2 J) = 0
      · rw [if_pos h]
        exact (ih _ _ _ n0).trans (rfl)
      · rw [if_neg h]
        exact (ih _ _ _ n0).trans (mu_o n0)
theorem x191_frJ {p : Nat → Nat} {v1 : Int32} {J : Nat → Nat → Int32} {b : Nat} (n0 : b ≠ p 4) : x191 p v1 J b = J b := by
  unfold x191
  exact (x191_31_frJ _ _ _ _ n0).trans (rfl)
theorem xi_vm {x : Int32} (hx : -1 ≤ x.toInt) (h2 : x.toInt ≤ 7) : ((Int32.ofInt 172 + Int32.ofInt 5 * x) + Int32.ofInt 4).toNatClampNeg = (176 + 5 * x.toInt).toNat := by
  have e1 : (Int32.ofInt 5 * x).toInt = 5 * x.toInt := by
    rw [Int32.toInt_mul, show (Int32.ofInt 5).toInt = 5 from by decide, Int.bmod_eq_of_le (by omega) (by omega)]
  have e2 : (Int32.ofInt 172 + Int32.ofInt 5 * x).toInt = 172 + 5 * x.toInt := by
    rw [Int32.toInt_add, e1, show (Int32.ofInt 172).toInt = 172 from by decide, Int.bmod_eq_of_le (by omega) (by omega)]
  show Int.toNat _ = _
  rw [Int32.toInt_add, e2, show (Int32.ofInt 4).toInt = 4 from by decide, Int.bmod_eq_of_le (by omega) (by omega)]
  omega
theorem xr_bm {x : Int} (hx : -1 ≤ x) (h2 : x ≤ 7) : xr_b (176 + 5 * x).toNat = (-2147483648, 2147483647) := by
  rcases (by omega : x = -1 ∨ x = 0 ∨ x = 1 ∨ x = 2 ∨ x = 3 ∨ x = 4 ∨ x = 5 ∨ x = 6 ∨ x = 7) with rfl | rfl | rfl | rfl | rfl | rfl | rfl | rfl | rfl <;> rfl
theorem xi_on {p : Nat → Nat} {J : Nat → Nat → Int32} {i : Int32} (hW : xr_W (J (p 4))) (hv : 0 ≤ i.toInt ∧ i.toInt ≤ 5) : -1 ≤ (x169 p i (Int32.ofInt 5) J).toInt ∧ (x169 p i (Int32.ofInt 5) J).toInt ≤ 7 := by
  unfold x169
  rw [xi_s5 hv.1 (by omega)]
  exact xr_on hW (by omega)
theorem xk_lose {J : Nat → Nat → Int32} {a : Nat} {i x : Int32} (hW : xr_W (J a)) (hv : 0 ≤ i.toInt ∧ i.toInt ≤ 5) (hx : -1 ≤ x.toInt ∧ x.toInt ≤ 7) : xr_W (nt_u (nt_u (nt_u J a (((Int32.ofInt 10 + Int32.ofInt 7 * i) + Int32.ofInt 4).toNatClampNeg) (Int32.ofInt 2)) a (((Int32.ofInt 10 + Int32.ofInt 7 * i) + Int32.ofInt 5).toNatClampNeg) (Int32.ofInt (-1))) a (((Int32.ofInt 172 + Int32.ofInt 5 * x) + Int32.ofInt 4).toNatClampNeg) (Int32.ofInt 3) a) := by
  refine xr_up (xr_up (xr_up hW (xr_any ?_)) ?_) (xr_any ?_)
  · rw [xi_s4 hv.1 (by omega)]
    exact xr_bs (by omega) (by omega) (by omega)
  · rw [xi_s5 hv.1 (by omega), xr_b5 (by omega)]
    decide
  · rw [xi_vm hx.1 hx.2]
    exact xr_bm hx.1 hx.2
/-! Model.rots -/
def x202_145 (p : Nat → Nat) (v1 : Int32) : Nat → Int32 → (Nat → Nat → Int32) → (Nat → Nat → Int32)
  | 0, v4, J => J
  | c + 1, v4, J => if (J (p 4) 2) ≤ v4 then J
    else if (x173 p v4 (Int32.ofInt 3) J) = v1 then (x202_145 p v1 c (v4 + (Int32.ofInt 1)) (nt_u J (p 4) ((((Int32.ofInt 52) + ((Int32.ofInt 5) * v4)) + (Int32.ofInt 4)).toNatClampNeg) (Int32.ofInt 1)))
      else (x202_145 p v1 c (v4 + (Int32.ofInt 1)) J)
theorem xt202_145 {X : nt_X} {d : Nat} {M : nt_M} {o : Option Value × nt_M} {p : Nat → Nat} {v1 : Int32} {v2 : Int32} {v3 : Int32} (hp : xs_P M p) (hv : 0 ≤ v1.toInt ∧ v1.toInt ≤ 5) : ∀ (c : Nat) (v4 : Int32) (J : Nat → Nat → Int32), (xr_W (J (p 4)) ∧ 0 ≤ v4.toInt ∧ (J (p 4) 2).toInt - v4.toInt ≤ c) → nt_rn X d 202 (145, [(0, .ref (p 0)), (1, .int v1), (2, .int v2), (3, .int v3), (4, .int v4)], [], me_w M J) o → o = (none, me_w M (x202_145 p v1 c v4 J)) := by
  intro c
  induction c with
  | zero =>
    intro v4 J hc k
    have k := ly_revb 2 (c' := (148, [(0, .ref (p 0)), (1, .int v1), (2, .int v2), (3, .int v3), (4, .int v4)], [.ref (p 0), .int v4], me_w M J)) rfl k
    have k := lz_get (a := (p 0)) (g := 1127) (M := me_w M J) (v := .ref (p 4)) rfl (nt_gfR rfl (hp.1 (0, 27, 4) (by decide))) k
    have k := ly_revb 1 (c' := (152, [(0, .ref (p 0)), (1, .int v1), (2, .int v2), (3, .int v3), (4, .int v4)], [.int (Int32.ofInt 2), .ref (p 4), .int v4], me_w M J)) rfl k
    have k := mx_iald (v := J (p 4) 2) rfl (hp.2.2.1 4 (by omega)) ((congrArg (J (p 4)) (show (Int32.ofInt 2).toNatClampNeg = 2 from rfl)).trans (rfl)) k
    have k := ly_revb 1 (c' := (if (J (p 4) 2) ≤ v4 then 188 else 156, [(0, .ref (p 0)), (1, .int v1), (2, .int v2), (3, .int v3), (4, .int v4)], [], me_w M J)) rfl k
    have h153 : (J (p 4) 2) ≤ v4 := lx_end hc.2.2
    rw [if_pos h153] at k
    have k := lz_rv rfl rfl k
    rw [k, x202_145]
  | succ c ih =>
    intro v4 J hc k
    have k := ly_revb 2 (c' := (148, [(0, .ref (p 0)), (1, .int v1), (2, .int v2), (3, .int v3), (4, .int v4)], [.ref (p 0), .int v4], me_w M J)) rfl k
    have k := lz_get (a := (p 0)) (g := 1127) (M := me_w M J) (v := .ref (p 4)) rfl (nt_gfR rfl (hp.1 (0, 27, 4) (by decide))) k
    have k := ly_revb 1 (c' := (152, [(0, .ref (p 0)), (1, .int v1), (2, .int v2), (3, .int v3), (4, .int v4)], [.int (Int32.ofInt 2), .ref (p 4), .int v4], me_w M J)) rfl k
    have k := mx_iald (v := J (p 4) 2) rfl (hp.2.2.1 4 (by omega)) ((congrArg (J (p 4)) (show (Int32.ofInt 2).toNatClampNeg = 2 from rfl)).trans (rfl)) k
    have k := ly_revb 1 (c' := (if (J (p 4) 2) ≤ v4 then 188 else 156, [(0, .ref (p 0)), (1, .int v1), (2, .int v2), (3, .int v3), (4, .int v4)], [], me_w M J)) rfl k
    by_cases h153 : (J (p 4) 2) ≤ v4
    · rw [if_pos h153] at k
      have k := lz_rv rfl rfl k
      rw [k, x202_145, if_pos h153]
    · rw [if_neg h153] at k
      have k := ly_revb 3 (c' := (160, [(0, .ref (p 0)), (1, .int v1), (2, .int v2), (3, .int v3), (4, .int v4)], [.int (Int32.ofInt 3), .int v4, .ref (p 0)], me_w M J)) rfl k
      obtain ⟨d1, o1, ed, kc, k⟩ := lz_c (g := 173) (q := 1) (vs := [.ref (p 0), .int v4, .int (Int32.ofInt 3)]) (rest := []) rfl rfl (by decide) (Or.inr (Or.inl ⟨_, rfl, rfl⟩)) rfl k
      have e1 := xt173 hp kc
      subst e1
      have k : nt_rn X _ 202 (163, [(0, .ref (p 0)), (1, .int v1), (2, .int v2), (3, .int v3), (4, .int v4)], [.int (x173 p v4 (Int32.ofInt 3) J)], me_w M J) _ := k
      have k := ly_revb 2 (c' := (if (x173 p v4 (Int32.ofInt 3) J) = v1 then 167 else 182, [(0, .ref (p 0)), (1, .int v1), (2, .int v2), (3, .int v3), (4, .int v4)], [], me_w M J)) rfl k
      by_cases h164 : (x173 p v4 (Int32.ofInt 3) J) = v1
      · rw [if_pos h164] at k
        have k := ly_revb 1 (c' := (168, [(0, .ref (p 0)), (1, .int v1), (2, .int v2), (3, .int v3), (4, .int v4)], [.ref (p 0)], me_w M J)) rfl k
        have k := lz_get (a := (p 0)) (g := 1127) (M := me_w M J) (v := .ref (p 4)) rfl (nt_gfR rfl (hp.1 (0, 27, 4) (by decide))) k
        have k := ly_revb 8 (c' := (181, [(0, .ref (p 0)), (1, .int v1), (2, .int v2), (3, .int v3), (4, .int v4)], [.int (Int32.ofInt 1), .int (((Int32.ofInt 52) + ((Int32.ofInt 5) * v4)) + (Int32.ofInt 4)), .ref (p 4)], me_w M J)) rfl k
        have k := mx_iast (q := (((Int32.ofInt 52) + ((Int32.ofInt 5) * v4)) + (Int32.ofInt 4)).toNatClampNeg) rfl rfl k
        have k : nt_rn X _ 202 (182, [(0, .ref (p 0)), (1, .int v1), (2, .int v2), (3, .int v3), (4, .int v4)], [], me_w M (nt_u J (p 4) ((((Int32.ofInt 52) + ((Int32.ofInt 5) * v4)) + (Int32.ofInt 4)).toNatClampNeg) (Int32.ofInt 1))) _ := k
        have k := ly_revb 2 (c' := (145, [(4, .int (v4 + (Int32.ofInt 1))), (0, .ref (p 0)), (1, .int v1), (2, .int v2), (3, .int v3)], [], me_w M (nt_u J (p 4) ((((Int32.ofInt 52) + ((Int32.ofInt 5) * v4)) + (Int32.ofInt 4)).toNatClampNeg) (Int32.ofInt 1)))) rfl k
        have k := nt_rn_w (a := [(4, .int (v4 + (Int32.ofInt 1))), (0, .ref (p 0)), (1, .int v1), (2, .int v2), (3, .int v3)]) (b := [(0, .ref (p 0)), (1, .int v1), (2, .int v2), (3, .int v3), (4, .int (v4 + (Int32.ofInt 1)))]) ⟨rfl, rfl, rfl, rfl, rfl, trivial⟩ rfl k
        have k := ih (v4 + (Int32.ofInt 1)) (nt_u J (p 4) ((((Int32.ofInt 52) + ((Int32.ofInt 5) * v4)) + (Int32.ofInt 4)).toNatClampNeg) (Int32.ofInt 1)) (by have l24 := xi_lt h153 (xr_2 hc.1).2; exact xk_decw hc.1 (by rw [xi_p4 hc.2.1 (by have := xi_lt h153 (xr_2 hc.1).2; omega)]; exact xr_bp (by have := hc.2.1; omega) (by omega) (by omega) (by omega)) (by omega) (by rw [xi_p4 hc.2.1 (by have := xi_lt h153 (xr_2 hc.1).2; omega)]; omega) h153 hc.2.1 hc.2.2) k
        rw [k, x202_145, if_neg h153, if_pos h164]
      · rw [if_neg h164] at k
        have k := ly_revb 2 (c' := (145, [(4, .int (v4 + (Int32.ofInt 1))), (0, .ref (p 0)), (1, .int v1), (2, .int v2), (3, .int v3)], [], me_w M J)) rfl k
        have k := nt_rn_w (a := [(4, .int (v4 + (Int32.ofInt 1))), (0, .ref (p 0)), (1, .int v1), (2, .int v2), (3, .int v3)]) (b := [(0, .ref (p 0)), (1, .int v1), (2, .int v2), (3, .int v3), (4, .int (v4 + (Int32.ofInt 1)))]) ⟨rfl, rfl, rfl, rfl, rfl, trivial⟩ rfl k
        have k := ih (v4 + (Int32.ofInt 1)) J (xk_dec hc.1 h153 hc.2.1 hc.2.2) k
        rw [k, x202_145, if_neg h153, if_neg h164]
theorem x202_145_rule {p : Nat → Nat} {v1 : Int32} {I : Nat → Int32 → (Nat → Nat → Int32) → Prop} {Q : (Nat → Nat → Int32) → Prop} (h0 : ∀ (v4 : Int32) (J : Nat → Nat → Int32), I 0 v4 J → Q J) (h1 : ∀ (c : Nat) (v4 : Int32) (J : Nat → Nat → Int32), I (c + 1) v4 J →
    if (J (p 4) 2) ≤ v4 then (Q J)
    else if (x173 p v4 (Int32.ofInt 3) J) = v1 then (I c (v4 + (Int32.ofInt 1)) (nt_u J (p 4) ((((Int32.ofInt 52) + ((Int32.ofInt 5) * v4)) + (Int32.ofInt 4)).toNatClampNeg) (Int32.ofInt 1)))
      else (I c (v4 + (Int32.ofInt 1)) J)) : ∀ (c : Nat) (v4 : Int32) (J : Nat → Nat → Int32), I c v4 J → Q (x202_145 p v1 c v4 J) := by
  intro c
  induction c with
  | zero =>
    intro v4 J hi
    rw [x202_145]
    exact h0 v4 J hi
  | succ c ih =>
    intro v4 J hi
    have hi := h1 c v4 J hi
    rw [x202_145]
    by_cases h : (J (p 4) 2) ≤ v4
    · rw [if_pos h] at hi ⊢
      exact hi
    · rw [if_neg h] at hi ⊢
      by_cases h : (x173 p v4 (Int32.ofInt 3) J) = v1
      · rw [if_pos h] at hi ⊢
        exact ih _ _ hi
      · rw [if_neg h] at hi ⊢
        exact ih _ _ hi
def x202_4 (p : Nat → Nat) (v1 : Int32) : Nat → Int32 → Int32 → (Nat → Nat → Int32) → (Nat → Nat → Int32)
  | 0, v2, v3, J => if v2 = 0 then J
    else if (x180 p (x169 p v1 (Int32.ofInt 5) J) (Int32.ofInt 2) J) = ((J (p 4) 4) + (Int32.ofInt 1)) then J
      else (x202_145 p v1 (((nt_u (nt_u (nt_u J (p 4) ((((Int32.ofInt 10) + ((Int32.ofInt 7) * v1)) + (Int32.ofInt 4)).toNatClampNeg) (Int32.ofInt 2)) (p 4) ((((Int32.ofInt 10) + ((Int32.ofInt 7) * v1)) + (Int32.ofInt 5)).toNatClampNeg) (Int32.ofInt (-1))) (p 4) ((((Int32.ofInt 172) + ((Int32.ofInt 5) * (x169 p v1 (Int32.ofInt 5) J))) + (Int32.ofInt 4)).toNatClampNeg) (Int32.ofInt 3)) (p 4) 2).toNatClampNeg) (Int32.ofInt 0) (nt_u (nt_u (nt_u J (p 4) ((((Int32.ofInt 10) + ((Int32.ofInt 7) * v1)) + (Int32.ofInt 4)).toNatClampNeg) (Int32.ofInt 2)) (p 4) ((((Int32.ofInt 10) + ((Int32.ofInt 7) * v1)) + (Int32.ofInt 5)).toNatClampNeg) (Int32.ofInt (-1))) (p 4) ((((Int32.ofInt 172) + ((Int32.ofInt 5) * (x169 p v1 (Int32.ofInt 5) J))) + (Int32.ofInt 4)).toNatClampNeg) (Int32.ofInt 3)))
  | c + 1, v2, v3, J => if (J (p 4) 2) ≤ v3 then if v2 = 0 then J
      else if (x180 p (x169 p v1 (Int32.ofInt 5) J) (Int32.ofInt 2) J) = ((J (p 4) 4) + (Int32.ofInt 1)) then J
        else (x202_145 p v1 (((nt_u (nt_u (nt_u J (p 4) ((((Int32.ofInt 10) + ((Int32.ofInt 7) * v1)) + (Int32.ofInt 4)).toNatClampNeg) (Int32.ofInt 2)) (p 4) ((((Int32.ofInt 10) + ((Int32.ofInt 7) * v1)) + (Int32.ofInt 5)).toNatClampNeg) (Int32.ofInt (-1))) (p 4) ((((Int32.ofInt 172) + ((Int32.ofInt 5) * (x169 p v1 (Int32.ofInt 5) J))) + (Int32.ofInt 4)).toNatClampNeg) (Int32.ofInt 3)) (p 4) 2).toNatClampNeg) (Int32.ofInt 0) (nt_u (nt_u (nt_u J (p 4) ((((Int32.ofInt 10) + ((Int32.ofInt 7) * v1)) + (Int32.ofInt 4)).toNatClampNeg) (Int32.ofInt 2)) (p 4) ((((Int32.ofInt 10) + ((Int32.ofInt 7) * v1)) + (Int32.ofInt 5)).toNatClampNeg) (Int32.ofInt (-1))) (p 4) ((((Int32.ofInt 172) + ((Int32.ofInt 5) * (x169 p v1 (Int32.ofInt 5) J))) + (Int32.ofInt 4)).toNatClampNeg) (Int32.ofInt 3)))
    else if (x171 p v3 v1 J) = 0 then (x202_4 p v1 c v2 (v3 + (Int32.ofInt 1)) J)
      else if v2 = 0 then if (x173 p v3 (Int32.ofInt 1) (nt_u J (p 4) ((((Int32.ofInt 52) + ((Int32.ofInt 5) * v3)) + (Int32.ofInt 1)).toNatClampNeg) ((J (p 4) ((((Int32.ofInt 52) + ((Int32.ofInt 5) * v3)) + (Int32.ofInt 1)).toNatClampNeg)) - (Int32.ofInt 1)))) = 0 then (x202_4 p v1 c (Int32.ofInt 1) (v3 + (Int32.ofInt 1)) (nt_u J (p 4) ((((Int32.ofInt 52) + ((Int32.ofInt 5) * v3)) + (Int32.ofInt 1)).toNatClampNeg) ((J (p 4) ((((Int32.ofInt 52) + ((Int32.ofInt 5) * v3)) + (Int32.ofInt 1)).toNatClampNeg)) - (Int32.ofInt 1))))
          else (x202_4 p v1 c (Int32.ofInt 0) (v3 + (Int32.ofInt 1)) (nt_u J (p 4) ((((Int32.ofInt 52) + ((Int32.ofInt 5) * v3)) + (Int32.ofInt 1)).toNatClampNeg) ((J (p 4) ((((Int32.ofInt 52) + ((Int32.ofInt 5) * v3)) + (Int32.ofInt 1)).toNatClampNeg)) - (Int32.ofInt 1))))
        else (x202_4 p v1 c (Int32.ofInt 1) (v3 + (Int32.ofInt 1)) (nt_u J (p 4) ((((Int32.ofInt 52) + ((Int32.ofInt 5) * v3)) + (Int32.ofInt 1)).toNatClampNeg) ((J (p 4) ((((Int32.ofInt 52) + ((Int32.ofInt 5) * v3)) + (Int32.ofInt 1)).toNatClampNeg)) - (Int32.ofInt 1))))
theorem xt202_4 {X : nt_X} {d : Nat} {M : nt_M} {o : Option Value × nt_M} {p : Nat → Nat} {v1 : Int32} (hp : xs_P M p) (hv : 0 ≤ v1.toInt ∧ v1.toInt ≤ 5) : ∀ (c : Nat) (v2 : Int32) (v3 : Int32) (J : Nat → Nat → Int32), (xr_W (J (p 4)) ∧ 0 ≤ v3.toInt ∧ (J (p 4) 2).toInt - v3.toInt ≤ c) → nt_rn X d 202 (4, [(0, .ref (p 0)), (1, .int v1), (2, .int v2), (3, .int v3)], [], me_w M J) o → o = (none, me_w M (x202_4 p v1 c v2 v3 J)) := by
  intro c
  induction c with
  | zero =>
    intro v2 v3 J hc k
    have k := ly_revb 2 (c' := (6, [(0, .ref (p 0)), (1, .int v1), (2, .int v2), (3, .int v3)], [.ref (p 0), .int v3], me_w M J)) rfl k
    have k := lz_get (a := (p 0)) (g := 1127) (M := me_w M J) (v := .ref (p 4)) rfl (nt_gfR rfl (hp.1 (0, 27, 4) (by decide))) k
    have k := ly_revb 1 (c' := (10, [(0, .ref (p 0)), (1, .int v1), (2, .int v2), (3, .int v3)], [.int (Int32.ofInt 2), .ref (p 4), .int v3], me_w M J)) rfl k
    have k := mx_iald (v := J (p 4) 2) rfl (hp.2.2.1 4 (by omega)) ((congrArg (J (p 4)) (show (Int32.ofInt 2).toNatClampNeg = 2 from rfl)).trans (rfl)) k
    have k := ly_revb 1 (c' := (if (J (p 4) 2) ≤ v3 then 68 else 14, [(0, .ref (p 0)), (1, .int v1), (2, .int v2), (3, .int v3)], [], me_w M J)) rfl k
    have h11 : (J (p 4) 2) ≤ v3 := lx_end hc.2.2
    rw [if_pos h11] at k
    have k := ly_revb 3 (c' := (71, [(0, .ref (p 0)), (1, .int v1), (2, .int v2), (3, .int v3)], [.int (Int32.ofInt 5), .int v1, .ref (p 0)], me_w M J)) rfl k
    obtain ⟨d1, o1, ed, kc, k⟩ := lz_c (g := 169) (q := 1) (vs := [.ref (p 0), .int v1, .int (Int32.ofInt 5)]) (rest := []) rfl rfl (by decide) (Or.inr (Or.inl ⟨_, rfl, rfl⟩)) rfl k
    have e1 := xt169 hp kc
    subst e1
    have k : nt_rn X _ 202 (74, [(0, .ref (p 0)), (1, .int v1), (2, .int v2), (3, .int v3)], [.int (x169 p v1 (Int32.ofInt 5) J)], me_w M J) _ := k
    have k := ly_revb 3 (c' := (if v2 = 0 then 96 else 79, [(3, .int (x169 p v1 (Int32.ofInt 5) J)), (0, .ref (p 0)), (1, .int v1), (2, .int v2)], [], me_w M J)) rfl k
    by_cases h76 : v2 = 0
    · rw [if_pos h76] at k
      have k := lz_rv rfl rfl k
      rw [k, x202_4, if_pos h76]
    · rw [if_neg h76] at k
      have k := ly_revb 3 (c' := (82, [(3, .int (x169 p v1 (Int32.ofInt 5) J)), (0, .ref (p 0)), (1, .int v1), (2, .int v2)], [.int (Int32.ofInt 2), .int (x169 p v1 (Int32.ofInt 5) J), .ref (p 0)], me_w M J)) rfl k
      obtain ⟨d1, o1, ed, kc, k⟩ := lz_c (g := 180) (q := 1) (vs := [.ref (p 0), .int (x169 p v1 (Int32.ofInt 5) J), .int (Int32.ofInt 2)]) (rest := []) rfl rfl (by decide) (Or.inr (Or.inl ⟨_, rfl, rfl⟩)) rfl k
      have e1 := xt180 hp kc
      subst e1
      have k : nt_rn X _ 202 (85, [(3, .int (x169 p v1 (Int32.ofInt 5) J)), (0, .ref (p 0)), (1, .int v1), (2, .int v2)], [.int (x180 p (x169 p v1 (Int32.ofInt 5) J) (Int32.ofInt 2) J)], me_w M J) _ := k
      have k := ly_revb 1 (c' := (86, [(3, .int (x169 p v1 (Int32.ofInt 5) J)), (0, .ref (p 0)), (1, .int v1), (2, .int v2)], [.ref (p 0), .int (x180 p (x169 p v1 (Int32.ofInt 5) J) (Int32.ofInt 2) J)], me_w M J)) rfl k
      have k := lz_get (a := (p 0)) (g := 1127) (M := me_w M J) (v := .ref (p 4)) rfl (nt_gfR rfl (hp.1 (0, 27, 4) (by decide))) k
      have k := ly_revb 1 (c' := (90, [(3, .int (x169 p v1 (Int32.ofInt 5) J)), (0, .ref (p 0)), (1, .int v1), (2, .int v2)], [.int (Int32.ofInt 4), .ref (p 4), .int (x180 p (x169 p v1 (Int32.ofInt 5) J) (Int32.ofInt 2) J)], me_w M J)) rfl k
      have k := mx_iald (v := J (p 4) 4) rfl (hp.2.2.1 4 (by omega)) ((congrArg (J (p 4)) (show (Int32.ofInt 4).toNatClampNeg = 4 from rfl)).trans (rfl)) k
      have k := ly_revb 3 (c' := (if (x180 p (x169 p v1 (Int32.ofInt 5) J) (Int32.ofInt 2) J) = ((J (p 4) 4) + (Int32.ofInt 1)) then 96 else 97, [(3, .int (x169 p v1 (Int32.ofInt 5) J)), (0, .ref (p 0)), (1, .int v1), (2, .int v2)], [], me_w M J)) rfl k
      by_cases h93 : (x180 p (x169 p v1 (Int32.ofInt 5) J) (Int32.ofInt 2) J) = ((J (p 4) 4) + (Int32.ofInt 1))
      · rw [if_pos h93] at k
        have k := lz_rv rfl rfl k
        rw [k, x202_4, if_neg h76, if_pos h93]
      · rw [if_neg h93] at k
        have k := ly_revb 1 (c' := (98, [(3, .int (x169 p v1 (Int32.ofInt 5) J)), (0, .ref (p 0)), (1, .int v1), (2, .int v2)], [.ref (p 0)], me_w M J)) rfl k
        have k := lz_get (a := (p 0)) (g := 1127) (M := me_w M J) (v := .ref (p 4)) rfl (nt_gfR rfl (hp.1 (0, 27, 4) (by decide))) k
        have k := ly_revb 8 (c' := (111, [(3, .int (x169 p v1 (Int32.ofInt 5) J)), (0, .ref (p 0)), (1, .int v1), (2, .int v2)], [.int (Int32.ofInt 2), .int (((Int32.ofInt 10) + ((Int32.ofInt 7) * v1)) + (Int32.ofInt 4)), .ref (p 4)], me_w M J)) rfl k
        have k := mx_iast (q := (((Int32.ofInt 10) + ((Int32.ofInt 7) * v1)) + (Int32.ofInt 4)).toNatClampNeg) rfl rfl k
        have k : nt_rn X _ 202 (112, [(3, .int (x169 p v1 (Int32.ofInt 5) J)), (0, .ref (p 0)), (1, .int v1), (2, .int v2)], [], me_w M (nt_u J (p 4) ((((Int32.ofInt 10) + ((Int32.ofInt 7) * v1)) + (Int32.ofInt 4)).toNatClampNeg) (Int32.ofInt 2))) _ := k
        have k := ly_revb 1 (c' := (113, [(3, .int (x169 p v1 (Int32.ofInt 5) J)), (0, .ref (p 0)), (1, .int v1), (2, .int v2)], [.ref (p 0)], me_w M (nt_u J (p 4) ((((Int32.ofInt 10) + ((Int32.ofInt 7) * v1)) + (Int32.ofInt 4)).toNatClampNeg) (Int32.ofInt 2)))) rfl k
        have k := lz_get (a := (p 0)) (g := 1127) (M := me_w M (nt_u J (p 4) ((((Int32.ofInt 10) + ((Int32.ofInt 7) * v1)) + (Int32.ofInt 4)).toNatClampNeg) (Int32.ofInt 2))) (v := .ref (p 4)) rfl (nt_gfR rfl (hp.1 (0, 27, 4) (by decide))) k
        have k := ly_revb 8 (c' := (126, [(3, .int (x169 p v1 (Int32.ofInt 5) J)), (0, .ref (p 0)), (1, .int v1), (2, .int v2)], [.int (Int32.ofInt (-1)), .int (((Int32.ofInt 10) + ((Int32.ofInt 7) * v1)) + (Int32.ofInt 5)), .ref (p 4)], me_w M (nt_u J (p 4) ((((Int32.ofInt 10) + ((Int32.ofInt 7) * v1)) + (Int32.ofInt 4)).toNatClampNeg) (Int32.ofInt 2)))) rfl k
        have k := mx_iast (q := (((Int32.ofInt 10) + ((Int32.ofInt 7) * v1)) + (Int32.ofInt 5)).toNatClampNeg) rfl rfl k
        have k : nt_rn X _ 202 (127, [(3, .int (x169 p v1 (Int32.ofInt 5) J)), (0, .ref (p 0)), (1, .int v1), (2, .int v2)], [], me_w M (nt_u (nt_u J (p 4) ((((Int32.ofInt 10) + ((Int32.ofInt 7) * v1)) + (Int32.ofInt 4)).toNatClampNeg) (Int32.ofInt 2)) (p 4) ((((Int32.ofInt 10) + ((Int32.ofInt 7) * v1)) + (Int32.ofInt 5)).toNatClampNeg) (Int32.ofInt (-1)))) _ := k
        have k := ly_revb 1 (c' := (128, [(3, .int (x169 p v1 (Int32.ofInt 5) J)), (0, .ref (p 0)), (1, .int v1), (2, .int v2)], [.ref (p 0)], me_w M (nt_u (nt_u J (p 4) ((((Int32.ofInt 10) + ((Int32.ofInt 7) * v1)) + (Int32.ofInt 4)).toNatClampNeg) (Int32.ofInt 2)) (p 4) ((((Int32.ofInt 10) + ((Int32.ofInt 7) * v1)) + (Int32.ofInt 5)).toNatClampNeg) (Int32.ofInt (-1))))) rfl k
        have k := lz_get (a := (p 0)) (g := 1127) (M := me_w M (nt_u (nt_u J (p 4) ((((Int32.ofInt 10) + ((Int32.ofInt 7) * v1)) + (Int32.ofInt 4)).toNatClampNeg) (Int32.ofInt 2)) (p 4) ((((Int32.ofInt 10) + ((Int32.ofInt 7) * v1)) + (Int32.ofInt 5)).toNatClampNeg) (Int32.ofInt (-1)))) (v := .ref (p 4)) rfl (nt_gfR rfl (hp.1 (0, 27, 4) (by decide))) k
        have k := ly_revb 8 (c' := (141, [(3, .int (x169 p v1 (Int32.ofInt 5) J)), (0, .ref (p 0)), (1, .int v1), (2, .int v2)], [.int (Int32.ofInt 3), .int (((Int32.ofInt 172) + ((Int32.ofInt 5) * (x169 p v1 (Int32.ofInt 5) J))) + (Int32.ofInt 4)), .ref (p 4)], me_w M (nt_u (nt_u J (p 4) ((((Int32.ofInt 10) + ((Int32.ofInt 7) * v1)) + (Int32.ofInt 4)).toNatClampNeg) (Int32.ofInt 2)) (p 4) ((((Int32.ofInt 10) + ((Int32.ofInt 7) * v1)) + (Int32.ofInt 5)).toNatClampNeg) (Int32.ofInt (-1))))) rfl k
        have k := mx_iast (q := (((Int32.ofInt 172) + ((Int32.ofInt 5) * (x169 p v1 (Int32.ofInt 5) J))) + (Int32.ofInt 4)).toNatClampNeg) rfl rfl k
        have k : nt_rn X _ 202 (142, [(3, .int (x169 p v1 (Int32.ofInt 5) J)), (0, .ref (p 0)), (1, .int v1), (2, .int v2)], [], me_w M (nt_u (nt_u (nt_u J (p 4) ((((Int32.ofInt 10) + ((Int32.ofInt 7) * v1)) + (Int32.ofInt 4)).toNatClampNeg) (Int32.ofInt 2)) (p 4) ((((Int32.ofInt 10) + ((Int32.ofInt 7) * v1)) + (Int32.ofInt 5)).toNatClampNeg) (Int32.ofInt (-1))) (p 4) ((((Int32.ofInt 172) + ((Int32.ofInt 5) * (x169 p v1 (Int32.ofInt 5) J))) + (Int32.ofInt 4)).toNatClampNeg) (Int32.ofInt 3))) _ := k
        have k := ly_revb 2 (c' := (145, [(4, .int (Int32.ofInt 0)), (3, .int (x169 p v1 (Int32.ofInt 5) J)), (0, .ref (p 0)), (1, .int v1), (2, .int v2)], [], me_w M (nt_u (nt_u (nt_u J (p 4) ((((Int32.ofInt 10) + ((Int32.ofInt 7) * v1)) + (Int32.ofInt 4)).toNatClampNeg) (Int32.ofInt 2)) (p 4) ((((Int32.ofInt 10) + ((Int32.ofInt 7) * v1)) + (Int32.ofInt 5)).toNatClampNeg) (Int32.ofInt (-1))) (p 4) ((((Int32.ofInt 172) + ((Int32.ofInt 5) * (x169 p v1 (Int32.ofInt 5) J))) + (Int32.ofInt 4)).toNatClampNeg) (Int32.ofInt 3)))) rfl k
        have k := nt_rn_w (a := [(4, .int (Int32.ofInt 0)), (3, .int (x169 p v1 (Int32.ofInt 5) J)), (0, .ref (p 0)), (1, .int v1), (2, .int v2)]) (b := [(0, .ref (p 0)), (1, .int v1), (2, .int v2), (3, .int (x169 p v1 (Int32.ofInt 5) J)), (4, .int (Int32.ofInt 0))]) ⟨rfl, rfl, rfl, rfl, rfl, trivial⟩ rfl k
        have k := xt202_145 hp hv  (((nt_u (nt_u (nt_u J (p 4) ((((Int32.ofInt 10) + ((Int32.ofInt 7) * v1)) + (Int32.ofInt 4)).toNatClampNeg) (Int32.ofInt 2)) (p 4) ((((Int32.ofInt 10) + ((Int32.ofInt 7) * v1)) + (Int32.ofInt 5)).toNatClampNeg) (Int32.ofInt (-1))) (p 4) ((((Int32.ofInt 172) + ((Int32.ofInt 5) * (x169 p v1 (Int32.ofInt 5) J))) + (Int32.ofInt 4)).toNatClampNeg) (Int32.ofInt 3)) (p 4) 2).toNatClampNeg) (Int32.ofInt 0) (nt_u (nt_u (nt_u J (p 4) ((((Int32.ofInt 10) + ((Int32.ofInt 7) * v1)) + (Int32.ofInt 4)).toNatClampNeg) (Int32.ofInt 2)) (p 4) ((((Int32.ofInt 10) + ((Int32.ofInt 7) * v1)) + (Int32.ofInt 5)).toNatClampNeg) (Int32.ofInt (-1))) (p 4) ((((Int32.ofInt 172) + ((Int32.ofInt 5) * (x169 p v1 (Int32.ofInt 5) J))) + (Int32.ofInt 4)).toNatClampNeg) (Int32.ofInt 3)) (⟨xk_lose hc.1 hv (xi_on hc.1 hv), by decide, lx_beg (by decide)⟩) k
        rw [k, x202_4, if_neg h76, if_neg h93]
  | succ c ih =>
    intro v2 v3 J hc k
    have k := ly_revb 2 (c' := (6, [(0, .ref (p 0)), (1, .int v1), (2, .int v2), (3, .int v3)], [.ref (p 0), .int v3], me_w M J)) rfl k
    have k := lz_get (a := (p 0)) (g := 1127) (M := me_w M J) (v := .ref (p 4)) rfl (nt_gfR rfl (hp.1 (0, 27, 4) (by decide))) k
    have k := ly_revb 1 (c' := (10, [(0, .ref (p 0)), (1, .int v1), (2, .int v2), (3, .int v3)], [.int (Int32.ofInt 2), .ref (p 4), .int v3], me_w M J)) rfl k
    have k := mx_iald (v := J (p 4) 2) rfl (hp.2.2.1 4 (by omega)) ((congrArg (J (p 4)) (show (Int32.ofInt 2).toNatClampNeg = 2 from rfl)).trans (rfl)) k
    have k := ly_revb 1 (c' := (if (J (p 4) 2) ≤ v3 then 68 else 14, [(0, .ref (p 0)), (1, .int v1), (2, .int v2), (3, .int v3)], [], me_w M J)) rfl k
    by_cases h11 : (J (p 4) 2) ≤ v3
    · rw [if_pos h11] at k
      have k := ly_revb 3 (c' := (71, [(0, .ref (p 0)), (1, .int v1), (2, .int v2), (3, .int v3)], [.int (Int32.ofInt 5), .int v1, .ref (p 0)], me_w M J)) rfl k
      obtain ⟨d1, o1, ed, kc, k⟩ := lz_c (g := 169) (q := 1) (vs := [.ref (p 0), .int v1, .int (Int32.ofInt 5)]) (rest := []) rfl rfl (by decide) (Or.inr (Or.inl ⟨_, rfl, rfl⟩)) rfl k
      have e1 := xt169 hp kc
      subst e1
      have k : nt_rn X _ 202 (74, [(0, .ref (p 0)), (1, .int v1), (2, .int v2), (3, .int v3)], [.int (x169 p v1 (Int32.ofInt 5) J)], me_w M J) _ := k
      have k := ly_revb 3 (c' := (if v2 = 0 then 96 else 79, [(3, .int (x169 p v1 (Int32.ofInt 5) J)), (0, .ref (p 0)), (1, .int v1), (2, .int v2)], [], me_w M J)) rfl k
      by_cases h76 : v2 = 0
      · rw [if_pos h76] at k
        have k := lz_rv rfl rfl k
        rw [k, x202_4, if_pos h11, if_pos h76]
      · rw [if_neg h76] at k
        have k := ly_revb 3 (c' := (82, [(3, .int (x169 p v1 (Int32.ofInt 5) J)), (0, .ref (p 0)), (1, .int v1), (2, .int v2)], [.int (Int32.ofInt 2), .int (x169 p v1 (Int32.ofInt 5) J), .ref (p 0)], me_w M J)) rfl k
        obtain ⟨d1, o1, ed, kc, k⟩ := lz_c (g := 180) (q := 1) (vs := [.ref (p 0), .int (x169 p v1 (Int32.ofInt 5) J), .int (Int32.ofInt 2)]) (rest := []) rfl rfl (by decide) (Or.inr (Or.inl ⟨_, rfl, rfl⟩)) rfl k
        have e1 := xt180 hp kc
        subst e1
        have k : nt_rn X _ 202 (85, [(3, .int (x169 p v1 (Int32.ofInt 5) J)), (0, .ref (p 0)), (1, .int v1), (2, .int v2)], [.int (x180 p (x169 p v1 (Int32.ofInt 5) J) (Int32.ofInt 2) J)], me_w M J) _ := k
        have k := ly_revb 1 (c' := (86, [(3, .int (x169 p v1 (Int32.ofInt 5) J)), (0, .ref (p 0)), (1, .int v1), (2, .int v2)], [.ref (p 0), .int (x180 p (x169 p v1 (Int32.ofInt 5) J) (Int32.ofInt 2) J)], me_w M J)) rfl k
        have k := lz_get (a := (p 0)) (g := 1127) (M := me_w M J) (v := .ref (p 4)) rfl (nt_gfR rfl (hp.1 (0, 27, 4) (by decide))) k
        have k := ly_revb 1 (c' := (90, [(3, .int (x169 p v1 (Int32.ofInt 5) J)), (0, .ref (p 0)), (1, .int v1), (2, .int v2)], [.int (Int32.ofInt 4), .ref (p 4), .int (x180 p (x169 p v1 (Int32.ofInt 5) J) (Int32.ofInt 2) J)], me_w M J)) rfl k
        have k := mx_iald (v := J (p 4) 4) rfl (hp.2.2.1 4 (by omega)) ((congrArg (J (p 4)) (show (Int32.ofInt 4).toNatClampNeg = 4 from rfl)).trans (rfl)) k
        have k := ly_revb 3 (c' := (if (x180 p (x169 p v1 (Int32.ofInt 5) J) (Int32.ofInt 2) J) = ((J (p 4) 4) + (Int32.ofInt 1)) then 96 else 97, [(3, .int (x169 p v1 (Int32.ofInt 5) J)), (0, .ref (p 0)), (1, .int v1), (2, .int v2)], [], me_w M J)) rfl k
        by_cases h93 : (x180 p (x169 p v1 (Int32.ofInt 5) J) (Int32.ofInt 2) J) = ((J (p 4) 4) + (Int32.ofInt 1))
        · rw [if_pos h93] at k
          have k := lz_rv rfl rfl k
          rw [k, x202_4, if_pos h11, if_neg h76, if_pos h93]
        · rw [if_neg h93] at k
          have k := ly_revb 1 (c' := (98, [(3, .int (x169 p v1 (Int32.ofInt 5) J)), (0, .ref (p 0)), (1, .int v1), (2, .int v2)], [.ref (p 0)], me_w M J)) rfl k
          have k := lz_get (a := (p 0)) (g := 1127) (M := me_w M J) (v := .ref (p 4)) rfl (nt_gfR rfl (hp.1 (0, 27, 4) (by decide))) k
          have k := ly_revb 8 (c' := (111, [(3, .int (x169 p v1 (Int32.ofInt 5) J)), (0, .ref (p 0)), (1, .int v1), (2, .int v2)], [.int (Int32.ofInt 2), .int (((Int32.ofInt 10) + ((Int32.ofInt 7) * v1)) + (Int32.ofInt 4)), .ref (p 4)], me_w M J)) rfl k
          have k := mx_iast (q := (((Int32.ofInt 10) + ((Int32.ofInt 7) * v1)) + (Int32.ofInt 4)).toNatClampNeg) rfl rfl k
          have k : nt_rn X _ 202 (112, [(3, .int (x169 p v1 (Int32.ofInt 5) J)), (0, .ref (p 0)), (1, .int v1), (2, .int v2)], [], me_w M (nt_u J (p 4) ((((Int32.ofInt 10) + ((Int32.ofInt 7) * v1)) + (Int32.ofInt 4)).toNatClampNeg) (Int32.ofInt 2))) _ := k
          have k := ly_revb 1 (c' := (113, [(3, .int (x169 p v1 (Int32.ofInt 5) J)), (0, .ref (p 0)), (1, .int v1), (2, .int v2)], [.ref (p 0)], me_w M (nt_u J (p 4) ((((Int32.ofInt 10) + ((Int32.ofInt 7) * v1)) + (Int32.ofInt 4)).toNatClampNeg) (Int32.ofInt 2)))) rfl k
          have k := lz_get (a := (p 0)) (g := 1127) (M := me_w M (nt_u J (p 4) ((((Int32.ofInt 10) + ((Int32.ofInt 7) * v1)) + (Int32.ofInt 4)).toNatClampNeg) (Int32.ofInt 2))) (v := .ref (p 4)) rfl (nt_gfR rfl (hp.1 (0, 27, 4) (by decide))) k
          have k := ly_revb 8 (c' := (126, [(3, .int (x169 p v1 (Int32.ofInt 5) J)), (0, .ref (p 0)), (1, .int v1), (2, .int v2)], [.int (Int32.ofInt (-1)), .int (((Int32.ofInt 10) + ((Int32.ofInt 7) * v1)) + (Int32.ofInt 5)), .ref (p 4)], me_w M (nt_u J (p 4) ((((Int32.ofInt 10) + ((Int32.ofInt 7) * v1)) + (Int32.ofInt 4)).toNatClampNeg) (Int32.ofInt 2)))) rfl k
          have k := mx_iast (q := (((Int32.ofInt 10) + ((Int32.ofInt 7) * v1)) + (Int32.ofInt 5)).toNatClampNeg) rfl rfl k
          have k : nt_rn X _ 202 (127, [(3, .int (x169 p v1 (Int32.ofInt 5) J)), (0, .ref (p 0)), (1, .int v1), (2, .int v2)], [], me_w M (nt_u (nt_u J (p 4) ((((Int32.ofInt 10) + ((Int32.ofInt 7) * v1)) + (Int32.ofInt 4)).toNatClampNeg) (Int32.ofInt 2)) (p 4) ((((Int32.ofInt 10) + ((Int32.ofInt 7) * v1)) + (Int32.ofInt 5)).toNatClampNeg) (Int32.ofInt (-1)))) _ := k
          have k := ly_revb 1 (c' := (128, [(3, .int (x169 p v1 (Int32.ofInt 5) J)), (0, .ref (p 0)), (1, .int v1), (2, .int v2)], [.ref (p 0)], me_w M (nt_u (nt_u J (p 4) ((((Int32.ofInt 10) + ((Int32.ofInt 7) * v1)) + (Int32.ofInt 4)).toNatClampNeg) (Int32.ofInt 2)) (p 4) ((((Int32.ofInt 10) + ((Int32.ofInt 7) * v1)) + (Int32.ofInt 5)).toNatClampNeg) (Int32.ofInt (-1))))) rfl k
          have k := lz_get (a := (p 0)) (g := 1127) (M := me_w M (nt_u (nt_u J (p 4) ((((Int32.ofInt 10) + ((Int32.ofInt 7) * v1)) + (Int32.ofInt 4)).toNatClampNeg) (Int32.ofInt 2)) (p 4) ((((Int32.ofInt 10) + ((Int32.ofInt 7) * v1)) + (Int32.ofInt 5)).toNatClampNeg) (Int32.ofInt (-1)))) (v := .ref (p 4)) rfl (nt_gfR rfl (hp.1 (0, 27, 4) (by decide))) k
          have k := ly_revb 8 (c' := (141, [(3, .int (x169 p v1 (Int32.ofInt 5) J)), (0, .ref (p 0)), (1, .int v1), (2, .int v2)], [.int (Int32.ofInt 3), .int (((Int32.ofInt 172) + ((Int32.ofInt 5) * (x169 p v1 (Int32.ofInt 5) J))) + (Int32.ofInt 4)), .ref (p 4)], me_w M (nt_u (nt_u J (p 4) ((((Int32.ofInt 10) + ((Int32.ofInt 7) * v1)) + (Int32.ofInt 4)).toNatClampNeg) (Int32.ofInt 2)) (p 4) ((((Int32.ofInt 10) + ((Int32.ofInt 7) * v1)) + (Int32.ofInt 5)).toNatClampNeg) (Int32.ofInt (-1))))) rfl k
          have k := mx_iast (q := (((Int32.ofInt 172) + ((Int32.ofInt 5) * (x169 p v1 (Int32.ofInt 5) J))) + (Int32.ofInt 4)).toNatClampNeg) rfl rfl k
          have k : nt_rn X _ 202 (142, [(3, .int (x169 p v1 (Int32.ofInt 5) J)), (0, .ref (p 0)), (1, .int v1), (2, .int v2)], [], me_w M (nt_u (nt_u (nt_u J (p 4) ((((Int32.ofInt 10) + ((Int32.ofInt 7) * v1)) + (Int32.ofInt 4)).toNatClampNeg) (Int32.ofInt 2)) (p 4) ((((Int32.ofInt 10) + ((Int32.ofInt 7) * v1)) + (Int32.ofInt 5)).toNatClampNeg) (Int32.ofInt (-1))) (p 4) ((((Int32.ofInt 172) + ((Int32.ofInt 5) * (x169 p v1 (Int32.ofInt 5) J))) + (Int32.ofInt 4)).toNatClampNeg) (Int32.ofInt 3))) _ := k
          have k := ly_revb 2 (c' := (145, [(4, .int (Int32.ofInt 0)), (3, .int (x169 p v1 (Int32.ofInt 5) J)), (0, .ref (p 0)), (1, .int v1), (2, .int v2)], [], me_w M (nt_u (nt_u (nt_u J (p 4) ((((Int32.ofInt 10) + ((Int32.ofInt 7) * v1)) + (Int32.ofInt 4)).toNatClampNeg) (Int32.ofInt 2)) (p 4) ((((Int32.ofInt 10) + ((Int32.ofInt 7) * v1)) + (Int32.ofInt 5)).toNatClampNeg) (Int32.ofInt (-1))) (p 4) ((((Int32.ofInt 172) + ((Int32.ofInt 5) * (x169 p v1 (Int32.ofInt 5) J))) + (Int32.ofInt 4)).toNatClampNeg) (Int32.ofInt 3)))) rfl k
          have k := nt_rn_w (a := [(4, .int (Int32.ofInt 0)), (3, .int (x169 p v1 (Int32.ofInt 5) J)), (0, .ref (p 0)), (1, .int v1), (2, .int v2)]) (b := [(0, .ref (p 0)), (1, .int v1), (2, .int v2), (3, .int (x169 p v1 (Int32.ofInt 5) J)), (4, .int (Int32.ofInt 0))]) ⟨rfl, rfl, rfl, rfl, rfl, trivial⟩ rfl k
          have k := xt202_145 hp hv  (((nt_u (nt_u (nt_u J (p 4) ((((Int32.ofInt 10) + ((Int32.ofInt 7) * v1)) + (Int32.ofInt 4)).toNatClampNeg) (Int32.ofInt 2)) (p 4) ((((Int32.ofInt 10) + ((Int32.ofInt 7) * v1)) + (Int32.ofInt 5)).toNatClampNeg) (Int32.ofInt (-1))) (p 4) ((((Int32.ofInt 172) + ((Int32.ofInt 5) * (x169 p v1 (Int32.ofInt 5) J))) + (Int32.ofInt 4)).toNatClampNeg) (Int32.ofInt 3)) (p 4) 2).toNatClampNeg) (Int32.ofInt 0) (nt_u (nt_u (nt_u J (p 4) ((((Int32.ofInt 10) + ((Int32.ofInt 7) * v1)) + (Int32.ofInt 4)).toNatClampNeg) (Int32.ofInt 2)) (p 4) ((((Int32.ofInt 10) + ((Int32.ofInt 7) * v1)) + (Int32.ofInt 5)).toNatClampNeg) (Int32.ofInt (-1))) (p 4) ((((Int32.ofInt 172) + ((Int32.ofInt 5) * (x169 p v1 (Int32.ofInt 5) J))) + (Int32.ofInt 4)).toNatClampNeg) (Int32.ofInt 3)) (⟨xk_lose hc.1 hv (xi_on hc.1 hv), by decide, lx_beg (by decide)⟩) k
          rw [k, x202_4, if_pos h11, if_neg h76, if_neg h93]
    · rw [if_neg h11] at k
      have k := ly_revb 3 (c' := (17, [(0, .ref (p 0)), (1, .int v1), (2, .int v2), (3, .int v3)], [.int v1, .int v3, .ref (p 0)], me_w M J)) rfl k
      obtain ⟨d1, o1, ed, kc, k⟩ := lz_c (g := 171) (q := 1) (vs := [.ref (p 0), .int v3, .int v1]) (rest := []) rfl rfl (by decide) (Or.inr (Or.inl ⟨_, rfl, rfl⟩)) rfl k
      have e1 := xt171 hp kc
      subst e1
      have k : nt_rn X _ 202 (20, [(0, .ref (p 0)), (1, .int v1), (2, .int v2), (3, .int v3)], [.int (x171 p v3 v1 J)], me_w M J) _ := k
      have k := ly_revb 1 (c' := (if (x171 p v3 v1 J) = 0 then 23 else 26, [(0, .ref (p 0)), (1, .int v1), (2, .int v2), (3, .int v3)], [], me_w M J)) rfl k
      by_cases h20 : (x171 p v3 v1 J) = 0
      · rw [if_pos h20] at k
        have k := ly_revb 3 (c' := (4, [(3, .int (v3 + (Int32.ofInt 1))), (0, .ref (p 0)), (1, .int v1), (2, .int v2)], [], me_w M J)) rfl k
        have k := nt_rn_w (a := [(3, .int (v3 + (Int32.ofInt 1))), (0, .ref (p 0)), (1, .int v1), (2, .int v2)]) (b := [(0, .ref (p 0)), (1, .int v1), (2, .int v2), (3, .int (v3 + (Int32.ofInt 1)))]) ⟨rfl, rfl, rfl, rfl, trivial⟩ rfl k
        have k := ih v2 (v3 + (Int32.ofInt 1)) J (xk_dec hc.1 h11 hc.2.1 hc.2.2) k
        rw [k, x202_4, if_neg h11, if_pos h20]
      · rw [if_neg h20] at k
        have k := ly_revb 1 (c' := (27, [(0, .ref (p 0)), (1, .int v1), (2, .int v2), (3, .int v3)], [.ref (p 0)], me_w M J)) rfl k
        have k := lz_get (a := (p 0)) (g := 1127) (M := me_w M J) (v := .ref (p 4)) rfl (nt_gfR rfl (hp.1 (0, 27, 4) (by decide))) k
        have k := ly_revb 8 (c' := (39, [(0, .ref (p 0)), (1, .int v1), (2, .int v2), (3, .int v3)], [.int (((Int32.ofInt 52) + ((Int32.ofInt 5) * v3)) + (Int32.ofInt 1)), .ref (p 4), .int (((Int32.ofInt 52) + ((Int32.ofInt 5) * v3)) + (Int32.ofInt 1)), .ref (p 4)], me_w M J)) rfl k
        have k := mx_iald (v := J (p 4) ((((Int32.ofInt 52) + ((Int32.ofInt 5) * v3)) + (Int32.ofInt 1)).toNatClampNeg)) rfl (hp.2.2.1 4 (by omega)) (rfl) k
        have k := ly_revb 2 (c' := (42, [(0, .ref (p 0)), (1, .int v1), (2, .int v2), (3, .int v3)], [.int ((J (p 4) ((((Int32.ofInt 52) + ((Int32.ofInt 5) * v3)) + (Int32.ofInt 1)).toNatClampNeg)) - (Int32.ofInt 1)), .int (((Int32.ofInt 52) + ((Int32.ofInt 5) * v3)) + (Int32.ofInt 1)), .ref (p 4)], me_w M J)) rfl k
        have k := mx_iast (q := (((Int32.ofInt 52) + ((Int32.ofInt 5) * v3)) + (Int32.ofInt 1)).toNatClampNeg) rfl rfl k
        have k : nt_rn X _ 202 (43, [(0, .ref (p 0)), (1, .int v1), (2, .int v2), (3, .int v3)], [], me_w M (nt_u J (p 4) ((((Int32.ofInt 52) + ((Int32.ofInt 5) * v3)) + (Int32.ofInt 1)).toNatClampNeg) ((J (p 4) ((((Int32.ofInt 52) + ((Int32.ofInt 5) * v3)) + (Int32.ofInt 1)).toNatClampNeg)) - (Int32.ofInt 1)))) _ := k
        have k := ly_revb 2 (c' := (if v2 = 0 then 47 else 56, [(0, .ref (p 0)), (1, .int v1), (2, .int v2), (3, .int v3)], [], me_w M (nt_u J (p 4) ((((Int32.ofInt 52) + ((Int32.ofInt 5) * v3)) + (Int32.ofInt 1)).toNatClampNeg) ((J (p 4) ((((Int32.ofInt 52) + ((Int32.ofInt 5) * v3)) + (Int32.ofInt 1)).toNatClampNeg)) - (Int32.ofInt 1))))) rfl k
        by_cases h44 : v2 = 0
        · rw [if_pos h44] at k
          have k := ly_revb 3 (c' := (50, [(0, .ref (p 0)), (1, .int v1), (2, .int v2), (3, .int v3)], [.int (Int32.ofInt 1), .int v3, .ref (p 0)], me_w M (nt_u J (p 4) ((((Int32.ofInt 52) + ((Int32.ofInt 5) * v3)) + (Int32.ofInt 1)).toNatClampNeg) ((J (p 4) ((((Int32.ofInt 52) + ((Int32.ofInt 5) * v3)) + (Int32.ofInt 1)).toNatClampNeg)) - (Int32.ofInt 1))))) rfl k
          obtain ⟨d1, o1, ed, kc, k⟩ := lz_c (g := 173) (q := 1) (vs := [.ref (p 0), .int v3, .int (Int32.ofInt 1)]) (rest := []) rfl rfl (by decide) (Or.inr (Or.inl ⟨_, rfl, rfl⟩)) rfl k
          have e1 := xt173 hp kc
          subst e1
          have k : nt_rn X _ 202 (53, [(0, .ref (p 0)), (1, .int v1), (2, .int v2), (3, .int v3)], [.int (x173 p v3 (Int32.ofInt 1) (nt_u J (p 4) ((((Int32.ofInt 52) + ((Int32.ofInt 5) * v3)) + (Int32.ofInt 1)).toNatClampNeg) ((J (p 4) ((((Int32.ofInt 52) + ((Int32.ofInt 5) * v3)) + (Int32.ofInt 1)).toNatClampNeg)) - (Int32.ofInt 1))))], me_w M (nt_u J (p 4) ((((Int32.ofInt 52) + ((Int32.ofInt 5) * v3)) + (Int32.ofInt 1)).toNatClampNeg) ((J (p 4) ((((Int32.ofInt 52) + ((Int32.ofInt 5) * v3)) + (Int32.ofInt 1)).toNatClampNeg)) - (Int32.ofInt 1)))) _ := k
          have k := ly_revb 1 (c' := (if (x173 p v3 (Int32.ofInt 1) (nt_u J (p 4) ((((Int32.ofInt 52) + ((Int32.ofInt 5) * v3)) + (Int32.ofInt 1)).toNatClampNeg) ((J (p 4) ((((Int32.ofInt 52) + ((Int32.ofInt 5) * v3)) + (Int32.ofInt 1)).toNatClampNeg)) - (Int32.ofInt 1)))) = 0 then 56 else 60, [(0, .ref (p 0)), (1, .int v1), (2, .int v2), (3, .int v3)], [], me_w M (nt_u J (p 4) ((((Int32.ofInt 52) + ((Int32.ofInt 5) * v3)) + (Int32.ofInt 1)).toNatClampNeg) ((J (p 4) ((((Int32.ofInt 52) + ((Int32.ofInt 5) * v3)) + (Int32.ofInt 1)).toNatClampNeg)) - (Int32.ofInt 1))))) rfl k
          by_cases h53 : (x173 p v3 (Int32.ofInt 1) (nt_u J (p 4) ((((Int32.ofInt 52) + ((Int32.ofInt 5) * v3)) + (Int32.ofInt 1)).toNatClampNeg) ((J (p 4) ((((Int32.ofInt 52) + ((Int32.ofInt 5) * v3)) + (Int32.ofInt 1)).toNatClampNeg)) - (Int32.ofInt 1)))) = 0
          · rw [if_pos h53] at k
            have k := ly_revb 5 (c' := (4, [(3, .int (v3 + (Int32.ofInt 1))), (2, .int (Int32.ofInt 1)), (0, .ref (p 0)), (1, .int v1)], [], me_w M (nt_u J (p 4) ((((Int32.ofInt 52) + ((Int32.ofInt 5) * v3)) + (Int32.ofInt 1)).toNatClampNeg) ((J (p 4) ((((Int32.ofInt 52) + ((Int32.ofInt 5) * v3)) + (Int32.ofInt 1)).toNatClampNeg)) - (Int32.ofInt 1))))) rfl k
            have k := nt_rn_w (a := [(3, .int (v3 + (Int32.ofInt 1))), (2, .int (Int32.ofInt 1)), (0, .ref (p 0)), (1, .int v1)]) (b := [(0, .ref (p 0)), (1, .int v1), (2, .int (Int32.ofInt 1)), (3, .int (v3 + (Int32.ofInt 1)))]) ⟨rfl, rfl, rfl, rfl, trivial⟩ rfl k
            have k := ih (Int32.ofInt 1) (v3 + (Int32.ofInt 1)) (nt_u J (p 4) ((((Int32.ofInt 52) + ((Int32.ofInt 5) * v3)) + (Int32.ofInt 1)).toNatClampNeg) ((J (p 4) ((((Int32.ofInt 52) + ((Int32.ofInt 5) * v3)) + (Int32.ofInt 1)).toNatClampNeg)) - (Int32.ofInt 1))) (by have l24 := xi_lt h11 (xr_2 hc.1).2; exact xk_decw hc.1 (by rw [xi_p1 hc.2.1 (by have := xi_lt h11 (xr_2 hc.1).2; omega)]; exact xr_bp (by have := hc.2.1; omega) (by omega) (by omega) (by omega)) (by omega) (by rw [xi_p1 hc.2.1 (by have := xi_lt h11 (xr_2 hc.1).2; omega)]; omega) h11 hc.2.1 hc.2.2) k
            rw [k, x202_4, if_neg h11, if_neg h20, if_pos h44, if_pos h53]
          · rw [if_neg h53] at k
            have k := ly_revb 4 (c' := (4, [(3, .int (v3 + (Int32.ofInt 1))), (2, .int (Int32.ofInt 0)), (0, .ref (p 0)), (1, .int v1)], [], me_w M (nt_u J (p 4) ((((Int32.ofInt 52) + ((Int32.ofInt 5) * v3)) + (Int32.ofInt 1)).toNatClampNeg) ((J (p 4) ((((Int32.ofInt 52) + ((Int32.ofInt 5) * v3)) + (Int32.ofInt 1)).toNatClampNeg)) - (Int32.ofInt 1))))) rfl k
            have k := nt_rn_w (a := [(3, .int (v3 + (Int32.ofInt 1))), (2, .int (Int32.ofInt 0)), (0, .ref (p 0)), (1, .int v1)]) (b := [(0, .ref (p 0)), (1, .int v1), (2, .int (Int32.ofInt 0)), (3, .int (v3 + (Int32.ofInt 1)))]) ⟨rfl, rfl, rfl, rfl, trivial⟩ rfl k
            have k := ih (Int32.ofInt 0) (v3 + (Int32.ofInt 1)) (nt_u J (p 4) ((((Int32.ofInt 52) + ((Int32.ofInt 5) * v3)) + (Int32.ofInt 1)).toNatClampNeg) ((J (p 4) ((((Int32.ofInt 52) + ((Int32.ofInt 5) * v3)) + (Int32.ofInt 1)).toNatClampNeg)) - (Int32.ofInt 1))) (by have l24 := xi_lt h11 (xr_2 hc.1).2; exact xk_decw hc.1 (by rw [xi_p1 hc.2.1 (by have := xi_lt h11 (xr_2 hc.1).2; omega)]; exact xr_bp (by have := hc.2.1; omega) (by omega) (by omega) (by omega)) (by omega) (by rw [xi_p1 hc.2.1 (by have := xi_lt h11 (xr_2 hc.1).2; omega)]; omega) h11 hc.2.1 hc.2.2) k
            rw [k, x202_4, if_neg h11, if_neg h20, if_pos h44, if_neg h53]
        · rw [if_neg h44] at k
          have k := ly_revb 5 (c' := (4, [(3, .int (v3 + (Int32.ofInt 1))), (2, .int (Int32.ofInt 1)), (0, .ref (p 0)), (1, .int v1)], [], me_w M (nt_u J (p 4) ((((Int32.ofInt 52) + ((Int32.ofInt 5) * v3)) + (Int32.ofInt 1)).toNatClampNeg) ((J (p 4) ((((Int32.ofInt 52) + ((Int32.ofInt 5) * v3)) + (Int32.ofInt 1)).toNatClampNeg)) - (Int32.ofInt 1))))) rfl k
          have k := nt_rn_w (a := [(3, .int (v3 + (Int32.ofInt 1))), (2, .int (Int32.ofInt 1)), (0, .ref (p 0)), (1, .int v1)]) (b := [(0, .ref (p 0)), (1, .int v1), (2, .int (Int32.ofInt 1)), (3, .int (v3 + (Int32.ofInt 1)))]) ⟨rfl, rfl, rfl, rfl, trivial⟩ rfl k
          have k := ih (Int32.ofInt 1) (v3 + (Int32.ofInt 1)) (nt_u J (p 4) ((((Int32.ofInt 52) + ((Int32.ofInt 5) * v3)) + (Int32.ofInt 1)).toNatClampNeg) ((J (p 4) ((((Int32.ofInt 52) + ((Int32.ofInt 5) * v3)) + (Int32.ofInt 1)).toNatClampNeg)) - (Int32.ofInt 1))) (by have l24 := xi_lt h11 (xr_2 hc.1).2; exact xk_decw hc.1 (by rw [xi_p1 hc.2.1 (by have := xi_lt h11 (xr_2 hc.1).2; omega)]; exact xr_bp (by have := hc.2.1; omega) (by omega) (by omega) (by omega)) (by omega) (by rw [xi_p1 hc.2.1 (by have := xi_lt h11 (xr_2 hc.1).2; omega)]; omega) h11 hc.2.1 hc.2.2) k
          rw [k, x202_4, if_neg h11, if_neg h20, if_neg h44]
theorem x202_4_rule {p : Nat → Nat} {v1 : Int32} {I : Nat → Int32 → Int32 → (Nat → Nat → Int32) → Prop} {Q : (Nat → Nat → Int32) → Prop} (h0 : ∀ (v2 : Int32) (v3 : Int32) (J : Nat → Nat → Int32), I 0 v2 v3 J → Q (if v2 = 0 then J
    else if (x180 p (x169 p v1 (Int32.ofInt 5) J) (Int32.ofInt 2) J) = ((J (p 4) 4) + (Int32.ofInt 1)) then J
      else (x202_145 p v1 (((nt_u (nt_u (nt_u J (p 4) ((((Int32.ofInt 10) + ((Int32.ofInt 7) * v1)) + (Int32.ofInt 4)).toNatClampNeg) (Int32.ofInt 2)) (p 4) ((((Int32.ofInt 10) + ((Int32.ofInt 7) * v1)) + (Int32.ofInt 5)).toNatClampNeg) (Int32.ofInt (-1))) (p 4) ((((Int32.ofInt 172) + ((Int32.ofInt 5) * (x169 p v1 (Int32.ofInt 5) J))) + (Int32.ofInt 4)).toNatClampNeg) (Int32.ofInt 3)) (p 4) 2).toNatClampNeg) (Int32.ofInt 0) (nt_u (nt_u (nt_u J (p 4) ((((Int32.ofInt 10) + ((Int32.ofInt 7) * v1)) + (Int32.ofInt 4)).toNatClampNeg) (Int32.ofInt 2)) (p 4) ((((Int32.ofInt 10) + ((Int32.ofInt 7) * v1)) + (Int32.ofInt 5)).toNatClampNeg) (Int32.ofInt (-1))) (p 4) ((((Int32.ofInt 172) + ((Int32.ofInt 5) * (x169 p v1 (Int32.ofInt 5) J))) + (Int32.ofInt 4)).toNatClampNeg) (Int32.ofInt 3))))) (h1 : ∀ (c : Nat) (v2 : Int32) (v3 : Int32) (J : Nat → Nat → Int32), I (c + 1) v2 v3 J →
    if (J (p 4) 2) ≤ v3 then if v2 = 0 then (Q J)
      else if (x180 p (x169 p v1 (Int32.ofInt 5) J) (Int32.ofInt 2) J) = ((J (p 4) 4) + (Int32.ofInt 1)) then (Q J)
        else (Q (x202_145 p v1 (((nt_u (nt_u (nt_u J (p 4) ((((Int32.ofInt 10) + ((Int32.ofInt 7) * v1)) + (Int32.ofInt 4)).toNatClampNeg) (Int32.ofInt 2)) (p 4) ((((Int32.ofInt 10) + ((Int32.ofInt 7) * v1)) + (Int32.ofInt 5)).toNatClampNeg) (Int32.ofInt (-1))) (p 4) ((((Int32.ofInt 172) + ((Int32.ofInt 5) * (x169 p v1 (Int32.ofInt 5) J))) + (Int32.ofInt 4)).toNatClampNeg) (Int32.ofInt 3)) (p 4) 2).toNatClampNeg) (Int32.ofInt 0) (nt_u (nt_u (nt_u J (p 4) ((((Int32.ofInt 10) + ((Int32.ofInt 7) * v1)) + (Int32.ofInt 4)).toNatClampNeg) (Int32.ofInt 2)) (p 4) ((((Int32.ofInt 10) + ((Int32.ofInt 7) * v1)) + (Int32.ofInt 5)).toNatClampNeg) (Int32.ofInt (-1))) (p 4) ((((Int32.ofInt 172) + ((Int32.ofInt 5) * (x169 p v1 (Int32.ofInt 5) J))) + (Int32.ofInt 4)).toNatClampNeg) (Int32.ofInt 3))))
    else if (x171 p v3 v1 J) = 0 then (I c v2 (v3 + (Int32.ofInt 1)) J)
      else if v2 = 0 then if (x173 p v3 (Int32.ofInt 1) (nt_u J (p 4) ((((Int32.ofInt 52) + ((Int32.ofInt 5) * v3)) + (Int32.ofInt 1)).toNatClampNeg) ((J (p 4) ((((Int32.ofInt 52) + ((Int32.ofInt 5) * v3)) + (Int32.ofInt 1)).toNatClampNeg)) - (Int32.ofInt 1)))) = 0 then (I c (Int32.ofInt 1) (v3 + (Int32.ofInt 1)) (nt_u J (p 4) ((((Int32.ofInt 52) + ((Int32.ofInt 5) * v3)) + (Int32.ofInt 1)).toNatClampNeg) ((J (p 4) ((((Int32.ofInt 52) + ((Int32.ofInt 5) * v3)) + (Int32.ofInt 1)).toNatClampNeg)) - (Int32.ofInt 1))))
          else (I c (Int32.ofInt 0) (v3 + (Int32.ofInt 1)) (nt_u J (p 4) ((((Int32.ofInt 52) + ((Int32.ofInt 5) * v3)) + (Int32.ofInt 1)).toNatClampNeg) ((J (p 4) ((((Int32.ofInt 52) + ((Int32.ofInt 5) * v3)) + (Int32.ofInt 1)).toNatClampNeg)) - (Int32.ofInt 1))))
        else (I c (Int32.ofInt 1) (v3 + (Int32.ofInt 1)) (nt_u J (p 4) ((((Int32.ofInt 52) + ((Int32.ofInt 5) * v3)) + (Int32.ofInt 1)).toNatClampNeg) ((J (p 4) ((((Int32.ofInt 52) + ((Int32.ofInt 5) * v3)) + (Int32.ofInt 1)).toNatClampNeg)) - (Int32.ofInt 1))))) : ∀ (c : Nat) (v2 : Int32) (v3 : Int32) (J : Nat → Nat → Int32), I c v2 v3 J → Q (x202_4 p v1 c v2 v3 J) := by
  intro c
  induction c with
  | zero =>
    intro v2 v3 J hi
    rw [x202_4]
    exact h0 v2 v3 J hi
  | succ c ih =>
    intro v2 v3 J hi
    have hi := h1 c v2 v3 J hi
    rw [x202_4]
    by_cases h : (J (p 4) 2) ≤ v3
    · rw [if_pos h] at hi ⊢
      by_cases h : v2 = 0
      · rw [if_pos h] at hi ⊢
        exact hi
      · rw [if_neg h] at hi ⊢
        by_cases h : (x180 p (x169 p v1 (Int32.ofInt 5) J) (Int32.ofInt 2) J) = ((J (p 4) 4) + (Int32.ofInt 1))
        · rw [if_pos h] at hi ⊢
          exact hi
        · rw [if_neg h] at hi ⊢
          exact hi
    · rw [if_neg h] at hi ⊢
      by_cases h : (x171 p v3 v1 J) = 0
      · rw [if_pos h] at hi ⊢
        exact ih _ _ _ hi
      · rw [if_neg h] at hi ⊢
        by_cases h : v2 = 0
        · rw [if_pos h] at hi ⊢
          by_cases h : (x173 p v3 (Int32.ofInt 1) (nt_u J (p 4) ((((Int32.ofInt 52) + ((Int32.ofInt 5) * v3)) + (Int32.ofInt 1)).toNatClampNeg) ((J (p 4) ((((Int32.ofInt 52) + ((Int32.ofInt 5) * v3)) + (Int32.ofInt 1)).toNatClampNeg)) - (Int32.ofInt 1)))) = 0
          · rw [if_pos h] at hi ⊢
            exact ih _ _ _ hi
          · rw [if_neg h] at hi ⊢
            exact ih _ _ _ hi
        · rw [if_neg h] at hi ⊢
          exact ih _ _ _ hi
def x202 (p : Nat → Nat) (v1 : Int32) (J : Nat → Nat → Int32) : (Nat → Nat → Int32) := (x202_4 p v1 ((J (p 4) 2).toNatClampNeg) (Int32.ofInt 0) (Int32.ofInt 0) J)
theorem xt202 {X : nt_X} {d : Nat} {M : nt_M} {o : Option Value × nt_M} {p : Nat → Nat} {v1 : Int32} {J : Nat → Nat → Int32} (hp : xs_P M p) (hw : xr_W (J (p 4))) (hv : 0 ≤ v1.toInt ∧ v1.toInt ≤ 5) (k : nt_ev X d 202 [.ref (p 0), .int v1] (me_w M J) o) : o = (none, me_w M (x202 p v1 J)) := by
  have k : nt_rn X d 202 (0, [(0, .ref (p 0)), (1, .int v1)], [], me_w M J) o := k
  have k := ly_revb 4 (c' := (4, [(3, .int (Int32.ofInt 0)), (2, .int (Int32.ofInt 0)), (0, .ref (p 0)), (1, .int v1)], [], me_w M J)) rfl k
  have k := nt_rn_w (a := [(3, .int (Int32.ofInt 0)), (2, .int (Int32.ofInt 0)), (0, .ref (p 0)), (1, .int v1)]) (b := [(0, .ref (p 0)), (1, .int v1), (2, .int (Int32.ofInt 0)), (3, .int (Int32.ofInt 0))]) ⟨rfl, rfl, rfl, rfl, trivial⟩ rfl k
  have k := xt202_4 hp hv  ((J (p 4) 2).toNatClampNeg) (Int32.ofInt 0) (Int32.ofInt 0) J (⟨hw, by decide, lx_beg (by decide)⟩) k
  rw [k, x202]
theorem x202_145_frJ {p : Nat → Nat} {v1 : Int32} {b : Nat} : ∀ (c : Nat) (v4 : Int32) (J : Nat → Nat → Int32), b ≠ p 4 → x202_145 p v1 c v4 J b = J b := by
  intro c
  induction c with
  | zero =>
    intro v4 J n0
    rw [x202_145]
    all_goals first | (dsimp only; exact (show J b = J b from rfl)) | exact (show J b = J b from rfl)
  | succ c ih =>
    intro v4 J n0
    rw [x202_145]
    by_cases h : (J (p 4) 2) ≤ v4
    · rw [if_pos h]
      all_goals first | (dsimp only; exact (show J b = J b from rfl)) | exact (show J b = J b from rfl)
    · rw [if_neg h]
      by_cases h : (x173 p v4 (Int32.ofInt 3) J) = v1
      · rw [if_pos h]
        exact (ih _ _ n0).trans (mu_o n0)
      · rw [if_neg h]
        exact (ih _ _ n0).trans (rfl)
theorem x202_4_frJ {p : Nat → Nat} {v1 : Int32} {b : Nat} : ∀ (c : Nat) (v2 : Int32) (v3 : Int32) (J : Nat → Nat → Int32), b ≠ p 4 → x202_4 p v1 c v2 v3 J b = J b := by
  intro c
  induction c with
  | zero =>
    intro v2 v3 J n0
    rw [x202_4]
    by_cases h : v2 = 0
    · rw [if_pos h]
      all_goals first | (dsimp only; exact (show J b = J b from rfl)) | exact (show J b = J b from rfl)
    · rw [if_neg h]
      by_cases h : (x180 p (x169 p v1 (Int32.ofInt 5) J) (Int32.ofInt 2) J) = ((J (p 4) 4) + (Int32.ofInt 1))
      · rw [if_pos h]
        all_goals first | (dsimp only; exact (show J b = J b from rfl)) | exact (show J b = J b from rfl)
      · rw [if_neg h]
        exact (x202_145_frJ _ _ _ n0).trans ((mu_o n0).trans ((mu_o n0).trans (mu_o n0)))
  | succ c ih =>
    intro v2 v3 J n0
    rw [x202_4]
    by_cases h : (J (p 4) 2) ≤ v3
    · rw [if_pos h]
      by_cases h : v2 = 0
      · rw [if_pos h]
        all_goals first | (dsimp only; exact (show J b = J b from rfl)) | exact (show J b = J b from rfl)
      · rw [if_neg h]
        by_cases h : (x180 p (x169 p v1 (Int32.ofInt 5) J) (Int32.ofInt 2) J) = ((J (p 4) 4) + (Int32.ofInt 1))
        · rw [if_pos h]
          all_goals first | (dsimp only; exact (show J b = J b from rfl)) | exact (show J b = J b from rfl)
        · rw [if_neg h]
          exact (x202_145_frJ _ _ _ n0).trans ((mu_o n0).trans ((mu_o n0).trans (mu_o n0)))
    · rw [if_neg h]
      by_cases h : (x171 p v3 v1 J) = 0
      · rw [if_pos h]
        exact (ih _ _ _ n0).trans (rfl)
      · rw [if_neg h]
        by_cases h : v2 = 0
        · rw [if_pos h]
          by_cases h : (x173 p v3 (Int32.ofInt 1) (nt_u J (p 4) ((((Int32.ofInt 52) + ((Int32.ofInt 5) * v3)) + (Int32.ofInt 1)).toNatClampNeg) ((J (p 4) ((((Int32.ofInt 52) + ((Int32.ofInt 5) * v3)) + (Int32.ofInt 1)).toNatClampNeg)) - (Int32.ofInt 1)))) = 0
          · rw [if_pos h]
            exact (ih _ _ _ n0).trans (mu_o n0)
          · rw [if_neg h]
            exact (ih _ _ _ n0).trans (mu_o n0)
        · rw [if_neg h]
          exact (ih _ _ _ n0).trans (mu_o n0)
theorem x202_frJ {p : Nat → Nat} {v1 : Int32} {J : Nat → Nat → Int32} {b : Nat} (n0 : b ≠ p 4) : x202 p v1 J b = J b := by
  unfold x202
  exact (x202_4_frJ _ _ _ _ n0).trans (rfl)
/-! Model.push -/
def x199 (p : Nat → Nat) (v1 : Int64) (J : Nat → Nat → Int32) (L : Nat → Nat → Int64) : (Nat → Nat → Int32) × (Nat → Nat → Int64) := (nt_u J (p 0) 25 ((J (p 0) 25) + (Int32.ofInt 1)), nt_u L (p 5) ((J (p 0) 25).toNatClampNeg) v1)
theorem xt199 {X : nt_X} {d : Nat} {M : nt_M} {o : Option Value × nt_M} {p : Nat → Nat} {v1 : Int64} {J : Nat → Nat → Int32} {L : Nat → Nat → Int64} (hp : xs_P M p) (k : nt_ev X d 199 [.ref (p 0), .long v1] (me_w (lw M L) J) o) : o = (none, me_w (lw M ((x199 p v1 J L).2)) ((x199 p v1 J L).1)) := by
  have k : nt_rn X d 199 (0, [(0, .ref (p 0)), (1, .long v1)], [], me_w (lw M L) J) o := k
  have k := ly_revb 1 (c' := (1, [(0, .ref (p 0)), (1, .long v1)], [.ref (p 0)], me_w (lw M L) J)) rfl k
  have k := lz_get (a := (p 0)) (g := 1124) (M := me_w (lw M L) J) (v := .ref (p 5)) rfl (nt_gfR rfl (hp.1 (0, 24, 5) (by decide))) k
  have k := ly_revb 1 (c' := (5, [(0, .ref (p 0)), (1, .long v1)], [.ref (p 0), .ref (p 5)], me_w (lw M L) J)) rfl k
  have k := lz_get (a := (p 0)) (g := 1125) (M := me_w (lw M L) J) (v := .int (J (p 0) 25)) rfl (congrArg Value.int (rfl)) k
  have k := ly_revb 1 (c' := (9, [(0, .ref (p 0)), (1, .long v1)], [.long v1, .int (J (p 0) 25), .ref (p 5)], me_w (lw M L) J)) rfl k
  have k := mx_last (q := (J (p 0) 25).toNatClampNeg) rfl rfl k
  have k : nt_rn X _ 199 (10, [(0, .ref (p 0)), (1, .long v1)], [], me_w (lw M (nt_u L (p 5) ((J (p 0) 25).toNatClampNeg) v1)) J) _ := k
  have k := ly_revb 2 (c' := (12, [(0, .ref (p 0)), (1, .long v1)], [.ref (p 0), .ref (p 0)], me_w (lw M (nt_u L (p 5) ((J (p 0) 25).toNatClampNeg) v1)) J)) rfl k
  have k := lz_get (a := (p 0)) (g := 1125) (M := me_w (lw M (nt_u L (p 5) ((J (p 0) 25).toNatClampNeg) v1)) J) (v := .int (J (p 0) 25)) rfl (congrArg Value.int (rfl)) k
  have k := ly_revb 2 (c' := (17, [(0, .ref (p 0)), (1, .long v1)], [.int ((J (p 0) 25) + (Int32.ofInt 1)), .ref (p 0)], me_w (lw M (nt_u L (p 5) ((J (p 0) 25).toNatClampNeg) v1)) J)) rfl k
  have k := me_put rfl (by decide) k
  have k : nt_rn X _ 199 (20, [(0, .ref (p 0)), (1, .long v1)], [], me_w (lw M (nt_u L (p 5) ((J (p 0) 25).toNatClampNeg) v1)) (nt_u J (p 0) 25 ((J (p 0) 25) + (Int32.ofInt 1)))) _ := k
  have k := lz_rv rfl rfl k
  rw [k, x199]
theorem x199_frJ {p : Nat → Nat} {v1 : Int64} {J : Nat → Nat → Int32} {L : Nat → Nat → Int64} {b : Nat} (n0 : b ≠ p 0) : (x199 p v1 J L).1 b = J b := by
  unfold x199
  all_goals first | (dsimp only; exact (show (nt_u J (p 0) 25 ((J (p 0) 25) + (Int32.ofInt 1))) b = J b from mu_o n0)) | exact (show (nt_u J (p 0) 25 ((J (p 0) 25) + (Int32.ofInt 1))) b = J b from mu_o n0)
theorem x199_frL {p : Nat → Nat} {v1 : Int64} {J : Nat → Nat → Int32} {L : Nat → Nat → Int64} {b : Nat} (n0 : b ≠ p 5) : (x199 p v1 J L).2 b = L b := by
  unfold x199
  all_goals first | (dsimp only; exact (show (nt_u L (p 5) ((J (p 0) 25).toNatClampNeg) v1) b = L b from mu_o n0)) | exact (show (nt_u L (p 5) ((J (p 0) 25).toNatClampNeg) v1) b = L b from mu_o n0)
/-! Model.pop -/
def x200 (p : Nat → Nat) (J : Nat → Nat → Int32) (L : Nat → Nat → Int64) : Int64 × (Nat → Nat → Int32) := (L (p 5) (((J (p 0) 25) - (Int32.ofInt 1)).toNatClampNeg), nt_u J (p 0) 25 ((J (p 0) 25) - (Int32.ofInt 1)))
theorem xt200 {X : nt_X} {d : Nat} {M : nt_M} {o : Option Value × nt_M} {p : Nat → Nat} {J : Nat → Nat → Int32} {L : Nat → Nat → Int64} (hp : xs_P M p) (k : nt_ev X d 200 [.ref (p 0)] (me_w (lw M L) J) o) : o = (some (.long ((x200 p J L).1)), me_w (lw M L) ((x200 p J L).2)) := by
  have k : nt_rn X d 200 (0, [(0, .ref (p 0))], [], me_w (lw M L) J) o := k
  have k := ly_revb 2 (c' := (2, [(0, .ref (p 0))], [.ref (p 0), .ref (p 0)], me_w (lw M L) J)) rfl k
  have k := lz_get (a := (p 0)) (g := 1125) (M := me_w (lw M L) J) (v := .int (J (p 0) 25)) rfl (congrArg Value.int (rfl)) k
  have k := ly_revb 2 (c' := (7, [(0, .ref (p 0))], [.int ((J (p 0) 25) - (Int32.ofInt 1)), .ref (p 0)], me_w (lw M L) J)) rfl k
  have k := me_put rfl (by decide) k
  have k : nt_rn X _ 200 (10, [(0, .ref (p 0))], [], me_w (lw M L) (nt_u J (p 0) 25 ((J (p 0) 25) - (Int32.ofInt 1)))) _ := k
  have k := ly_revb 1 (c' := (11, [(0, .ref (p 0))], [.ref (p 0)], me_w (lw M L) (nt_u J (p 0) 25 ((J (p 0) 25) - (Int32.ofInt 1))))) rfl k
  have k := lz_get (a := (p 0)) (g := 1124) (M := me_w (lw M L) (nt_u J (p 0) 25 ((J (p 0) 25) - (Int32.ofInt 1)))) (v := .ref (p 5)) rfl (nt_gfR rfl (hp.1 (0, 24, 5) (by decide))) k
  have k := ly_revb 1 (c' := (15, [(0, .ref (p 0))], [.ref (p 0), .ref (p 5)], me_w (lw M L) (nt_u J (p 0) 25 ((J (p 0) 25) - (Int32.ofInt 1))))) rfl k
  have k := lz_get (a := (p 0)) (g := 1125) (M := me_w (lw M L) (nt_u J (p 0) 25 ((J (p 0) 25) - (Int32.ofInt 1)))) (v := .int ((J (p 0) 25) - (Int32.ofInt 1))) rfl (congrArg Value.int (mu_s)) k
  have k := mx_lald (v := L (p 5) (((J (p 0) 25) - (Int32.ofInt 1)).toNatClampNeg)) rfl (rfl) k
  have k := mx_rl rfl rfl k
  rw [k, x200]
theorem x200_frJ {p : Nat → Nat} {J : Nat → Nat → Int32} {L : Nat → Nat → Int64} {b : Nat} (n0 : b ≠ p 0) : (x200 p J L).2 b = J b := by
  unfold x200
  all_goals first | (dsimp only; exact (show (nt_u J (p 0) 25 ((J (p 0) 25) - (Int32.ofInt 1))) b = J b from mu_o n0)) | exact (show (nt_u J (p 0) 25 ((J (p 0) 25) - (Int32.ofInt 1))) b = J b from mu_o n0)
/-! Model.one -/
def x201 (v0 : Int32) (v1 : Int64) (v3 : Int64) : Int64 := if v0.toInt < 2 ∨ 12 < v0.toInt then (v1 ||| v3)
  else if v0 = Int32.ofInt 2 then (v1 + v3)
    else if v0 = Int32.ofInt 3 then (v1 - v3)
      else if v0 = Int32.ofInt 4 then (v1 * v3)
        else if v0 = Int32.ofInt 5 then if (lg_cmp v3 (Int64.ofNat 0)) = 0 then (Int64.ofNat 0)
            else (v1 / v3)
          else if v0 = Int32.ofInt 6 then if 0 ≤ (lg_cmp v1 v3) then (Int64.ofNat 0)
              else (Int64.ofNat 1)
            else if v0 = Int32.ofInt 7 then if 0 < (lg_cmp v1 v3) then (Int64.ofNat 0)
                else (Int64.ofNat 1)
              else if v0 = Int32.ofInt 8 then if (lg_cmp v1 v3) = 0 then (Int64.ofNat 1)
                  else (Int64.ofNat 0)
                else if v0 = Int32.ofInt 9 then if (lg_cmp v1 v3) < 0 then (Int64.ofNat 0)
                    else (Int64.ofNat 1)
                  else if v0 = Int32.ofInt 10 then if (lg_cmp v1 v3) ≤ 0 then (Int64.ofNat 0)
                      else (Int64.ofNat 1)
                    else if v0 = Int32.ofInt 11 then (v1 ||| v3)
                      else (v1 &&& v3)
theorem xt201 {X : nt_X} {d : Nat} {M : nt_M} {o : Option Value × nt_M} {v0 : Int32} {v1 : Int64} {v3 : Int64} {J : Nat → Nat → Int32}  (k : nt_ev X d 201 [.int v0, .long v1, .long v3] (me_w M J) o) : o = (some (.long (x201 v0 v1 v3)), me_w M J) := by
  have k : nt_rn X d 201 (0, [(0, .int v0), (1, .long v1), (3, .long v3)], [], me_w M J) o := k
  have k := ly_revb 1 (c' := (1, [(0, .int v0), (1, .long v1), (3, .long v3)], [.int v0], me_w M J)) rfl k
  by_cases h1 : v0.toInt < 2 ∨ 12 < v0.toInt
  · have k := mx_tsd (q := 150) rfl h1 (by decide) k
    have k : nt_rn X _ 201 (150, [(0, .int v0), (1, .long v1), (3, .long v3)], [], me_w M J) _ := k
    have k := ly_revb 3 (c' := (153, [(0, .int v0), (1, .long v1), (3, .long v3)], [.long (v1 ||| v3)], me_w M J)) rfl k
    have k := mx_rl rfl rfl k
    rw [k, x201, if_pos h1]
  · by_cases h1_2 : v0 = Int32.ofInt 2
    · have k := mx_tsc (q := 60) (off := 59) rfl h1 (by rw [h1_2]; rfl) (by decide) k
      have k : nt_rn X _ 201 (60, [(0, .int v0), (1, .long v1), (3, .long v3)], [], me_w M J) _ := k
      have k := ly_revb 3 (c' := (63, [(0, .int v0), (1, .long v1), (3, .long v3)], [.long (v1 + v3)], me_w M J)) rfl k
      have k := mx_rl rfl rfl k
      rw [k, x201, if_neg h1, if_pos h1_2]
    · by_cases h1_3 : v0 = Int32.ofInt 3
      · have k := mx_tsc (q := 64) (off := 63) rfl h1 (by rw [h1_3]; rfl) (by decide) k
        have k : nt_rn X _ 201 (64, [(0, .int v0), (1, .long v1), (3, .long v3)], [], me_w M J) _ := k
        have k := ly_revb 3 (c' := (67, [(0, .int v0), (1, .long v1), (3, .long v3)], [.long (v1 - v3)], me_w M J)) rfl k
        have k := mx_rl rfl rfl k
        rw [k, x201, if_neg h1, if_neg h1_2, if_pos h1_3]
      · by_cases h1_4 : v0 = Int32.ofInt 4
        · have k := mx_tsc (q := 68) (off := 67) rfl h1 (by rw [h1_4]; rfl) (by decide) k
          have k : nt_rn X _ 201 (68, [(0, .int v0), (1, .long v1), (3, .long v3)], [], me_w M J) _ := k
          have k := ly_revb 3 (c' := (71, [(0, .int v0), (1, .long v1), (3, .long v3)], [.long (v1 * v3)], me_w M J)) rfl k
          have k := mx_rl rfl rfl k
          rw [k, x201, if_neg h1, if_neg h1_2, if_neg h1_3, if_pos h1_4]
        · by_cases h1_5 : v0 = Int32.ofInt 5
          · have k := mx_tsc (q := 72) (off := 71) rfl h1 (by rw [h1_5]; rfl) (by decide) k
            have k : nt_rn X _ 201 (72, [(0, .int v0), (1, .long v1), (3, .long v3)], [], me_w M J) _ := k
            have k := ly_revb 4 (c' := (if (lg_cmp v3 (Int64.ofNat 0)) = 0 then 78 else 82, [(0, .int v0), (1, .long v1), (3, .long v3)], [], me_w M J)) rfl k
            by_cases h75 : (lg_cmp v3 (Int64.ofNat 0)) = 0
            · rw [if_pos h75] at k
              have k := ly_revb 2 (c' := (85, [(0, .int v0), (1, .long v1), (3, .long v3)], [.long (Int64.ofNat 0)], me_w M J)) rfl k
              have k := mx_rl rfl rfl k
              rw [k, x201, if_neg h1, if_neg h1_2, if_neg h1_3, if_neg h1_4, if_pos h1_5, if_pos h75]
            · rw [if_neg h75] at k
              have k := ly_revb 2 (c' := (84, [(0, .int v0), (1, .long v1), (3, .long v3)], [.long v3, .long v1], me_w M J)) rfl k
              obtain ⟨hd84, k⟩ := mx_ldiv rfl k
              have k := mx_rl rfl rfl k
              rw [k, x201, if_neg h1, if_neg h1_2, if_neg h1_3, if_neg h1_4, if_pos h1_5, if_neg h75]
          · by_cases h1_6 : v0 = Int32.ofInt 6
            · have k := mx_tsc (q := 86) (off := 85) rfl h1 (by rw [h1_6]; rfl) (by decide) k
              have k : nt_rn X _ 201 (86, [(0, .int v0), (1, .long v1), (3, .long v3)], [], me_w M J) _ := k
              have k := ly_revb 4 (c' := (if 0 ≤ (lg_cmp v1 v3) then 96 else 92, [(0, .int v0), (1, .long v1), (3, .long v3)], [], me_w M J)) rfl k
              by_cases h89 : 0 ≤ (lg_cmp v1 v3)
              · rw [if_pos h89] at k
                have k := ly_revb 1 (c' := (97, [(0, .int v0), (1, .long v1), (3, .long v3)], [.long (Int64.ofNat 0)], me_w M J)) rfl k
                have k := mx_rl rfl rfl k
                rw [k, x201, if_neg h1, if_neg h1_2, if_neg h1_3, if_neg h1_4, if_neg h1_5, if_pos h1_6, if_pos h89]
              · rw [if_neg h89] at k
                have k := ly_revb 2 (c' := (97, [(0, .int v0), (1, .long v1), (3, .long v3)], [.long (Int64.ofNat 1)], me_w M J)) rfl k
                have k := mx_rl rfl rfl k
                rw [k, x201, if_neg h1, if_neg h1_2, if_neg h1_3, if_neg h1_4, if_neg h1_5, if_pos h1_6, if_neg h89]
            · by_cases h1_7 : v0 = Int32.ofInt 7
              · have k := mx_tsc (q := 98) (off := 97) rfl h1 (by rw [h1_7]; rfl) (by decide) k
                have k : nt_rn X _ 201 (98, [(0, .int v0), (1, .long v1), (3, .long v3)], [], me_w M J) _ := k
                have k := ly_revb 4 (c' := (if 0 < (lg_cmp v1 v3) then 108 else 104, [(0, .int v0), (1, .long v1), (3, .long v3)], [], me_w M J)) rfl k
                by_cases h101 : 0 < (lg_cmp v1 v3)
                · rw [if_pos h101] at k
                  have k := ly_revb 1 (c' := (109, [(0, .int v0), (1, .long v1), (3, .long v3)], [.long (Int64.ofNat 0)], me_w M J)) rfl k
                  have k := mx_rl rfl rfl k
                  rw [k, x201, if_neg h1, if_neg h1_2, if_neg h1_3, if_neg h1_4, if_neg h1_5, if_neg h1_6, if_pos h1_7, if_pos h101]
                · rw [if_neg h101] at k
                  have k := ly_revb 2 (c' := (109, [(0, .int v0), (1, .long v1), (3, .long v3)], [.long (Int64.ofNat 1)], me_w M J)) rfl k
                  have k := mx_rl rfl rfl k
                  rw [k, x201, if_neg h1, if_neg h1_2, if_neg h1_3, if_neg h1_4, if_neg h1_5, if_neg h1_6, if_pos h1_7, if_neg h101]
              · by_cases h1_8 : v0 = Int32.ofInt 8
                · have k := mx_tsc (q := 110) (off := 109) rfl h1 (by rw [h1_8]; rfl) (by decide) k
                  have k : nt_rn X _ 201 (110, [(0, .int v0), (1, .long v1), (3, .long v3)], [], me_w M J) _ := k
                  have k := ly_revb 4 (c' := (if (lg_cmp v1 v3) = 0 then 116 else 120, [(0, .int v0), (1, .long v1), (3, .long v3)], [], me_w M J)) rfl k
                  by_cases h113 : (lg_cmp v1 v3) = 0
                  · rw [if_pos h113] at k
                    have k := ly_revb 2 (c' := (121, [(0, .int v0), (1, .long v1), (3, .long v3)], [.long (Int64.ofNat 1)], me_w M J)) rfl k
                    have k := mx_rl rfl rfl k
                    rw [k, x201, if_neg h1, if_neg h1_2, if_neg h1_3, if_neg h1_4, if_neg h1_5, if_neg h1_6, if_neg h1_7, if_pos h1_8, if_pos h113]
                  · rw [if_neg h113] at k
                    have k := ly_revb 1 (c' := (121, [(0, .int v0), (1, .long v1), (3, .long v3)], [.long (Int64.ofNat 0)], me_w M J)) rfl k
                    have k := mx_rl rfl rfl k
                    rw [k, x201, if_neg h1, if_neg h1_2, if_neg h1_3, if_neg h1_4, if_neg h1_5, if_neg h1_6, if_neg h1_7, if_pos h1_8, if_neg h113]
                · by_cases h1_9 : v0 = Int32.ofInt 9
                  · have k := mx_tsc (q := 122) (off := 121) rfl h1 (by rw [h1_9]; rfl) (by decide) k
                    have k : nt_rn X _ 201 (122, [(0, .int v0), (1, .long v1), (3, .long v3)], [], me_w M J) _ := k
                    have k := ly_revb 4 (c' := (if (lg_cmp v1 v3) < 0 then 132 else 128, [(0, .int v0), (1, .long v1), (3, .long v3)], [], me_w M J)) rfl k
                    by_cases h125 : (lg_cmp v1 v3) < 0
                    · rw [if_pos h125] at k
                      have k := ly_revb 1 (c' := (133, [(0, .int v0), (1, .long v1), (3, .long v3)], [.long (Int64.ofNat 0)], me_w M J)) rfl k
                      have k := mx_rl rfl rfl k
                      rw [k, x201, if_neg h1, if_neg h1_2, if_neg h1_3, if_neg h1_4, if_neg h1_5, if_neg h1_6, if_neg h1_7, if_neg h1_8, if_pos h1_9, if_pos h125]
                    · rw [if_neg h125] at k
                      have k := ly_revb 2 (c' := (133, [(0, .int v0), (1, .long v1), (3, .long v3)], [.long (Int64.ofNat 1)], me_w M J)) rfl k
                      have k := mx_rl rfl rfl k
                      rw [k, x201, if_neg h1, if_neg h1_2, if_neg h1_3, if_neg h1_4, if_neg h1_5, if_neg h1_6, if_neg h1_7, if_neg h1_8, if_pos h1_9, if_neg h125]
                  · by_cases h1_10 : v0 = Int32.ofInt 10
                    · have k := mx_tsc (q := 134) (off := 133) rfl h1 (by rw [h1_10]; rfl) (by decide) k
                      have k : nt_rn X _ 201 (134, [(0, .int v0), (1, .long v1), (3, .long v3)], [], me_w M J) _ := k
                      have k := ly_revb 4 (c' := (if (lg_cmp v1 v3) ≤ 0 then 144 else 140, [(0, .int v0), (1, .long v1), (3, .long v3)], [], me_w M J)) rfl k
                      by_cases h137 : (lg_cmp v1 v3) ≤ 0
                      · rw [if_pos h137] at k
                        have k := ly_revb 1 (c' := (145, [(0, .int v0), (1, .long v1), (3, .long v3)], [.long (Int64.ofNat 0)], me_w M J)) rfl k
                        have k := mx_rl rfl rfl k
                        rw [k, x201, if_neg h1, if_neg h1_2, if_neg h1_3, if_neg h1_4, if_neg h1_5, if_neg h1_6, if_neg h1_7, if_neg h1_8, if_neg h1_9, if_pos h1_10, if_pos h137]
                      · rw [if_neg h137] at k
                        have k := ly_revb 2 (c' := (145, [(0, .int v0), (1, .long v1), (3, .long v3)], [.long (Int64.ofNat 1)], me_w M J)) rfl k
                        have k := mx_rl rfl rfl k
                        rw [k, x201, if_neg h1, if_neg h1_2, if_neg h1_3, if_neg h1_4, if_neg h1_5, if_neg h1_6, if_neg h1_7, if_neg h1_8, if_neg h1_9, if_pos h1_10, if_neg h137]
                    · by_cases h1_11 : v0 = Int32.ofInt 11
                      · have k := mx_tsc (q := 150) (off := 149) rfl h1 (by rw [h1_11]; rfl) (by decide) k
                        have k : nt_rn X _ 201 (150, [(0, .int v0), (1, .long v1), (3, .long v3)], [], me_w M J) _ := k
                        have k := ly_revb 3 (c' := (153, [(0, .int v0), (1, .long v1), (3, .long v3)], [.long (v1 ||| v3)], me_w M J)) rfl k
                        have k := mx_rl rfl rfl k
                        rw [k, x201, if_neg h1, if_neg h1_2, if_neg h1_3, if_neg h1_4, if_neg h1_5, if_neg h1_6, if_neg h1_7, if_neg h1_8, if_neg h1_9, if_neg h1_10, if_pos h1_11]
                      · have hz : v0 = Int32.ofInt 12 := by
                          have z1 := h1
                          have y0 : v0.toInt ≠ 2 := fun e => h1_2 (Int32.toInt_inj.mp (e.trans (by decide)))
                          have y1 : v0.toInt ≠ 3 := fun e => h1_3 (Int32.toInt_inj.mp (e.trans (by decide)))
                          have y2 : v0.toInt ≠ 4 := fun e => h1_4 (Int32.toInt_inj.mp (e.trans (by decide)))
                          have y3 : v0.toInt ≠ 5 := fun e => h1_5 (Int32.toInt_inj.mp (e.trans (by decide)))
                          have y4 : v0.toInt ≠ 6 := fun e => h1_6 (Int32.toInt_inj.mp (e.trans (by decide)))
                          have y5 : v0.toInt ≠ 7 := fun e => h1_7 (Int32.toInt_inj.mp (e.trans (by decide)))
                          have y6 : v0.toInt ≠ 8 := fun e => h1_8 (Int32.toInt_inj.mp (e.trans (by decide)))
                          have y7 : v0.toInt ≠ 9 := fun e => h1_9 (Int32.toInt_inj.mp (e.trans (by decide)))
                          have y8 : v0.toInt ≠ 10 := fun e => h1_10 (Int32.toInt_inj.mp (e.trans (by decide)))
                          have y9 : v0.toInt ≠ 11 := fun e => h1_11 (Int32.toInt_inj.mp (e.trans (by decide)))
                          exact Int32.toInt_inj.mp ((show v0.toInt = 12 by omega).trans (by decide))
                        have k := mx_tsc (q := 146) (off := 145) rfl h1 (by rw [hz]; rfl) (by decide) k
                        have k : nt_rn X _ 201 (146, [(0, .int v0), (1, .long v1), (3, .long v3)], [], me_w M J) _ := k
                        have k := ly_revb 3 (c' := (149, [(0, .int v0), (1, .long v1), (3, .long v3)], [.long (v1 &&& v3)], me_w M J)) rfl k
                        have k := mx_rl rfl rfl k
                        rw [k, x201, if_neg h1, if_neg h1_2, if_neg h1_3, if_neg h1_4, if_neg h1_5, if_neg h1_6, if_neg h1_7, if_neg h1_8, if_neg h1_9, if_neg h1_10, if_neg h1_11]
/-! Model.words -/
def x196 (p : Nat → Nat) (v1 : Int32) (v2 : Int32) (v3 : Int32) (J : Nat → Nat → Int32) (L : Nat → Nat → Int64) : (Nat → Nat → Int64) := if 0 ≤ (x173 p v1 (Int32.ofInt 3) J) then if (x173 p v1 (Int32.ofInt 2) J) = v2 then (nt_u (nt_u (nt_u (nt_u (nt_u (nt_u (nt_u (nt_u (nt_u (nt_u L (p 6) 0 v1.toInt64) (p 6) 1 ((x173 p v1 (Int32.ofInt 0) J).toInt64)) (p 6) 2 ((x173 p v1 (Int32.ofInt 1) J).toInt64)) (p 6) 3 ((x173 p v1 (Int32.ofInt 2) J).toInt64)) (p 6) 4 v2.toInt64) (p 6) 5 ((x173 p v1 (Int32.ofInt 3) J).toInt64)) (p 6) 6 (Int64.ofNat 1)) (p 6) 7 ((J (p 4) 4).toInt64)) (p 6) 8 ((J (p 4) 6).toInt64)) (p 6) 9 (((x180 p v3 (Int32.ofInt 2) J) - (x180 p v3 (Int32.ofInt 1) J)).toInt64))
    else (nt_u (nt_u (nt_u (nt_u (nt_u (nt_u (nt_u (nt_u (nt_u (nt_u L (p 6) 0 v1.toInt64) (p 6) 1 ((x173 p v1 (Int32.ofInt 0) J).toInt64)) (p 6) 2 ((x173 p v1 (Int32.ofInt 1) J).toInt64)) (p 6) 3 ((x173 p v1 (Int32.ofInt 2) J).toInt64)) (p 6) 4 v2.toInt64) (p 6) 5 ((x173 p v1 (Int32.ofInt 3) J).toInt64)) (p 6) 6 (Int64.ofNat 0)) (p 6) 7 ((J (p 4) 4).toInt64)) (p 6) 8 ((J (p 4) 6).toInt64)) (p 6) 9 (((x180 p v3 (Int32.ofInt 2) J) - (x180 p v3 (Int32.ofInt 1) J)).toInt64))
  else if (x173 p v1 (Int32.ofInt 2) J) = v2 then (nt_u (nt_u (nt_u (nt_u (nt_u (nt_u (nt_u (nt_u (nt_u (nt_u L (p 6) 0 v1.toInt64) (p 6) 1 ((x173 p v1 (Int32.ofInt 0) J).toInt64)) (p 6) 2 ((x173 p v1 (Int32.ofInt 1) J).toInt64)) (p 6) 3 ((x173 p v1 (Int32.ofInt 2) J).toInt64)) (p 6) 4 v2.toInt64) (p 6) 5 99) (p 6) 6 (Int64.ofNat 1)) (p 6) 7 ((J (p 4) 4).toInt64)) (p 6) 8 ((J (p 4) 6).toInt64)) (p 6) 9 (((x180 p v3 (Int32.ofInt 2) J) - (x180 p v3 (Int32.ofInt 1) J)).toInt64))
    else (nt_u (nt_u (nt_u (nt_u (nt_u (nt_u (nt_u (nt_u (nt_u (nt_u L (p 6) 0 v1.toInt64) (p 6) 1 ((x173 p v1 (Int32.ofInt 0) J).toInt64)) (p 6) 2 ((x173 p v1 (Int32.ofInt 1) J).toInt64)) (p 6) 3 ((x173 p v1 (Int32.ofInt 2) J).toInt64)) (p 6) 4 v2.toInt64) (p 6) 5 99) (p 6) 6 (Int64.ofNat 0)) (p 6) 7 ((J (p 4) 4).toInt64)) (p 6) 8 ((J (p 4) 6).toInt64)) (p 6) 9 (((x180 p v3 (Int32.ofInt 2) J) - (x180 p v3 (Int32.ofInt 1) J)).toInt64))
theorem xt196 {X : nt_X} {d : Nat} {M : nt_M} {o : Option Value × nt_M} {p : Nat → Nat} {v1 : Int32} {v2 : Int32} {v3 : Int32} {J : Nat → Nat → Int32} {L : Nat → Nat → Int64} (hp : xs_P M p) (k : nt_ev X d 196 [.ref (p 0), .int v1, .int v2, .int v3] (me_w (lw M L) J) o) : o = (none, me_w (lw M (x196 p v1 v2 v3 J L)) J) := by
  have k : nt_rn X d 196 (0, [(0, .ref (p 0)), (1, .int v1), (2, .int v2), (3, .int v3)], [], me_w (lw M L) J) o := k
  have k := ly_revb 1 (c' := (1, [(0, .ref (p 0)), (1, .int v1), (2, .int v2), (3, .int v3)], [.ref (p 0)], me_w (lw M L) J)) rfl k
  have k := lz_get (a := (p 0)) (g := 1126) (M := me_w (lw M L) J) (v := .ref (p 6)) rfl (nt_gfR rfl (hp.1 (0, 26, 6) (by decide))) k
  have k := ly_revb 3 (c' := (7, [(0, .ref (p 0)), (1, .int v1), (2, .int v2), (3, .int v3)], [.long v1.toInt64, .int (Int32.ofInt 0), .ref (p 6)], me_w (lw M L) J)) rfl k
  have k := mx_last (q := 0) rfl (show (Int32.ofInt 0).toNatClampNeg = 0 from rfl) k
  have k : nt_rn X _ 196 (8, [(0, .ref (p 0)), (1, .int v1), (2, .int v2), (3, .int v3)], [], me_w (lw M (nt_u L (p 6) 0 v1.toInt64)) J) _ := k
  have k := ly_revb 1 (c' := (9, [(0, .ref (p 0)), (1, .int v1), (2, .int v2), (3, .int v3)], [.ref (p 0)], me_w (lw M (nt_u L (p 6) 0 v1.toInt64)) J)) rfl k
  have k := lz_get (a := (p 0)) (g := 1126) (M := me_w (lw M (nt_u L (p 6) 0 v1.toInt64)) J) (v := .ref (p 6)) rfl (nt_gfR rfl (hp.1 (0, 26, 6) (by decide))) k
  have k := ly_revb 4 (c' := (16, [(0, .ref (p 0)), (1, .int v1), (2, .int v2), (3, .int v3)], [.int (Int32.ofInt 0), .int v1, .ref (p 0), .int (Int32.ofInt 1), .ref (p 6)], me_w (lw M (nt_u L (p 6) 0 v1.toInt64)) J)) rfl k
  obtain ⟨d1, o1, ed, kc, k⟩ := lz_c (g := 173) (q := 1) (vs := [.ref (p 0), .int v1, .int (Int32.ofInt 0)]) (rest := [.int (Int32.ofInt 1), .ref (p 6)]) rfl rfl (by decide) (Or.inr (Or.inl ⟨_, rfl, rfl⟩)) rfl k
  have e1 := xt173 (xs_lp hp) kc
  subst e1
  have k : nt_rn X _ 196 (19, [(0, .ref (p 0)), (1, .int v1), (2, .int v2), (3, .int v3)], [.int (x173 p v1 (Int32.ofInt 0) J), .int (Int32.ofInt 1), .ref (p 6)], me_w (lw M (nt_u L (p 6) 0 v1.toInt64)) J) _ := k
  have k := ly_revb 1 (c' := (20, [(0, .ref (p 0)), (1, .int v1), (2, .int v2), (3, .int v3)], [.long ((x173 p v1 (Int32.ofInt 0) J).toInt64), .int (Int32.ofInt 1), .ref (p 6)], me_w (lw M (nt_u L (p 6) 0 v1.toInt64)) J)) rfl k
  have k := mx_last (q := 1) rfl (show (Int32.ofInt 1).toNatClampNeg = 1 from rfl) k
  have k : nt_rn X _ 196 (21, [(0, .ref (p 0)), (1, .int v1), (2, .int v2), (3, .int v3)], [], me_w (lw M (nt_u (nt_u L (p 6) 0 v1.toInt64) (p 6) 1 ((x173 p v1 (Int32.ofInt 0) J).toInt64))) J) _ := k
  have k := ly_revb 1 (c' := (22, [(0, .ref (p 0)), (1, .int v1), (2, .int v2), (3, .int v3)], [.ref (p 0)], me_w (lw M (nt_u (nt_u L (p 6) 0 v1.toInt64) (p 6) 1 ((x173 p v1 (Int32.ofInt 0) J).toInt64))) J)) rfl k
  have k := lz_get (a := (p 0)) (g := 1126) (M := me_w (lw M (nt_u (nt_u L (p 6) 0 v1.toInt64) (p 6) 1 ((x173 p v1 (Int32.ofInt 0) J).toInt64))) J) (v := .ref (p 6)) rfl (nt_gfR rfl (hp.1 (0, 26, 6) (by decide))) k
  have k := ly_revb 4 (c' := (29, [(0, .ref (p 0)), (1, .int v1), (2, .int v2), (3, .int v3)], [.int (Int32.ofInt 1), .int v1, .ref (p 0), .int (Int32.ofInt 2), .ref (p 6)], me_w (lw M (nt_u (nt_u L (p 6) 0 v1.toInt64) (p 6) 1 ((x173 p v1 (Int32.ofInt 0) J).toInt64))) J)) rfl k
  obtain ⟨d1, o1, ed, kc, k⟩ := lz_c (g := 173) (q := 1) (vs := [.ref (p 0), .int v1, .int (Int32.ofInt 1)]) (rest := [.int (Int32.ofInt 2), .ref (p 6)]) rfl rfl (by decide) (Or.inr (Or.inl ⟨_, rfl, rfl⟩)) rfl k
  have e1 := xt173 (xs_lp hp) kc
  subst e1
  have k : nt_rn X _ 196 (32, [(0, .ref (p 0)), (1, .int v1), (2, .int v2), (3, .int v3)], [.int (x173 p v1 (Int32.ofInt 1) J), .int (Int32.ofInt 2), .ref (p 6)], me_w (lw M (nt_u (nt_u L (p 6) 0 v1.toInt64) (p 6) 1 ((x173 p v1 (Int32.ofInt 0) J).toInt64))) J) _ := k
  have k := ly_revb 1 (c' := (33, [(0, .ref (p 0)), (1, .int v1), (2, .int v2), (3, .int v3)], [.long ((x173 p v1 (Int32.ofInt 1) J).toInt64), .int (Int32.ofInt 2), .ref (p 6)], me_w (lw M (nt_u (nt_u L (p 6) 0 v1.toInt64) (p 6) 1 ((x173 p v1 (Int32.ofInt 0) J).toInt64))) J)) rfl k
  have k := mx_last (q := 2) rfl (show (Int32.ofInt 2).toNatClampNeg = 2 from rfl) k
  have k : nt_rn X _ 196 (34, [(0, .ref (p 0)), (1, .int v1), (2, .int v2), (3, .int v3)], [], me_w (lw M (nt_u (nt_u (nt_u L (p 6) 0 v1.toInt64) (p 6) 1 ((x173 p v1 (Int32.ofInt 0) J).toInt64)) (p 6) 2 ((x173 p v1 (Int32.ofInt 1) J).toInt64))) J) _ := k
  have k := ly_revb 1 (c' := (35, [(0, .ref (p 0)), (1, .int v1), (2, .int v2), (3, .int v3)], [.ref (p 0)], me_w (lw M (nt_u (nt_u (nt_u L (p 6) 0 v1.toInt64) (p 6) 1 ((x173 p v1 (Int32.ofInt 0) J).toInt64)) (p 6) 2 ((x173 p v1 (Int32.ofInt 1) J).toInt64))) J)) rfl k
  have k := lz_get (a := (p 0)) (g := 1126) (M := me_w (lw M (nt_u (nt_u (nt_u L (p 6) 0 v1.toInt64) (p 6) 1 ((x173 p v1 (Int32.ofInt 0) J).toInt64)) (p 6) 2 ((x173 p v1 (Int32.ofInt 1) J).toInt64))) J) (v := .ref (p 6)) rfl (nt_gfR rfl (hp.1 (0, 26, 6) (by decide))) k
  have k := ly_revb 4 (c' := (42, [(0, .ref (p 0)), (1, .int v1), (2, .int v2), (3, .int v3)], [.int (Int32.ofInt 2), .int v1, .ref (p 0), .int (Int32.ofInt 3), .ref (p 6)], me_w (lw M (nt_u (nt_u (nt_u L (p 6) 0 v1.toInt64) (p 6) 1 ((x173 p v1 (Int32.ofInt 0) J).toInt64)) (p 6) 2 ((x173 p v1 (Int32.ofInt 1) J).toInt64))) J)) rfl k
  obtain ⟨d1, o1, ed, kc, k⟩ := lz_c (g := 173) (q := 1) (vs := [.ref (p 0), .int v1, .int (Int32.ofInt 2)]) (rest := [.int (Int32.ofInt 3), .ref (p 6)]) rfl rfl (by decide) (Or.inr (Or.inl ⟨_, rfl, rfl⟩)) rfl k
  have e1 := xt173 (xs_lp hp) kc
  subst e1
  have k : nt_rn X _ 196 (45, [(0, .ref (p 0)), (1, .int v1), (2, .int v2), (3, .int v3)], [.int (x173 p v1 (Int32.ofInt 2) J), .int (Int32.ofInt 3), .ref (p 6)], me_w (lw M (nt_u (nt_u (nt_u L (p 6) 0 v1.toInt64) (p 6) 1 ((x173 p v1 (Int32.ofInt 0) J).toInt64)) (p 6) 2 ((x173 p v1 (Int32.ofInt 1) J).toInt64))) J) _ := k
  have k := ly_revb 1 (c' := (46, [(0, .ref (p 0)), (1, .int v1), (2, .int v2), (3, .int v3)], [.long ((x173 p v1 (Int32.ofInt 2) J).toInt64), .int (Int32.ofInt 3), .ref (p 6)], me_w (lw M (nt_u (nt_u (nt_u L (p 6) 0 v1.toInt64) (p 6) 1 ((x173 p v1 (Int32.ofInt 0) J).toInt64)) (p 6) 2 ((x173 p v1 (Int32.ofInt 1) J).toInt64))) J)) rfl k
  have k := mx_last (q := 3) rfl (show (Int32.ofInt 3).toNatClampNeg = 3 from rfl) k
  have k : nt_rn X _ 196 (47, [(0, .ref (p 0)), (1, .int v1), (2, .int v2), (3, .int v3)], [], me_w (lw M (nt_u (nt_u (nt_u (nt_u L (p 6) 0 v1.toInt64) (p 6) 1 ((x173 p v1 (Int32.ofInt 0) J).toInt64)) (p 6) 2 ((x173 p v1 (Int32.ofInt 1) J).toInt64)) (p 6) 3 ((x173 p v1 (Int32.ofInt 2) J).toInt64))) J) _ := k
  have k := ly_revb 1 (c' := (48, [(0, .ref (p 0)), (1, .int v1), (2, .int v2), (3, .int v3)], [.ref (p 0)], me_w (lw M (nt_u (nt_u (nt_u (nt_u L (p 6) 0 v1.toInt64) (p 6) 1 ((x173 p v1 (Int32.ofInt 0) J).toInt64)) (p 6) 2 ((x173 p v1 (Int32.ofInt 1) J).toInt64)) (p 6) 3 ((x173 p v1 (Int32.ofInt 2) J).toInt64))) J)) rfl k
  have k := lz_get (a := (p 0)) (g := 1126) (M := me_w (lw M (nt_u (nt_u (nt_u (nt_u L (p 6) 0 v1.toInt64) (p 6) 1 ((x173 p v1 (Int32.ofInt 0) J).toInt64)) (p 6) 2 ((x173 p v1 (Int32.ofInt 1) J).toInt64)) (p 6) 3 ((x173 p v1 (Int32.ofInt 2) J).toInt64))) J) (v := .ref (p 6)) rfl (nt_gfR rfl (hp.1 (0, 26, 6) (by decide))) k
  have k := ly_revb 3 (c' := (54, [(0, .ref (p 0)), (1, .int v1), (2, .int v2), (3, .int v3)], [.long v2.toInt64, .int (Int32.ofInt 4), .ref (p 6)], me_w (lw M (nt_u (nt_u (nt_u (nt_u L (p 6) 0 v1.toInt64) (p 6) 1 ((x173 p v1 (Int32.ofInt 0) J).toInt64)) (p 6) 2 ((x173 p v1 (Int32.ofInt 1) J).toInt64)) (p 6) 3 ((x173 p v1 (Int32.ofInt 2) J).toInt64))) J)) rfl k
  have k := mx_last (q := 4) rfl (show (Int32.ofInt 4).toNatClampNeg = 4 from rfl) k
  have k : nt_rn X _ 196 (55, [(0, .ref (p 0)), (1, .int v1), (2, .int v2), (3, .int v3)], [], me_w (lw M (nt_u (nt_u (nt_u (nt_u (nt_u L (p 6) 0 v1.toInt64) (p 6) 1 ((x173 p v1 (Int32.ofInt 0) J).toInt64)) (p 6) 2 ((x173 p v1 (Int32.ofInt 1) J).toInt64)) (p 6) 3 ((x173 p v1 (Int32.ofInt 2) J).toInt64)) (p 6) 4 v2.toInt64)) J) _ := k
  have k := ly_revb 1 (c' := (56, [(0, .ref (p 0)), (1, .int v1), (2, .int v2), (3, .int v3)], [.ref (p 0)], me_w (lw M (nt_u (nt_u (nt_u (nt_u (nt_u L (p 6) 0 v1.toInt64) (p 6) 1 ((x173 p v1 (Int32.ofInt 0) J).toInt64)) (p 6) 2 ((x173 p v1 (Int32.ofInt 1) J).toInt64)) (p 6) 3 ((x173 p v1 (Int32.ofInt 2) J).toInt64)) (p 6) 4 v2.toInt64)) J)) rfl k
  have k := lz_get (a := (p 0)) (g := 1126) (M := me_w (lw M (nt_u (nt_u (nt_u (nt_u (nt_u L (p 6) 0 v1.toInt64) (p 6) 1 ((x173 p v1 (Int32.ofInt 0) J).toInt64)) (p 6) 2 ((x173 p v1 (Int32.ofInt 1) J).toInt64)) (p 6) 3 ((x173 p v1 (Int32.ofInt 2) J).toInt64)) (p 6) 4 v2.toInt64)) J) (v := .ref (p 6)) rfl (nt_gfR rfl (hp.1 (0, 26, 6) (by decide))) k
  have k := ly_revb 4 (c' := (63, [(0, .ref (p 0)), (1, .int v1), (2, .int v2), (3, .int v3)], [.int (Int32.ofInt 3), .int v1, .ref (p 0), .int (Int32.ofInt 5), .ref (p 6)], me_w (lw M (nt_u (nt_u (nt_u (nt_u (nt_u L (p 6) 0 v1.toInt64) (p 6) 1 ((x173 p v1 (Int32.ofInt 0) J).toInt64)) (p 6) 2 ((x173 p v1 (Int32.ofInt 1) J).toInt64)) (p 6) 3 ((x173 p v1 (Int32.ofInt 2) J).toInt64)) (p 6) 4 v2.toInt64)) J)) rfl k
  obtain ⟨d1, o1, ed, kc, k⟩ := lz_c (g := 173) (q := 1) (vs := [.ref (p 0), .int v1, .int (Int32.ofInt 3)]) (rest := [.int (Int32.ofInt 5), .ref (p 6)]) rfl rfl (by decide) (Or.inr (Or.inl ⟨_, rfl, rfl⟩)) rfl k
  have e1 := xt173 (xs_lp hp) kc
  subst e1
  have k : nt_rn X _ 196 (66, [(0, .ref (p 0)), (1, .int v1), (2, .int v2), (3, .int v3)], [.int (x173 p v1 (Int32.ofInt 3) J), .int (Int32.ofInt 5), .ref (p 6)], me_w (lw M (nt_u (nt_u (nt_u (nt_u (nt_u L (p 6) 0 v1.toInt64) (p 6) 1 ((x173 p v1 (Int32.ofInt 0) J).toInt64)) (p 6) 2 ((x173 p v1 (Int32.ofInt 1) J).toInt64)) (p 6) 3 ((x173 p v1 (Int32.ofInt 2) J).toInt64)) (p 6) 4 v2.toInt64)) J) _ := k
  have k := ly_revb 1 (c' := (if 0 ≤ (x173 p v1 (Int32.ofInt 3) J) then 75 else 69, [(0, .ref (p 0)), (1, .int v1), (2, .int v2), (3, .int v3)], [.int (Int32.ofInt 5), .ref (p 6)], me_w (lw M (nt_u (nt_u (nt_u (nt_u (nt_u L (p 6) 0 v1.toInt64) (p 6) 1 ((x173 p v1 (Int32.ofInt 0) J).toInt64)) (p 6) 2 ((x173 p v1 (Int32.ofInt 1) J).toInt64)) (p 6) 3 ((x173 p v1 (Int32.ofInt 2) J).toInt64)) (p 6) 4 v2.toInt64)) J)) rfl k
  by_cases h66 : 0 ≤ (x173 p v1 (Int32.ofInt 3) J)
  · rw [if_pos h66] at k
    have k := ly_revb 3 (c' := (78, [(0, .ref (p 0)), (1, .int v1), (2, .int v2), (3, .int v3)], [.int (Int32.ofInt 3), .int v1, .ref (p 0), .int (Int32.ofInt 5), .ref (p 6)], me_w (lw M (nt_u (nt_u (nt_u (nt_u (nt_u L (p 6) 0 v1.toInt64) (p 6) 1 ((x173 p v1 (Int32.ofInt 0) J).toInt64)) (p 6) 2 ((x173 p v1 (Int32.ofInt 1) J).toInt64)) (p 6) 3 ((x173 p v1 (Int32.ofInt 2) J).toInt64)) (p 6) 4 v2.toInt64)) J)) rfl k
    obtain ⟨d1, o1, ed, kc, k⟩ := lz_c (g := 173) (q := 1) (vs := [.ref (p 0), .int v1, .int (Int32.ofInt 3)]) (rest := [.int (Int32.ofInt 5), .ref (p 6)]) rfl rfl (by decide) (Or.inr (Or.inl ⟨_, rfl, rfl⟩)) rfl k
    have e1 := xt173 (xs_lp hp) kc
    subst e1
    have k : nt_rn X _ 196 (81, [(0, .ref (p 0)), (1, .int v1), (2, .int v2), (3, .int v3)], [.int (x173 p v1 (Int32.ofInt 3) J), .int (Int32.ofInt 5), .ref (p 6)], me_w (lw M (nt_u (nt_u (nt_u (nt_u (nt_u L (p 6) 0 v1.toInt64) (p 6) 1 ((x173 p v1 (Int32.ofInt 0) J).toInt64)) (p 6) 2 ((x173 p v1 (Int32.ofInt 1) J).toInt64)) (p 6) 3 ((x173 p v1 (Int32.ofInt 2) J).toInt64)) (p 6) 4 v2.toInt64)) J) _ := k
    have k := ly_revb 1 (c' := (82, [(0, .ref (p 0)), (1, .int v1), (2, .int v2), (3, .int v3)], [.long ((x173 p v1 (Int32.ofInt 3) J).toInt64), .int (Int32.ofInt 5), .ref (p 6)], me_w (lw M (nt_u (nt_u (nt_u (nt_u (nt_u L (p 6) 0 v1.toInt64) (p 6) 1 ((x173 p v1 (Int32.ofInt 0) J).toInt64)) (p 6) 2 ((x173 p v1 (Int32.ofInt 1) J).toInt64)) (p 6) 3 ((x173 p v1 (Int32.ofInt 2) J).toInt64)) (p 6) 4 v2.toInt64)) J)) rfl k
    have k := mx_last (q := 5) rfl (show (Int32.ofInt 5).toNatClampNeg = 5 from rfl) k
    have k : nt_rn X _ 196 (83, [(0, .ref (p 0)), (1, .int v1), (2, .int v2), (3, .int v3)], [], me_w (lw M (nt_u (nt_u (nt_u (nt_u (nt_u (nt_u L (p 6) 0 v1.toInt64) (p 6) 1 ((x173 p v1 (Int32.ofInt 0) J).toInt64)) (p 6) 2 ((x173 p v1 (Int32.ofInt 1) J).toInt64)) (p 6) 3 ((x173 p v1 (Int32.ofInt 2) J).toInt64)) (p 6) 4 v2.toInt64) (p 6) 5 ((x173 p v1 (Int32.ofInt 3) J).toInt64))) J) _ := k
    have k := ly_revb 1 (c' := (84, [(0, .ref (p 0)), (1, .int v1), (2, .int v2), (3, .int v3)], [.ref (p 0)], me_w (lw M (nt_u (nt_u (nt_u (nt_u (nt_u (nt_u L (p 6) 0 v1.toInt64) (p 6) 1 ((x173 p v1 (Int32.ofInt 0) J).toInt64)) (p 6) 2 ((x173 p v1 (Int32.ofInt 1) J).toInt64)) (p 6) 3 ((x173 p v1 (Int32.ofInt 2) J).toInt64)) (p 6) 4 v2.toInt64) (p 6) 5 ((x173 p v1 (Int32.ofInt 3) J).toInt64))) J)) rfl k
    have k := lz_get (a := (p 0)) (g := 1126) (M := me_w (lw M (nt_u (nt_u (nt_u (nt_u (nt_u (nt_u L (p 6) 0 v1.toInt64) (p 6) 1 ((x173 p v1 (Int32.ofInt 0) J).toInt64)) (p 6) 2 ((x173 p v1 (Int32.ofInt 1) J).toInt64)) (p 6) 3 ((x173 p v1 (Int32.ofInt 2) J).toInt64)) (p 6) 4 v2.toInt64) (p 6) 5 ((x173 p v1 (Int32.ofInt 3) J).toInt64))) J) (v := .ref (p 6)) rfl (nt_gfR rfl (hp.1 (0, 26, 6) (by decide))) k
    have k := ly_revb 4 (c' := (92, [(0, .ref (p 0)), (1, .int v1), (2, .int v2), (3, .int v3)], [.int (Int32.ofInt 2), .int v1, .ref (p 0), .int (Int32.ofInt 6), .ref (p 6)], me_w (lw M (nt_u (nt_u (nt_u (nt_u (nt_u (nt_u L (p 6) 0 v1.toInt64) (p 6) 1 ((x173 p v1 (Int32.ofInt 0) J).toInt64)) (p 6) 2 ((x173 p v1 (Int32.ofInt 1) J).toInt64)) (p 6) 3 ((x173 p v1 (Int32.ofInt 2) J).toInt64)) (p 6) 4 v2.toInt64) (p 6) 5 ((x173 p v1 (Int32.ofInt 3) J).toInt64))) J)) rfl k
    obtain ⟨d1, o1, ed, kc, k⟩ := lz_c (g := 173) (q := 1) (vs := [.ref (p 0), .int v1, .int (Int32.ofInt 2)]) (rest := [.int (Int32.ofInt 6), .ref (p 6)]) rfl rfl (by decide) (Or.inr (Or.inl ⟨_, rfl, rfl⟩)) rfl k
    have e1 := xt173 (xs_lp hp) kc
    subst e1
    have k : nt_rn X _ 196 (95, [(0, .ref (p 0)), (1, .int v1), (2, .int v2), (3, .int v3)], [.int (x173 p v1 (Int32.ofInt 2) J), .int (Int32.ofInt 6), .ref (p 6)], me_w (lw M (nt_u (nt_u (nt_u (nt_u (nt_u (nt_u L (p 6) 0 v1.toInt64) (p 6) 1 ((x173 p v1 (Int32.ofInt 0) J).toInt64)) (p 6) 2 ((x173 p v1 (Int32.ofInt 1) J).toInt64)) (p 6) 3 ((x173 p v1 (Int32.ofInt 2) J).toInt64)) (p 6) 4 v2.toInt64) (p 6) 5 ((x173 p v1 (Int32.ofInt 3) J).toInt64))) J) _ := k
    have k := ly_revb 2 (c' := (if (x173 p v1 (Int32.ofInt 2) J) = v2 then 99 else 103, [(0, .ref (p 0)), (1, .int v1), (2, .int v2), (3, .int v3)], [.int (Int32.ofInt 6), .ref (p 6)], me_w (lw M (nt_u (nt_u (nt_u (nt_u (nt_u (nt_u L (p 6) 0 v1.toInt64) (p 6) 1 ((x173 p v1 (Int32.ofInt 0) J).toInt64)) (p 6) 2 ((x173 p v1 (Int32.ofInt 1) J).toInt64)) (p 6) 3 ((x173 p v1 (Int32.ofInt 2) J).toInt64)) (p 6) 4 v2.toInt64) (p 6) 5 ((x173 p v1 (Int32.ofInt 3) J).toInt64))) J)) rfl k
    by_cases h96 : (x173 p v1 (Int32.ofInt 2) J) = v2
    · rw [if_pos h96] at k
      have k := ly_revb 2 (c' := (104, [(0, .ref (p 0)), (1, .int v1), (2, .int v2), (3, .int v3)], [.long (Int64.ofNat 1), .int (Int32.ofInt 6), .ref (p 6)], me_w (lw M (nt_u (nt_u (nt_u (nt_u (nt_u (nt_u L (p 6) 0 v1.toInt64) (p 6) 1 ((x173 p v1 (Int32.ofInt 0) J).toInt64)) (p 6) 2 ((x173 p v1 (Int32.ofInt 1) J).toInt64)) (p 6) 3 ((x173 p v1 (Int32.ofInt 2) J).toInt64)) (p 6) 4 v2.toInt64) (p 6) 5 ((x173 p v1 (Int32.ofInt 3) J).toInt64))) J)) rfl k
      have k := mx_last (q := 6) rfl (show (Int32.ofInt 6).toNatClampNeg = 6 from rfl) k
      have k : nt_rn X _ 196 (105, [(0, .ref (p 0)), (1, .int v1), (2, .int v2), (3, .int v3)], [], me_w (lw M (nt_u (nt_u (nt_u (nt_u (nt_u (nt_u (nt_u L (p 6) 0 v1.toInt64) (p 6) 1 ((x173 p v1 (Int32.ofInt 0) J).toInt64)) (p 6) 2 ((x173 p v1 (Int32.ofInt 1) J).toInt64)) (p 6) 3 ((x173 p v1 (Int32.ofInt 2) J).toInt64)) (p 6) 4 v2.toInt64) (p 6) 5 ((x173 p v1 (Int32.ofInt 3) J).toInt64)) (p 6) 6 (Int64.ofNat 1))) J) _ := k
      have k := ly_revb 1 (c' := (106, [(0, .ref (p 0)), (1, .int v1), (2, .int v2), (3, .int v3)], [.ref (p 0)], me_w (lw M (nt_u (nt_u (nt_u (nt_u (nt_u (nt_u (nt_u L (p 6) 0 v1.toInt64) (p 6) 1 ((x173 p v1 (Int32.ofInt 0) J).toInt64)) (p 6) 2 ((x173 p v1 (Int32.ofInt 1) J).toInt64)) (p 6) 3 ((x173 p v1 (Int32.ofInt 2) J).toInt64)) (p 6) 4 v2.toInt64) (p 6) 5 ((x173 p v1 (Int32.ofInt 3) J).toInt64)) (p 6) 6 (Int64.ofNat 1))) J)) rfl k
      have k := lz_get (a := (p 0)) (g := 1126) (M := me_w (lw M (nt_u (nt_u (nt_u (nt_u (nt_u (nt_u (nt_u L (p 6) 0 v1.toInt64) (p 6) 1 ((x173 p v1 (Int32.ofInt 0) J).toInt64)) (p 6) 2 ((x173 p v1 (Int32.ofInt 1) J).toInt64)) (p 6) 3 ((x173 p v1 (Int32.ofInt 2) J).toInt64)) (p 6) 4 v2.toInt64) (p 6) 5 ((x173 p v1 (Int32.ofInt 3) J).toInt64)) (p 6) 6 (Int64.ofNat 1))) J) (v := .ref (p 6)) rfl (nt_gfR rfl (hp.1 (0, 26, 6) (by decide))) k
      have k := ly_revb 2 (c' := (112, [(0, .ref (p 0)), (1, .int v1), (2, .int v2), (3, .int v3)], [.ref (p 0), .int (Int32.ofInt 7), .ref (p 6)], me_w (lw M (nt_u (nt_u (nt_u (nt_u (nt_u (nt_u (nt_u L (p 6) 0 v1.toInt64) (p 6) 1 ((x173 p v1 (Int32.ofInt 0) J).toInt64)) (p 6) 2 ((x173 p v1 (Int32.ofInt 1) J).toInt64)) (p 6) 3 ((x173 p v1 (Int32.ofInt 2) J).toInt64)) (p 6) 4 v2.toInt64) (p 6) 5 ((x173 p v1 (Int32.ofInt 3) J).toInt64)) (p 6) 6 (Int64.ofNat 1))) J)) rfl k
      have k := lz_get (a := (p 0)) (g := 1127) (M := me_w (lw M (nt_u (nt_u (nt_u (nt_u (nt_u (nt_u (nt_u L (p 6) 0 v1.toInt64) (p 6) 1 ((x173 p v1 (Int32.ofInt 0) J).toInt64)) (p 6) 2 ((x173 p v1 (Int32.ofInt 1) J).toInt64)) (p 6) 3 ((x173 p v1 (Int32.ofInt 2) J).toInt64)) (p 6) 4 v2.toInt64) (p 6) 5 ((x173 p v1 (Int32.ofInt 3) J).toInt64)) (p 6) 6 (Int64.ofNat 1))) J) (v := .ref (p 4)) rfl (nt_gfR rfl (hp.1 (0, 27, 4) (by decide))) k
      have k := ly_revb 1 (c' := (116, [(0, .ref (p 0)), (1, .int v1), (2, .int v2), (3, .int v3)], [.int (Int32.ofInt 4), .ref (p 4), .int (Int32.ofInt 7), .ref (p 6)], me_w (lw M (nt_u (nt_u (nt_u (nt_u (nt_u (nt_u (nt_u L (p 6) 0 v1.toInt64) (p 6) 1 ((x173 p v1 (Int32.ofInt 0) J).toInt64)) (p 6) 2 ((x173 p v1 (Int32.ofInt 1) J).toInt64)) (p 6) 3 ((x173 p v1 (Int32.ofInt 2) J).toInt64)) (p 6) 4 v2.toInt64) (p 6) 5 ((x173 p v1 (Int32.ofInt 3) J).toInt64)) (p 6) 6 (Int64.ofNat 1))) J)) rfl k
      have k := mx_iald (v := J (p 4) 4) rfl (hp.2.2.1 4 (by omega)) ((congrArg (J (p 4)) (show (Int32.ofInt 4).toNatClampNeg = 4 from rfl)).trans (rfl)) k
      have k := ly_revb 1 (c' := (118, [(0, .ref (p 0)), (1, .int v1), (2, .int v2), (3, .int v3)], [.long ((J (p 4) 4).toInt64), .int (Int32.ofInt 7), .ref (p 6)], me_w (lw M (nt_u (nt_u (nt_u (nt_u (nt_u (nt_u (nt_u L (p 6) 0 v1.toInt64) (p 6) 1 ((x173 p v1 (Int32.ofInt 0) J).toInt64)) (p 6) 2 ((x173 p v1 (Int32.ofInt 1) J).toInt64)) (p 6) 3 ((x173 p v1 (Int32.ofInt 2) J).toInt64)) (p 6) 4 v2.toInt64) (p 6) 5 ((x173 p v1 (Int32.ofInt 3) J).toInt64)) (p 6) 6 (Int64.ofNat 1))) J)) rfl k
      have k := mx_last (q := 7) rfl (show (Int32.ofInt 7).toNatClampNeg = 7 from rfl) k
      have k : nt_rn X _ 196 (119, [(0, .ref (p 0)), (1, .int v1), (2, .int v2), (3, .int v3)], [], me_w (lw M (nt_u (nt_u (nt_u (nt_u (nt_u (nt_u (nt_u (nt_u L (p 6) 0 v1.toInt64) (p 6) 1 ((x173 p v1 (Int32.ofInt 0) J).toInt64)) (p 6) 2 ((x173 p v1 (Int32.ofInt 1) J).toInt64)) (p 6) 3 ((x173 p v1 (Int32.ofInt 2) J).toInt64)) (p 6) 4 v2.toInt64) (p 6) 5 ((x173 p v1 (Int32.ofInt 3) J).toInt64)) (p 6) 6 (Int64.ofNat 1)) (p 6) 7 ((J (p 4) 4).toInt64))) J) _ := k
      have k := ly_revb 1 (c' := (120, [(0, .ref (p 0)), (1, .int v1), (2, .int v2), (3, .int v3)], [.ref (p 0)], me_w (lw M (nt_u (nt_u (nt_u (nt_u (nt_u (nt_u (nt_u (nt_u L (p 6) 0 v1.toInt64) (p 6) 1 ((x173 p v1 (Int32.ofInt 0) J).toInt64)) (p 6) 2 ((x173 p v1 (Int32.ofInt 1) J).toInt64)) (p 6) 3 ((x173 p v1 (Int32.ofInt 2) J).toInt64)) (p 6) 4 v2.toInt64) (p 6) 5 ((x173 p v1 (Int32.ofInt 3) J).toInt64)) (p 6) 6 (Int64.ofNat 1)) (p 6) 7 ((J (p 4) 4).toInt64))) J)) rfl k
      have k := lz_get (a := (p 0)) (g := 1126) (M := me_w (lw M (nt_u (nt_u (nt_u (nt_u (nt_u (nt_u (nt_u (nt_u L (p 6) 0 v1.toInt64) (p 6) 1 ((x173 p v1 (Int32.ofInt 0) J).toInt64)) (p 6) 2 ((x173 p v1 (Int32.ofInt 1) J).toInt64)) (p 6) 3 ((x173 p v1 (Int32.ofInt 2) J).toInt64)) (p 6) 4 v2.toInt64) (p 6) 5 ((x173 p v1 (Int32.ofInt 3) J).toInt64)) (p 6) 6 (Int64.ofNat 1)) (p 6) 7 ((J (p 4) 4).toInt64))) J) (v := .ref (p 6)) rfl (nt_gfR rfl (hp.1 (0, 26, 6) (by decide))) k
      have k := ly_revb 2 (c' := (126, [(0, .ref (p 0)), (1, .int v1), (2, .int v2), (3, .int v3)], [.ref (p 0), .int (Int32.ofInt 8), .ref (p 6)], me_w (lw M (nt_u (nt_u (nt_u (nt_u (nt_u (nt_u (nt_u (nt_u L (p 6) 0 v1.toInt64) (p 6) 1 ((x173 p v1 (Int32.ofInt 0) J).toInt64)) (p 6) 2 ((x173 p v1 (Int32.ofInt 1) J).toInt64)) (p 6) 3 ((x173 p v1 (Int32.ofInt 2) J).toInt64)) (p 6) 4 v2.toInt64) (p 6) 5 ((x173 p v1 (Int32.ofInt 3) J).toInt64)) (p 6) 6 (Int64.ofNat 1)) (p 6) 7 ((J (p 4) 4).toInt64))) J)) rfl k
      have k := lz_get (a := (p 0)) (g := 1127) (M := me_w (lw M (nt_u (nt_u (nt_u (nt_u (nt_u (nt_u (nt_u (nt_u L (p 6) 0 v1.toInt64) (p 6) 1 ((x173 p v1 (Int32.ofInt 0) J).toInt64)) (p 6) 2 ((x173 p v1 (Int32.ofInt 1) J).toInt64)) (p 6) 3 ((x173 p v1 (Int32.ofInt 2) J).toInt64)) (p 6) 4 v2.toInt64) (p 6) 5 ((x173 p v1 (Int32.ofInt 3) J).toInt64)) (p 6) 6 (Int64.ofNat 1)) (p 6) 7 ((J (p 4) 4).toInt64))) J) (v := .ref (p 4)) rfl (nt_gfR rfl (hp.1 (0, 27, 4) (by decide))) k
      have k := ly_revb 1 (c' := (131, [(0, .ref (p 0)), (1, .int v1), (2, .int v2), (3, .int v3)], [.int (Int32.ofInt 6), .ref (p 4), .int (Int32.ofInt 8), .ref (p 6)], me_w (lw M (nt_u (nt_u (nt_u (nt_u (nt_u (nt_u (nt_u (nt_u L (p 6) 0 v1.toInt64) (p 6) 1 ((x173 p v1 (Int32.ofInt 0) J).toInt64)) (p 6) 2 ((x173 p v1 (Int32.ofInt 1) J).toInt64)) (p 6) 3 ((x173 p v1 (Int32.ofInt 2) J).toInt64)) (p 6) 4 v2.toInt64) (p 6) 5 ((x173 p v1 (Int32.ofInt 3) J).toInt64)) (p 6) 6 (Int64.ofNat 1)) (p 6) 7 ((J (p 4) 4).toInt64))) J)) rfl k
      have k := mx_iald (v := J (p 4) 6) rfl (hp.2.2.1 4 (by omega)) ((congrArg (J (p 4)) (show (Int32.ofInt 6).toNatClampNeg = 6 from rfl)).trans (rfl)) k
      have k := ly_revb 1 (c' := (133, [(0, .ref (p 0)), (1, .int v1), (2, .int v2), (3, .int v3)], [.long ((J (p 4) 6).toInt64), .int (Int32.ofInt 8), .ref (p 6)], me_w (lw M (nt_u (nt_u (nt_u (nt_u (nt_u (nt_u (nt_u (nt_u L (p 6) 0 v1.toInt64) (p 6) 1 ((x173 p v1 (Int32.ofInt 0) J).toInt64)) (p 6) 2 ((x173 p v1 (Int32.ofInt 1) J).toInt64)) (p 6) 3 ((x173 p v1 (Int32.ofInt 2) J).toInt64)) (p 6) 4 v2.toInt64) (p 6) 5 ((x173 p v1 (Int32.ofInt 3) J).toInt64)) (p 6) 6 (Int64.ofNat 1)) (p 6) 7 ((J (p 4) 4).toInt64))) J)) rfl k
      have k := mx_last (q := 8) rfl (show (Int32.ofInt 8).toNatClampNeg = 8 from rfl) k
      have k : nt_rn X _ 196 (134, [(0, .ref (p 0)), (1, .int v1), (2, .int v2), (3, .int v3)], [], me_w (lw M (nt_u (nt_u (nt_u (nt_u (nt_u (nt_u (nt_u (nt_u (nt_u L (p 6) 0 v1.toInt64) (p 6) 1 ((x173 p v1 (Int32.ofInt 0) J).toInt64)) (p 6) 2 ((x173 p v1 (Int32.ofInt 1) J).toInt64)) (p 6) 3 ((x173 p v1 (Int32.ofInt 2) J).toInt64)) (p 6) 4 v2.toInt64) (p 6) 5 ((x173 p v1 (Int32.ofInt 3) J).toInt64)) (p 6) 6 (Int64.ofNat 1)) (p 6) 7 ((J (p 4) 4).toInt64)) (p 6) 8 ((J (p 4) 6).toInt64))) J) _ := k
      have k := ly_revb 1 (c' := (135, [(0, .ref (p 0)), (1, .int v1), (2, .int v2), (3, .int v3)], [.ref (p 0)], me_w (lw M (nt_u (nt_u (nt_u (nt_u (nt_u (nt_u (nt_u (nt_u (nt_u L (p 6) 0 v1.toInt64) (p 6) 1 ((x173 p v1 (Int32.ofInt 0) J).toInt64)) (p 6) 2 ((x173 p v1 (Int32.ofInt 1) J).toInt64)) (p 6) 3 ((x173 p v1 (Int32.ofInt 2) J).toInt64)) (p 6) 4 v2.toInt64) (p 6) 5 ((x173 p v1 (Int32.ofInt 3) J).toInt64)) (p 6) 6 (Int64.ofNat 1)) (p 6) 7 ((J (p 4) 4).toInt64)) (p 6) 8 ((J (p 4) 6).toInt64))) J)) rfl k
      have k := lz_get (a := (p 0)) (g := 1126) (M := me_w (lw M (nt_u (nt_u (nt_u (nt_u (nt_u (nt_u (nt_u (nt_u (nt_u L (p 6) 0 v1.toInt64) (p 6) 1 ((x173 p v1 (Int32.ofInt 0) J).toInt64)) (p 6) 2 ((x173 p v1 (Int32.ofInt 1) J).toInt64)) (p 6) 3 ((x173 p v1 (Int32.ofInt 2) J).toInt64)) (p 6) 4 v2.toInt64) (p 6) 5 ((x173 p v1 (Int32.ofInt 3) J).toInt64)) (p 6) 6 (Int64.ofNat 1)) (p 6) 7 ((J (p 4) 4).toInt64)) (p 6) 8 ((J (p 4) 6).toInt64))) J) (v := .ref (p 6)) rfl (nt_gfR rfl (hp.1 (0, 26, 6) (by decide))) k
      have k := ly_revb 4 (c' := (143, [(0, .ref (p 0)), (1, .int v1), (2, .int v2), (3, .int v3)], [.int (Int32.ofInt 2), .int v3, .ref (p 0), .int (Int32.ofInt 9), .ref (p 6)], me_w (lw M (nt_u (nt_u (nt_u (nt_u (nt_u (nt_u (nt_u (nt_u (nt_u L (p 6) 0 v1.toInt64) (p 6) 1 ((x173 p v1 (Int32.ofInt 0) J).toInt64)) (p 6) 2 ((x173 p v1 (Int32.ofInt 1) J).toInt64)) (p 6) 3 ((x173 p v1 (Int32.ofInt 2) J).toInt64)) (p 6) 4 v2.toInt64) (p 6) 5 ((x173 p v1 (Int32.ofInt 3) J).toInt64)) (p 6) 6 (Int64.ofNat 1)) (p 6) 7 ((J (p 4) 4).toInt64)) (p 6) 8 ((J (p 4) 6).toInt64))) J)) rfl k
      obtain ⟨d1, o1, ed, kc, k⟩ := lz_c (g := 180) (q := 1) (vs := [.ref (p 0), .int v3, .int (Int32.ofInt 2)]) (rest := [.int (Int32.ofInt 9), .ref (p 6)]) rfl rfl (by decide) (Or.inr (Or.inl ⟨_, rfl, rfl⟩)) rfl k
      have e1 := xt180 (xs_lp hp) kc
      subst e1
      have k : nt_rn X _ 196 (146, [(0, .ref (p 0)), (1, .int v1), (2, .int v2), (3, .int v3)], [.int (x180 p v3 (Int32.ofInt 2) J), .int (Int32.ofInt 9), .ref (p 6)], me_w (lw M (nt_u (nt_u (nt_u (nt_u (nt_u (nt_u (nt_u (nt_u (nt_u L (p 6) 0 v1.toInt64) (p 6) 1 ((x173 p v1 (Int32.ofInt 0) J).toInt64)) (p 6) 2 ((x173 p v1 (Int32.ofInt 1) J).toInt64)) (p 6) 3 ((x173 p v1 (Int32.ofInt 2) J).toInt64)) (p 6) 4 v2.toInt64) (p 6) 5 ((x173 p v1 (Int32.ofInt 3) J).toInt64)) (p 6) 6 (Int64.ofNat 1)) (p 6) 7 ((J (p 4) 4).toInt64)) (p 6) 8 ((J (p 4) 6).toInt64))) J) _ := k
      have k := ly_revb 3 (c' := (149, [(0, .ref (p 0)), (1, .int v1), (2, .int v2), (3, .int v3)], [.int (Int32.ofInt 1), .int v3, .ref (p 0), .int (x180 p v3 (Int32.ofInt 2) J), .int (Int32.ofInt 9), .ref (p 6)], me_w (lw M (nt_u (nt_u (nt_u (nt_u (nt_u (nt_u (nt_u (nt_u (nt_u L (p 6) 0 v1.toInt64) (p 6) 1 ((x173 p v1 (Int32.ofInt 0) J).toInt64)) (p 6) 2 ((x173 p v1 (Int32.ofInt 1) J).toInt64)) (p 6) 3 ((x173 p v1 (Int32.ofInt 2) J).toInt64)) (p 6) 4 v2.toInt64) (p 6) 5 ((x173 p v1 (Int32.ofInt 3) J).toInt64)) (p 6) 6 (Int64.ofNat 1)) (p 6) 7 ((J (p 4) 4).toInt64)) (p 6) 8 ((J (p 4) 6).toInt64))) J)) rfl k
      obtain ⟨d1, o1, ed, kc, k⟩ := lz_c (g := 180) (q := 1) (vs := [.ref (p 0), .int v3, .int (Int32.ofInt 1)]) (rest := [.int (x180 p v3 (Int32.ofInt 2) J), .int (Int32.ofInt 9), .ref (p 6)]) rfl rfl (by decide) (Or.inr (Or.inl ⟨_, rfl, rfl⟩)) rfl k
      have e1 := xt180 (xs_lp hp) kc
      subst e1
      have k : nt_rn X _ 196 (152, [(0, .ref (p 0)), (1, .int v1), (2, .int v2), (3, .int v3)], [.int (x180 p v3 (Int32.ofInt 1) J), .int (x180 p v3 (Int32.ofInt 2) J), .int (Int32.ofInt 9), .ref (p 6)], me_w (lw M (nt_u (nt_u (nt_u (nt_u (nt_u (nt_u (nt_u (nt_u (nt_u L (p 6) 0 v1.toInt64) (p 6) 1 ((x173 p v1 (Int32.ofInt 0) J).toInt64)) (p 6) 2 ((x173 p v1 (Int32.ofInt 1) J).toInt64)) (p 6) 3 ((x173 p v1 (Int32.ofInt 2) J).toInt64)) (p 6) 4 v2.toInt64) (p 6) 5 ((x173 p v1 (Int32.ofInt 3) J).toInt64)) (p 6) 6 (Int64.ofNat 1)) (p 6) 7 ((J (p 4) 4).toInt64)) (p 6) 8 ((J (p 4) 6).toInt64))) J) _ := k
      have k := ly_revb 2 (c' := (154, [(0, .ref (p 0)), (1, .int v1), (2, .int v2), (3, .int v3)], [.long (((x180 p v3 (Int32.ofInt 2) J) - (x180 p v3 (Int32.ofInt 1) J)).toInt64), .int (Int32.ofInt 9), .ref (p 6)], me_w (lw M (nt_u (nt_u (nt_u (nt_u (nt_u (nt_u (nt_u (nt_u (nt_u L (p 6) 0 v1.toInt64) (p 6) 1 ((x173 p v1 (Int32.ofInt 0) J).toInt64)) (p 6) 2 ((x173 p v1 (Int32.ofInt 1) J).toInt64)) (p 6) 3 ((x173 p v1 (Int32.ofInt 2) J).toInt64)) (p 6) 4 v2.toInt64) (p 6) 5 ((x173 p v1 (Int32.ofInt 3) J).toInt64)) (p 6) 6 (Int64.ofNat 1)) (p 6) 7 ((J (p 4) 4).toInt64)) (p 6) 8 ((J (p 4) 6).toInt64))) J)) rfl k
      have k := mx_last (q := 9) rfl (show (Int32.ofInt 9).toNatClampNeg = 9 from rfl) k
      have k : nt_rn X _ 196 (155, [(0, .ref (p 0)), (1, .int v1), (2, .int v2), (3, .int v3)], [], me_w (lw M (nt_u (nt_u (nt_u (nt_u (nt_u (nt_u (nt_u (nt_u (nt_u (nt_u L (p 6) 0 v1.toInt64) (p 6) 1 ((x173 p v1 (Int32.ofInt 0) J).toInt64)) (p 6) 2 ((x173 p v1 (Int32.ofInt 1) J).toInt64)) (p 6) 3 ((x173 p v1 (Int32.ofInt 2) J).toInt64)) (p 6) 4 v2.toInt64) (p 6) 5 ((x173 p v1 (Int32.ofInt 3) J).toInt64)) (p 6) 6 (Int64.ofNat 1)) (p 6) 7 ((J (p 4) 4).toInt64)) (p 6) 8 ((J (p 4) 6).toInt64)) (p 6) 9 (((x180 p v3 (Int32.ofInt 2) J) - (x180 p v3 (Int32.ofInt 1) J)).toInt64))) J) _ := k
      have k := lz_rv rfl rfl k
      rw [k, x196, if_pos h66, if_pos h96]
    · rw [if_neg h96] at k
      have k := ly_revb 1 (c' := (104, [(0, .ref (p 0)), (1, .int v1), (2, .int v2), (3, .int v3)], [.long (Int64.ofNat 0), .int (Int32.ofInt 6), .ref (p 6)], me_w (lw M (nt_u (nt_u (nt_u (nt_u (nt_u (nt_u L (p 6) 0 v1.toInt64) (p 6) 1 ((x173 p v1 (Int32.ofInt 0) J).toInt64)) (p 6) 2 ((x173 p v1 (Int32.ofInt 1) J).toInt64)) (p 6) 3 ((x173 p v1 (Int32.ofInt 2) J).toInt64)) (p 6) 4 v2.toInt64) (p 6) 5 ((x173 p v1 (Int32.ofInt 3) J).toInt64))) J)) rfl k
      have k := mx_last (q := 6) rfl (show (Int32.ofInt 6).toNatClampNeg = 6 from rfl) k
      have k : nt_rn X _ 196 (105, [(0, .ref (p 0)), (1, .int v1), (2, .int v2), (3, .int v3)], [], me_w (lw M (nt_u (nt_u (nt_u (nt_u (nt_u (nt_u (nt_u L (p 6) 0 v1.toInt64) (p 6) 1 ((x173 p v1 (Int32.ofInt 0) J).toInt64)) (p 6) 2 ((x173 p v1 (Int32.ofInt 1) J).toInt64)) (p 6) 3 ((x173 p v1 (Int32.ofInt 2) J).toInt64)) (p 6) 4 v2.toInt64) (p 6) 5 ((x173 p v1 (Int32.ofInt 3) J).toInt64)) (p 6) 6 (Int64.ofNat 0))) J) _ := k
      have k := ly_revb 1 (c' := (106, [(0, .ref (p 0)), (1, .int v1), (2, .int v2), (3, .int v3)], [.ref (p 0)], me_w (lw M (nt_u (nt_u (nt_u (nt_u (nt_u (nt_u (nt_u L (p 6) 0 v1.toInt64) (p 6) 1 ((x173 p v1 (Int32.ofInt 0) J).toInt64)) (p 6) 2 ((x173 p v1 (Int32.ofInt 1) J).toInt64)) (p 6) 3 ((x173 p v1 (Int32.ofInt 2) J).toInt64)) (p 6) 4 v2.toInt64) (p 6) 5 ((x173 p v1 (Int32.ofInt 3) J).toInt64)) (p 6) 6 (Int64.ofNat 0))) J)) rfl k
      have k := lz_get (a := (p 0)) (g := 1126) (M := me_w (lw M (nt_u (nt_u (nt_u (nt_u (nt_u (nt_u (nt_u L (p 6) 0 v1.toInt64) (p 6) 1 ((x173 p v1 (Int32.ofInt 0) J).toInt64)) (p 6) 2 ((x173 p v1 (Int32.ofInt 1) J).toInt64)) (p 6) 3 ((x173 p v1 (Int32.ofInt 2) J).toInt64)) (p 6) 4 v2.toInt64) (p 6) 5 ((x173 p v1 (Int32.ofInt 3) J).toInt64)) (p 6) 6 (Int64.ofNat 0))) J) (v := .ref (p 6)) rfl (nt_gfR rfl (hp.1 (0, 26, 6) (by decide))) k
      have k := ly_revb 2 (c' := (112, [(0, .ref (p 0)), (1, .int v1), (2, .int v2), (3, .int v3)], [.ref (p 0), .int (Int32.ofInt 7), .ref (p 6)], me_w (lw M (nt_u (nt_u (nt_u (nt_u (nt_u (nt_u (nt_u L (p 6) 0 v1.toInt64) (p 6) 1 ((x173 p v1 (Int32.ofInt 0) J).toInt64)) (p 6) 2 ((x173 p v1 (Int32.ofInt 1) J).toInt64)) (p 6) 3 ((x173 p v1 (Int32.ofInt 2) J).toInt64)) (p 6) 4 v2.toInt64) (p 6) 5 ((x173 p v1 (Int32.ofInt 3) J).toInt64)) (p 6) 6 (Int64.ofNat 0))) J)) rfl k
      have k := lz_get (a := (p 0)) (g := 1127) (M := me_w (lw M (nt_u (nt_u (nt_u (nt_u (nt_u (nt_u (nt_u L (p 6) 0 v1.toInt64) (p 6) 1 ((x173 p v1 (Int32.ofInt 0) J).toInt64)) (p 6) 2 ((x173 p v1 (Int32.ofInt 1) J).toInt64)) (p 6) 3 ((x173 p v1 (Int32.ofInt 2) J).toInt64)) (p 6) 4 v2.toInt64) (p 6) 5 ((x173 p v1 (Int32.ofInt 3) J).toInt64)) (p 6) 6 (Int64.ofNat 0))) J) (v := .ref (p 4)) rfl (nt_gfR rfl (hp.1 (0, 27, 4) (by decide))) k
      have k := ly_revb 1 (c' := (116, [(0, .ref (p 0)), (1, .int v1), (2, .int v2), (3, .int v3)], [.int (Int32.ofInt 4), .ref (p 4), .int (Int32.ofInt 7), .ref (p 6)], me_w (lw M (nt_u (nt_u (nt_u (nt_u (nt_u (nt_u (nt_u L (p 6) 0 v1.toInt64) (p 6) 1 ((x173 p v1 (Int32.ofInt 0) J).toInt64)) (p 6) 2 ((x173 p v1 (Int32.ofInt 1) J).toInt64)) (p 6) 3 ((x173 p v1 (Int32.ofInt 2) J).toInt64)) (p 6) 4 v2.toInt64) (p 6) 5 ((x173 p v1 (Int32.ofInt 3) J).toInt64)) (p 6) 6 (Int64.ofNat 0))) J)) rfl k
      have k := mx_iald (v := J (p 4) 4) rfl (hp.2.2.1 4 (by omega)) ((congrArg (J (p 4)) (show (Int32.ofInt 4).toNatClampNeg = 4 from rfl)).trans (rfl)) k
      have k := ly_revb 1 (c' := (118, [(0, .ref (p 0)), (1, .int v1), (2, .int v2), (3, .int v3)], [.long ((J (p 4) 4).toInt64), .int (Int32.ofInt 7), .ref (p 6)], me_w (lw M (nt_u (nt_u (nt_u (nt_u (nt_u (nt_u (nt_u L (p 6) 0 v1.toInt64) (p 6) 1 ((x173 p v1 (Int32.ofInt 0) J).toInt64)) (p 6) 2 ((x173 p v1 (Int32.ofInt 1) J).toInt64)) (p 6) 3 ((x173 p v1 (Int32.ofInt 2) J).toInt64)) (p 6) 4 v2.toInt64) (p 6) 5 ((x173 p v1 (Int32.ofInt 3) J).toInt64)) (p 6) 6 (Int64.ofNat 0))) J)) rfl k
      have k := mx_last (q := 7) rfl (show (Int32.ofInt 7).toNatClampNeg = 7 from rfl) k
      have k : nt_rn X _ 196 (119, [(0, .ref (p 0)), (1, .int v1), (2, .int v2), (3, .int v3)], [], me_w (lw M (nt_u (nt_u (nt_u (nt_u (nt_u (nt_u (nt_u (nt_u L (p 6) 0 v1.toInt64) (p 6) 1 ((x173 p v1 (Int32.ofInt 0) J).toInt64)) (p 6) 2 ((x173 p v1 (Int32.ofInt 1) J).toInt64)) (p 6) 3 ((x173 p v1 (Int32.ofInt 2) J).toInt64)) (p 6) 4 v2.toInt64) (p 6) 5 ((x173 p v1 (Int32.ofInt 3) J).toInt64)) (p 6) 6 (Int64.ofNat 0)) (p 6) 7 ((J (p 4) 4).toInt64))) J) _ := k
      have k := ly_revb 1 (c' := (120, [(0, .ref (p 0)), (1, .int v1), (2, .int v2), (3, .int v3)], [.ref (p 0)], me_w (lw M (nt_u (nt_u (nt_u (nt_u (nt_u (nt_u (nt_u (nt_u L (p 6) 0 v1.toInt64) (p 6) 1 ((x173 p v1 (Int32.ofInt 0) J).toInt64)) (p 6) 2 ((x173 p v1 (Int32.ofInt 1) J).toInt64)) (p 6) 3 ((x173 p v1 (Int32.ofInt 2) J).toInt64)) (p 6) 4 v2.toInt64) (p 6) 5 ((x173 p v1 (Int32.ofInt 3) J).toInt64)) (p 6) 6 (Int64.ofNat 0)) (p 6) 7 ((J (p 4) 4).toInt64))) J)) rfl k
      have k := lz_get (a := (p 0)) (g := 1126) (M := me_w (lw M (nt_u (nt_u (nt_u (nt_u (nt_u (nt_u (nt_u (nt_u L (p 6) 0 v1.toInt64) (p 6) 1 ((x173 p v1 (Int32.ofInt 0) J).toInt64)) (p 6) 2 ((x173 p v1 (Int32.ofInt 1) J).toInt64)) (p 6) 3 ((x173 p v1 (Int32.ofInt 2) J).toInt64)) (p 6) 4 v2.toInt64) (p 6) 5 ((x173 p v1 (Int32.ofInt 3) J).toInt64)) (p 6) 6 (Int64.ofNat 0)) (p 6) 7 ((J (p 4) 4).toInt64))) J) (v := .ref (p 6)) rfl (nt_gfR rfl (hp.1 (0, 26, 6) (by decide))) k
      have k := ly_revb 2 (c' := (126, [(0, .ref (p 0)), (1, .int v1), (2, .int v2), (3, .int v3)], [.ref (p 0), .int (Int32.ofInt 8), .ref (p 6)], me_w (lw M (nt_u (nt_u (nt_u (nt_u (nt_u (nt_u (nt_u (nt_u L (p 6) 0 v1.toInt64) (p 6) 1 ((x173 p v1 (Int32.ofInt 0) J).toInt64)) (p 6) 2 ((x173 p v1 (Int32.ofInt 1) J).toInt64)) (p 6) 3 ((x173 p v1 (Int32.ofInt 2) J).toInt64)) (p 6) 4 v2.toInt64) (p 6) 5 ((x173 p v1 (Int32.ofInt 3) J).toInt64)) (p 6) 6 (Int64.ofNat 0)) (p 6) 7 ((J (p 4) 4).toInt64))) J)) rfl k
      have k := lz_get (a := (p 0)) (g := 1127) (M := me_w (lw M (nt_u (nt_u (nt_u (nt_u (nt_u (nt_u (nt_u (nt_u L (p 6) 0 v1.toInt64) (p 6) 1 ((x173 p v1 (Int32.ofInt 0) J).toInt64)) (p 6) 2 ((x173 p v1 (Int32.ofInt 1) J).toInt64)) (p 6) 3 ((x173 p v1 (Int32.ofInt 2) J).toInt64)) (p 6) 4 v2.toInt64) (p 6) 5 ((x173 p v1 (Int32.ofInt 3) J).toInt64)) (p 6) 6 (Int64.ofNat 0)) (p 6) 7 ((J (p 4) 4).toInt64))) J) (v := .ref (p 4)) rfl (nt_gfR rfl (hp.1 (0, 27, 4) (by decide))) k
      have k := ly_revb 1 (c' := (131, [(0, .ref (p 0)), (1, .int v1), (2, .int v2), (3, .int v3)], [.int (Int32.ofInt 6), .ref (p 4), .int (Int32.ofInt 8), .ref (p 6)], me_w (lw M (nt_u (nt_u (nt_u (nt_u (nt_u (nt_u (nt_u (nt_u L (p 6) 0 v1.toInt64) (p 6) 1 ((x173 p v1 (Int32.ofInt 0) J).toInt64)) (p 6) 2 ((x173 p v1 (Int32.ofInt 1) J).toInt64)) (p 6) 3 ((x173 p v1 (Int32.ofInt 2) J).toInt64)) (p 6) 4 v2.toInt64) (p 6) 5 ((x173 p v1 (Int32.ofInt 3) J).toInt64)) (p 6) 6 (Int64.ofNat 0)) (p 6) 7 ((J (p 4) 4).toInt64))) J)) rfl k
      have k := mx_iald (v := J (p 4) 6) rfl (hp.2.2.1 4 (by omega)) ((congrArg (J (p 4)) (show (Int32.ofInt 6).toNatClampNeg = 6 from rfl)).trans (rfl)) k
      have k := ly_revb 1 (c' := (133, [(0, .ref (p 0)), (1, .int v1), (2, .int v2), (3, .int v3)], [.long ((J (p 4) 6).toInt64), .int (Int32.ofInt 8), .ref (p 6)], me_w (lw M (nt_u (nt_u (nt_u (nt_u (nt_u (nt_u (nt_u (nt_u L (p 6) 0 v1.toInt64) (p 6) 1 ((x173 p v1 (Int32.ofInt 0) J).toInt64)) (p 6) 2 ((x173 p v1 (Int32.ofInt 1) J).toInt64)) (p 6) 3 ((x173 p v1 (Int32.ofInt 2) J).toInt64)) (p 6) 4 v2.toInt64) (p 6) 5 ((x173 p v1 (Int32.ofInt 3) J).toInt64)) (p 6) 6 (Int64.ofNat 0)) (p 6) 7 ((J (p 4) 4).toInt64))) J)) rfl k
      have k := mx_last (q := 8) rfl (show (Int32.ofInt 8).toNatClampNeg = 8 from rfl) k
      have k : nt_rn X _ 196 (134, [(0, .ref (p 0)), (1, .int v1), (2, .int v2), (3, .int v3)], [], me_w (lw M (nt_u (nt_u (nt_u (nt_u (nt_u (nt_u (nt_u (nt_u (nt_u L (p 6) 0 v1.toInt64) (p 6) 1 ((x173 p v1 (Int32.ofInt 0) J).toInt64)) (p 6) 2 ((x173 p v1 (Int32.ofInt 1) J).toInt64)) (p 6) 3 ((x173 p v1 (Int32.ofInt 2) J).toInt64)) (p 6) 4 v2.toInt64) (p 6) 5 ((x173 p v1 (Int32.ofInt 3) J).toInt64)) (p 6) 6 (Int64.ofNat 0)) (p 6) 7 ((J (p 4) 4).toInt64)) (p 6) 8 ((J (p 4) 6).toInt64))) J) _ := k
      have k := ly_revb 1 (c' := (135, [(0, .ref (p 0)), (1, .int v1), (2, .int v2), (3, .int v3)], [.ref (p 0)], me_w (lw M (nt_u (nt_u (nt_u (nt_u (nt_u (nt_u (nt_u (nt_u (nt_u L (p 6) 0 v1.toInt64) (p 6) 1 ((x173 p v1 (Int32.ofInt 0) J).toInt64)) (p 6) 2 ((x173 p v1 (Int32.ofInt 1) J).toInt64)) (p 6) 3 ((x173 p v1 (Int32.ofInt 2) J).toInt64)) (p 6) 4 v2.toInt64) (p 6) 5 ((x173 p v1 (Int32.ofInt 3) J).toInt64)) (p 6) 6 (Int64.ofNat 0)) (p 6) 7 ((J (p 4) 4).toInt64)) (p 6) 8 ((J (p 4) 6).toInt64))) J)) rfl k
      have k := lz_get (a := (p 0)) (g := 1126) (M := me_w (lw M (nt_u (nt_u (nt_u (nt_u (nt_u (nt_u (nt_u (nt_u (nt_u L (p 6) 0 v1.toInt64) (p 6) 1 ((x173 p v1 (Int32.ofInt 0) J).toInt64)) (p 6) 2 ((x173 p v1 (Int32.ofInt 1) J).toInt64)) (p 6) 3 ((x173 p v1 (Int32.ofInt 2) J).toInt64)) (p 6) 4 v2.toInt64) (p 6) 5 ((x173 p v1 (Int32.ofInt 3) J).toInt64)) (p 6) 6 (Int64.ofNat 0)) (p 6) 7 ((J (p 4) 4).toInt64)) (p 6) 8 ((J (p 4) 6).toInt64))) J) (v := .ref (p 6)) rfl (nt_gfR rfl (hp.1 (0, 26, 6) (by decide))) k
      have k := ly_revb 4 (c' := (143, [(0, .ref (p 0)), (1, .int v1), (2, .int v2), (3, .int v3)], [.int (Int32.ofInt 2), .int v3, .ref (p 0), .int (Int32.ofInt 9), .ref (p 6)], me_w (lw M (nt_u (nt_u (nt_u (nt_u (nt_u (nt_u (nt_u (nt_u (nt_u L (p 6) 0 v1.toInt64) (p 6) 1 ((x173 p v1 (Int32.ofInt 0) J).toInt64)) (p 6) 2 ((x173 p v1 (Int32.ofInt 1) J).toInt64)) (p 6) 3 ((x173 p v1 (Int32.ofInt 2) J).toInt64)) (p 6) 4 v2.toInt64) (p 6) 5 ((x173 p v1 (Int32.ofInt 3) J).toInt64)) (p 6) 6 (Int64.ofNat 0)) (p 6) 7 ((J (p 4) 4).toInt64)) (p 6) 8 ((J (p 4) 6).toInt64))) J)) rfl k
      obtain ⟨d1, o1, ed, kc, k⟩ := lz_c (g := 180) (q := 1) (vs := [.ref (p 0), .int v3, .int (Int32.ofInt 2)]) (rest := [.int (Int32.ofInt 9), .ref (p 6)]) rfl rfl (by decide) (Or.inr (Or.inl ⟨_, rfl, rfl⟩)) rfl k
      have e1 := xt180 (xs_lp hp) kc
      subst e1
      have k : nt_rn X _ 196 (146, [(0, .ref (p 0)), (1, .int v1), (2, .int v2), (3, .int v3)], [.int (x180 p v3 (Int32.ofInt 2) J), .int (Int32.ofInt 9), .ref (p 6)], me_w (lw M (nt_u (nt_u (nt_u (nt_u (nt_u (nt_u (nt_u (nt_u (nt_u L (p 6) 0 v1.toInt64) (p 6) 1 ((x173 p v1 (Int32.ofInt 0) J).toInt64)) (p 6) 2 ((x173 p v1 (Int32.ofInt 1) J).toInt64)) (p 6) 3 ((x173 p v1 (Int32.ofInt 2) J).toInt64)) (p 6) 4 v2.toInt64) (p 6) 5 ((x173 p v1 (Int32.ofInt 3) J).toInt64)) (p 6) 6 (Int64.ofNat 0)) (p 6) 7 ((J (p 4) 4).toInt64)) (p 6) 8 ((J (p 4) 6).toInt64))) J) _ := k
      have k := ly_revb 3 (c' := (149, [(0, .ref (p 0)), (1, .int v1), (2, .int v2), (3, .int v3)], [.int (Int32.ofInt 1), .int v3, .ref (p 0), .int (x180 p v3 (Int32.ofInt 2) J), .int (Int32.ofInt 9), .ref (p 6)], me_w (lw M (nt_u (nt_u (nt_u (nt_u (nt_u (nt_u (nt_u (nt_u (nt_u L (p 6) 0 v1.toInt64) (p 6) 1 ((x173 p v1 (Int32.ofInt 0) J).toInt64)) (p 6) 2 ((x173 p v1 (Int32.ofInt 1) J).toInt64)) (p 6) 3 ((x173 p v1 (Int32.ofInt 2) J).toInt64)) (p 6) 4 v2.toInt64) (p 6) 5 ((x173 p v1 (Int32.ofInt 3) J).toInt64)) (p 6) 6 (Int64.ofNat 0)) (p 6) 7 ((J (p 4) 4).toInt64)) (p 6) 8 ((J (p 4) 6).toInt64))) J)) rfl k
      obtain ⟨d1, o1, ed, kc, k⟩ := lz_c (g := 180) (q := 1) (vs := [.ref (p 0), .int v3, .int (Int32.ofInt 1)]) (rest := [.int (x180 p v3 (Int32.ofInt 2) J), .int (Int32.ofInt 9), .ref (p 6)]) rfl rfl (by decide) (Or.inr (Or.inl ⟨_, rfl, rfl⟩)) rfl k
      have e1 := xt180 (xs_lp hp) kc
      subst e1
      have k : nt_rn X _ 196 (152, [(0, .ref (p 0)), (1, .int v1), (2, .int v2), (3, .int v3)], [.int (x180 p v3 (Int32.ofInt 1) J), .int (x180 p v3 (Int32.ofInt 2) J), .int (Int32.ofInt 9), .ref (p 6)], me_w (lw M (nt_u (nt_u (nt_u (nt_u (nt_u (nt_u (nt_u (nt_u (nt_u L (p 6) 0 v1.toInt64) (p 6) 1 ((x173 p v1 (Int32.ofInt 0) J).toInt64)) (p 6) 2 ((x173 p v1 (Int32.ofInt 1) J).toInt64)) (p 6) 3 ((x173 p v1 (Int32.ofInt 2) J).toInt64)) (p 6) 4 v2.toInt64) (p 6) 5 ((x173 p v1 (Int32.ofInt 3) J).toInt64)) (p 6) 6 (Int64.ofNat 0)) (p 6) 7 ((J (p 4) 4).toInt64)) (p 6) 8 ((J (p 4) 6).toInt64))) J) _ := k
      have k := ly_revb 2 (c' := (154, [(0, .ref (p 0)), (1, .int v1), (2, .int v2), (3, .int v3)], [.long (((x180 p v3 (Int32.ofInt 2) J) - (x180 p v3 (Int32.ofInt 1) J)).toInt64), .int (Int32.ofInt 9), .ref (p 6)], me_w (lw M (nt_u (nt_u (nt_u (nt_u (nt_u (nt_u (nt_u (nt_u (nt_u L (p 6) 0 v1.toInt64) (p 6) 1 ((x173 p v1 (Int32.ofInt 0) J).toInt64)) (p 6) 2 ((x173 p v1 (Int32.ofInt 1) J).toInt64)) (p 6) 3 ((x173 p v1 (Int32.ofInt 2) J).toInt64)) (p 6) 4 v2.toInt64) (p 6) 5 ((x173 p v1 (Int32.ofInt 3) J).toInt64)) (p 6) 6 (Int64.ofNat 0)) (p 6) 7 ((J (p 4) 4).toInt64)) (p 6) 8 ((J (p 4) 6).toInt64))) J)) rfl k
      have k := mx_last (q := 9) rfl (show (Int32.ofInt 9).toNatClampNeg = 9 from rfl) k
      have k : nt_rn X _ 196 (155, [(0, .ref (p 0)), (1, .int v1), (2, .int v2), (3, .int v3)], [], me_w (lw M (nt_u (nt_u (nt_u (nt_u (nt_u (nt_u (nt_u (nt_u (nt_u (nt_u L (p 6) 0 v1.toInt64) (p 6) 1 ((x173 p v1 (Int32.ofInt 0) J).toInt64)) (p 6) 2 ((x173 p v1 (Int32.ofInt 1) J).toInt64)) (p 6) 3 ((x173 p v1 (Int32.ofInt 2) J).toInt64)) (p 6) 4 v2.toInt64) (p 6) 5 ((x173 p v1 (Int32.ofInt 3) J).toInt64)) (p 6) 6 (Int64.ofNat 0)) (p 6) 7 ((J (p 4) 4).toInt64)) (p 6) 8 ((J (p 4) 6).toInt64)) (p 6) 9 (((x180 p v3 (Int32.ofInt 2) J) - (x180 p v3 (Int32.ofInt 1) J)).toInt64))) J) _ := k
      have k := lz_rv rfl rfl k
      rw [k, x196, if_pos h66, if_neg h96]
  · rw [if_neg h66] at k
    have k := ly_revb 2 (c' := (82, [(0, .ref (p 0)), (1, .int v1), (2, .int v2), (3, .int v3)], [.long 99, .int (Int32.ofInt 5), .ref (p 6)], me_w (lw M (nt_u (nt_u (nt_u (nt_u (nt_u L (p 6) 0 v1.toInt64) (p 6) 1 ((x173 p v1 (Int32.ofInt 0) J).toInt64)) (p 6) 2 ((x173 p v1 (Int32.ofInt 1) J).toInt64)) (p 6) 3 ((x173 p v1 (Int32.ofInt 2) J).toInt64)) (p 6) 4 v2.toInt64)) J)) rfl k
    have k := mx_last (q := 5) rfl (show (Int32.ofInt 5).toNatClampNeg = 5 from rfl) k
    have k : nt_rn X _ 196 (83, [(0, .ref (p 0)), (1, .int v1), (2, .int v2), (3, .int v3)], [], me_w (lw M (nt_u (nt_u (nt_u (nt_u (nt_u (nt_u L (p 6) 0 v1.toInt64) (p 6) 1 ((x173 p v1 (Int32.ofInt 0) J).toInt64)) (p 6) 2 ((x173 p v1 (Int32.ofInt 1) J).toInt64)) (p 6) 3 ((x173 p v1 (Int32.ofInt 2) J).toInt64)) (p 6) 4 v2.toInt64) (p 6) 5 99)) J) _ := k
    have k := ly_revb 1 (c' := (84, [(0, .ref (p 0)), (1, .int v1), (2, .int v2), (3, .int v3)], [.ref (p 0)], me_w (lw M (nt_u (nt_u (nt_u (nt_u (nt_u (nt_u L (p 6) 0 v1.toInt64) (p 6) 1 ((x173 p v1 (Int32.ofInt 0) J).toInt64)) (p 6) 2 ((x173 p v1 (Int32.ofInt 1) J).toInt64)) (p 6) 3 ((x173 p v1 (Int32.ofInt 2) J).toInt64)) (p 6) 4 v2.toInt64) (p 6) 5 99)) J)) rfl k
    have k := lz_get (a := (p 0)) (g := 1126) (M := me_w (lw M (nt_u (nt_u (nt_u (nt_u (nt_u (nt_u L (p 6) 0 v1.toInt64) (p 6) 1 ((x173 p v1 (Int32.ofInt 0) J).toInt64)) (p 6) 2 ((x173 p v1 (Int32.ofInt 1) J).toInt64)) (p 6) 3 ((x173 p v1 (Int32.ofInt 2) J).toInt64)) (p 6) 4 v2.toInt64) (p 6) 5 99)) J) (v := .ref (p 6)) rfl (nt_gfR rfl (hp.1 (0, 26, 6) (by decide))) k
    have k := ly_revb 4 (c' := (92, [(0, .ref (p 0)), (1, .int v1), (2, .int v2), (3, .int v3)], [.int (Int32.ofInt 2), .int v1, .ref (p 0), .int (Int32.ofInt 6), .ref (p 6)], me_w (lw M (nt_u (nt_u (nt_u (nt_u (nt_u (nt_u L (p 6) 0 v1.toInt64) (p 6) 1 ((x173 p v1 (Int32.ofInt 0) J).toInt64)) (p 6) 2 ((x173 p v1 (Int32.ofInt 1) J).toInt64)) (p 6) 3 ((x173 p v1 (Int32.ofInt 2) J).toInt64)) (p 6) 4 v2.toInt64) (p 6) 5 99)) J)) rfl k
    obtain ⟨d1, o1, ed, kc, k⟩ := lz_c (g := 173) (q := 1) (vs := [.ref (p 0), .int v1, .int (Int32.ofInt 2)]) (rest := [.int (Int32.ofInt 6), .ref (p 6)]) rfl rfl (by decide) (Or.inr (Or.inl ⟨_, rfl, rfl⟩)) rfl k
    have e1 := xt173 (xs_lp hp) kc
    subst e1
    have k : nt_rn X _ 196 (95, [(0, .ref (p 0)), (1, .int v1), (2, .int v2), (3, .int v3)], [.int (x173 p v1 (Int32.ofInt 2) J), .int (Int32.ofInt 6), .ref (p 6)], me_w (lw M (nt_u (nt_u (nt_u (nt_u (nt_u (nt_u L (p 6) 0 v1.toInt64) (p 6) 1 ((x173 p v1 (Int32.ofInt 0) J).toInt64)) (p 6) 2 ((x173 p v1 (Int32.ofInt 1) J).toInt64)) (p 6) 3 ((x173 p v1 (Int32.ofInt 2) J).toInt64)) (p 6) 4 v2.toInt64) (p 6) 5 99)) J) _ := k
    have k := ly_revb 2 (c' := (if (x173 p v1 (Int32.ofInt 2) J) = v2 then 99 else 103, [(0, .ref (p 0)), (1, .int v1), (2, .int v2), (3, .int v3)], [.int (Int32.ofInt 6), .ref (p 6)], me_w (lw M (nt_u (nt_u (nt_u (nt_u (nt_u (nt_u L (p 6) 0 v1.toInt64) (p 6) 1 ((x173 p v1 (Int32.ofInt 0) J).toInt64)) (p 6) 2 ((x173 p v1 (Int32.ofInt 1) J).toInt64)) (p 6) 3 ((x173 p v1 (Int32.ofInt 2) J).toInt64)) (p 6) 4 v2.toInt64) (p 6) 5 99)) J)) rfl k
    by_cases h96 : (x173 p v1 (Int32.ofInt 2) J) = v2
    · rw [if_pos h96] at k
      have k := ly_revb 2 (c' := (104, [(0, .ref (p 0)), (1, .int v1), (2, .int v2), (3, .int v3)], [.long (Int64.ofNat 1), .int (Int32.ofInt 6), .ref (p 6)], me_w (lw M (nt_u (nt_u (nt_u (nt_u (nt_u (nt_u L (p 6) 0 v1.toInt64) (p 6) 1 ((x173 p v1 (Int32.ofInt 0) J).toInt64)) (p 6) 2 ((x173 p v1 (Int32.ofInt 1) J).toInt64)) (p 6) 3 ((x173 p v1 (Int32.ofInt 2) J).toInt64)) (p 6) 4 v2.toInt64) (p 6) 5 99)) J)) rfl k
      have k := mx_last (q := 6) rfl (show (Int32.ofInt 6).toNatClampNeg = 6 from rfl) k
      have k : nt_rn X _ 196 (105, [(0, .ref (p 0)), (1, .int v1), (2, .int v2), (3, .int v3)], [], me_w (lw M (nt_u (nt_u (nt_u (nt_u (nt_u (nt_u (nt_u L (p 6) 0 v1.toInt64) (p 6) 1 ((x173 p v1 (Int32.ofInt 0) J).toInt64)) (p 6) 2 ((x173 p v1 (Int32.ofInt 1) J).toInt64)) (p 6) 3 ((x173 p v1 (Int32.ofInt 2) J).toInt64)) (p 6) 4 v2.toInt64) (p 6) 5 99) (p 6) 6 (Int64.ofNat 1))) J) _ := k
      have k := ly_revb 1 (c' := (106, [(0, .ref (p 0)), (1, .int v1), (2, .int v2), (3, .int v3)], [.ref (p 0)], me_w (lw M (nt_u (nt_u (nt_u (nt_u (nt_u (nt_u (nt_u L (p 6) 0 v1.toInt64) (p 6) 1 ((x173 p v1 (Int32.ofInt 0) J).toInt64)) (p 6) 2 ((x173 p v1 (Int32.ofInt 1) J).toInt64)) (p 6) 3 ((x173 p v1 (Int32.ofInt 2) J).toInt64)) (p 6) 4 v2.toInt64) (p 6) 5 99) (p 6) 6 (Int64.ofNat 1))) J)) rfl k
      have k := lz_get (a := (p 0)) (g := 1126) (M := me_w (lw M (nt_u (nt_u (nt_u (nt_u (nt_u (nt_u (nt_u L (p 6) 0 v1.toInt64) (p 6) 1 ((x173 p v1 (Int32.ofInt 0) J).toInt64)) (p 6) 2 ((x173 p v1 (Int32.ofInt 1) J).toInt64)) (p 6) 3 ((x173 p v1 (Int32.ofInt 2) J).toInt64)) (p 6) 4 v2.toInt64) (p 6) 5 99) (p 6) 6 (Int64.ofNat 1))) J) (v := .ref (p 6)) rfl (nt_gfR rfl (hp.1 (0, 26, 6) (by decide))) k
      have k := ly_revb 2 (c' := (112, [(0, .ref (p 0)), (1, .int v1), (2, .int v2), (3, .int v3)], [.ref (p 0), .int (Int32.ofInt 7), .ref (p 6)], me_w (lw M (nt_u (nt_u (nt_u (nt_u (nt_u (nt_u (nt_u L (p 6) 0 v1.toInt64) (p 6) 1 ((x173 p v1 (Int32.ofInt 0) J).toInt64)) (p 6) 2 ((x173 p v1 (Int32.ofInt 1) J).toInt64)) (p 6) 3 ((x173 p v1 (Int32.ofInt 2) J).toInt64)) (p 6) 4 v2.toInt64) (p 6) 5 99) (p 6) 6 (Int64.ofNat 1))) J)) rfl k
      have k := lz_get (a := (p 0)) (g := 1127) (M := me_w (lw M (nt_u (nt_u (nt_u (nt_u (nt_u (nt_u (nt_u L (p 6) 0 v1.toInt64) (p 6) 1 ((x173 p v1 (Int32.ofInt 0) J).toInt64)) (p 6) 2 ((x173 p v1 (Int32.ofInt 1) J).toInt64)) (p 6) 3 ((x173 p v1 (Int32.ofInt 2) J).toInt64)) (p 6) 4 v2.toInt64) (p 6) 5 99) (p 6) 6 (Int64.ofNat 1))) J) (v := .ref (p 4)) rfl (nt_gfR rfl (hp.1 (0, 27, 4) (by decide))) k
      have k := ly_revb 1 (c' := (116, [(0, .ref (p 0)), (1, .int v1), (2, .int v2), (3, .int v3)], [.int (Int32.ofInt 4), .ref (p 4), .int (Int32.ofInt 7), .ref (p 6)], me_w (lw M (nt_u (nt_u (nt_u (nt_u (nt_u (nt_u (nt_u L (p 6) 0 v1.toInt64) (p 6) 1 ((x173 p v1 (Int32.ofInt 0) J).toInt64)) (p 6) 2 ((x173 p v1 (Int32.ofInt 1) J).toInt64)) (p 6) 3 ((x173 p v1 (Int32.ofInt 2) J).toInt64)) (p 6) 4 v2.toInt64) (p 6) 5 99) (p 6) 6 (Int64.ofNat 1))) J)) rfl k
      have k := mx_iald (v := J (p 4) 4) rfl (hp.2.2.1 4 (by omega)) ((congrArg (J (p 4)) (show (Int32.ofInt 4).toNatClampNeg = 4 from rfl)).trans (rfl)) k
      have k := ly_revb 1 (c' := (118, [(0, .ref (p 0)), (1, .int v1), (2, .int v2), (3, .int v3)], [.long ((J (p 4) 4).toInt64), .int (Int32.ofInt 7), .ref (p 6)], me_w (lw M (nt_u (nt_u (nt_u (nt_u (nt_u (nt_u (nt_u L (p 6) 0 v1.toInt64) (p 6) 1 ((x173 p v1 (Int32.ofInt 0) J).toInt64)) (p 6) 2 ((x173 p v1 (Int32.ofInt 1) J).toInt64)) (p 6) 3 ((x173 p v1 (Int32.ofInt 2) J).toInt64)) (p 6) 4 v2.toInt64) (p 6) 5 99) (p 6) 6 (Int64.ofNat 1))) J)) rfl k
      have k := mx_last (q := 7) rfl (show (Int32.ofInt 7).toNatClampNeg = 7 from rfl) k
      have k : nt_rn X _ 196 (119, [(0, .ref (p 0)), (1, .int v1), (2, .int v2), (3, .int v3)], [], me_w (lw M (nt_u (nt_u (nt_u (nt_u (nt_u (nt_u (nt_u (nt_u L (p 6) 0 v1.toInt64) (p 6) 1 ((x173 p v1 (Int32.ofInt 0) J).toInt64)) (p 6) 2 ((x173 p v1 (Int32.ofInt 1) J).toInt64)) (p 6) 3 ((x173 p v1 (Int32.ofInt 2) J).toInt64)) (p 6) 4 v2.toInt64) (p 6) 5 99) (p 6) 6 (Int64.ofNat 1)) (p 6) 7 ((J (p 4) 4).toInt64))) J) _ := k
      have k := ly_revb 1 (c' := (120, [(0, .ref (p 0)), (1, .int v1), (2, .int v2), (3, .int v3)], [.ref (p 0)], me_w (lw M (nt_u (nt_u (nt_u (nt_u (nt_u (nt_u (nt_u (nt_u L (p 6) 0 v1.toInt64) (p 6) 1 ((x173 p v1 (Int32.ofInt 0) J).toInt64)) (p 6) 2 ((x173 p v1 (Int32.ofInt 1) J).toInt64)) (p 6) 3 ((x173 p v1 (Int32.ofInt 2) J).toInt64)) (p 6) 4 v2.toInt64) (p 6) 5 99) (p 6) 6 (Int64.ofNat 1)) (p 6) 7 ((J (p 4) 4).toInt64))) J)) rfl k
      have k := lz_get (a := (p 0)) (g := 1126) (M := me_w (lw M (nt_u (nt_u (nt_u (nt_u (nt_u (nt_u (nt_u (nt_u L (p 6) 0 v1.toInt64) (p 6) 1 ((x173 p v1 (Int32.ofInt 0) J).toInt64)) (p 6) 2 ((x173 p v1 (Int32.ofInt 1) J).toInt64)) (p 6) 3 ((x173 p v1 (Int32.ofInt 2) J).toInt64)) (p 6) 4 v2.toInt64) (p 6) 5 99) (p 6) 6 (Int64.ofNat 1)) (p 6) 7 ((J (p 4) 4).toInt64))) J) (v := .ref (p 6)) rfl (nt_gfR rfl (hp.1 (0, 26, 6) (by decide))) k
      have k := ly_revb 2 (c' := (126, [(0, .ref (p 0)), (1, .int v1), (2, .int v2), (3, .int v3)], [.ref (p 0), .int (Int32.ofInt 8), .ref (p 6)], me_w (lw M (nt_u (nt_u (nt_u (nt_u (nt_u (nt_u (nt_u (nt_u L (p 6) 0 v1.toInt64) (p 6) 1 ((x173 p v1 (Int32.ofInt 0) J).toInt64)) (p 6) 2 ((x173 p v1 (Int32.ofInt 1) J).toInt64)) (p 6) 3 ((x173 p v1 (Int32.ofInt 2) J).toInt64)) (p 6) 4 v2.toInt64) (p 6) 5 99) (p 6) 6 (Int64.ofNat 1)) (p 6) 7 ((J (p 4) 4).toInt64))) J)) rfl k
      have k := lz_get (a := (p 0)) (g := 1127) (M := me_w (lw M (nt_u (nt_u (nt_u (nt_u (nt_u (nt_u (nt_u (nt_u L (p 6) 0 v1.toInt64) (p 6) 1 ((x173 p v1 (Int32.ofInt 0) J).toInt64)) (p 6) 2 ((x173 p v1 (Int32.ofInt 1) J).toInt64)) (p 6) 3 ((x173 p v1 (Int32.ofInt 2) J).toInt64)) (p 6) 4 v2.toInt64) (p 6) 5 99) (p 6) 6 (Int64.ofNat 1)) (p 6) 7 ((J (p 4) 4).toInt64))) J) (v := .ref (p 4)) rfl (nt_gfR rfl (hp.1 (0, 27, 4) (by decide))) k
      have k := ly_revb 1 (c' := (131, [(0, .ref (p 0)), (1, .int v1), (2, .int v2), (3, .int v3)], [.int (Int32.ofInt 6), .ref (p 4), .int (Int32.ofInt 8), .ref (p 6)], me_w (lw M (nt_u (nt_u (nt_u (nt_u (nt_u (nt_u (nt_u (nt_u L (p 6) 0 v1.toInt64) (p 6) 1 ((x173 p v1 (Int32.ofInt 0) J).toInt64)) (p 6) 2 ((x173 p v1 (Int32.ofInt 1) J).toInt64)) (p 6) 3 ((x173 p v1 (Int32.ofInt 2) J).toInt64)) (p 6) 4 v2.toInt64) (p 6) 5 99) (p 6) 6 (Int64.ofNat 1)) (p 6) 7 ((J (p 4) 4).toInt64))) J)) rfl k
      have k := mx_iald (v := J (p 4) 6) rfl (hp.2.2.1 4 (by omega)) ((congrArg (J (p 4)) (show (Int32.ofInt 6).toNatClampNeg = 6 from rfl)).trans (rfl)) k
      have k := ly_revb 1 (c' := (133, [(0, .ref (p 0)), (1, .int v1), (2, .int v2), (3, .int v3)], [.long ((J (p 4) 6).toInt64), .int (Int32.ofInt 8), .ref (p 6)], me_w (lw M (nt_u (nt_u (nt_u (nt_u (nt_u (nt_u (nt_u (nt_u L (p 6) 0 v1.toInt64) (p 6) 1 ((x173 p v1 (Int32.ofInt 0) J).toInt64)) (p 6) 2 ((x173 p v1 (Int32.ofInt 1) J).toInt64)) (p 6) 3 ((x173 p v1 (Int32.ofInt 2) J).toInt64)) (p 6) 4 v2.toInt64) (p 6) 5 99) (p 6) 6 (Int64.ofNat 1)) (p 6) 7 ((J (p 4) 4).toInt64))) J)) rfl k
      have k := mx_last (q := 8) rfl (show (Int32.ofInt 8).toNatClampNeg = 8 from rfl) k
      have k : nt_rn X _ 196 (134, [(0, .ref (p 0)), (1, .int v1), (2, .int v2), (3, .int v3)], [], me_w (lw M (nt_u (nt_u (nt_u (nt_u (nt_u (nt_u (nt_u (nt_u (nt_u L (p 6) 0 v1.toInt64) (p 6) 1 ((x173 p v1 (Int32.ofInt 0) J).toInt64)) (p 6) 2 ((x173 p v1 (Int32.ofInt 1) J).toInt64)) (p 6) 3 ((x173 p v1 (Int32.ofInt 2) J).toInt64)) (p 6) 4 v2.toInt64) (p 6) 5 99) (p 6) 6 (Int64.ofNat 1)) (p 6) 7 ((J (p 4) 4).toInt64)) (p 6) 8 ((J (p 4) 6).toInt64))) J) _ := k
      have k := ly_revb 1 (c' := (135, [(0, .ref (p 0)), (1, .int v1), (2, .int v2), (3, .int v3)], [.ref (p 0)], me_w (lw M (nt_u (nt_u (nt_u (nt_u (nt_u (nt_u (nt_u (nt_u (nt_u L (p 6) 0 v1.toInt64) (p 6) 1 ((x173 p v1 (Int32.ofInt 0) J).toInt64)) (p 6) 2 ((x173 p v1 (Int32.ofInt 1) J).toInt64)) (p 6) 3 ((x173 p v1 (Int32.ofInt 2) J).toInt64)) (p 6) 4 v2.toInt64) (p 6) 5 99) (p 6) 6 (Int64.ofNat 1)) (p 6) 7 ((J (p 4) 4).toInt64)) (p 6) 8 ((J (p 4) 6).toInt64))) J)) rfl k
      have k := lz_get (a := (p 0)) (g := 1126) (M := me_w (lw M (nt_u (nt_u (nt_u (nt_u (nt_u (nt_u (nt_u (nt_u (nt_u L (p 6) 0 v1.toInt64) (p 6) 1 ((x173 p v1 (Int32.ofInt 0) J).toInt64)) (p 6) 2 ((x173 p v1 (Int32.ofInt 1) J).toInt64)) (p 6) 3 ((x173 p v1 (Int32.ofInt 2) J).toInt64)) (p 6) 4 v2.toInt64) (p 6) 5 99) (p 6) 6 (Int64.ofNat 1)) (p 6) 7 ((J (p 4) 4).toInt64)) (p 6) 8 ((J (p 4) 6).toInt64))) J) (v := .ref (p 6)) rfl (nt_gfR rfl (hp.1 (0, 26, 6) (by decide))) k
      have k := ly_revb 4 (c' := (143, [(0, .ref (p 0)), (1, .int v1), (2, .int v2), (3, .int v3)], [.int (Int32.ofInt 2), .int v3, .ref (p 0), .int (Int32.ofInt 9), .ref (p 6)], me_w (lw M (nt_u (nt_u (nt_u (nt_u (nt_u (nt_u (nt_u (nt_u (nt_u L (p 6) 0 v1.toInt64) (p 6) 1 ((x173 p v1 (Int32.ofInt 0) J).toInt64)) (p 6) 2 ((x173 p v1 (Int32.ofInt 1) J).toInt64)) (p 6) 3 ((x173 p v1 (Int32.ofInt 2) J).toInt64)) (p 6) 4 v2.toInt64) (p 6) 5 99) (p 6) 6 (Int64.ofNat 1)) (p 6) 7 ((J (p 4) 4).toInt64)) (p 6) 8 ((J (p 4) 6).toInt64))) J)) rfl k
      obtain ⟨d1, o1, ed, kc, k⟩ := lz_c (g := 180) (q := 1) (vs := [.ref (p 0), .int v3, .int (Int32.ofInt 2)]) (rest := [.int (Int32.ofInt 9), .ref (p 6)]) rfl rfl (by decide) (Or.inr (Or.inl ⟨_, rfl, rfl⟩)) rfl k
      have e1 := xt180 (xs_lp hp) kc
      subst e1
      have k : nt_rn X _ 196 (146, [(0, .ref (p 0)), (1, .int v1), (2, .int v2), (3, .int v3)], [.int (x180 p v3 (Int32.ofInt 2) J), .int (Int32.ofInt 9), .ref (p 6)], me_w (lw M (nt_u (nt_u (nt_u (nt_u (nt_u (nt_u (nt_u (nt_u (nt_u L (p 6) 0 v1.toInt64) (p 6) 1 ((x173 p v1 (Int32.ofInt 0) J).toInt64)) (p 6) 2 ((x173 p v1 (Int32.ofInt 1) J).toInt64)) (p 6) 3 ((x173 p v1 (Int32.ofInt 2) J).toInt64)) (p 6) 4 v2.toInt64) (p 6) 5 99) (p 6) 6 (Int64.ofNat 1)) (p 6) 7 ((J (p 4) 4).toInt64)) (p 6) 8 ((J (p 4) 6).toInt64))) J) _ := k
      have k := ly_revb 3 (c' := (149, [(0, .ref (p 0)), (1, .int v1), (2, .int v2), (3, .int v3)], [.int (Int32.ofInt 1), .int v3, .ref (p 0), .int (x180 p v3 (Int32.ofInt 2) J), .int (Int32.ofInt 9), .ref (p 6)], me_w (lw M (nt_u (nt_u (nt_u (nt_u (nt_u (nt_u (nt_u (nt_u (nt_u L (p 6) 0 v1.toInt64) (p 6) 1 ((x173 p v1 (Int32.ofInt 0) J).toInt64)) (p 6) 2 ((x173 p v1 (Int32.ofInt 1) J).toInt64)) (p 6) 3 ((x173 p v1 (Int32.ofInt 2) J).toInt64)) (p 6) 4 v2.toInt64) (p 6) 5 99) (p 6) 6 (Int64.ofNat 1)) (p 6) 7 ((J (p 4) 4).toInt64)) (p 6) 8 ((J (p 4) 6).toInt64))) J)) rfl k
      obtain ⟨d1, o1, ed, kc, k⟩ := lz_c (g := 180) (q := 1) (vs := [.ref (p 0), .int v3, .int (Int32.ofInt 1)]) (rest := [.int (x180 p v3 (Int32.ofInt 2) J), .int (Int32.ofInt 9), .ref (p 6)]) rfl rfl (by decide) (Or.inr (Or.inl ⟨_, rfl, rfl⟩)) rfl k
      have e1 := xt180 (xs_lp hp) kc
      subst e1
      have k : nt_rn X _ 196 (152, [(0, .ref (p 0)), (1, .int v1), (2, .int v2), (3, .int v3)], [.int (x180 p v3 (Int32.ofInt 1) J), .int (x180 p v3 (Int32.ofInt 2) J), .int (Int32.ofInt 9), .ref (p 6)], me_w (lw M (nt_u (nt_u (nt_u (nt_u (nt_u (nt_u (nt_u (nt_u (nt_u L (p 6) 0 v1.toInt64) (p 6) 1 ((x173 p v1 (Int32.ofInt 0) J).toInt64)) (p 6) 2 ((x173 p v1 (Int32.ofInt 1) J).toInt64)) (p 6) 3 ((x173 p v1 (Int32.ofInt 2) J).toInt64)) (p 6) 4 v2.toInt64) (p 6) 5 99) (p 6) 6 (Int64.ofNat 1)) (p 6) 7 ((J (p 4) 4).toInt64)) (p 6) 8 ((J (p 4) 6).toInt64))) J) _ := k
      have k := ly_revb 2 (c' := (154, [(0, .ref (p 0)), (1, .int v1), (2, .int v2), (3, .int v3)], [.long (((x180 p v3 (Int32.ofInt 2) J) - (x180 p v3 (Int32.ofInt 1) J)).toInt64), .int (Int32.ofInt 9), .ref (p 6)], me_w (lw M (nt_u (nt_u (nt_u (nt_u (nt_u (nt_u (nt_u (nt_u (nt_u L (p 6) 0 v1.toInt64) (p 6) 1 ((x173 p v1 (Int32.ofInt 0) J).toInt64)) (p 6) 2 ((x173 p v1 (Int32.ofInt 1) J).toInt64)) (p 6) 3 ((x173 p v1 (Int32.ofInt 2) J).toInt64)) (p 6) 4 v2.toInt64) (p 6) 5 99) (p 6) 6 (Int64.ofNat 1)) (p 6) 7 ((J (p 4) 4).toInt64)) (p 6) 8 ((J (p 4) 6).toInt64))) J)) rfl k
      have k := mx_last (q := 9) rfl (show (Int32.ofInt 9).toNatClampNeg = 9 from rfl) k
      have k : nt_rn X _ 196 (155, [(0, .ref (p 0)), (1, .int v1), (2, .int v2), (3, .int v3)], [], me_w (lw M (nt_u (nt_u (nt_u (nt_u (nt_u (nt_u (nt_u (nt_u (nt_u (nt_u L (p 6) 0 v1.toInt64) (p 6) 1 ((x173 p v1 (Int32.ofInt 0) J).toInt64)) (p 6) 2 ((x173 p v1 (Int32.ofInt 1) J).toInt64)) (p 6) 3 ((x173 p v1 (Int32.ofInt 2) J).toInt64)) (p 6) 4 v2.toInt64) (p 6) 5 99) (p 6) 6 (Int64.ofNat 1)) (p 6) 7 ((J (p 4) 4).toInt64)) (p 6) 8 ((J (p 4) 6).toInt64)) (p 6) 9 (((x180 p v3 (Int32.ofInt 2) J) - (x180 p v3 (Int32.ofInt 1) J)).toInt64))) J) _ := k
      have k := lz_rv rfl rfl k
      rw [k, x196, if_neg h66, if_pos h96]
    · rw [if_neg h96] at k
      have k := ly_revb 1 (c' := (104, [(0, .ref (p 0)), (1, .int v1), (2, .int v2), (3, .int v3)], [.long (Int64.ofNat 0), .int (Int32.ofInt 6), .ref (p 6)], me_w (lw M (nt_u (nt_u (nt_u (nt_u (nt_u (nt_u L (p 6) 0 v1.toInt64) (p 6) 1 ((x173 p v1 (Int32.ofInt 0) J).toInt64)) (p 6) 2 ((x173 p v1 (Int32.ofInt 1) J).toInt64)) (p 6) 3 ((x173 p v1 (Int32.ofInt 2) J).toInt64)) (p 6) 4 v2.toInt64) (p 6) 5 99)) J)) rfl k
      have k := mx_last (q := 6) rfl (show (Int32.ofInt 6).toNatClampNeg = 6 from rfl) k
      have k : nt_rn X _ 196 (105, [(0, .ref (p 0)), (1, .int v1), (2, .int v2), (3, .int v3)], [], me_w (lw M (nt_u (nt_u (nt_u (nt_u (nt_u (nt_u (nt_u L (p 6) 0 v1.toInt64) (p 6) 1 ((x173 p v1 (Int32.ofInt 0) J).toInt64)) (p 6) 2 ((x173 p v1 (Int32.ofInt 1) J).toInt64)) (p 6) 3 ((x173 p v1 (Int32.ofInt 2) J).toInt64)) (p 6) 4 v2.toInt64) (p 6) 5 99) (p 6) 6 (Int64.ofNat 0))) J) _ := k
      have k := ly_revb 1 (c' := (106, [(0, .ref (p 0)), (1, .int v1), (2, .int v2), (3, .int v3)], [.ref (p 0)], me_w (lw M (nt_u (nt_u (nt_u (nt_u (nt_u (nt_u (nt_u L (p 6) 0 v1.toInt64) (p 6) 1 ((x173 p v1 (Int32.ofInt 0) J).toInt64)) (p 6) 2 ((x173 p v1 (Int32.ofInt 1) J).toInt64)) (p 6) 3 ((x173 p v1 (Int32.ofInt 2) J).toInt64)) (p 6) 4 v2.toInt64) (p 6) 5 99) (p 6) 6 (Int64.ofNat 0))) J)) rfl k
      have k := lz_get (a := (p 0)) (g := 1126) (M := me_w (lw M (nt_u (nt_u (nt_u (nt_u (nt_u (nt_u (nt_u L (p 6) 0 v1.toInt64) (p 6) 1 ((x173 p v1 (Int32.ofInt 0) J).toInt64)) (p 6) 2 ((x173 p v1 (Int32.ofInt 1) J).toInt64)) (p 6) 3 ((x173 p v1 (Int32.ofInt 2) J).toInt64)) (p 6) 4 v2.toInt64) (p 6) 5 99) (p 6) 6 (Int64.ofNat 0))) J) (v := .ref (p 6)) rfl (nt_gfR rfl (hp.1 (0, 26, 6) (by decide))) k
      have k := ly_revb 2 (c' := (112, [(0, .ref (p 0)), (1, .int v1), (2, .int v2), (3, .int v3)], [.ref (p 0), .int (Int32.ofInt 7), .ref (p 6)], me_w (lw M (nt_u (nt_u (nt_u (nt_u (nt_u (nt_u (nt_u L (p 6) 0 v1.toInt64) (p 6) 1 ((x173 p v1 (Int32.ofInt 0) J).toInt64)) (p 6) 2 ((x173 p v1 (Int32.ofInt 1) J).toInt64)) (p 6) 3 ((x173 p v1 (Int32.ofInt 2) J).toInt64)) (p 6) 4 v2.toInt64) (p 6) 5 99) (p 6) 6 (Int64.ofNat 0))) J)) rfl k
      have k := lz_get (a := (p 0)) (g := 1127) (M := me_w (lw M (nt_u (nt_u (nt_u (nt_u (nt_u (nt_u (nt_u L (p 6) 0 v1.toInt64) (p 6) 1 ((x173 p v1 (Int32.ofInt 0) J).toInt64)) (p 6) 2 ((x173 p v1 (Int32.ofInt 1) J).toInt64)) (p 6) 3 ((x173 p v1 (Int32.ofInt 2) J).toInt64)) (p 6) 4 v2.toInt64) (p 6) 5 99) (p 6) 6 (Int64.ofNat 0))) J) (v := .ref (p 4)) rfl (nt_gfR rfl (hp.1 (0, 27, 4) (by decide))) k
      have k := ly_revb 1 (c' := (116, [(0, .ref (p 0)), (1, .int v1), (2, .int v2), (3, .int v3)], [.int (Int32.ofInt 4), .ref (p 4), .int (Int32.ofInt 7), .ref (p 6)], me_w (lw M (nt_u (nt_u (nt_u (nt_u (nt_u (nt_u (nt_u L (p 6) 0 v1.toInt64) (p 6) 1 ((x173 p v1 (Int32.ofInt 0) J).toInt64)) (p 6) 2 ((x173 p v1 (Int32.ofInt 1) J).toInt64)) (p 6) 3 ((x173 p v1 (Int32.ofInt 2) J).toInt64)) (p 6) 4 v2.toInt64) (p 6) 5 99) (p 6) 6 (Int64.ofNat 0))) J)) rfl k
      have k := mx_iald (v := J (p 4) 4) rfl (hp.2.2.1 4 (by omega)) ((congrArg (J (p 4)) (show (Int32.ofInt 4).toNatClampNeg = 4 from rfl)).trans (rfl)) k
      have k := ly_revb 1 (c' := (118, [(0, .ref (p 0)), (1, .int v1), (2, .int v2), (3, .int v3)], [.long ((J (p 4) 4).toInt64), .int (Int32.ofInt 7), .ref (p 6)], me_w (lw M (nt_u (nt_u (nt_u (nt_u (nt_u (nt_u (nt_u L (p 6) 0 v1.toInt64) (p 6) 1 ((x173 p v1 (Int32.ofInt 0) J).toInt64)) (p 6) 2 ((x173 p v1 (Int32.ofInt 1) J).toInt64)) (p 6) 3 ((x173 p v1 (Int32.ofInt 2) J).toInt64)) (p 6) 4 v2.toInt64) (p 6) 5 99) (p 6) 6 (Int64.ofNat 0))) J)) rfl k
      have k := mx_last (q := 7) rfl (show (Int32.ofInt 7).toNatClampNeg = 7 from rfl) k
      have k : nt_rn X _ 196 (119, [(0, .ref (p 0)), (1, .int v1), (2, .int v2), (3, .int v3)], [], me_w (lw M (nt_u (nt_u (nt_u (nt_u (nt_u (nt_u (nt_u (nt_u L (p 6) 0 v1.toInt64) (p 6) 1 ((x173 p v1 (Int32.ofInt 0) J).toInt64)) (p 6) 2 ((x173 p v1 (Int32.ofInt 1) J).toInt64)) (p 6) 3 ((x173 p v1 (Int32.ofInt 2) J).toInt64)) (p 6) 4 v2.toInt64) (p 6) 5 99) (p 6) 6 (Int64.ofNat 0)) (p 6) 7 ((J (p 4) 4).toInt64))) J) _ := k
      have k := ly_revb 1 (c' := (120, [(0, .ref (p 0)), (1, .int v1), (2, .int v2), (3, .int v3)], [.ref (p 0)], me_w (lw M (nt_u (nt_u (nt_u (nt_u (nt_u (nt_u (nt_u (nt_u L (p 6) 0 v1.toInt64) (p 6) 1 ((x173 p v1 (Int32.ofInt 0) J).toInt64)) (p 6) 2 ((x173 p v1 (Int32.ofInt 1) J).toInt64)) (p 6) 3 ((x173 p v1 (Int32.ofInt 2) J).toInt64)) (p 6) 4 v2.toInt64) (p 6) 5 99) (p 6) 6 (Int64.ofNat 0)) (p 6) 7 ((J (p 4) 4).toInt64))) J)) rfl k
      have k := lz_get (a := (p 0)) (g := 1126) (M := me_w (lw M (nt_u (nt_u (nt_u (nt_u (nt_u (nt_u (nt_u (nt_u L (p 6) 0 v1.toInt64) (p 6) 1 ((x173 p v1 (Int32.ofInt 0) J).toInt64)) (p 6) 2 ((x173 p v1 (Int32.ofInt 1) J).toInt64)) (p 6) 3 ((x173 p v1 (Int32.ofInt 2) J).toInt64)) (p 6) 4 v2.toInt64) (p 6) 5 99) (p 6) 6 (Int64.ofNat 0)) (p 6) 7 ((J (p 4) 4).toInt64))) J) (v := .ref (p 6)) rfl (nt_gfR rfl (hp.1 (0, 26, 6) (by decide))) k
      have k := ly_revb 2 (c' := (126, [(0, .ref (p 0)), (1, .int v1), (2, .int v2), (3, .int v3)], [.ref (p 0), .int (Int32.ofInt 8), .ref (p 6)], me_w (lw M (nt_u (nt_u (nt_u (nt_u (nt_u (nt_u (nt_u (nt_u L (p 6) 0 v1.toInt64) (p 6) 1 ((x173 p v1 (Int32.ofInt 0) J).toInt64)) (p 6) 2 ((x173 p v1 (Int32.ofInt 1) J).toInt64)) (p 6) 3 ((x173 p v1 (Int32.ofInt 2) J).toInt64)) (p 6) 4 v2.toInt64) (p 6) 5 99) (p 6) 6 (Int64.ofNat 0)) (p 6) 7 ((J (p 4) 4).toInt64))) J)) rfl k
      have k := lz_get (a := (p 0)) (g := 1127) (M := me_w (lw M (nt_u (nt_u (nt_u (nt_u (nt_u (nt_u (nt_u (nt_u L (p 6) 0 v1.toInt64) (p 6) 1 ((x173 p v1 (Int32.ofInt 0) J).toInt64)) (p 6) 2 ((x173 p v1 (Int32.ofInt 1) J).toInt64)) (p 6) 3 ((x173 p v1 (Int32.ofInt 2) J).toInt64)) (p 6) 4 v2.toInt64) (p 6) 5 99) (p 6) 6 (Int64.ofNat 0)) (p 6) 7 ((J (p 4) 4).toInt64))) J) (v := .ref (p 4)) rfl (nt_gfR rfl (hp.1 (0, 27, 4) (by decide))) k
      have k := ly_revb 1 (c' := (131, [(0, .ref (p 0)), (1, .int v1), (2, .int v2), (3, .int v3)], [.int (Int32.ofInt 6), .ref (p 4), .int (Int32.ofInt 8), .ref (p 6)], me_w (lw M (nt_u (nt_u (nt_u (nt_u (nt_u (nt_u (nt_u (nt_u L (p 6) 0 v1.toInt64) (p 6) 1 ((x173 p v1 (Int32.ofInt 0) J).toInt64)) (p 6) 2 ((x173 p v1 (Int32.ofInt 1) J).toInt64)) (p 6) 3 ((x173 p v1 (Int32.ofInt 2) J).toInt64)) (p 6) 4 v2.toInt64) (p 6) 5 99) (p 6) 6 (Int64.ofNat 0)) (p 6) 7 ((J (p 4) 4).toInt64))) J)) rfl k
      have k := mx_iald (v := J (p 4) 6) rfl (hp.2.2.1 4 (by omega)) ((congrArg (J (p 4)) (show (Int32.ofInt 6).toNatClampNeg = 6 from rfl)).trans (rfl)) k
      have k := ly_revb 1 (c' := (133, [(0, .ref (p 0)), (1, .int v1), (2, .int v2), (3, .int v3)], [.long ((J (p 4) 6).toInt64), .int (Int32.ofInt 8), .ref (p 6)], me_w (lw M (nt_u (nt_u (nt_u (nt_u (nt_u (nt_u (nt_u (nt_u L (p 6) 0 v1.toInt64) (p 6) 1 ((x173 p v1 (Int32.ofInt 0) J).toInt64)) (p 6) 2 ((x173 p v1 (Int32.ofInt 1) J).toInt64)) (p 6) 3 ((x173 p v1 (Int32.ofInt 2) J).toInt64)) (p 6) 4 v2.toInt64) (p 6) 5 99) (p 6) 6 (Int64.ofNat 0)) (p 6) 7 ((J (p 4) 4).toInt64))) J)) rfl k
      have k := mx_last (q := 8) rfl (show (Int32.ofInt 8).toNatClampNeg = 8 from rfl) k
      have k : nt_rn X _ 196 (134, [(0, .ref (p 0)), (1, .int v1), (2, .int v2), (3, .int v3)], [], me_w (lw M (nt_u (nt_u (nt_u (nt_u (nt_u (nt_u (nt_u (nt_u (nt_u L (p 6) 0 v1.toInt64) (p 6) 1 ((x173 p v1 (Int32.ofInt 0) J).toInt64)) (p 6) 2 ((x173 p v1 (Int32.ofInt 1) J).toInt64)) (p 6) 3 ((x173 p v1 (Int32.ofInt 2) J).toInt64)) (p 6) 4 v2.toInt64) (p 6) 5 99) (p 6) 6 (Int64.ofNat 0)) (p 6) 7 ((J (p 4) 4).toInt64)) (p 6) 8 ((J (p 4) 6).toInt64))) J) _ := k
      have k := ly_revb 1 (c' := (135, [(0, .ref (p 0)), (1, .int v1), (2, .int v2), (3, .int v3)], [.ref (p 0)], me_w (lw M (nt_u (nt_u (nt_u (nt_u (nt_u (nt_u (nt_u (nt_u (nt_u L (p 6) 0 v1.toInt64) (p 6) 1 ((x173 p v1 (Int32.ofInt 0) J).toInt64)) (p 6) 2 ((x173 p v1 (Int32.ofInt 1) J).toInt64)) (p 6) 3 ((x173 p v1 (Int32.ofInt 2) J).toInt64)) (p 6) 4 v2.toInt64) (p 6) 5 99) (p 6) 6 (Int64.ofNat 0)) (p 6) 7 ((J (p 4) 4).toInt64)) (p 6) 8 ((J (p 4) 6).toInt64))) J)) rfl k
      have k := lz_get (a := (p 0)) (g := 1126) (M := me_w (lw M (nt_u (nt_u (nt_u (nt_u (nt_u (nt_u (nt_u (nt_u (nt_u L (p 6) 0 v1.toInt64) (p 6) 1 ((x173 p v1 (Int32.ofInt 0) J).toInt64)) (p 6) 2 ((x173 p v1 (Int32.ofInt 1) J).toInt64)) (p 6) 3 ((x173 p v1 (Int32.ofInt 2) J).toInt64)) (p 6) 4 v2.toInt64) (p 6) 5 99) (p 6) 6 (Int64.ofNat 0)) (p 6) 7 ((J (p 4) 4).toInt64)) (p 6) 8 ((J (p 4) 6).toInt64))) J) (v := .ref (p 6)) rfl (nt_gfR rfl (hp.1 (0, 26, 6) (by decide))) k
      have k := ly_revb 4 (c' := (143, [(0, .ref (p 0)), (1, .int v1), (2, .int v2), (3, .int v3)], [.int (Int32.ofInt 2), .int v3, .ref (p 0), .int (Int32.ofInt 9), .ref (p 6)], me_w (lw M (nt_u (nt_u (nt_u (nt_u (nt_u (nt_u (nt_u (nt_u (nt_u L (p 6) 0 v1.toInt64) (p 6) 1 ((x173 p v1 (Int32.ofInt 0) J).toInt64)) (p 6) 2 ((x173 p v1 (Int32.ofInt 1) J).toInt64)) (p 6) 3 ((x173 p v1 (Int32.ofInt 2) J).toInt64)) (p 6) 4 v2.toInt64) (p 6) 5 99) (p 6) 6 (Int64.ofNat 0)) (p 6) 7 ((J (p 4) 4).toInt64)) (p 6) 8 ((J (p 4) 6).toInt64))) J)) rfl k
      obtain ⟨d1, o1, ed, kc, k⟩ := lz_c (g := 180) (q := 1) (vs := [.ref (p 0), .int v3, .int (Int32.ofInt 2)]) (rest := [.int (Int32.ofInt 9), .ref (p 6)]) rfl rfl (by decide) (Or.inr (Or.inl ⟨_, rfl, rfl⟩)) rfl k
      have e1 := xt180 (xs_lp hp) kc
      subst e1
      have k : nt_rn X _ 196 (146, [(0, .ref (p 0)), (1, .int v1), (2, .int v2), (3, .int v3)], [.int (x180 p v3 (Int32.ofInt 2) J), .int (Int32.ofInt 9), .ref (p 6)], me_w (lw M (nt_u (nt_u (nt_u (nt_u (nt_u (nt_u (nt_u (nt_u (nt_u L (p 6) 0 v1.toInt64) (p 6) 1 ((x173 p v1 (Int32.ofInt 0) J).toInt64)) (p 6) 2 ((x173 p v1 (Int32.ofInt 1) J).toInt64)) (p 6) 3 ((x173 p v1 (Int32.ofInt 2) J).toInt64)) (p 6) 4 v2.toInt64) (p 6) 5 99) (p 6) 6 (Int64.ofNat 0)) (p 6) 7 ((J (p 4) 4).toInt64)) (p 6) 8 ((J (p 4) 6).toInt64))) J) _ := k
      have k := ly_revb 3 (c' := (149, [(0, .ref (p 0)), (1, .int v1), (2, .int v2), (3, .int v3)], [.int (Int32.ofInt 1), .int v3, .ref (p 0), .int (x180 p v3 (Int32.ofInt 2) J), .int (Int32.ofInt 9), .ref (p 6)], me_w (lw M (nt_u (nt_u (nt_u (nt_u (nt_u (nt_u (nt_u (nt_u (nt_u L (p 6) 0 v1.toInt64) (p 6) 1 ((x173 p v1 (Int32.ofInt 0) J).toInt64)) (p 6) 2 ((x173 p v1 (Int32.ofInt 1) J).toInt64)) (p 6) 3 ((x173 p v1 (Int32.ofInt 2) J).toInt64)) (p 6) 4 v2.toInt64) (p 6) 5 99) (p 6) 6 (Int64.ofNat 0)) (p 6) 7 ((J (p 4) 4).toInt64)) (p 6) 8 ((J (p 4) 6).toInt64))) J)) rfl k
      obtain ⟨d1, o1, ed, kc, k⟩ := lz_c (g := 180) (q := 1) (vs := [.ref (p 0), .int v3, .int (Int32.ofInt 1)]) (rest := [.int (x180 p v3 (Int32.ofInt 2) J), .int (Int32.ofInt 9), .ref (p 6)]) rfl rfl (by decide) (Or.inr (Or.inl ⟨_, rfl, rfl⟩)) rfl k
      have e1 := xt180 (xs_lp hp) kc
      subst e1
      have k : nt_rn X _ 196 (152, [(0, .ref (p 0)), (1, .int v1), (2, .int v2), (3, .int v3)], [.int (x180 p v3 (Int32.ofInt 1) J), .int (x180 p v3 (Int32.ofInt 2) J), .int (Int32.ofInt 9), .ref (p 6)], me_w (lw M (nt_u (nt_u (nt_u (nt_u (nt_u (nt_u (nt_u (nt_u (nt_u L (p 6) 0 v1.toInt64) (p 6) 1 ((x173 p v1 (Int32.ofInt 0) J).toInt64)) (p 6) 2 ((x173 p v1 (Int32.ofInt 1) J).toInt64)) (p 6) 3 ((x173 p v1 (Int32.ofInt 2) J).toInt64)) (p 6) 4 v2.toInt64) (p 6) 5 99) (p 6) 6 (Int64.ofNat 0)) (p 6) 7 ((J (p 4) 4).toInt64)) (p 6) 8 ((J (p 4) 6).toInt64))) J) _ := k
      have k := ly_revb 2 (c' := (154, [(0, .ref (p 0)), (1, .int v1), (2, .int v2), (3, .int v3)], [.long (((x180 p v3 (Int32.ofInt 2) J) - (x180 p v3 (Int32.ofInt 1) J)).toInt64), .int (Int32.ofInt 9), .ref (p 6)], me_w (lw M (nt_u (nt_u (nt_u (nt_u (nt_u (nt_u (nt_u (nt_u (nt_u L (p 6) 0 v1.toInt64) (p 6) 1 ((x173 p v1 (Int32.ofInt 0) J).toInt64)) (p 6) 2 ((x173 p v1 (Int32.ofInt 1) J).toInt64)) (p 6) 3 ((x173 p v1 (Int32.ofInt 2) J).toInt64)) (p 6) 4 v2.toInt64) (p 6) 5 99) (p 6) 6 (Int64.ofNat 0)) (p 6) 7 ((J (p 4) 4).toInt64)) (p 6) 8 ((J (p 4) 6).toInt64))) J)) rfl k
      have k := mx_last (q := 9) rfl (show (Int32.ofInt 9).toNatClampNeg = 9 from rfl) k
      have k : nt_rn X _ 196 (155, [(0, .ref (p 0)), (1, .int v1), (2, .int v2), (3, .int v3)], [], me_w (lw M (nt_u (nt_u (nt_u (nt_u (nt_u (nt_u (nt_u (nt_u (nt_u (nt_u L (p 6) 0 v1.toInt64) (p 6) 1 ((x173 p v1 (Int32.ofInt 0) J).toInt64)) (p 6) 2 ((x173 p v1 (Int32.ofInt 1) J).toInt64)) (p 6) 3 ((x173 p v1 (Int32.ofInt 2) J).toInt64)) (p 6) 4 v2.toInt64) (p 6) 5 99) (p 6) 6 (Int64.ofNat 0)) (p 6) 7 ((J (p 4) 4).toInt64)) (p 6) 8 ((J (p 4) 6).toInt64)) (p 6) 9 (((x180 p v3 (Int32.ofInt 2) J) - (x180 p v3 (Int32.ofInt 1) J)).toInt64))) J) _ := k
      have k := lz_rv rfl rfl k
      rw [k, x196, if_neg h66, if_neg h96]
theorem x196_frL {p : Nat → Nat} {v1 : Int32} {v2 : Int32} {v3 : Int32} {J : Nat → Nat → Int32} {L : Nat → Nat → Int64} {b : Nat} (n0 : b ≠ p 6) : x196 p v1 v2 v3 J L b = L b := by
  unfold x196
  by_cases h : 0 ≤ (x173 p v1 (Int32.ofInt 3) J)
  · rw [if_pos h]
    by_cases h : (x173 p v1 (Int32.ofInt 2) J) = v2
    · rw [if_pos h]
      all_goals first | (dsimp only; exact (show (nt_u (nt_u (nt_u (nt_u (nt_u (nt_u (nt_u (nt_u (nt_u (nt_u L (p 6) 0 v1.toInt64) (p 6) 1 ((x173 p v1 (Int32.ofInt 0) J).toInt64)) (p 6) 2 ((x173 p v1 (Int32.ofInt 1) J).toInt64)) (p 6) 3 ((x173 p v1 (Int32.ofInt 2) J).toInt64)) (p 6) 4 v2.toInt64) (p 6) 5 ((x173 p v1 (Int32.ofInt 3) J).toInt64)) (p 6) 6 (Int64.ofNat 1)) (p 6) 7 ((J (p 4) 4).toInt64)) (p 6) 8 ((J (p 4) 6).toInt64)) (p 6) 9 (((x180 p v3 (Int32.ofInt 2) J) - (x180 p v3 (Int32.ofInt 1) J)).toInt64)) b = L b from (mu_o n0).trans ((mu_o n0).trans ((mu_o n0).trans ((mu_o n0).trans ((mu_o n0).trans ((mu_o n0).trans ((mu_o n0).trans ((mu_o n0).trans ((mu_o n0).trans (mu_o n0))))))))))) | exact (show (nt_u (nt_u (nt_u (nt_u (nt_u (nt_u (nt_u (nt_u (nt_u (nt_u L (p 6) 0 v1.toInt64) (p 6) 1 ((x173 p v1 (Int32.ofInt 0) J).toInt64)) (p 6) 2 ((x173 p v1 (Int32.ofInt 1) J).toInt64)) (p 6) 3 ((x173 p v1 (Int32.ofInt 2) J).toInt64)) (p 6) 4 v2.toInt64) (p 6) 5 ((x173 p v1 (Int32.ofInt 3) J).toInt64)) (p 6) 6 (Int64.ofNat 1)) (p 6) 7 ((J (p 4) 4).toInt64)) (p 6) 8 ((J (p 4) 6).toInt64)) (p 6) 9 (((x180 p v3 (Int32.ofInt 2) J) - (x180 p v3 (Int32.ofInt 1) J)).toInt64)) b = L b from (mu_o n0).trans ((mu_o n0).trans ((mu_o n0).trans ((mu_o n0).trans ((mu_o n0).trans ((mu_o n0).trans ((mu_o n0).trans ((mu_o n0).trans ((mu_o n0).trans (mu_o n0))))))))))
    · rw [if_neg h]
      all_goals first | (dsimp only; exact (show (nt_u (nt_u (nt_u (nt_u (nt_u (nt_u (nt_u (nt_u (nt_u (nt_u L (p 6) 0 v1.toInt64) (p 6) 1 ((x173 p v1 (Int32.ofInt 0) J).toInt64)) (p 6) 2 ((x173 p v1 (Int32.ofInt 1) J).toInt64)) (p 6) 3 ((x173 p v1 (Int32.ofInt 2) J).toInt64)) (p 6) 4 v2.toInt64) (p 6) 5 ((x173 p v1 (Int32.ofInt 3) J).toInt64)) (p 6) 6 (Int64.ofNat 0)) (p 6) 7 ((J (p 4) 4).toInt64)) (p 6) 8 ((J (p 4) 6).toInt64)) (p 6) 9 (((x180 p v3 (Int32.ofInt 2) J) - (x180 p v3 (Int32.ofInt 1) J)).toInt64)) b = L b from (mu_o n0).trans ((mu_o n0).trans ((mu_o n0).trans ((mu_o n0).trans ((mu_o n0).trans ((mu_o n0).trans ((mu_o n0).trans ((mu_o n0).trans ((mu_o n0).trans (mu_o n0))))))))))) | exact (show (nt_u (nt_u (nt_u (nt_u (nt_u (nt_u (nt_u (nt_u (nt_u (nt_u L (p 6) 0 v1.toInt64) (p 6) 1 ((x173 p v1 (Int32.ofInt 0) J).toInt64)) (p 6) 2 ((x173 p v1 (Int32.ofInt 1) J).toInt64)) (p 6) 3 ((x173 p v1 (Int32.ofInt 2) J).toInt64)) (p 6) 4 v2.toInt64) (p 6) 5 ((x173 p v1 (Int32.ofInt 3) J).toInt64)) (p 6) 6 (Int64.ofNat 0)) (p 6) 7 ((J (p 4) 4).toInt64)) (p 6) 8 ((J (p 4) 6).toInt64)) (p 6) 9 (((x180 p v3 (Int32.ofInt 2) J) - (x180 p v3 (Int32.ofInt 1) J)).toInt64)) b = L b from (mu_o n0).trans ((mu_o n0).trans ((mu_o n0).trans ((mu_o n0).trans ((mu_o n0).trans ((mu_o n0).trans ((mu_o n0).trans ((mu_o n0).trans ((mu_o n0).trans (mu_o n0))))))))))
  · rw [if_neg h]
    by_cases h : (x173 p v1 (Int32.ofInt 2) J) = v2
    · rw [if_pos h]
      all_goals first | (dsimp only; exact (show (nt_u (nt_u (nt_u (nt_u (nt_u (nt_u (nt_u (nt_u (nt_u (nt_u L (p 6) 0 v1.toInt64) (p 6) 1 ((x173 p v1 (Int32.ofInt 0) J).toInt64)) (p 6) 2 ((x173 p v1 (Int32.ofInt 1) J).toInt64)) (p 6) 3 ((x173 p v1 (Int32.ofInt 2) J).toInt64)) (p 6) 4 v2.toInt64) (p 6) 5 99) (p 6) 6 (Int64.ofNat 1)) (p 6) 7 ((J (p 4) 4).toInt64)) (p 6) 8 ((J (p 4) 6).toInt64)) (p 6) 9 (((x180 p v3 (Int32.ofInt 2) J) - (x180 p v3 (Int32.ofInt 1) J)).toInt64)) b = L b from (mu_o n0).trans ((mu_o n0).trans ((mu_o n0).trans ((mu_o n0).trans ((mu_o n0).trans ((mu_o n0).trans ((mu_o n0).trans ((mu_o n0).trans ((mu_o n0).trans (mu_o n0))))))))))) | exact (show (nt_u (nt_u (nt_u (nt_u (nt_u (nt_u (nt_u (nt_u (nt_u (nt_u L (p 6) 0 v1.toInt64) (p 6) 1 ((x173 p v1 (Int32.ofInt 0) J).toInt64)) (p 6) 2 ((x173 p v1 (Int32.ofInt 1) J).toInt64)) (p 6) 3 ((x173 p v1 (Int32.ofInt 2) J).toInt64)) (p 6) 4 v2.toInt64) (p 6) 5 99) (p 6) 6 (Int64.ofNat 1)) (p 6) 7 ((J (p 4) 4).toInt64)) (p 6) 8 ((J (p 4) 6).toInt64)) (p 6) 9 (((x180 p v3 (Int32.ofInt 2) J) - (x180 p v3 (Int32.ofInt 1) J)).toInt64)) b = L b from (mu_o n0).trans ((mu_o n0).trans ((mu_o n0).trans ((mu_o n0).trans ((mu_o n0).trans ((mu_o n0).trans ((mu_o n0).trans ((mu_o n0).trans ((mu_o n0).trans (mu_o n0))))))))))
    · rw [if_neg h]
      all_goals first | (dsimp only; exact (show (nt_u (nt_u (nt_u (nt_u (nt_u (nt_u (nt_u (nt_u (nt_u (nt_u L (p 6) 0 v1.toInt64) (p 6) 1 ((x173 p v1 (Int32.ofInt 0) J).toInt64)) (p 6) 2 ((x173 p v1 (Int32.ofInt 1) J).toInt64)) (p 6) 3 ((x173 p v1 (Int32.ofInt 2) J).toInt64)) (p 6) 4 v2.toInt64) (p 6) 5 99) (p 6) 6 (Int64.ofNat 0)) (p 6) 7 ((J (p 4) 4).toInt64)) (p 6) 8 ((J (p 4) 6).toInt64)) (p 6) 9 (((x180 p v3 (Int32.ofInt 2) J) - (x180 p v3 (Int32.ofInt 1) J)).toInt64)) b = L b from (mu_o n0).trans ((mu_o n0).trans ((mu_o n0).trans ((mu_o n0).trans ((mu_o n0).trans ((mu_o n0).trans ((mu_o n0).trans ((mu_o n0).trans ((mu_o n0).trans (mu_o n0))))))))))) | exact (show (nt_u (nt_u (nt_u (nt_u (nt_u (nt_u (nt_u (nt_u (nt_u (nt_u L (p 6) 0 v1.toInt64) (p 6) 1 ((x173 p v1 (Int32.ofInt 0) J).toInt64)) (p 6) 2 ((x173 p v1 (Int32.ofInt 1) J).toInt64)) (p 6) 3 ((x173 p v1 (Int32.ofInt 2) J).toInt64)) (p 6) 4 v2.toInt64) (p 6) 5 99) (p 6) 6 (Int64.ofNat 0)) (p 6) 7 ((J (p 4) 4).toInt64)) (p 6) 8 ((J (p 4) 6).toInt64)) (p 6) 9 (((x180 p v3 (Int32.ofInt 2) J) - (x180 p v3 (Int32.ofInt 1) J)).toInt64)) b = L b from (mu_o n0).trans ((mu_o n0).trans ((mu_o n0).trans ((mu_o n0).trans ((mu_o n0).trans ((mu_o n0).trans ((mu_o n0).trans ((mu_o n0).trans ((mu_o n0).trans (mu_o n0))))))))))
/-! Model.reckons -/
def x198_8 (p : Nat → Nat) (v1 : Int32) (v3 : Int32) : Nat → Int32 → (Nat → Nat → Int32) → (Nat → Nat → Int64) → Int64 × (Nat → Nat → Int32) × (Nat → Nat → Int64)
  | 0, v4, J, L => ((x200 p J L).1, (x200 p J L).2, L)
  | c + 1, v4, J, L => if v3 ≤ v4 then ((x200 p J L).1, (x200 p J L).2, L)
    else if ((J (p 1) ((((Int32.ofInt 400) * v1) + v4).toNatClampNeg)) &&& (Int32.ofInt 15)) = 0 then (x198_8 p v1 v3 c (v4 + (Int32.ofInt 1)) ((x199 p (((J (p 1) ((((Int32.ofInt 400) * v1) + v4).toNatClampNeg)) >>> ((Int32.ofInt 4) &&& 31)).toInt64) J L).1) ((x199 p (((J (p 1) ((((Int32.ofInt 400) * v1) + v4).toNatClampNeg)) >>> ((Int32.ofInt 4) &&& 31)).toInt64) J L).2))
      else if ((J (p 1) ((((Int32.ofInt 400) * v1) + v4).toNatClampNeg)) &&& (Int32.ofInt 15)) = (Int32.ofInt 1) then (x198_8 p v1 v3 c (v4 + (Int32.ofInt 1)) ((x199 p (L (p 6) (((J (p 1) ((((Int32.ofInt 400) * v1) + v4).toNatClampNeg)) >>> ((Int32.ofInt 4) &&& 31)).toNatClampNeg)) J L).1) ((x199 p (L (p 6) (((J (p 1) ((((Int32.ofInt 400) * v1) + v4).toNatClampNeg)) >>> ((Int32.ofInt 4) &&& 31)).toNatClampNeg)) J L).2))
        else if ((J (p 1) ((((Int32.ofInt 400) * v1) + v4).toNatClampNeg)) &&& (Int32.ofInt 15)) = (Int32.ofInt 11) then (x198_8 p v1 v3 c (v4 + (Int32.ofInt 1)) ((x199 p ((Int64.ofNat 1) - ((x200 p J L).1)) ((x200 p J L).2) L).1) ((x199 p ((Int64.ofNat 1) - ((x200 p J L).1)) ((x200 p J L).2) L).2))
          else (x198_8 p v1 v3 c (v4 + (Int32.ofInt 1)) ((x199 p (x201 ((J (p 1) ((((Int32.ofInt 400) * v1) + v4).toNatClampNeg)) &&& (Int32.ofInt 15)) ((x200 p ((x200 p J L).2) L).1) ((x200 p J L).1)) ((x200 p ((x200 p J L).2) L).2) L).1) ((x199 p (x201 ((J (p 1) ((((Int32.ofInt 400) * v1) + v4).toNatClampNeg)) &&& (Int32.ofInt 15)) ((x200 p ((x200 p J L).2) L).1) ((x200 p J L).1)) ((x200 p ((x200 p J L).2) L).2) L).2))
theorem xt198_8 {X : nt_X} {d : Nat} {M : nt_M} {o : Option Value × nt_M} {p : Nat → Nat} {v1 : Int32} {v2 : Int32} {v3 : Int32} (hp : xs_P M p) : ∀ (c : Nat) (v4 : Int32) (v5 : Int32) (v6 : Int32) (v7 : Int64) (v9 : Int64) (J : Nat → Nat → Int32) (L : Nat → Nat → Int64), v3.toInt - v4.toInt ≤ c → nt_rn X d 198 (8, [(0, .ref (p 0)), (1, .int v1), (2, .int v2), (3, .int v3), (4, .int v4), (5, .int v5), (6, .int v6), (7, .long v7), (9, .long v9)], [], me_w (lw M L) J) o → o = (some (.long ((x198_8 p v1 v3 c v4 J L).1)), me_w (lw M ((x198_8 p v1 v3 c v4 J L).2.2)) ((x198_8 p v1 v3 c v4 J L).2.1)) := by
  intro c
  induction c with
  | zero =>
    intro v4 v5 v6 v7 v9 J L hc k
    have k := ly_revb 3 (c' := (if v3 ≤ v4 then 135 else 14, [(0, .ref (p 0)), (1, .int v1), (2, .int v2), (3, .int v3), (4, .int v4), (5, .int v5), (6, .int v6), (7, .long v7), (9, .long v9)], [], me_w (lw M L) J)) rfl k
    have h11 : v3 ≤ v4 := lx_end hc
    rw [if_pos h11] at k
    have k := ly_revb 1 (c' := (136, [(0, .ref (p 0)), (1, .int v1), (2, .int v2), (3, .int v3), (4, .int v4), (5, .int v5), (6, .int v6), (7, .long v7), (9, .long v9)], [.ref (p 0)], me_w (lw M L) J)) rfl k
    obtain ⟨d1, o1, ed, kc, k⟩ := lz_c (g := 200) (q := 1) (vs := [.ref (p 0)]) (rest := []) rfl rfl (by decide) (Or.inr (Or.inl ⟨_, rfl, rfl⟩)) rfl k
    have e1 := xt200 hp kc
    subst e1
    have k : nt_rn X _ 198 (139, [(0, .ref (p 0)), (1, .int v1), (2, .int v2), (3, .int v3), (4, .int v4), (5, .int v5), (6, .int v6), (7, .long v7), (9, .long v9)], [.long ((x200 p J L).1)], me_w (lw M L) ((x200 p J L).2)) _ := k
    have k := mx_rl rfl rfl k
    rw [k, x198_8]
  | succ c ih =>
    intro v4 v5 v6 v7 v9 J L hc k
    have k := ly_revb 3 (c' := (if v3 ≤ v4 then 135 else 14, [(0, .ref (p 0)), (1, .int v1), (2, .int v2), (3, .int v3), (4, .int v4), (5, .int v5), (6, .int v6), (7, .long v7), (9, .long v9)], [], me_w (lw M L) J)) rfl k
    by_cases h11 : v3 ≤ v4
    · rw [if_pos h11] at k
      have k := ly_revb 1 (c' := (136, [(0, .ref (p 0)), (1, .int v1), (2, .int v2), (3, .int v3), (4, .int v4), (5, .int v5), (6, .int v6), (7, .long v7), (9, .long v9)], [.ref (p 0)], me_w (lw M L) J)) rfl k
      obtain ⟨d1, o1, ed, kc, k⟩ := lz_c (g := 200) (q := 1) (vs := [.ref (p 0)]) (rest := []) rfl rfl (by decide) (Or.inr (Or.inl ⟨_, rfl, rfl⟩)) rfl k
      have e1 := xt200 hp kc
      subst e1
      have k : nt_rn X _ 198 (139, [(0, .ref (p 0)), (1, .int v1), (2, .int v2), (3, .int v3), (4, .int v4), (5, .int v5), (6, .int v6), (7, .long v7), (9, .long v9)], [.long ((x200 p J L).1)], me_w (lw M L) ((x200 p J L).2)) _ := k
      have k := mx_rl rfl rfl k
      rw [k, x198_8, if_pos h11]
    · rw [if_neg h11] at k
      have k := ly_revb 1 (c' := (15, [(0, .ref (p 0)), (1, .int v1), (2, .int v2), (3, .int v3), (4, .int v4), (5, .int v5), (6, .int v6), (7, .long v7), (9, .long v9)], [.ref (p 0)], me_w (lw M L) J)) rfl k
      have k := lz_get (a := (p 0)) (g := 1103) (M := me_w (lw M L) J) (v := .ref (p 1)) rfl (nt_gfR rfl (hp.1 (0, 3, 1) (by decide))) k
      have k := ly_revb 5 (c' := (26, [(0, .ref (p 0)), (1, .int v1), (2, .int v2), (3, .int v3), (4, .int v4), (5, .int v5), (6, .int v6), (7, .long v7), (9, .long v9)], [.int (((Int32.ofInt 400) * v1) + v4), .ref (p 1)], me_w (lw M L) J)) rfl k
      have k := mx_iald (v := J (p 1) ((((Int32.ofInt 400) * v1) + v4).toNatClampNeg)) rfl (hp.2.2.1 1 (by omega)) (rfl) k
      have k := ly_revb 4 (c' := (33, [(5, .int ((J (p 1) ((((Int32.ofInt 400) * v1) + v4).toNatClampNeg)) &&& (Int32.ofInt 15))), (0, .ref (p 0)), (1, .int v1), (2, .int v2), (3, .int v3), (4, .int v4), (6, .int v6), (7, .long v7), (9, .long v9)], [.ref (p 0)], me_w (lw M L) J)) rfl k
      have k := lz_get (a := (p 0)) (g := 1103) (M := me_w (lw M L) J) (v := .ref (p 1)) rfl (nt_gfR rfl (hp.1 (0, 3, 1) (by decide))) k
      have k := ly_revb 5 (c' := (44, [(5, .int ((J (p 1) ((((Int32.ofInt 400) * v1) + v4).toNatClampNeg)) &&& (Int32.ofInt 15))), (0, .ref (p 0)), (1, .int v1), (2, .int v2), (3, .int v3), (4, .int v4), (6, .int v6), (7, .long v7), (9, .long v9)], [.int (((Int32.ofInt 400) * v1) + v4), .ref (p 1)], me_w (lw M L) J)) rfl k
      have k := mx_iald (v := J (p 1) ((((Int32.ofInt 400) * v1) + v4).toNatClampNeg)) rfl (hp.2.2.1 1 (by omega)) (rfl) k
      have k := ly_revb 5 (c' := (if ((J (p 1) ((((Int32.ofInt 400) * v1) + v4).toNatClampNeg)) &&& (Int32.ofInt 15)) = 0 then 54 else 64, [(6, .int ((J (p 1) ((((Int32.ofInt 400) * v1) + v4).toNatClampNeg)) >>> ((Int32.ofInt 4) &&& 31))), (5, .int ((J (p 1) ((((Int32.ofInt 400) * v1) + v4).toNatClampNeg)) &&& (Int32.ofInt 15))), (0, .ref (p 0)), (1, .int v1), (2, .int v2), (3, .int v3), (4, .int v4), (7, .long v7), (9, .long v9)], [], me_w (lw M L) J)) rfl k
      by_cases h51 : ((J (p 1) ((((Int32.ofInt 400) * v1) + v4).toNatClampNeg)) &&& (Int32.ofInt 15)) = 0
      · rw [if_pos h51] at k
        have k := ly_revb 3 (c' := (58, [(6, .int ((J (p 1) ((((Int32.ofInt 400) * v1) + v4).toNatClampNeg)) >>> ((Int32.ofInt 4) &&& 31))), (5, .int ((J (p 1) ((((Int32.ofInt 400) * v1) + v4).toNatClampNeg)) &&& (Int32.ofInt 15))), (0, .ref (p 0)), (1, .int v1), (2, .int v2), (3, .int v3), (4, .int v4), (7, .long v7), (9, .long v9)], [.long (((J (p 1) ((((Int32.ofInt 400) * v1) + v4).toNatClampNeg)) >>> ((Int32.ofInt 4) &&& 31)).toInt64), .ref (p 0)], me_w (lw M L) J)) rfl k
        obtain ⟨d1, o1, ed, kc, k⟩ := lz_c (g := 199) (q := 1) (vs := [.ref (p 0), .long (((J (p 1) ((((Int32.ofInt 400) * v1) + v4).toNatClampNeg)) >>> ((Int32.ofInt 4) &&& 31)).toInt64)]) (rest := []) rfl rfl (by decide) (Or.inr (Or.inl ⟨_, rfl, rfl⟩)) rfl k
        have e1 := xt199 hp kc
        subst e1
        have k : nt_rn X _ 198 (61, [(6, .int ((J (p 1) ((((Int32.ofInt 400) * v1) + v4).toNatClampNeg)) >>> ((Int32.ofInt 4) &&& 31))), (5, .int ((J (p 1) ((((Int32.ofInt 400) * v1) + v4).toNatClampNeg)) &&& (Int32.ofInt 15))), (0, .ref (p 0)), (1, .int v1), (2, .int v2), (3, .int v3), (4, .int v4), (7, .long v7), (9, .long v9)], [], me_w (lw M ((x199 p (((J (p 1) ((((Int32.ofInt 400) * v1) + v4).toNatClampNeg)) >>> ((Int32.ofInt 4) &&& 31)).toInt64) J L).2)) ((x199 p (((J (p 1) ((((Int32.ofInt 400) * v1) + v4).toNatClampNeg)) >>> ((Int32.ofInt 4) &&& 31)).toInt64) J L).1)) _ := k
        have k := ly_revb 3 (c' := (8, [(4, .int (v4 + (Int32.ofInt 1))), (6, .int ((J (p 1) ((((Int32.ofInt 400) * v1) + v4).toNatClampNeg)) >>> ((Int32.ofInt 4) &&& 31))), (5, .int ((J (p 1) ((((Int32.ofInt 400) * v1) + v4).toNatClampNeg)) &&& (Int32.ofInt 15))), (0, .ref (p 0)), (1, .int v1), (2, .int v2), (3, .int v3), (7, .long v7), (9, .long v9)], [], me_w (lw M ((x199 p (((J (p 1) ((((Int32.ofInt 400) * v1) + v4).toNatClampNeg)) >>> ((Int32.ofInt 4) &&& 31)).toInt64) J L).2)) ((x199 p (((J (p 1) ((((Int32.ofInt 400) * v1) + v4).toNatClampNeg)) >>> ((Int32.ofInt 4) &&& 31)).toInt64) J L).1))) rfl k
        have k := nt_rn_w (a := [(4, .int (v4 + (Int32.ofInt 1))), (6, .int ((J (p 1) ((((Int32.ofInt 400) * v1) + v4).toNatClampNeg)) >>> ((Int32.ofInt 4) &&& 31))), (5, .int ((J (p 1) ((((Int32.ofInt 400) * v1) + v4).toNatClampNeg)) &&& (Int32.ofInt 15))), (0, .ref (p 0)), (1, .int v1), (2, .int v2), (3, .int v3), (7, .long v7), (9, .long v9)]) (b := [(0, .ref (p 0)), (1, .int v1), (2, .int v2), (3, .int v3), (4, .int (v4 + (Int32.ofInt 1))), (5, .int ((J (p 1) ((((Int32.ofInt 400) * v1) + v4).toNatClampNeg)) &&& (Int32.ofInt 15))), (6, .int ((J (p 1) ((((Int32.ofInt 400) * v1) + v4).toNatClampNeg)) >>> ((Int32.ofInt 4) &&& 31))), (7, .long v7), (9, .long v9)]) ⟨rfl, rfl, rfl, rfl, rfl, rfl, rfl, rfl, rfl, trivial⟩ rfl k
        have k := ih (v4 + (Int32.ofInt 1)) ((J (p 1) ((((Int32.ofInt 400) * v1) + v4).toNatClampNeg)) &&& (Int32.ofInt 15)) ((J (p 1) ((((Int32.ofInt 400) * v1) + v4).toNatClampNeg)) >>> ((Int32.ofInt 4) &&& 31)) v7 v9 ((x199 p (((J (p 1) ((((Int32.ofInt 400) * v1) + v4).toNatClampNeg)) >>> ((Int32.ofInt 4) &&& 31)).toInt64) J L).1) ((x199 p (((J (p 1) ((((Int32.ofInt 400) * v1) + v4).toNatClampNeg)) >>> ((Int32.ofInt 4) &&& 31)).toInt64) J L).2) (lx_dec h11 hc) k
        rw [k, x198_8, if_neg h11, if_pos h51]
      · rw [if_neg h51] at k
        have k := ly_revb 3 (c' := (if ((J (p 1) ((((Int32.ofInt 400) * v1) + v4).toNatClampNeg)) &&& (Int32.ofInt 15)) = (Int32.ofInt 1) then 70 else 84, [(6, .int ((J (p 1) ((((Int32.ofInt 400) * v1) + v4).toNatClampNeg)) >>> ((Int32.ofInt 4) &&& 31))), (5, .int ((J (p 1) ((((Int32.ofInt 400) * v1) + v4).toNatClampNeg)) &&& (Int32.ofInt 15))), (0, .ref (p 0)), (1, .int v1), (2, .int v2), (3, .int v3), (4, .int v4), (7, .long v7), (9, .long v9)], [], me_w (lw M L) J)) rfl k
        by_cases h67 : ((J (p 1) ((((Int32.ofInt 400) * v1) + v4).toNatClampNeg)) &&& (Int32.ofInt 15)) = (Int32.ofInt 1)
        · rw [if_pos h67] at k
          have k := ly_revb 2 (c' := (72, [(6, .int ((J (p 1) ((((Int32.ofInt 400) * v1) + v4).toNatClampNeg)) >>> ((Int32.ofInt 4) &&& 31))), (5, .int ((J (p 1) ((((Int32.ofInt 400) * v1) + v4).toNatClampNeg)) &&& (Int32.ofInt 15))), (0, .ref (p 0)), (1, .int v1), (2, .int v2), (3, .int v3), (4, .int v4), (7, .long v7), (9, .long v9)], [.ref (p 0), .ref (p 0)], me_w (lw M L) J)) rfl k
          have k := lz_get (a := (p 0)) (g := 1126) (M := me_w (lw M L) J) (v := .ref (p 6)) rfl (nt_gfR rfl (hp.1 (0, 26, 6) (by decide))) k
          have k := ly_revb 1 (c' := (77, [(6, .int ((J (p 1) ((((Int32.ofInt 400) * v1) + v4).toNatClampNeg)) >>> ((Int32.ofInt 4) &&& 31))), (5, .int ((J (p 1) ((((Int32.ofInt 400) * v1) + v4).toNatClampNeg)) &&& (Int32.ofInt 15))), (0, .ref (p 0)), (1, .int v1), (2, .int v2), (3, .int v3), (4, .int v4), (7, .long v7), (9, .long v9)], [.int ((J (p 1) ((((Int32.ofInt 400) * v1) + v4).toNatClampNeg)) >>> ((Int32.ofInt 4) &&& 31)), .ref (p 6), .ref (p 0)], me_w (lw M L) J)) rfl k
          have k := mx_lald (v := L (p 6) (((J (p 1) ((((Int32.ofInt 400) * v1) + v4).toNatClampNeg)) >>> ((Int32.ofInt 4) &&& 31)).toNatClampNeg)) rfl (rfl) k
          obtain ⟨d1, o1, ed, kc, k⟩ := lz_c (g := 199) (q := 1) (vs := [.ref (p 0), .long (L (p 6) (((J (p 1) ((((Int32.ofInt 400) * v1) + v4).toNatClampNeg)) >>> ((Int32.ofInt 4) &&& 31)).toNatClampNeg))]) (rest := []) rfl rfl (by decide) (Or.inr (Or.inl ⟨_, rfl, rfl⟩)) rfl k
          have e1 := xt199 hp kc
          subst e1
          have k : nt_rn X _ 198 (81, [(6, .int ((J (p 1) ((((Int32.ofInt 400) * v1) + v4).toNatClampNeg)) >>> ((Int32.ofInt 4) &&& 31))), (5, .int ((J (p 1) ((((Int32.ofInt 400) * v1) + v4).toNatClampNeg)) &&& (Int32.ofInt 15))), (0, .ref (p 0)), (1, .int v1), (2, .int v2), (3, .int v3), (4, .int v4), (7, .long v7), (9, .long v9)], [], me_w (lw M ((x199 p (L (p 6) (((J (p 1) ((((Int32.ofInt 400) * v1) + v4).toNatClampNeg)) >>> ((Int32.ofInt 4) &&& 31)).toNatClampNeg)) J L).2)) ((x199 p (L (p 6) (((J (p 1) ((((Int32.ofInt 400) * v1) + v4).toNatClampNeg)) >>> ((Int32.ofInt 4) &&& 31)).toNatClampNeg)) J L).1)) _ := k
          have k := ly_revb 3 (c' := (8, [(4, .int (v4 + (Int32.ofInt 1))), (6, .int ((J (p 1) ((((Int32.ofInt 400) * v1) + v4).toNatClampNeg)) >>> ((Int32.ofInt 4) &&& 31))), (5, .int ((J (p 1) ((((Int32.ofInt 400) * v1) + v4).toNatClampNeg)) &&& (Int32.ofInt 15))), (0, .ref (p 0)), (1, .int v1), (2, .int v2), (3, .int v3), (7, .long v7), (9, .long v9)], [], me_w (lw M ((x199 p (L (p 6) (((J (p 1) ((((Int32.ofInt 400) * v1) + v4).toNatClampNeg)) >>> ((Int32.ofInt 4) &&& 31)).toNatClampNeg)) J L).2)) ((x199 p (L (p 6) (((J (p 1) ((((Int32.ofInt 400) * v1) + v4).toNatClampNeg)) >>> ((Int32.ofInt 4) &&& 31)).toNatClampNeg)) J L).1))) rfl k
          have k := nt_rn_w (a := [(4, .int (v4 + (Int32.ofInt 1))), (6, .int ((J (p 1) ((((Int32.ofInt 400) * v1) + v4).toNatClampNeg)) >>> ((Int32.ofInt 4) &&& 31))), (5, .int ((J (p 1) ((((Int32.ofInt 400) * v1) + v4).toNatClampNeg)) &&& (Int32.ofInt 15))), (0, .ref (p 0)), (1, .int v1), (2, .int v2), (3, .int v3), (7, .long v7), (9, .long v9)]) (b := [(0, .ref (p 0)), (1, .int v1), (2, .int v2), (3, .int v3), (4, .int (v4 + (Int32.ofInt 1))), (5, .int ((J (p 1) ((((Int32.ofInt 400) * v1) + v4).toNatClampNeg)) &&& (Int32.ofInt 15))), (6, .int ((J (p 1) ((((Int32.ofInt 400) * v1) + v4).toNatClampNeg)) >>> ((Int32.ofInt 4) &&& 31))), (7, .long v7), (9, .long v9)]) ⟨rfl, rfl, rfl, rfl, rfl, rfl, rfl, rfl, rfl, trivial⟩ rfl k
          have k := ih (v4 + (Int32.ofInt 1)) ((J (p 1) ((((Int32.ofInt 400) * v1) + v4).toNatClampNeg)) &&& (Int32.ofInt 15)) ((J (p 1) ((((Int32.ofInt 400) * v1) + v4).toNatClampNeg)) >>> ((Int32.ofInt 4) &&& 31)) v7 v9 ((x199 p (L (p 6) (((J (p 1) ((((Int32.ofInt 400) * v1) + v4).toNatClampNeg)) >>> ((Int32.ofInt 4) &&& 31)).toNatClampNeg)) J L).1) ((x199 p (L (p 6) (((J (p 1) ((((Int32.ofInt 400) * v1) + v4).toNatClampNeg)) >>> ((Int32.ofInt 4) &&& 31)).toNatClampNeg)) J L).2) (lx_dec h11 hc) k
          rw [k, x198_8, if_neg h11, if_neg h51, if_pos h67]
        · rw [if_neg h67] at k
          have k := ly_revb 3 (c' := (if ((J (p 1) ((((Int32.ofInt 400) * v1) + v4).toNatClampNeg)) &&& (Int32.ofInt 15)) = (Int32.ofInt 11) then 91 else 104, [(6, .int ((J (p 1) ((((Int32.ofInt 400) * v1) + v4).toNatClampNeg)) >>> ((Int32.ofInt 4) &&& 31))), (5, .int ((J (p 1) ((((Int32.ofInt 400) * v1) + v4).toNatClampNeg)) &&& (Int32.ofInt 15))), (0, .ref (p 0)), (1, .int v1), (2, .int v2), (3, .int v3), (4, .int v4), (7, .long v7), (9, .long v9)], [], me_w (lw M L) J)) rfl k
          by_cases h88 : ((J (p 1) ((((Int32.ofInt 400) * v1) + v4).toNatClampNeg)) &&& (Int32.ofInt 15)) = (Int32.ofInt 11)
          · rw [if_pos h88] at k
            have k := ly_revb 3 (c' := (94, [(6, .int ((J (p 1) ((((Int32.ofInt 400) * v1) + v4).toNatClampNeg)) >>> ((Int32.ofInt 4) &&& 31))), (5, .int ((J (p 1) ((((Int32.ofInt 400) * v1) + v4).toNatClampNeg)) &&& (Int32.ofInt 15))), (0, .ref (p 0)), (1, .int v1), (2, .int v2), (3, .int v3), (4, .int v4), (7, .long v7), (9, .long v9)], [.ref (p 0), .long (Int64.ofNat 1), .ref (p 0)], me_w (lw M L) J)) rfl k
            obtain ⟨d1, o1, ed, kc, k⟩ := lz_c (g := 200) (q := 1) (vs := [.ref (p 0)]) (rest := [.long (Int64.ofNat 1), .ref (p 0)]) rfl rfl (by decide) (Or.inr (Or.inl ⟨_, rfl, rfl⟩)) rfl k
            have e1 := xt200 hp kc
            subst e1
            have k : nt_rn X _ 198 (97, [(6, .int ((J (p 1) ((((Int32.ofInt 400) * v1) + v4).toNatClampNeg)) >>> ((Int32.ofInt 4) &&& 31))), (5, .int ((J (p 1) ((((Int32.ofInt 400) * v1) + v4).toNatClampNeg)) &&& (Int32.ofInt 15))), (0, .ref (p 0)), (1, .int v1), (2, .int v2), (3, .int v3), (4, .int v4), (7, .long v7), (9, .long v9)], [.long ((x200 p J L).1), .long (Int64.ofNat 1), .ref (p 0)], me_w (lw M L) ((x200 p J L).2)) _ := k
            have k := ly_revb 1 (c' := (98, [(6, .int ((J (p 1) ((((Int32.ofInt 400) * v1) + v4).toNatClampNeg)) >>> ((Int32.ofInt 4) &&& 31))), (5, .int ((J (p 1) ((((Int32.ofInt 400) * v1) + v4).toNatClampNeg)) &&& (Int32.ofInt 15))), (0, .ref (p 0)), (1, .int v1), (2, .int v2), (3, .int v3), (4, .int v4), (7, .long v7), (9, .long v9)], [.long ((Int64.ofNat 1) - ((x200 p J L).1)), .ref (p 0)], me_w (lw M L) ((x200 p J L).2))) rfl k
            obtain ⟨d1, o1, ed, kc, k⟩ := lz_c (g := 199) (q := 1) (vs := [.ref (p 0), .long ((Int64.ofNat 1) - ((x200 p J L).1))]) (rest := []) rfl rfl (by decide) (Or.inr (Or.inl ⟨_, rfl, rfl⟩)) rfl k
            have e1 := xt199 hp kc
            subst e1
            have k : nt_rn X _ 198 (101, [(6, .int ((J (p 1) ((((Int32.ofInt 400) * v1) + v4).toNatClampNeg)) >>> ((Int32.ofInt 4) &&& 31))), (5, .int ((J (p 1) ((((Int32.ofInt 400) * v1) + v4).toNatClampNeg)) &&& (Int32.ofInt 15))), (0, .ref (p 0)), (1, .int v1), (2, .int v2), (3, .int v3), (4, .int v4), (7, .long v7), (9, .long v9)], [], me_w (lw M ((x199 p ((Int64.ofNat 1) - ((x200 p J L).1)) ((x200 p J L).2) L).2)) ((x199 p ((Int64.ofNat 1) - ((x200 p J L).1)) ((x200 p J L).2) L).1)) _ := k
            have k := ly_revb 3 (c' := (8, [(4, .int (v4 + (Int32.ofInt 1))), (6, .int ((J (p 1) ((((Int32.ofInt 400) * v1) + v4).toNatClampNeg)) >>> ((Int32.ofInt 4) &&& 31))), (5, .int ((J (p 1) ((((Int32.ofInt 400) * v1) + v4).toNatClampNeg)) &&& (Int32.ofInt 15))), (0, .ref (p 0)), (1, .int v1), (2, .int v2), (3, .int v3), (7, .long v7), (9, .long v9)], [], me_w (lw M ((x199 p ((Int64.ofNat 1) - ((x200 p J L).1)) ((x200 p J L).2) L).2)) ((x199 p ((Int64.ofNat 1) - ((x200 p J L).1)) ((x200 p J L).2) L).1))) rfl k
            have k := nt_rn_w (a := [(4, .int (v4 + (Int32.ofInt 1))), (6, .int ((J (p 1) ((((Int32.ofInt 400) * v1) + v4).toNatClampNeg)) >>> ((Int32.ofInt 4) &&& 31))), (5, .int ((J (p 1) ((((Int32.ofInt 400) * v1) + v4).toNatClampNeg)) &&& (Int32.ofInt 15))), (0, .ref (p 0)), (1, .int v1), (2, .int v2), (3, .int v3), (7, .long v7), (9, .long v9)]) (b := [(0, .ref (p 0)), (1, .int v1), (2, .int v2), (3, .int v3), (4, .int (v4 + (Int32.ofInt 1))), (5, .int ((J (p 1) ((((Int32.ofInt 400) * v1) + v4).toNatClampNeg)) &&& (Int32.ofInt 15))), (6, .int ((J (p 1) ((((Int32.ofInt 400) * v1) + v4).toNatClampNeg)) >>> ((Int32.ofInt 4) &&& 31))), (7, .long v7), (9, .long v9)]) ⟨rfl, rfl, rfl, rfl, rfl, rfl, rfl, rfl, rfl, trivial⟩ rfl k
            have k := ih (v4 + (Int32.ofInt 1)) ((J (p 1) ((((Int32.ofInt 400) * v1) + v4).toNatClampNeg)) &&& (Int32.ofInt 15)) ((J (p 1) ((((Int32.ofInt 400) * v1) + v4).toNatClampNeg)) >>> ((Int32.ofInt 4) &&& 31)) v7 v9 ((x199 p ((Int64.ofNat 1) - ((x200 p J L).1)) ((x200 p J L).2) L).1) ((x199 p ((Int64.ofNat 1) - ((x200 p J L).1)) ((x200 p J L).2) L).2) (lx_dec h11 hc) k
            rw [k, x198_8, if_neg h11, if_neg h51, if_neg h67, if_pos h88]
          · rw [if_neg h88] at k
            have k := ly_revb 1 (c' := (105, [(6, .int ((J (p 1) ((((Int32.ofInt 400) * v1) + v4).toNatClampNeg)) >>> ((Int32.ofInt 4) &&& 31))), (5, .int ((J (p 1) ((((Int32.ofInt 400) * v1) + v4).toNatClampNeg)) &&& (Int32.ofInt 15))), (0, .ref (p 0)), (1, .int v1), (2, .int v2), (3, .int v3), (4, .int v4), (7, .long v7), (9, .long v9)], [.ref (p 0)], me_w (lw M L) J)) rfl k
            obtain ⟨d1, o1, ed, kc, k⟩ := lz_c (g := 200) (q := 1) (vs := [.ref (p 0)]) (rest := []) rfl rfl (by decide) (Or.inr (Or.inl ⟨_, rfl, rfl⟩)) rfl k
            have e1 := xt200 hp kc
            subst e1
            have k : nt_rn X _ 198 (108, [(6, .int ((J (p 1) ((((Int32.ofInt 400) * v1) + v4).toNatClampNeg)) >>> ((Int32.ofInt 4) &&& 31))), (5, .int ((J (p 1) ((((Int32.ofInt 400) * v1) + v4).toNatClampNeg)) &&& (Int32.ofInt 15))), (0, .ref (p 0)), (1, .int v1), (2, .int v2), (3, .int v3), (4, .int v4), (7, .long v7), (9, .long v9)], [.long ((x200 p J L).1)], me_w (lw M L) ((x200 p J L).2)) _ := k
            have k := ly_revb 2 (c' := (111, [(7, .long ((x200 p J L).1)), (6, .int ((J (p 1) ((((Int32.ofInt 400) * v1) + v4).toNatClampNeg)) >>> ((Int32.ofInt 4) &&& 31))), (5, .int ((J (p 1) ((((Int32.ofInt 400) * v1) + v4).toNatClampNeg)) &&& (Int32.ofInt 15))), (0, .ref (p 0)), (1, .int v1), (2, .int v2), (3, .int v3), (4, .int v4), (9, .long v9)], [.ref (p 0)], me_w (lw M L) ((x200 p J L).2))) rfl k
            obtain ⟨d1, o1, ed, kc, k⟩ := lz_c (g := 200) (q := 1) (vs := [.ref (p 0)]) (rest := []) rfl rfl (by decide) (Or.inr (Or.inl ⟨_, rfl, rfl⟩)) rfl k
            have e1 := xt200 hp kc
            subst e1
            have k : nt_rn X _ 198 (114, [(7, .long ((x200 p J L).1)), (6, .int ((J (p 1) ((((Int32.ofInt 400) * v1) + v4).toNatClampNeg)) >>> ((Int32.ofInt 4) &&& 31))), (5, .int ((J (p 1) ((((Int32.ofInt 400) * v1) + v4).toNatClampNeg)) &&& (Int32.ofInt 15))), (0, .ref (p 0)), (1, .int v1), (2, .int v2), (3, .int v3), (4, .int v4), (9, .long v9)], [.long ((x200 p ((x200 p J L).2) L).1)], me_w (lw M L) ((x200 p ((x200 p J L).2) L).2)) _ := k
            have k := ly_revb 5 (c' := (123, [(9, .long ((x200 p ((x200 p J L).2) L).1)), (7, .long ((x200 p J L).1)), (6, .int ((J (p 1) ((((Int32.ofInt 400) * v1) + v4).toNatClampNeg)) >>> ((Int32.ofInt 4) &&& 31))), (5, .int ((J (p 1) ((((Int32.ofInt 400) * v1) + v4).toNatClampNeg)) &&& (Int32.ofInt 15))), (0, .ref (p 0)), (1, .int v1), (2, .int v2), (3, .int v3), (4, .int v4)], [.long ((x200 p J L).1), .long ((x200 p ((x200 p J L).2) L).1), .int ((J (p 1) ((((Int32.ofInt 400) * v1) + v4).toNatClampNeg)) &&& (Int32.ofInt 15)), .ref (p 0)], me_w (lw M L) ((x200 p ((x200 p J L).2) L).2))) rfl k
            obtain ⟨d1, o1, ed, kc, k⟩ := lz_c (g := 201) (q := 0) (vs := [.int ((J (p 1) ((((Int32.ofInt 400) * v1) + v4).toNatClampNeg)) &&& (Int32.ofInt 15)), .long ((x200 p ((x200 p J L).2) L).1), .long ((x200 p J L).1)]) (rest := [.ref (p 0)]) rfl rfl (by decide) (Or.inl ⟨_, rfl, rfl⟩) rfl k
            have e1 := xt201  kc
            subst e1
            have k : nt_rn X _ 198 (126, [(9, .long ((x200 p ((x200 p J L).2) L).1)), (7, .long ((x200 p J L).1)), (6, .int ((J (p 1) ((((Int32.ofInt 400) * v1) + v4).toNatClampNeg)) >>> ((Int32.ofInt 4) &&& 31))), (5, .int ((J (p 1) ((((Int32.ofInt 400) * v1) + v4).toNatClampNeg)) &&& (Int32.ofInt 15))), (0, .ref (p 0)), (1, .int v1), (2, .int v2), (3, .int v3), (4, .int v4)], [.long (x201 ((J (p 1) ((((Int32.ofInt 400) * v1) + v4).toNatClampNeg)) &&& (Int32.ofInt 15)) ((x200 p ((x200 p J L).2) L).1) ((x200 p J L).1)), .ref (p 0)], me_w (lw M L) ((x200 p ((x200 p J L).2) L).2)) _ := k
            obtain ⟨d1, o1, ed, kc, k⟩ := lz_c (g := 199) (q := 1) (vs := [.ref (p 0), .long (x201 ((J (p 1) ((((Int32.ofInt 400) * v1) + v4).toNatClampNeg)) &&& (Int32.ofInt 15)) ((x200 p ((x200 p J L).2) L).1) ((x200 p J L).1))]) (rest := []) rfl rfl (by decide) (Or.inr (Or.inl ⟨_, rfl, rfl⟩)) rfl k
            have e1 := xt199 hp kc
            subst e1
            have k : nt_rn X _ 198 (129, [(9, .long ((x200 p ((x200 p J L).2) L).1)), (7, .long ((x200 p J L).1)), (6, .int ((J (p 1) ((((Int32.ofInt 400) * v1) + v4).toNatClampNeg)) >>> ((Int32.ofInt 4) &&& 31))), (5, .int ((J (p 1) ((((Int32.ofInt 400) * v1) + v4).toNatClampNeg)) &&& (Int32.ofInt 15))), (0, .ref (p 0)), (1, .int v1), (2, .int v2), (3, .int v3), (4, .int v4)], [], me_w (lw M ((x199 p (x201 ((J (p 1) ((((Int32.ofInt 400) * v1) + v4).toNatClampNeg)) &&& (Int32.ofInt 15)) ((x200 p ((x200 p J L).2) L).1) ((x200 p J L).1)) ((x200 p ((x200 p J L).2) L).2) L).2)) ((x199 p (x201 ((J (p 1) ((((Int32.ofInt 400) * v1) + v4).toNatClampNeg)) &&& (Int32.ofInt 15)) ((x200 p ((x200 p J L).2) L).1) ((x200 p J L).1)) ((x200 p ((x200 p J L).2) L).2) L).1)) _ := k
            have k := ly_revb 2 (c' := (8, [(4, .int (v4 + (Int32.ofInt 1))), (9, .long ((x200 p ((x200 p J L).2) L).1)), (7, .long ((x200 p J L).1)), (6, .int ((J (p 1) ((((Int32.ofInt 400) * v1) + v4).toNatClampNeg)) >>> ((Int32.ofInt 4) &&& 31))), (5, .int ((J (p 1) ((((Int32.ofInt 400) * v1) + v4).toNatClampNeg)) &&& (Int32.ofInt 15))), (0, .ref (p 0)), (1, .int v1), (2, .int v2), (3, .int v3)], [], me_w (lw M ((x199 p (x201 ((J (p 1) ((((Int32.ofInt 400) * v1) + v4).toNatClampNeg)) &&& (Int32.ofInt 15)) ((x200 p ((x200 p J L).2) L).1) ((x200 p J L).1)) ((x200 p ((x200 p J L).2) L).2) L).2)) ((x199 p (x201 ((J (p 1) ((((Int32.ofInt 400) * v1) + v4).toNatClampNeg)) &&& (Int32.ofInt 15)) ((x200 p ((x200 p J L).2) L).1) ((x200 p J L).1)) ((x200 p ((x200 p J L).2) L).2) L).1))) rfl k
            have k := nt_rn_w (a := [(4, .int (v4 + (Int32.ofInt 1))), (9, .long ((x200 p ((x200 p J L).2) L).1)), (7, .long ((x200 p J L).1)), (6, .int ((J (p 1) ((((Int32.ofInt 400) * v1) + v4).toNatClampNeg)) >>> ((Int32.ofInt 4) &&& 31))), (5, .int ((J (p 1) ((((Int32.ofInt 400) * v1) + v4).toNatClampNeg)) &&& (Int32.ofInt 15))), (0, .ref (p 0)), (1, .int v1), (2, .int v2), (3, .int v3)]) (b := [(0, .ref (p 0)), (1, .int v1), (2, .int v2), (3, .int v3), (4, .int (v4 + (Int32.ofInt 1))), (5, .int ((J (p 1) ((((Int32.ofInt 400) * v1) + v4).toNatClampNeg)) &&& (Int32.ofInt 15))), (6, .int ((J (p 1) ((((Int32.ofInt 400) * v1) + v4).toNatClampNeg)) >>> ((Int32.ofInt 4) &&& 31))), (7, .long ((x200 p J L).1)), (9, .long ((x200 p ((x200 p J L).2) L).1))]) ⟨rfl, rfl, rfl, rfl, rfl, rfl, rfl, rfl, rfl, trivial⟩ rfl k
            have k := ih (v4 + (Int32.ofInt 1)) ((J (p 1) ((((Int32.ofInt 400) * v1) + v4).toNatClampNeg)) &&& (Int32.ofInt 15)) ((J (p 1) ((((Int32.ofInt 400) * v1) + v4).toNatClampNeg)) >>> ((Int32.ofInt 4) &&& 31)) ((x200 p J L).1) ((x200 p ((x200 p J L).2) L).1) ((x199 p (x201 ((J (p 1) ((((Int32.ofInt 400) * v1) + v4).toNatClampNeg)) &&& (Int32.ofInt 15)) ((x200 p ((x200 p J L).2) L).1) ((x200 p J L).1)) ((x200 p ((x200 p J L).2) L).2) L).1) ((x199 p (x201 ((J (p 1) ((((Int32.ofInt 400) * v1) + v4).toNatClampNeg)) &&& (Int32.ofInt 15)) ((x200 p ((x200 p J L).2) L).1) ((x200 p J L).1)) ((x200 p ((x200 p J L).2) L).2) L).2) (lx_dec h11 hc) k
            rw [k, x198_8, if_neg h11, if_neg h51, if_neg h67, if_neg h88]
theorem x198_8_rule {p : Nat → Nat} {v1 : Int32} {v3 : Int32} {I : Nat → Int32 → (Nat → Nat → Int32) → (Nat → Nat → Int64) → Prop} {Q : Int64 × (Nat → Nat → Int32) × (Nat → Nat → Int64) → Prop} (h0 : ∀ (v4 : Int32) (J : Nat → Nat → Int32) (L : Nat → Nat → Int64), I 0 v4 J L → Q ((x200 p J L).1, (x200 p J L).2, L)) (h1 : ∀ (c : Nat) (v4 : Int32) (J : Nat → Nat → Int32) (L : Nat → Nat → Int64), I (c + 1) v4 J L →
    if v3 ≤ v4 then (Q ((x200 p J L).1, (x200 p J L).2, L))
    else if ((J (p 1) ((((Int32.ofInt 400) * v1) + v4).toNatClampNeg)) &&& (Int32.ofInt 15)) = 0 then (I c (v4 + (Int32.ofInt 1)) ((x199 p (((J (p 1) ((((Int32.ofInt 400) * v1) + v4).toNatClampNeg)) >>> ((Int32.ofInt 4) &&& 31)).toInt64) J L).1) ((x199 p (((J (p 1) ((((Int32.ofInt 400) * v1) + v4).toNatClampNeg)) >>> ((Int32.ofInt 4) &&& 31)).toInt64) J L).2))
      else if ((J (p 1) ((((Int32.ofInt 400) * v1) + v4).toNatClampNeg)) &&& (Int32.ofInt 15)) = (Int32.ofInt 1) then (I c (v4 + (Int32.ofInt 1)) ((x199 p (L (p 6) (((J (p 1) ((((Int32.ofInt 400) * v1) + v4).toNatClampNeg)) >>> ((Int32.ofInt 4) &&& 31)).toNatClampNeg)) J L).1) ((x199 p (L (p 6) (((J (p 1) ((((Int32.ofInt 400) * v1) + v4).toNatClampNeg)) >>> ((Int32.ofInt 4) &&& 31)).toNatClampNeg)) J L).2))
        else if ((J (p 1) ((((Int32.ofInt 400) * v1) + v4).toNatClampNeg)) &&& (Int32.ofInt 15)) = (Int32.ofInt 11) then (I c (v4 + (Int32.ofInt 1)) ((x199 p ((Int64.ofNat 1) - ((x200 p J L).1)) ((x200 p J L).2) L).1) ((x199 p ((Int64.ofNat 1) - ((x200 p J L).1)) ((x200 p J L).2) L).2))
          else (I c (v4 + (Int32.ofInt 1)) ((x199 p (x201 ((J (p 1) ((((Int32.ofInt 400) * v1) + v4).toNatClampNeg)) &&& (Int32.ofInt 15)) ((x200 p ((x200 p J L).2) L).1) ((x200 p J L).1)) ((x200 p ((x200 p J L).2) L).2) L).1) ((x199 p (x201 ((J (p 1) ((((Int32.ofInt 400) * v1) + v4).toNatClampNeg)) &&& (Int32.ofInt 15)) ((x200 p ((x200 p J L).2) L).1) ((x200 p J L).1)) ((x200 p ((x200 p J L).2) L).2) L).2))) : ∀ (c : Nat) (v4 : Int32) (J : Nat → Nat → Int32) (L : Nat → Nat → Int64), I c v4 J L → Q (x198_8 p v1 v3 c v4 J L) := by
  intro c
  induction c with
  | zero =>
    intro v4 J L hi
    rw [x198_8]
    exact h0 v4 J L hi
  | succ c ih =>
    intro v4 J L hi
    have hi := h1 c v4 J L hi
    rw [x198_8]
    by_cases h : v3 ≤ v4
    · rw [if_pos h] at hi ⊢
      exact hi
    · rw [if_neg h] at hi ⊢
      by_cases h : ((J (p 1) ((((Int32.ofInt 400) * v1) + v4).toNatClampNeg)) &&& (Int32.ofInt 15)) = 0
      · rw [if_pos h] at hi ⊢
        exact ih _ _ _ hi
      · rw [if_neg h] at hi ⊢
        by_cases h : ((J (p 1) ((((Int32.ofInt 400) * v1) + v4).toNatClampNeg)) &&& (Int32.ofInt 15)) = (Int32.ofInt 1)
        · rw [if_pos h] at hi ⊢
          exact ih _ _ _ hi
        · rw [if_neg h] at hi ⊢
          by_cases h : ((J (p 1) ((((Int32.ofInt 400) * v1) + v4).toNatClampNeg)) &&& (Int32.ofInt 15)) = (Int32.ofInt 11)
          · rw [if_pos h] at hi ⊢
            exact ih _ _ _ hi
          · rw [if_neg h] at hi ⊢
            exact ih _ _ _ hi
def x198 (p : Nat → Nat) (v1 : Int32) (v2 : Int32) (v3 : Int32) (J : Nat → Nat → Int32) (L : Nat → Nat → Int64) : Int64 × (Nat → Nat → Int32) × (Nat → Nat → Int64) := (x198_8 p v1 v3 ((v3.toInt - v2.toInt).toNat) v2 (nt_u J (p 0) 25 (Int32.ofInt 0)) L)
theorem xt198 {X : nt_X} {d : Nat} {M : nt_M} {o : Option Value × nt_M} {p : Nat → Nat} {v1 : Int32} {v2 : Int32} {v3 : Int32} {J : Nat → Nat → Int32} {L : Nat → Nat → Int64} (hp : xs_P M p) (k : nt_ev X d 198 [.ref (p 0), .int v1, .int v2, .int v3] (me_w (lw M L) J) o) : o = (some (.long ((x198 p v1 v2 v3 J L).1)), me_w (lw M ((x198 p v1 v2 v3 J L).2.2)) ((x198 p v1 v2 v3 J L).2.1)) := by
  have k : nt_rn X d 198 (0, [(0, .ref (p 0)), (1, .int v1), (2, .int v2), (3, .int v3)], [], me_w (lw M L) J) o := k
  have k := ly_revb 2 (c' := (2, [(0, .ref (p 0)), (1, .int v1), (2, .int v2), (3, .int v3)], [.int (Int32.ofInt 0), .ref (p 0)], me_w (lw M L) J)) rfl k
  have k := me_put rfl (by decide) k
  have k : nt_rn X _ 198 (5, [(0, .ref (p 0)), (1, .int v1), (2, .int v2), (3, .int v3)], [], me_w (lw M L) (nt_u J (p 0) 25 (Int32.ofInt 0))) _ := k
  have k := ly_revb 2 (c' := (8, [(4, .int v2), (0, .ref (p 0)), (1, .int v1), (2, .int v2), (3, .int v3)], [], me_w (lw M L) (nt_u J (p 0) 25 (Int32.ofInt 0)))) rfl k
  have k := nt_rn_w (a := [(4, .int v2), (0, .ref (p 0)), (1, .int v1), (2, .int v2), (3, .int v3)]) (b := [(0, .ref (p 0)), (1, .int v1), (2, .int v2), (3, .int v3), (4, .int v2), (5, .int (Int32.ofInt 0)), (6, .int (Int32.ofInt 0)), (7, .long (Int64.ofNat 0)), (9, .long (Int64.ofNat 0))]) ⟨rfl, rfl, rfl, rfl, rfl, trivial⟩ rfl k
  have k := xt198_8 hp  ((v3.toInt - v2.toInt).toNat) v2 (Int32.ofInt 0) (Int32.ofInt 0) (Int64.ofNat 0) (Int64.ofNat 0) (nt_u J (p 0) 25 (Int32.ofInt 0)) L lx_bg2 k
  rw [k, x198]
theorem x198_8_frJ {p : Nat → Nat} {v1 : Int32} {v3 : Int32} {b : Nat} : ∀ (c : Nat) (v4 : Int32) (J : Nat → Nat → Int32) (L : Nat → Nat → Int64), b ≠ p 0 → (x198_8 p v1 v3 c v4 J L).2.1 b = J b := by
  intro c
  induction c with
  | zero =>
    intro v4 J L n0
    rw [x198_8]
    all_goals first | (dsimp only; exact (show ((x200 p J L).2) b = J b from x200_frJ  n0)) | exact (show ((x200 p J L).2) b = J b from x200_frJ  n0)
  | succ c ih =>
    intro v4 J L n0
    rw [x198_8]
    by_cases h : v3 ≤ v4
    · rw [if_pos h]
      all_goals first | (dsimp only; exact (show ((x200 p J L).2) b = J b from x200_frJ  n0)) | exact (show ((x200 p J L).2) b = J b from x200_frJ  n0)
    · rw [if_neg h]
      by_cases h : ((J (p 1) ((((Int32.ofInt 400) * v1) + v4).toNatClampNeg)) &&& (Int32.ofInt 15)) = 0
      · rw [if_pos h]
        exact (ih _ _ _ n0).trans (x199_frJ  n0)
      · rw [if_neg h]
        by_cases h : ((J (p 1) ((((Int32.ofInt 400) * v1) + v4).toNatClampNeg)) &&& (Int32.ofInt 15)) = (Int32.ofInt 1)
        · rw [if_pos h]
          exact (ih _ _ _ n0).trans (x199_frJ  n0)
        · rw [if_neg h]
          by_cases h : ((J (p 1) ((((Int32.ofInt 400) * v1) + v4).toNatClampNeg)) &&& (Int32.ofInt 15)) = (Int32.ofInt 11)
          · rw [if_pos h]
            exact (ih _ _ _ n0).trans ((x199_frJ  n0).trans (x200_frJ  n0))
          · rw [if_neg h]
            exact (ih _ _ _ n0).trans ((x199_frJ  n0).trans ((x200_frJ  n0).trans (x200_frJ  n0)))
theorem x198_frJ {p : Nat → Nat} {v1 : Int32} {v2 : Int32} {v3 : Int32} {J : Nat → Nat → Int32} {L : Nat → Nat → Int64} {b : Nat} (n0 : b ≠ p 0) : (x198 p v1 v2 v3 J L).2.1 b = J b := by
  unfold x198
  exact (x198_8_frJ _ _ _ _ n0).trans (mu_o n0)
theorem x198_8_frL {p : Nat → Nat} {v1 : Int32} {v3 : Int32} {b : Nat} : ∀ (c : Nat) (v4 : Int32) (J : Nat → Nat → Int32) (L : Nat → Nat → Int64), b ≠ p 5 → (x198_8 p v1 v3 c v4 J L).2.2 b = L b := by
  intro c
  induction c with
  | zero =>
    intro v4 J L n0
    rw [x198_8]
    all_goals first | (dsimp only; exact (show L b = L b from rfl)) | exact (show L b = L b from rfl)
  | succ c ih =>
    intro v4 J L n0
    rw [x198_8]
    by_cases h : v3 ≤ v4
    · rw [if_pos h]
      all_goals first | (dsimp only; exact (show L b = L b from rfl)) | exact (show L b = L b from rfl)
    · rw [if_neg h]
      by_cases h : ((J (p 1) ((((Int32.ofInt 400) * v1) + v4).toNatClampNeg)) &&& (Int32.ofInt 15)) = 0
      · rw [if_pos h]
        exact (ih _ _ _ n0).trans (x199_frL n0)
      · rw [if_neg h]
        by_cases h : ((J (p 1) ((((Int32.ofInt 400) * v1) + v4).toNatClampNeg)) &&& (Int32.ofInt 15)) = (Int32.ofInt 1)
        · rw [if_pos h]
          exact (ih _ _ _ n0).trans (x199_frL n0)
        · rw [if_neg h]
          by_cases h : ((J (p 1) ((((Int32.ofInt 400) * v1) + v4).toNatClampNeg)) &&& (Int32.ofInt 15)) = (Int32.ofInt 11)
          · rw [if_pos h]
            exact (ih _ _ _ n0).trans (x199_frL n0)
          · rw [if_neg h]
            exact (ih _ _ _ n0).trans (x199_frL n0)
theorem x198_frL {p : Nat → Nat} {v1 : Int32} {v2 : Int32} {v3 : Int32} {J : Nat → Nat → Int32} {L : Nat → Nat → Int64} {b : Nat} (n0 : b ≠ p 5) : (x198 p v1 v2 v3 J L).2.2 b = L b := by
  unfold x198
  exact (x198_8_frL _ _ _ _ n0).trans (rfl)
/-! Model.clauseFor -/
def x197_2 (p : Nat → Nat) (v1 : Int32) : Nat → Int32 → (Nat → Nat → Int32) → (Nat → Nat → Int64) → Int32 × (Nat → Nat → Int32) × (Nat → Nat → Int64)
  | 0, v2, J, L => (Int32.ofInt (-1), J, L)
  | c + 1, v2, J, L => if (J (p 3) v1.toNatClampNeg) ≤ v2 then (Int32.ofInt (-1), J, L)
    else if (J (p 2) (((((Int32.ofInt 48) * v1) + ((Int32.ofInt 4) * v2)) + (Int32.ofInt 2)).toNatClampNeg)) < 0 then (((Int32.ofInt 48) * v1) + ((Int32.ofInt 4) * v2), J, L)
      else if (lg_cmp ((x198 p v1 (J (p 2) (((((Int32.ofInt 48) * v1) + ((Int32.ofInt 4) * v2)) + (Int32.ofInt 2)).toNatClampNeg)) (J (p 2) (((((Int32.ofInt 48) * v1) + ((Int32.ofInt 4) * v2)) + (Int32.ofInt 3)).toNatClampNeg)) J L).1) (Int64.ofNat 1)) = 0 then (((Int32.ofInt 48) * v1) + ((Int32.ofInt 4) * v2), (x198 p v1 (J (p 2) (((((Int32.ofInt 48) * v1) + ((Int32.ofInt 4) * v2)) + (Int32.ofInt 2)).toNatClampNeg)) (J (p 2) (((((Int32.ofInt 48) * v1) + ((Int32.ofInt 4) * v2)) + (Int32.ofInt 3)).toNatClampNeg)) J L).2.1, (x198 p v1 (J (p 2) (((((Int32.ofInt 48) * v1) + ((Int32.ofInt 4) * v2)) + (Int32.ofInt 2)).toNatClampNeg)) (J (p 2) (((((Int32.ofInt 48) * v1) + ((Int32.ofInt 4) * v2)) + (Int32.ofInt 3)).toNatClampNeg)) J L).2.2)
        else (x197_2 p v1 c (v2 + (Int32.ofInt 1)) ((x198 p v1 (J (p 2) (((((Int32.ofInt 48) * v1) + ((Int32.ofInt 4) * v2)) + (Int32.ofInt 2)).toNatClampNeg)) (J (p 2) (((((Int32.ofInt 48) * v1) + ((Int32.ofInt 4) * v2)) + (Int32.ofInt 3)).toNatClampNeg)) J L).2.1) ((x198 p v1 (J (p 2) (((((Int32.ofInt 48) * v1) + ((Int32.ofInt 4) * v2)) + (Int32.ofInt 2)).toNatClampNeg)) (J (p 2) (((((Int32.ofInt 48) * v1) + ((Int32.ofInt 4) * v2)) + (Int32.ofInt 3)).toNatClampNeg)) J L).2.2))
theorem xt197_2 {X : nt_X} {d : Nat} {M : nt_M} {o : Option Value × nt_M} {p : Nat → Nat} {v1 : Int32} (hp : xs_P M p) : ∀ (c : Nat) (v2 : Int32) (v3 : Int32) (J : Nat → Nat → Int32) (L : Nat → Nat → Int64), (J (p 3) v1.toNatClampNeg).toInt - v2.toInt ≤ c → nt_rn X d 197 (2, [(0, .ref (p 0)), (1, .int v1), (2, .int v2), (3, .int v3)], [], me_w (lw M L) J) o → o = (some (.int ((x197_2 p v1 c v2 J L).1)), me_w (lw M ((x197_2 p v1 c v2 J L).2.2)) ((x197_2 p v1 c v2 J L).2.1)) := by
  intro c
  induction c with
  | zero =>
    intro v2 v3 J L hc k
    have k := ly_revb 2 (c' := (4, [(0, .ref (p 0)), (1, .int v1), (2, .int v2), (3, .int v3)], [.ref (p 0), .int v2], me_w (lw M L) J)) rfl k
    have k := lz_get (a := (p 0)) (g := 1106) (M := me_w (lw M L) J) (v := .ref (p 3)) rfl (nt_gfR rfl (hp.1 (0, 6, 3) (by decide))) k
    have k := ly_revb 1 (c' := (8, [(0, .ref (p 0)), (1, .int v1), (2, .int v2), (3, .int v3)], [.int v1, .ref (p 3), .int v2], me_w (lw M L) J)) rfl k
    have k := mx_iald (v := J (p 3) v1.toNatClampNeg) rfl (hp.2.2.1 3 (by omega)) (rfl) k
    have k := ly_revb 1 (c' := (if (J (p 3) v1.toNatClampNeg) ≤ v2 then 66 else 12, [(0, .ref (p 0)), (1, .int v1), (2, .int v2), (3, .int v3)], [], me_w (lw M L) J)) rfl k
    have h9 : (J (p 3) v1.toNatClampNeg) ≤ v2 := lx_end hc
    rw [if_pos h9] at k
    have k := ly_revb 1 (c' := (67, [(0, .ref (p 0)), (1, .int v1), (2, .int v2), (3, .int v3)], [.int (Int32.ofInt (-1))], me_w (lw M L) J)) rfl k
    have k := lz_ri rfl (by decide) k
    rw [k, x197_2]
  | succ c ih =>
    intro v2 v3 J L hc k
    have k := ly_revb 2 (c' := (4, [(0, .ref (p 0)), (1, .int v1), (2, .int v2), (3, .int v3)], [.ref (p 0), .int v2], me_w (lw M L) J)) rfl k
    have k := lz_get (a := (p 0)) (g := 1106) (M := me_w (lw M L) J) (v := .ref (p 3)) rfl (nt_gfR rfl (hp.1 (0, 6, 3) (by decide))) k
    have k := ly_revb 1 (c' := (8, [(0, .ref (p 0)), (1, .int v1), (2, .int v2), (3, .int v3)], [.int v1, .ref (p 3), .int v2], me_w (lw M L) J)) rfl k
    have k := mx_iald (v := J (p 3) v1.toNatClampNeg) rfl (hp.2.2.1 3 (by omega)) (rfl) k
    have k := ly_revb 1 (c' := (if (J (p 3) v1.toNatClampNeg) ≤ v2 then 66 else 12, [(0, .ref (p 0)), (1, .int v1), (2, .int v2), (3, .int v3)], [], me_w (lw M L) J)) rfl k
    by_cases h9 : (J (p 3) v1.toNatClampNeg) ≤ v2
    · rw [if_pos h9] at k
      have k := ly_revb 1 (c' := (67, [(0, .ref (p 0)), (1, .int v1), (2, .int v2), (3, .int v3)], [.int (Int32.ofInt (-1))], me_w (lw M L) J)) rfl k
      have k := lz_ri rfl (by decide) k
      rw [k, x197_2, if_pos h9]
    · rw [if_neg h9] at k
      have k := ly_revb 9 (c' := (22, [(3, .int (((Int32.ofInt 48) * v1) + ((Int32.ofInt 4) * v2))), (0, .ref (p 0)), (1, .int v1), (2, .int v2)], [.ref (p 0)], me_w (lw M L) J)) rfl k
      have k := lz_get (a := (p 0)) (g := 1105) (M := me_w (lw M L) J) (v := .ref (p 2)) rfl (nt_gfR rfl (hp.1 (0, 5, 2) (by decide))) k
      have k := ly_revb 3 (c' := (28, [(3, .int (((Int32.ofInt 48) * v1) + ((Int32.ofInt 4) * v2))), (0, .ref (p 0)), (1, .int v1), (2, .int v2)], [.int ((((Int32.ofInt 48) * v1) + ((Int32.ofInt 4) * v2)) + (Int32.ofInt 2)), .ref (p 2)], me_w (lw M L) J)) rfl k
      have k := mx_iald (v := J (p 2) (((((Int32.ofInt 48) * v1) + ((Int32.ofInt 4) * v2)) + (Int32.ofInt 2)).toNatClampNeg)) rfl (hp.2.2.1 2 (by omega)) (rfl) k
      have k := ly_revb 1 (c' := (if (J (p 2) (((((Int32.ofInt 48) * v1) + ((Int32.ofInt 4) * v2)) + (Int32.ofInt 2)).toNatClampNeg)) < 0 then 58 else 32, [(3, .int (((Int32.ofInt 48) * v1) + ((Int32.ofInt 4) * v2))), (0, .ref (p 0)), (1, .int v1), (2, .int v2)], [], me_w (lw M L) J)) rfl k
      by_cases h29 : (J (p 2) (((((Int32.ofInt 48) * v1) + ((Int32.ofInt 4) * v2)) + (Int32.ofInt 2)).toNatClampNeg)) < 0
      · rw [if_pos h29] at k
        have k := ly_revb 1 (c' := (59, [(3, .int (((Int32.ofInt 48) * v1) + ((Int32.ofInt 4) * v2))), (0, .ref (p 0)), (1, .int v1), (2, .int v2)], [.int (((Int32.ofInt 48) * v1) + ((Int32.ofInt 4) * v2))], me_w (lw M L) J)) rfl k
        have k := lz_ri rfl (by decide) k
        rw [k, x197_2, if_neg h9, if_pos h29]
      · rw [if_neg h29] at k
        have k := ly_revb 3 (c' := (35, [(3, .int (((Int32.ofInt 48) * v1) + ((Int32.ofInt 4) * v2))), (0, .ref (p 0)), (1, .int v1), (2, .int v2)], [.ref (p 0), .int v1, .ref (p 0)], me_w (lw M L) J)) rfl k
        have k := lz_get (a := (p 0)) (g := 1105) (M := me_w (lw M L) J) (v := .ref (p 2)) rfl (nt_gfR rfl (hp.1 (0, 5, 2) (by decide))) k
        have k := ly_revb 3 (c' := (41, [(3, .int (((Int32.ofInt 48) * v1) + ((Int32.ofInt 4) * v2))), (0, .ref (p 0)), (1, .int v1), (2, .int v2)], [.int ((((Int32.ofInt 48) * v1) + ((Int32.ofInt 4) * v2)) + (Int32.ofInt 2)), .ref (p 2), .int v1, .ref (p 0)], me_w (lw M L) J)) rfl k
        have k := mx_iald (v := J (p 2) (((((Int32.ofInt 48) * v1) + ((Int32.ofInt 4) * v2)) + (Int32.ofInt 2)).toNatClampNeg)) rfl (hp.2.2.1 2 (by omega)) (rfl) k
        have k := ly_revb 1 (c' := (43, [(3, .int (((Int32.ofInt 48) * v1) + ((Int32.ofInt 4) * v2))), (0, .ref (p 0)), (1, .int v1), (2, .int v2)], [.ref (p 0), .int (J (p 2) (((((Int32.ofInt 48) * v1) + ((Int32.ofInt 4) * v2)) + (Int32.ofInt 2)).toNatClampNeg)), .int v1, .ref (p 0)], me_w (lw M L) J)) rfl k
        have k := lz_get (a := (p 0)) (g := 1105) (M := me_w (lw M L) J) (v := .ref (p 2)) rfl (nt_gfR rfl (hp.1 (0, 5, 2) (by decide))) k
        have k := ly_revb 3 (c' := (49, [(3, .int (((Int32.ofInt 48) * v1) + ((Int32.ofInt 4) * v2))), (0, .ref (p 0)), (1, .int v1), (2, .int v2)], [.int ((((Int32.ofInt 48) * v1) + ((Int32.ofInt 4) * v2)) + (Int32.ofInt 3)), .ref (p 2), .int (J (p 2) (((((Int32.ofInt 48) * v1) + ((Int32.ofInt 4) * v2)) + (Int32.ofInt 2)).toNatClampNeg)), .int v1, .ref (p 0)], me_w (lw M L) J)) rfl k
        have k := mx_iald (v := J (p 2) (((((Int32.ofInt 48) * v1) + ((Int32.ofInt 4) * v2)) + (Int32.ofInt 3)).toNatClampNeg)) rfl (hp.2.2.1 2 (by omega)) (rfl) k
        obtain ⟨d1, o1, ed, kc, k⟩ := lz_c (g := 198) (q := 1) (vs := [.ref (p 0), .int v1, .int (J (p 2) (((((Int32.ofInt 48) * v1) + ((Int32.ofInt 4) * v2)) + (Int32.ofInt 2)).toNatClampNeg)), .int (J (p 2) (((((Int32.ofInt 48) * v1) + ((Int32.ofInt 4) * v2)) + (Int32.ofInt 3)).toNatClampNeg))]) (rest := []) rfl rfl (by decide) (Or.inr (Or.inl ⟨_, rfl, rfl⟩)) rfl k
        have e1 := xt198 hp kc
        subst e1
        have k : nt_rn X _ 197 (53, [(3, .int (((Int32.ofInt 48) * v1) + ((Int32.ofInt 4) * v2))), (0, .ref (p 0)), (1, .int v1), (2, .int v2)], [.long ((x198 p v1 (J (p 2) (((((Int32.ofInt 48) * v1) + ((Int32.ofInt 4) * v2)) + (Int32.ofInt 2)).toNatClampNeg)) (J (p 2) (((((Int32.ofInt 48) * v1) + ((Int32.ofInt 4) * v2)) + (Int32.ofInt 3)).toNatClampNeg)) J L).1)], me_w (lw M ((x198 p v1 (J (p 2) (((((Int32.ofInt 48) * v1) + ((Int32.ofInt 4) * v2)) + (Int32.ofInt 2)).toNatClampNeg)) (J (p 2) (((((Int32.ofInt 48) * v1) + ((Int32.ofInt 4) * v2)) + (Int32.ofInt 3)).toNatClampNeg)) J L).2.2)) ((x198 p v1 (J (p 2) (((((Int32.ofInt 48) * v1) + ((Int32.ofInt 4) * v2)) + (Int32.ofInt 2)).toNatClampNeg)) (J (p 2) (((((Int32.ofInt 48) * v1) + ((Int32.ofInt 4) * v2)) + (Int32.ofInt 3)).toNatClampNeg)) J L).2.1)) _ := k
        have k := ly_revb 3 (c' := (if (lg_cmp ((x198 p v1 (J (p 2) (((((Int32.ofInt 48) * v1) + ((Int32.ofInt 4) * v2)) + (Int32.ofInt 2)).toNatClampNeg)) (J (p 2) (((((Int32.ofInt 48) * v1) + ((Int32.ofInt 4) * v2)) + (Int32.ofInt 3)).toNatClampNeg)) J L).1) (Int64.ofNat 1)) = 0 then 58 else 60, [(3, .int (((Int32.ofInt 48) * v1) + ((Int32.ofInt 4) * v2))), (0, .ref (p 0)), (1, .int v1), (2, .int v2)], [], me_w (lw M ((x198 p v1 (J (p 2) (((((Int32.ofInt 48) * v1) + ((Int32.ofInt 4) * v2)) + (Int32.ofInt 2)).toNatClampNeg)) (J (p 2) (((((Int32.ofInt 48) * v1) + ((Int32.ofInt 4) * v2)) + (Int32.ofInt 3)).toNatClampNeg)) J L).2.2)) ((x198 p v1 (J (p 2) (((((Int32.ofInt 48) * v1) + ((Int32.ofInt 4) * v2)) + (Int32.ofInt 2)).toNatClampNeg)) (J (p 2) (((((Int32.ofInt 48) * v1) + ((Int32.ofInt 4) * v2)) + (Int32.ofInt 3)).toNatClampNeg)) J L).2.1))) rfl k
        by_cases h55 : (lg_cmp ((x198 p v1 (J (p 2) (((((Int32.ofInt 48) * v1) + ((Int32.ofInt 4) * v2)) + (Int32.ofInt 2)).toNatClampNeg)) (J (p 2) (((((Int32.ofInt 48) * v1) + ((Int32.ofInt 4) * v2)) + (Int32.ofInt 3)).toNatClampNeg)) J L).1) (Int64.ofNat 1)) = 0
        · rw [if_pos h55] at k
          have k := ly_revb 1 (c' := (59, [(3, .int (((Int32.ofInt 48) * v1) + ((Int32.ofInt 4) * v2))), (0, .ref (p 0)), (1, .int v1), (2, .int v2)], [.int (((Int32.ofInt 48) * v1) + ((Int32.ofInt 4) * v2))], me_w (lw M ((x198 p v1 (J (p 2) (((((Int32.ofInt 48) * v1) + ((Int32.ofInt 4) * v2)) + (Int32.ofInt 2)).toNatClampNeg)) (J (p 2) (((((Int32.ofInt 48) * v1) + ((Int32.ofInt 4) * v2)) + (Int32.ofInt 3)).toNatClampNeg)) J L).2.2)) ((x198 p v1 (J (p 2) (((((Int32.ofInt 48) * v1) + ((Int32.ofInt 4) * v2)) + (Int32.ofInt 2)).toNatClampNeg)) (J (p 2) (((((Int32.ofInt 48) * v1) + ((Int32.ofInt 4) * v2)) + (Int32.ofInt 3)).toNatClampNeg)) J L).2.1))) rfl k
          have k := lz_ri rfl (by decide) k
          rw [k, x197_2, if_neg h9, if_neg h29, if_pos h55]
        · rw [if_neg h55] at k
          have k := ly_revb 2 (c' := (2, [(2, .int (v2 + (Int32.ofInt 1))), (3, .int (((Int32.ofInt 48) * v1) + ((Int32.ofInt 4) * v2))), (0, .ref (p 0)), (1, .int v1)], [], me_w (lw M ((x198 p v1 (J (p 2) (((((Int32.ofInt 48) * v1) + ((Int32.ofInt 4) * v2)) + (Int32.ofInt 2)).toNatClampNeg)) (J (p 2) (((((Int32.ofInt 48) * v1) + ((Int32.ofInt 4) * v2)) + (Int32.ofInt 3)).toNatClampNeg)) J L).2.2)) ((x198 p v1 (J (p 2) (((((Int32.ofInt 48) * v1) + ((Int32.ofInt 4) * v2)) + (Int32.ofInt 2)).toNatClampNeg)) (J (p 2) (((((Int32.ofInt 48) * v1) + ((Int32.ofInt 4) * v2)) + (Int32.ofInt 3)).toNatClampNeg)) J L).2.1))) rfl k
          have k := nt_rn_w (a := [(2, .int (v2 + (Int32.ofInt 1))), (3, .int (((Int32.ofInt 48) * v1) + ((Int32.ofInt 4) * v2))), (0, .ref (p 0)), (1, .int v1)]) (b := [(0, .ref (p 0)), (1, .int v1), (2, .int (v2 + (Int32.ofInt 1))), (3, .int (((Int32.ofInt 48) * v1) + ((Int32.ofInt 4) * v2)))]) ⟨rfl, rfl, rfl, rfl, trivial⟩ rfl k
          have k := ih (v2 + (Int32.ofInt 1)) (((Int32.ofInt 48) * v1) + ((Int32.ofInt 4) * v2)) ((x198 p v1 (J (p 2) (((((Int32.ofInt 48) * v1) + ((Int32.ofInt 4) * v2)) + (Int32.ofInt 2)).toNatClampNeg)) (J (p 2) (((((Int32.ofInt 48) * v1) + ((Int32.ofInt 4) * v2)) + (Int32.ofInt 3)).toNatClampNeg)) J L).2.1) ((x198 p v1 (J (p 2) (((((Int32.ofInt 48) * v1) + ((Int32.ofInt 4) * v2)) + (Int32.ofInt 2)).toNatClampNeg)) (J (p 2) (((((Int32.ofInt 48) * v1) + ((Int32.ofInt 4) * v2)) + (Int32.ofInt 3)).toNatClampNeg)) J L).2.2) (by rw [show ((x198 p v1 (J (p 2) (((((Int32.ofInt 48) * v1) + ((Int32.ofInt 4) * v2)) + (Int32.ofInt 2)).toNatClampNeg)) (J (p 2) (((((Int32.ofInt 48) * v1) + ((Int32.ofInt 4) * v2)) + (Int32.ofInt 3)).toNatClampNeg)) J L).2.1) (p 3) v1.toNatClampNeg = J (p 3) v1.toNatClampNeg from congrFun (x198_frJ  (hp.2.1 3 0 (by omega) (by omega) (by decide))) v1.toNatClampNeg]; exact lx_dec h9 hc) k
          rw [k, x197_2, if_neg h9, if_neg h29, if_neg h55]
theorem x197_2_rule {p : Nat → Nat} {v1 : Int32} {I : Nat → Int32 → (Nat → Nat → Int32) → (Nat → Nat → Int64) → Prop} {Q : Int32 × (Nat → Nat → Int32) × (Nat → Nat → Int64) → Prop} (h0 : ∀ (v2 : Int32) (J : Nat → Nat → Int32) (L : Nat → Nat → Int64), I 0 v2 J L → Q (Int32.ofInt (-1), J, L)) (h1 : ∀ (c : Nat) (v2 : Int32) (J : Nat → Nat → Int32) (L : Nat → Nat → Int64), I (c + 1) v2 J L →
    if (J (p 3) v1.toNatClampNeg) ≤ v2 then (Q (Int32.ofInt (-1), J, L))
    else if (J (p 2) (((((Int32.ofInt 48) * v1) + ((Int32.ofInt 4) * v2)) + (Int32.ofInt 2)).toNatClampNeg)) < 0 then (Q (((Int32.ofInt 48) * v1) + ((Int32.ofInt 4) * v2), J, L))
      else if (lg_cmp ((x198 p v1 (J (p 2) (((((Int32.ofInt 48) * v1) + ((Int32.ofInt 4) * v2)) + (Int32.ofInt 2)).toNatClampNeg)) (J (p 2) (((((Int32.ofInt 48) * v1) + ((Int32.ofInt 4) * v2)) + (Int32.ofInt 3)).toNatClampNeg)) J L).1) (Int64.ofNat 1)) = 0 then (Q (((Int32.ofInt 48) * v1) + ((Int32.ofInt 4) * v2), (x198 p v1 (J (p 2) (((((Int32.ofInt 48) * v1) + ((Int32.ofInt 4) * v2)) + (Int32.ofInt 2)).toNatClampNeg)) (J (p 2) (((((Int32.ofInt 48) * v1) + ((Int32.ofInt 4) * v2)) + (Int32.ofInt 3)).toNatClampNeg)) J L).2.1, (x198 p v1 (J (p 2) (((((Int32.ofInt 48) * v1) + ((Int32.ofInt 4) * v2)) + (Int32.ofInt 2)).toNatClampNeg)) (J (p 2) (((((Int32.ofInt 48) * v1) + ((Int32.ofInt 4) * v2)) + (Int32.ofInt 3)).toNatClampNeg)) J L).2.2))
        else (I c (v2 + (Int32.ofInt 1)) ((x198 p v1 (J (p 2) (((((Int32.ofInt 48) * v1) + ((Int32.ofInt 4) * v2)) + (Int32.ofInt 2)).toNatClampNeg)) (J (p 2) (((((Int32.ofInt 48) * v1) + ((Int32.ofInt 4) * v2)) + (Int32.ofInt 3)).toNatClampNeg)) J L).2.1) ((x198 p v1 (J (p 2) (((((Int32.ofInt 48) * v1) + ((Int32.ofInt 4) * v2)) + (Int32.ofInt 2)).toNatClampNeg)) (J (p 2) (((((Int32.ofInt 48) * v1) + ((Int32.ofInt 4) * v2)) + (Int32.ofInt 3)).toNatClampNeg)) J L).2.2))) : ∀ (c : Nat) (v2 : Int32) (J : Nat → Nat → Int32) (L : Nat → Nat → Int64), I c v2 J L → Q (x197_2 p v1 c v2 J L) := by
  intro c
  induction c with
  | zero =>
    intro v2 J L hi
    rw [x197_2]
    exact h0 v2 J L hi
  | succ c ih =>
    intro v2 J L hi
    have hi := h1 c v2 J L hi
    rw [x197_2]
    by_cases h : (J (p 3) v1.toNatClampNeg) ≤ v2
    · rw [if_pos h] at hi ⊢
      exact hi
    · rw [if_neg h] at hi ⊢
      by_cases h : (J (p 2) (((((Int32.ofInt 48) * v1) + ((Int32.ofInt 4) * v2)) + (Int32.ofInt 2)).toNatClampNeg)) < 0
      · rw [if_pos h] at hi ⊢
        exact hi
      · rw [if_neg h] at hi ⊢
        by_cases h : (lg_cmp ((x198 p v1 (J (p 2) (((((Int32.ofInt 48) * v1) + ((Int32.ofInt 4) * v2)) + (Int32.ofInt 2)).toNatClampNeg)) (J (p 2) (((((Int32.ofInt 48) * v1) + ((Int32.ofInt 4) * v2)) + (Int32.ofInt 3)).toNatClampNeg)) J L).1) (Int64.ofNat 1)) = 0
        · rw [if_pos h] at hi ⊢
          exact hi
        · rw [if_neg h] at hi ⊢
          exact ih _ _ _ hi
def x197 (p : Nat → Nat) (v1 : Int32) (J : Nat → Nat → Int32) (L : Nat → Nat → Int64) : Int32 × (Nat → Nat → Int32) × (Nat → Nat → Int64) := (x197_2 p v1 ((J (p 3) v1.toNatClampNeg).toNatClampNeg) (Int32.ofInt 0) J L)
theorem xt197 {X : nt_X} {d : Nat} {M : nt_M} {o : Option Value × nt_M} {p : Nat → Nat} {v1 : Int32} {J : Nat → Nat → Int32} {L : Nat → Nat → Int64} (hp : xs_P M p) (k : nt_ev X d 197 [.ref (p 0), .int v1] (me_w (lw M L) J) o) : o = (some (.int ((x197 p v1 J L).1)), me_w (lw M ((x197 p v1 J L).2.2)) ((x197 p v1 J L).2.1)) := by
  have k : nt_rn X d 197 (0, [(0, .ref (p 0)), (1, .int v1)], [], me_w (lw M L) J) o := k
  have k := ly_revb 2 (c' := (2, [(2, .int (Int32.ofInt 0)), (0, .ref (p 0)), (1, .int v1)], [], me_w (lw M L) J)) rfl k
  have k := nt_rn_w (a := [(2, .int (Int32.ofInt 0)), (0, .ref (p 0)), (1, .int v1)]) (b := [(0, .ref (p 0)), (1, .int v1), (2, .int (Int32.ofInt 0)), (3, .int (Int32.ofInt 0))]) ⟨rfl, rfl, rfl, trivial⟩ rfl k
  have k := xt197_2 hp  ((J (p 3) v1.toNatClampNeg).toNatClampNeg) (Int32.ofInt 0) (Int32.ofInt 0) J L (lx_beg (by decide)) k
  rw [k, x197]
theorem x197_2_frJ {p : Nat → Nat} {v1 : Int32} {b : Nat} : ∀ (c : Nat) (v2 : Int32) (J : Nat → Nat → Int32) (L : Nat → Nat → Int64), b ≠ p 0 → (x197_2 p v1 c v2 J L).2.1 b = J b := by
  intro c
  induction c with
  | zero =>
    intro v2 J L n0
    rw [x197_2]
    all_goals first | (dsimp only; exact (show J b = J b from rfl)) | exact (show J b = J b from rfl)
  | succ c ih =>
    intro v2 J L n0
    rw [x197_2]
    by_cases h : (J (p 3) v1.toNatClampNeg) ≤ v2
    · rw [if_pos h]
      all_goals first | (dsimp only; exact (show J b = J b from rfl)) | exact (show J b = J b from rfl)
    · rw [if_neg h]
      by_cases h : (J (p 2) (((((Int32.ofInt 48) * v1) + ((Int32.ofInt 4) * v2)) + (Int32.ofInt 2)).toNatClampNeg)) < 0
      · rw [if_pos h]
        all_goals first | (dsimp only; exact (show J b = J b from rfl)) | exact (show J b = J b from rfl)
      · rw [if_neg h]
        by_cases h : (lg_cmp ((x198 p v1 (J (p 2) (((((Int32.ofInt 48) * v1) + ((Int32.ofInt 4) * v2)) + (Int32.ofInt 2)).toNatClampNeg)) (J (p 2) (((((Int32.ofInt 48) * v1) + ((Int32.ofInt 4) * v2)) + (Int32.ofInt 3)).toNatClampNeg)) J L).1) (Int64.ofNat 1)) = 0
        · rw [if_pos h]
          all_goals first | (dsimp only; exact (show ((x198 p v1 (J (p 2) (((((Int32.ofInt 48) * v1) + ((Int32.ofInt 4) * v2)) + (Int32.ofInt 2)).toNatClampNeg)) (J (p 2) (((((Int32.ofInt 48) * v1) + ((Int32.ofInt 4) * v2)) + (Int32.ofInt 3)).toNatClampNeg)) J L).2.1) b = J b from x198_frJ  n0)) | exact (show ((x198 p v1 (J (p 2) (((((Int32.ofInt 48) * v1) + ((Int32.ofInt 4) * v2)) + (Int32.ofInt 2)).toNatClampNeg)) (J (p 2) (((((Int32.ofInt 48) * v1) + ((Int32.ofInt 4) * v2)) + (Int32.ofInt 3)).toNatClampNeg)) J L).2.1) b = J b from x198_frJ  n0)
        · rw [if_neg h]
          exact (ih _ _ _ n0).trans (x198_frJ  n0)
theorem x197_frJ {p : Nat → Nat} {v1 : Int32} {J : Nat → Nat → Int32} {L : Nat → Nat → Int64} {b : Nat} (n0 : b ≠ p 0) : (x197 p v1 J L).2.1 b = J b := by
  unfold x197
  exact (x197_2_frJ _ _ _ _ n0).trans (rfl)
theorem x197_2_frL {p : Nat → Nat} {v1 : Int32} {b : Nat} : ∀ (c : Nat) (v2 : Int32) (J : Nat → Nat → Int32) (L : Nat → Nat → Int64), b ≠ p 5 → (x197_2 p v1 c v2 J L).2.2 b = L b := by
  intro c
  induction c with
  | zero =>
    intro v2 J L n0
    rw [x197_2]
    all_goals first | (dsimp only; exact (show L b = L b from rfl)) | exact (show L b = L b from rfl)
  | succ c ih =>
    intro v2 J L n0
    rw [x197_2]
    by_cases h : (J (p 3) v1.toNatClampNeg) ≤ v2
    · rw [if_pos h]
      all_goals first | (dsimp only; exact (show L b = L b from rfl)) | exact (show L b = L b from rfl)
    · rw [if_neg h]
      by_cases h : (J (p 2) (((((Int32.ofInt 48) * v1) + ((Int32.ofInt 4) * v2)) + (Int32.ofInt 2)).toNatClampNeg)) < 0
      · rw [if_pos h]
        all_goals first | (dsimp only; exact (show L b = L b from rfl)) | exact (show L b = L b from rfl)
      · rw [if_neg h]
        by_cases h : (lg_cmp ((x198 p v1 (J (p 2) (((((Int32.ofInt 48) * v1) + ((Int32.ofInt 4) * v2)) + (Int32.ofInt 2)).toNatClampNeg)) (J (p 2) (((((Int32.ofInt 48) * v1) + ((Int32.ofInt 4) * v2)) + (Int32.ofInt 3)).toNatClampNeg)) J L).1) (Int64.ofNat 1)) = 0
        · rw [if_pos h]
          all_goals first | (dsimp only; exact (show ((x198 p v1 (J (p 2) (((((Int32.ofInt 48) * v1) + ((Int32.ofInt 4) * v2)) + (Int32.ofInt 2)).toNatClampNeg)) (J (p 2) (((((Int32.ofInt 48) * v1) + ((Int32.ofInt 4) * v2)) + (Int32.ofInt 3)).toNatClampNeg)) J L).2.2) b = L b from x198_frL n0)) | exact (show ((x198 p v1 (J (p 2) (((((Int32.ofInt 48) * v1) + ((Int32.ofInt 4) * v2)) + (Int32.ofInt 2)).toNatClampNeg)) (J (p 2) (((((Int32.ofInt 48) * v1) + ((Int32.ofInt 4) * v2)) + (Int32.ofInt 3)).toNatClampNeg)) J L).2.2) b = L b from x198_frL n0)
        · rw [if_neg h]
          exact (ih _ _ _ n0).trans (x198_frL n0)
theorem x197_frL {p : Nat → Nat} {v1 : Int32} {J : Nat → Nat → Int32} {L : Nat → Nat → Int64} {b : Nat} (n0 : b ≠ p 5) : (x197 p v1 J L).2.2 b = L b := by
  unfold x197
  exact (x197_2_frL _ _ _ _ n0).trans (rfl)
/-! Model.taken -/
def x193_9 (p : Nat → Nat) (v1 : Int32) (v2 : Int32) (v3 : Int32) (v4 : Int32) : Nat → Int32 → Int64 → Int32 → (Nat → Nat → Int32) → (Nat → Nat → Int64) → Int32 × (Nat → Nat → Int32) × (Nat → Nat → Int64)
  | 0, v5, v6, v8, J, L => (v5, J, L)
  | c + 1, v5, v6, v8, J, L => if (J (p 4) 2) ≤ v8 then (v5, J, L)
    else if (x194 p v8 v2 v3 J) = 0 then (x193_9 p v1 v2 v3 v4 c v5 v6 (v8 + (Int32.ofInt 1)) J L)
      else if 0 ≤ ((x197 p v1 J (x196 p v8 v2 v4 J L)).1) then if v5 < 0 then (x193_9 p v1 v2 v3 v4 c v8 ((x198 p v1 (J (p 2) (((x197 p v1 J (x196 p v8 v2 v4 J L)).1).toNatClampNeg)) (J (p 2) ((((x197 p v1 J (x196 p v8 v2 v4 J L)).1) + (Int32.ofInt 1)).toNatClampNeg)) ((x197 p v1 J (x196 p v8 v2 v4 J L)).2.1) ((x197 p v1 J (x196 p v8 v2 v4 J L)).2.2)).1) (v8 + (Int32.ofInt 1)) ((x198 p v1 (J (p 2) (((x197 p v1 J (x196 p v8 v2 v4 J L)).1).toNatClampNeg)) (J (p 2) ((((x197 p v1 J (x196 p v8 v2 v4 J L)).1) + (Int32.ofInt 1)).toNatClampNeg)) ((x197 p v1 J (x196 p v8 v2 v4 J L)).2.1) ((x197 p v1 J (x196 p v8 v2 v4 J L)).2.2)).2.1) ((x198 p v1 (J (p 2) (((x197 p v1 J (x196 p v8 v2 v4 J L)).1).toNatClampNeg)) (J (p 2) ((((x197 p v1 J (x196 p v8 v2 v4 J L)).1) + (Int32.ofInt 1)).toNatClampNeg)) ((x197 p v1 J (x196 p v8 v2 v4 J L)).2.1) ((x197 p v1 J (x196 p v8 v2 v4 J L)).2.2)).2.2))
          else if (lg_cmp ((x198 p v1 (J (p 2) (((x197 p v1 J (x196 p v8 v2 v4 J L)).1).toNatClampNeg)) (J (p 2) ((((x197 p v1 J (x196 p v8 v2 v4 J L)).1) + (Int32.ofInt 1)).toNatClampNeg)) ((x197 p v1 J (x196 p v8 v2 v4 J L)).2.1) ((x197 p v1 J (x196 p v8 v2 v4 J L)).2.2)).1) v6) < 0 then (x193_9 p v1 v2 v3 v4 c v8 ((x198 p v1 (J (p 2) (((x197 p v1 J (x196 p v8 v2 v4 J L)).1).toNatClampNeg)) (J (p 2) ((((x197 p v1 J (x196 p v8 v2 v4 J L)).1) + (Int32.ofInt 1)).toNatClampNeg)) ((x197 p v1 J (x196 p v8 v2 v4 J L)).2.1) ((x197 p v1 J (x196 p v8 v2 v4 J L)).2.2)).1) (v8 + (Int32.ofInt 1)) ((x198 p v1 (J (p 2) (((x197 p v1 J (x196 p v8 v2 v4 J L)).1).toNatClampNeg)) (J (p 2) ((((x197 p v1 J (x196 p v8 v2 v4 J L)).1) + (Int32.ofInt 1)).toNatClampNeg)) ((x197 p v1 J (x196 p v8 v2 v4 J L)).2.1) ((x197 p v1 J (x196 p v8 v2 v4 J L)).2.2)).2.1) ((x198 p v1 (J (p 2) (((x197 p v1 J (x196 p v8 v2 v4 J L)).1).toNatClampNeg)) (J (p 2) ((((x197 p v1 J (x196 p v8 v2 v4 J L)).1) + (Int32.ofInt 1)).toNatClampNeg)) ((x197 p v1 J (x196 p v8 v2 v4 J L)).2.1) ((x197 p v1 J (x196 p v8 v2 v4 J L)).2.2)).2.2))
            else (x193_9 p v1 v2 v3 v4 c v5 v6 (v8 + (Int32.ofInt 1)) ((x198 p v1 (J (p 2) (((x197 p v1 J (x196 p v8 v2 v4 J L)).1).toNatClampNeg)) (J (p 2) ((((x197 p v1 J (x196 p v8 v2 v4 J L)).1) + (Int32.ofInt 1)).toNatClampNeg)) ((x197 p v1 J (x196 p v8 v2 v4 J L)).2.1) ((x197 p v1 J (x196 p v8 v2 v4 J L)).2.2)).2.1) ((x198 p v1 (J (p 2) (((x197 p v1 J (x196 p v8 v2 v4 J L)).1).toNatClampNeg)) (J (p 2) ((((x197 p v1 J (x196 p v8 v2 v4 J L)).1) + (Int32.ofInt 1)).toNatClampNeg)) ((x197 p v1 J (x196 p v8 v2 v4 J L)).2.1) ((x197 p v1 J (x196 p v8 v2 v4 J L)).2.2)).2.2))
        else (x193_9 p v1 v2 v3 v4 c v5 v6 (v8 + (Int32.ofInt 1)) ((x197 p v1 J (x196 p v8 v2 v4 J L)).2.1) ((x197 p v1 J (x196 p v8 v2 v4 J L)).2.2))
theorem xt193_9 {X : nt_X} {d : Nat} {M : nt_M} {o : Option Value × nt_M} {p : Nat → Nat} {v1 : Int32} {v2 : Int32} {v3 : Int32} {v4 : Int32} (hp : xs_P M p) : ∀ (c : Nat) (v5 : Int32) (v6 : Int64) (v8 : Int32) (v9 : Int32) (v10 : Int64) (J : Nat → Nat → Int32) (L : Nat → Nat → Int64), (J (p 4) 2).toInt - v8.toInt ≤ c → nt_rn X d 193 (9, [(0, .ref (p 0)), (1, .int v1), (2, .int v2), (3, .int v3), (4, .int v4), (5, .int v5), (6, .long v6), (8, .int v8), (9, .int v9), (10, .long v10)], [], me_w (lw M L) J) o → o = (some (.int ((x193_9 p v1 v2 v3 v4 c v5 v6 v8 J L).1)), me_w (lw M ((x193_9 p v1 v2 v3 v4 c v5 v6 v8 J L).2.2)) ((x193_9 p v1 v2 v3 v4 c v5 v6 v8 J L).2.1)) := by
  intro c
  induction c with
  | zero =>
    intro v5 v6 v8 v9 v10 J L hc k
    have k := ly_revb 2 (c' := (12, [(0, .ref (p 0)), (1, .int v1), (2, .int v2), (3, .int v3), (4, .int v4), (5, .int v5), (6, .long v6), (8, .int v8), (9, .int v9), (10, .long v10)], [.ref (p 0), .int v8], me_w (lw M L) J)) rfl k
    have k := lz_get (a := (p 0)) (g := 1127) (M := me_w (lw M L) J) (v := .ref (p 4)) rfl (nt_gfR rfl (hp.1 (0, 27, 4) (by decide))) k
    have k := ly_revb 1 (c' := (16, [(0, .ref (p 0)), (1, .int v1), (2, .int v2), (3, .int v3), (4, .int v4), (5, .int v5), (6, .long v6), (8, .int v8), (9, .int v9), (10, .long v10)], [.int (Int32.ofInt 2), .ref (p 4), .int v8], me_w (lw M L) J)) rfl k
    have k := mx_iald (v := J (p 4) 2) rfl (hp.2.2.1 4 (by omega)) ((congrArg (J (p 4)) (show (Int32.ofInt 2).toNatClampNeg = 2 from rfl)).trans (rfl)) k
    have k := ly_revb 1 (c' := (if (J (p 4) 2) ≤ v8 then 111 else 20, [(0, .ref (p 0)), (1, .int v1), (2, .int v2), (3, .int v3), (4, .int v4), (5, .int v5), (6, .long v6), (8, .int v8), (9, .int v9), (10, .long v10)], [], me_w (lw M L) J)) rfl k
    have h17 : (J (p 4) 2) ≤ v8 := lx_end hc
    rw [if_pos h17] at k
    have k := ly_revb 1 (c' := (113, [(0, .ref (p 0)), (1, .int v1), (2, .int v2), (3, .int v3), (4, .int v4), (5, .int v5), (6, .long v6), (8, .int v8), (9, .int v9), (10, .long v10)], [.int v5], me_w (lw M L) J)) rfl k
    have k := lz_ri rfl (by decide) k
    rw [k, x193_9]
  | succ c ih =>
    intro v5 v6 v8 v9 v10 J L hc k
    have k := ly_revb 2 (c' := (12, [(0, .ref (p 0)), (1, .int v1), (2, .int v2), (3, .int v3), (4, .int v4), (5, .int v5), (6, .long v6), (8, .int v8), (9, .int v9), (10, .long v10)], [.ref (p 0), .int v8], me_w (lw M L) J)) rfl k
    have k := lz_get (a := (p 0)) (g := 1127) (M := me_w (lw M L) J) (v := .ref (p 4)) rfl (nt_gfR rfl (hp.1 (0, 27, 4) (by decide))) k
    have k := ly_revb 1 (c' := (16, [(0, .ref (p 0)), (1, .int v1), (2, .int v2), (3, .int v3), (4, .int v4), (5, .int v5), (6, .long v6), (8, .int v8), (9, .int v9), (10, .long v10)], [.int (Int32.ofInt 2), .ref (p 4), .int v8], me_w (lw M L) J)) rfl k
    have k := mx_iald (v := J (p 4) 2) rfl (hp.2.2.1 4 (by omega)) ((congrArg (J (p 4)) (show (Int32.ofInt 2).toNatClampNeg = 2 from rfl)).trans (rfl)) k
    have k := ly_revb 1 (c' := (if (J (p 4) 2) ≤ v8 then 111 else 20, [(0, .ref (p 0)), (1, .int v1), (2, .int v2), (3, .int v3), (4, .int v4), (5, .int v5), (6, .long v6), (8, .int v8), (9, .int v9), (10, .long v10)], [], me_w (lw M L) J)) rfl k
    by_cases h17 : (J (p 4) 2) ≤ v8
    · rw [if_pos h17] at k
      have k := ly_revb 1 (c' := (113, [(0, .ref (p 0)), (1, .int v1), (2, .int v2), (3, .int v3), (4, .int v4), (5, .int v5), (6, .long v6), (8, .int v8), (9, .int v9), (10, .long v10)], [.int v5], me_w (lw M L) J)) rfl k
      have k := lz_ri rfl (by decide) k
      rw [k, x193_9, if_pos h17]
    · rw [if_neg h17] at k
      have k := ly_revb 4 (c' := (25, [(0, .ref (p 0)), (1, .int v1), (2, .int v2), (3, .int v3), (4, .int v4), (5, .int v5), (6, .long v6), (8, .int v8), (9, .int v9), (10, .long v10)], [.int v3, .int v2, .int v8, .ref (p 0)], me_w (lw M L) J)) rfl k
      obtain ⟨d1, o1, ed, kc, k⟩ := lz_c (g := 194) (q := 1) (vs := [.ref (p 0), .int v8, .int v2, .int v3]) (rest := []) rfl rfl (by decide) (Or.inr (Or.inl ⟨_, rfl, rfl⟩)) rfl k
      have e1 := xt194 (xs_lp hp) kc
      subst e1
      have k : nt_rn X _ 193 (28, [(0, .ref (p 0)), (1, .int v1), (2, .int v2), (3, .int v3), (4, .int v4), (5, .int v5), (6, .long v6), (8, .int v8), (9, .int v9), (10, .long v10)], [.int (x194 p v8 v2 v3 J)], me_w (lw M L) J) _ := k
      have k := ly_revb 1 (c' := (if (x194 p v8 v2 v3 J) = 0 then 31 else 34, [(0, .ref (p 0)), (1, .int v1), (2, .int v2), (3, .int v3), (4, .int v4), (5, .int v5), (6, .long v6), (8, .int v8), (9, .int v9), (10, .long v10)], [], me_w (lw M L) J)) rfl k
      by_cases h28 : (x194 p v8 v2 v3 J) = 0
      · rw [if_pos h28] at k
        have k := ly_revb 3 (c' := (9, [(8, .int (v8 + (Int32.ofInt 1))), (0, .ref (p 0)), (1, .int v1), (2, .int v2), (3, .int v3), (4, .int v4), (5, .int v5), (6, .long v6), (9, .int v9), (10, .long v10)], [], me_w (lw M L) J)) rfl k
        have k := nt_rn_w (a := [(8, .int (v8 + (Int32.ofInt 1))), (0, .ref (p 0)), (1, .int v1), (2, .int v2), (3, .int v3), (4, .int v4), (5, .int v5), (6, .long v6), (9, .int v9), (10, .long v10)]) (b := [(0, .ref (p 0)), (1, .int v1), (2, .int v2), (3, .int v3), (4, .int v4), (5, .int v5), (6, .long v6), (8, .int (v8 + (Int32.ofInt 1))), (9, .int v9), (10, .long v10)]) ⟨rfl, rfl, rfl, rfl, rfl, rfl, rfl, rfl, rfl, rfl, trivial⟩ rfl k
        have k := ih v5 v6 (v8 + (Int32.ofInt 1)) v9 v10 J L (lx_dec h17 hc) k
        rw [k, x193_9, if_neg h17, if_pos h28]
      · rw [if_neg h28] at k
        have k := ly_revb 4 (c' := (40, [(0, .ref (p 0)), (1, .int v1), (2, .int v2), (3, .int v3), (4, .int v4), (5, .int v5), (6, .long v6), (8, .int v8), (9, .int v9), (10, .long v10)], [.int v4, .int v2, .int v8, .ref (p 0)], me_w (lw M L) J)) rfl k
        obtain ⟨d1, o1, ed, kc, k⟩ := lz_c (g := 196) (q := 1) (vs := [.ref (p 0), .int v8, .int v2, .int v4]) (rest := []) rfl rfl (by decide) (Or.inr (Or.inl ⟨_, rfl, rfl⟩)) rfl k
        have e1 := xt196 hp kc
        subst e1
        have k : nt_rn X _ 193 (43, [(0, .ref (p 0)), (1, .int v1), (2, .int v2), (3, .int v3), (4, .int v4), (5, .int v5), (6, .long v6), (8, .int v8), (9, .int v9), (10, .long v10)], [], me_w (lw M (x196 p v8 v2 v4 J L)) J) _ := k
        have k := ly_revb 2 (c' := (45, [(0, .ref (p 0)), (1, .int v1), (2, .int v2), (3, .int v3), (4, .int v4), (5, .int v5), (6, .long v6), (8, .int v8), (9, .int v9), (10, .long v10)], [.int v1, .ref (p 0)], me_w (lw M (x196 p v8 v2 v4 J L)) J)) rfl k
        obtain ⟨d1, o1, ed, kc, k⟩ := lz_c (g := 197) (q := 1) (vs := [.ref (p 0), .int v1]) (rest := []) rfl rfl (by decide) (Or.inr (Or.inl ⟨_, rfl, rfl⟩)) rfl k
        have e1 := xt197 hp kc
        subst e1
        have k : nt_rn X _ 193 (48, [(0, .ref (p 0)), (1, .int v1), (2, .int v2), (3, .int v3), (4, .int v4), (5, .int v5), (6, .long v6), (8, .int v8), (9, .int v9), (10, .long v10)], [.int ((x197 p v1 J (x196 p v8 v2 v4 J L)).1)], me_w (lw M ((x197 p v1 J (x196 p v8 v2 v4 J L)).2.2)) ((x197 p v1 J (x196 p v8 v2 v4 J L)).2.1)) _ := k
        have k := ly_revb 3 (c' := (if 0 ≤ ((x197 p v1 J (x196 p v8 v2 v4 J L)).1) then 58 else 55, [(9, .int ((x197 p v1 J (x196 p v8 v2 v4 J L)).1)), (0, .ref (p 0)), (1, .int v1), (2, .int v2), (3, .int v3), (4, .int v4), (5, .int v5), (6, .long v6), (8, .int v8), (10, .long v10)], [], me_w (lw M ((x197 p v1 J (x196 p v8 v2 v4 J L)).2.2)) ((x197 p v1 J (x196 p v8 v2 v4 J L)).2.1))) rfl k
        by_cases h52 : 0 ≤ ((x197 p v1 J (x196 p v8 v2 v4 J L)).1)
        · rw [if_pos h52] at k
          have k := ly_revb 3 (c' := (61, [(9, .int ((x197 p v1 J (x196 p v8 v2 v4 J L)).1)), (0, .ref (p 0)), (1, .int v1), (2, .int v2), (3, .int v3), (4, .int v4), (5, .int v5), (6, .long v6), (8, .int v8), (10, .long v10)], [.ref (p 0), .int v1, .ref (p 0)], me_w (lw M ((x197 p v1 J (x196 p v8 v2 v4 J L)).2.2)) ((x197 p v1 J (x196 p v8 v2 v4 J L)).2.1))) rfl k
          have k := lz_get (a := (p 0)) (g := 1105) (M := me_w (lw M ((x197 p v1 J (x196 p v8 v2 v4 J L)).2.2)) ((x197 p v1 J (x196 p v8 v2 v4 J L)).2.1)) (v := .ref (p 2)) rfl (nt_gfR rfl (hp.1 (0, 5, 2) (by decide))) k
          have k := ly_revb 1 (c' := (66, [(9, .int ((x197 p v1 J (x196 p v8 v2 v4 J L)).1)), (0, .ref (p 0)), (1, .int v1), (2, .int v2), (3, .int v3), (4, .int v4), (5, .int v5), (6, .long v6), (8, .int v8), (10, .long v10)], [.int ((x197 p v1 J (x196 p v8 v2 v4 J L)).1), .ref (p 2), .int v1, .ref (p 0)], me_w (lw M ((x197 p v1 J (x196 p v8 v2 v4 J L)).2.2)) ((x197 p v1 J (x196 p v8 v2 v4 J L)).2.1))) rfl k
          have k := mx_iald (v := J (p 2) (((x197 p v1 J (x196 p v8 v2 v4 J L)).1).toNatClampNeg)) rfl (hp.2.2.1 2 (by omega)) (congrFun (x197_frJ  (hp.2.1 2 0 (by omega) (by omega) (by decide))) (((x197 p v1 J (x196 p v8 v2 v4 J L)).1).toNatClampNeg)) k
          have k := ly_revb 1 (c' := (68, [(9, .int ((x197 p v1 J (x196 p v8 v2 v4 J L)).1)), (0, .ref (p 0)), (1, .int v1), (2, .int v2), (3, .int v3), (4, .int v4), (5, .int v5), (6, .long v6), (8, .int v8), (10, .long v10)], [.ref (p 0), .int (J (p 2) (((x197 p v1 J (x196 p v8 v2 v4 J L)).1).toNatClampNeg)), .int v1, .ref (p 0)], me_w (lw M ((x197 p v1 J (x196 p v8 v2 v4 J L)).2.2)) ((x197 p v1 J (x196 p v8 v2 v4 J L)).2.1))) rfl k
          have k := lz_get (a := (p 0)) (g := 1105) (M := me_w (lw M ((x197 p v1 J (x196 p v8 v2 v4 J L)).2.2)) ((x197 p v1 J (x196 p v8 v2 v4 J L)).2.1)) (v := .ref (p 2)) rfl (nt_gfR rfl (hp.1 (0, 5, 2) (by decide))) k
          have k := ly_revb 3 (c' := (75, [(9, .int ((x197 p v1 J (x196 p v8 v2 v4 J L)).1)), (0, .ref (p 0)), (1, .int v1), (2, .int v2), (3, .int v3), (4, .int v4), (5, .int v5), (6, .long v6), (8, .int v8), (10, .long v10)], [.int (((x197 p v1 J (x196 p v8 v2 v4 J L)).1) + (Int32.ofInt 1)), .ref (p 2), .int (J (p 2) (((x197 p v1 J (x196 p v8 v2 v4 J L)).1).toNatClampNeg)), .int v1, .ref (p 0)], me_w (lw M ((x197 p v1 J (x196 p v8 v2 v4 J L)).2.2)) ((x197 p v1 J (x196 p v8 v2 v4 J L)).2.1))) rfl k
          have k := mx_iald (v := J (p 2) ((((x197 p v1 J (x196 p v8 v2 v4 J L)).1) + (Int32.ofInt 1)).toNatClampNeg)) rfl (hp.2.2.1 2 (by omega)) (congrFun (x197_frJ  (hp.2.1 2 0 (by omega) (by omega) (by decide))) ((((x197 p v1 J (x196 p v8 v2 v4 J L)).1) + (Int32.ofInt 1)).toNatClampNeg)) k
          obtain ⟨d1, o1, ed, kc, k⟩ := lz_c (g := 198) (q := 1) (vs := [.ref (p 0), .int v1, .int (J (p 2) (((x197 p v1 J (x196 p v8 v2 v4 J L)).1).toNatClampNeg)), .int (J (p 2) ((((x197 p v1 J (x196 p v8 v2 v4 J L)).1) + (Int32.ofInt 1)).toNatClampNeg))]) (rest := []) rfl rfl (by decide) (Or.inr (Or.inl ⟨_, rfl, rfl⟩)) rfl k
          have e1 := xt198 hp kc
          subst e1
          have k : nt_rn X _ 193 (79, [(9, .int ((x197 p v1 J (x196 p v8 v2 v4 J L)).1)), (0, .ref (p 0)), (1, .int v1), (2, .int v2), (3, .int v3), (4, .int v4), (5, .int v5), (6, .long v6), (8, .int v8), (10, .long v10)], [.long ((x198 p v1 (J (p 2) (((x197 p v1 J (x196 p v8 v2 v4 J L)).1).toNatClampNeg)) (J (p 2) ((((x197 p v1 J (x196 p v8 v2 v4 J L)).1) + (Int32.ofInt 1)).toNatClampNeg)) ((x197 p v1 J (x196 p v8 v2 v4 J L)).2.1) ((x197 p v1 J (x196 p v8 v2 v4 J L)).2.2)).1)], me_w (lw M ((x198 p v1 (J (p 2) (((x197 p v1 J (x196 p v8 v2 v4 J L)).1).toNatClampNeg)) (J (p 2) ((((x197 p v1 J (x196 p v8 v2 v4 J L)).1) + (Int32.ofInt 1)).toNatClampNeg)) ((x197 p v1 J (x196 p v8 v2 v4 J L)).2.1) ((x197 p v1 J (x196 p v8 v2 v4 J L)).2.2)).2.2)) ((x198 p v1 (J (p 2) (((x197 p v1 J (x196 p v8 v2 v4 J L)).1).toNatClampNeg)) (J (p 2) ((((x197 p v1 J (x196 p v8 v2 v4 J L)).1) + (Int32.ofInt 1)).toNatClampNeg)) ((x197 p v1 J (x196 p v8 v2 v4 J L)).2.1) ((x197 p v1 J (x196 p v8 v2 v4 J L)).2.2)).2.1)) _ := k
          have k := ly_revb 3 (c' := (if v5 < 0 then 97 else 86, [(10, .long ((x198 p v1 (J (p 2) (((x197 p v1 J (x196 p v8 v2 v4 J L)).1).toNatClampNeg)) (J (p 2) ((((x197 p v1 J (x196 p v8 v2 v4 J L)).1) + (Int32.ofInt 1)).toNatClampNeg)) ((x197 p v1 J (x196 p v8 v2 v4 J L)).2.1) ((x197 p v1 J (x196 p v8 v2 v4 J L)).2.2)).1)), (9, .int ((x197 p v1 J (x196 p v8 v2 v4 J L)).1)), (0, .ref (p 0)), (1, .int v1), (2, .int v2), (3, .int v3), (4, .int v4), (5, .int v5), (6, .long v6), (8, .int v8)], [], me_w (lw M ((x198 p v1 (J (p 2) (((x197 p v1 J (x196 p v8 v2 v4 J L)).1).toNatClampNeg)) (J (p 2) ((((x197 p v1 J (x196 p v8 v2 v4 J L)).1) + (Int32.ofInt 1)).toNatClampNeg)) ((x197 p v1 J (x196 p v8 v2 v4 J L)).2.1) ((x197 p v1 J (x196 p v8 v2 v4 J L)).2.2)).2.2)) ((x198 p v1 (J (p 2) (((x197 p v1 J (x196 p v8 v2 v4 J L)).1).toNatClampNeg)) (J (p 2) ((((x197 p v1 J (x196 p v8 v2 v4 J L)).1) + (Int32.ofInt 1)).toNatClampNeg)) ((x197 p v1 J (x196 p v8 v2 v4 J L)).2.1) ((x197 p v1 J (x196 p v8 v2 v4 J L)).2.2)).2.1))) rfl k
          by_cases h83 : v5 < 0
          · rw [if_pos h83] at k
            have k := ly_revb 6 (c' := (9, [(8, .int (v8 + (Int32.ofInt 1))), (6, .long ((x198 p v1 (J (p 2) (((x197 p v1 J (x196 p v8 v2 v4 J L)).1).toNatClampNeg)) (J (p 2) ((((x197 p v1 J (x196 p v8 v2 v4 J L)).1) + (Int32.ofInt 1)).toNatClampNeg)) ((x197 p v1 J (x196 p v8 v2 v4 J L)).2.1) ((x197 p v1 J (x196 p v8 v2 v4 J L)).2.2)).1)), (5, .int v8), (10, .long ((x198 p v1 (J (p 2) (((x197 p v1 J (x196 p v8 v2 v4 J L)).1).toNatClampNeg)) (J (p 2) ((((x197 p v1 J (x196 p v8 v2 v4 J L)).1) + (Int32.ofInt 1)).toNatClampNeg)) ((x197 p v1 J (x196 p v8 v2 v4 J L)).2.1) ((x197 p v1 J (x196 p v8 v2 v4 J L)).2.2)).1)), (9, .int ((x197 p v1 J (x196 p v8 v2 v4 J L)).1)), (0, .ref (p 0)), (1, .int v1), (2, .int v2), (3, .int v3), (4, .int v4)], [], me_w (lw M ((x198 p v1 (J (p 2) (((x197 p v1 J (x196 p v8 v2 v4 J L)).1).toNatClampNeg)) (J (p 2) ((((x197 p v1 J (x196 p v8 v2 v4 J L)).1) + (Int32.ofInt 1)).toNatClampNeg)) ((x197 p v1 J (x196 p v8 v2 v4 J L)).2.1) ((x197 p v1 J (x196 p v8 v2 v4 J L)).2.2)).2.2)) ((x198 p v1 (J (p 2) (((x197 p v1 J (x196 p v8 v2 v4 J L)).1).toNatClampNeg)) (J (p 2) ((((x197 p v1 J (x196 p v8 v2 v4 J L)).1) + (Int32.ofInt 1)).toNatClampNeg)) ((x197 p v1 J (x196 p v8 v2 v4 J L)).2.1) ((x197 p v1 J (x196 p v8 v2 v4 J L)).2.2)).2.1))) rfl k
            have k := nt_rn_w (a := [(8, .int (v8 + (Int32.ofInt 1))), (6, .long ((x198 p v1 (J (p 2) (((x197 p v1 J (x196 p v8 v2 v4 J L)).1).toNatClampNeg)) (J (p 2) ((((x197 p v1 J (x196 p v8 v2 v4 J L)).1) + (Int32.ofInt 1)).toNatClampNeg)) ((x197 p v1 J (x196 p v8 v2 v4 J L)).2.1) ((x197 p v1 J (x196 p v8 v2 v4 J L)).2.2)).1)), (5, .int v8), (10, .long ((x198 p v1 (J (p 2) (((x197 p v1 J (x196 p v8 v2 v4 J L)).1).toNatClampNeg)) (J (p 2) ((((x197 p v1 J (x196 p v8 v2 v4 J L)).1) + (Int32.ofInt 1)).toNatClampNeg)) ((x197 p v1 J (x196 p v8 v2 v4 J L)).2.1) ((x197 p v1 J (x196 p v8 v2 v4 J L)).2.2)).1)), (9, .int ((x197 p v1 J (x196 p v8 v2 v4 J L)).1)), (0, .ref (p 0)), (1, .int v1), (2, .int v2), (3, .int v3), (4, .int v4)]) (b := [(0, .ref (p 0)), (1, .int v1), (2, .int v2), (3, .int v3), (4, .int v4), (5, .int v8), (6, .long ((x198 p v1 (J (p 2) (((x197 p v1 J (x196 p v8 v2 v4 J L)).1).toNatClampNeg)) (J (p 2) ((((x197 p v1 J (x196 p v8 v2 v4 J L)).1) + (Int32.ofInt 1)).toNatClampNeg)) ((x197 p v1 J (x196 p v8 v2 v4 J L)).2.1) ((x197 p v1 J (x196 p v8 v2 v4 J L)).2.2)).1)), (8, .int (v8 + (Int32.ofInt 1))), (9, .int ((x197 p v1 J (x196 p v8 v2 v4 J L)).1)), (10, .long ((x198 p v1 (J (p 2) (((x197 p v1 J (x196 p v8 v2 v4 J L)).1).toNatClampNeg)) (J (p 2) ((((x197 p v1 J (x196 p v8 v2 v4 J L)).1) + (Int32.ofInt 1)).toNatClampNeg)) ((x197 p v1 J (x196 p v8 v2 v4 J L)).2.1) ((x197 p v1 J (x196 p v8 v2 v4 J L)).2.2)).1))]) ⟨rfl, rfl, rfl, rfl, rfl, rfl, rfl, rfl, rfl, rfl, trivial⟩ rfl k
            have k := ih v8 ((x198 p v1 (J (p 2) (((x197 p v1 J (x196 p v8 v2 v4 J L)).1).toNatClampNeg)) (J (p 2) ((((x197 p v1 J (x196 p v8 v2 v4 J L)).1) + (Int32.ofInt 1)).toNatClampNeg)) ((x197 p v1 J (x196 p v8 v2 v4 J L)).2.1) ((x197 p v1 J (x196 p v8 v2 v4 J L)).2.2)).1) (v8 + (Int32.ofInt 1)) ((x197 p v1 J (x196 p v8 v2 v4 J L)).1) ((x198 p v1 (J (p 2) (((x197 p v1 J (x196 p v8 v2 v4 J L)).1).toNatClampNeg)) (J (p 2) ((((x197 p v1 J (x196 p v8 v2 v4 J L)).1) + (Int32.ofInt 1)).toNatClampNeg)) ((x197 p v1 J (x196 p v8 v2 v4 J L)).2.1) ((x197 p v1 J (x196 p v8 v2 v4 J L)).2.2)).1) ((x198 p v1 (J (p 2) (((x197 p v1 J (x196 p v8 v2 v4 J L)).1).toNatClampNeg)) (J (p 2) ((((x197 p v1 J (x196 p v8 v2 v4 J L)).1) + (Int32.ofInt 1)).toNatClampNeg)) ((x197 p v1 J (x196 p v8 v2 v4 J L)).2.1) ((x197 p v1 J (x196 p v8 v2 v4 J L)).2.2)).2.1) ((x198 p v1 (J (p 2) (((x197 p v1 J (x196 p v8 v2 v4 J L)).1).toNatClampNeg)) (J (p 2) ((((x197 p v1 J (x196 p v8 v2 v4 J L)).1) + (Int32.ofInt 1)).toNatClampNeg)) ((x197 p v1 J (x196 p v8 v2 v4 J L)).2.1) ((x197 p v1 J (x196 p v8 v2 v4 J L)).2.2)).2.2) (by rw [show ((x198 p v1 (J (p 2) (((x197 p v1 J (x196 p v8 v2 v4 J L)).1).toNatClampNeg)) (J (p 2) ((((x197 p v1 J (x196 p v8 v2 v4 J L)).1) + (Int32.ofInt 1)).toNatClampNeg)) ((x197 p v1 J (x196 p v8 v2 v4 J L)).2.1) ((x197 p v1 J (x196 p v8 v2 v4 J L)).2.2)).2.1) (p 4) 2 = J (p 4) 2 from (congrFun (x198_frJ  (hp.2.1 4 0 (by omega) (by omega) (by decide))) 2).trans (congrFun (x197_frJ  (hp.2.1 4 0 (by omega) (by omega) (by decide))) 2)]; exact lx_dec h17 hc) k
            rw [k, x193_9, if_neg h17, if_neg h28, if_pos h52, if_pos h83]
          · rw [if_neg h83] at k
            have k := ly_revb 4 (c' := (if (lg_cmp ((x198 p v1 (J (p 2) (((x197 p v1 J (x196 p v8 v2 v4 J L)).1).toNatClampNeg)) (J (p 2) ((((x197 p v1 J (x196 p v8 v2 v4 J L)).1) + (Int32.ofInt 1)).toNatClampNeg)) ((x197 p v1 J (x196 p v8 v2 v4 J L)).2.1) ((x197 p v1 J (x196 p v8 v2 v4 J L)).2.2)).1) v6) < 0 then 97 else 94, [(10, .long ((x198 p v1 (J (p 2) (((x197 p v1 J (x196 p v8 v2 v4 J L)).1).toNatClampNeg)) (J (p 2) ((((x197 p v1 J (x196 p v8 v2 v4 J L)).1) + (Int32.ofInt 1)).toNatClampNeg)) ((x197 p v1 J (x196 p v8 v2 v4 J L)).2.1) ((x197 p v1 J (x196 p v8 v2 v4 J L)).2.2)).1)), (9, .int ((x197 p v1 J (x196 p v8 v2 v4 J L)).1)), (0, .ref (p 0)), (1, .int v1), (2, .int v2), (3, .int v3), (4, .int v4), (5, .int v5), (6, .long v6), (8, .int v8)], [], me_w (lw M ((x198 p v1 (J (p 2) (((x197 p v1 J (x196 p v8 v2 v4 J L)).1).toNatClampNeg)) (J (p 2) ((((x197 p v1 J (x196 p v8 v2 v4 J L)).1) + (Int32.ofInt 1)).toNatClampNeg)) ((x197 p v1 J (x196 p v8 v2 v4 J L)).2.1) ((x197 p v1 J (x196 p v8 v2 v4 J L)).2.2)).2.2)) ((x198 p v1 (J (p 2) (((x197 p v1 J (x196 p v8 v2 v4 J L)).1).toNatClampNeg)) (J (p 2) ((((x197 p v1 J (x196 p v8 v2 v4 J L)).1) + (Int32.ofInt 1)).toNatClampNeg)) ((x197 p v1 J (x196 p v8 v2 v4 J L)).2.1) ((x197 p v1 J (x196 p v8 v2 v4 J L)).2.2)).2.1))) rfl k
            by_cases h91 : (lg_cmp ((x198 p v1 (J (p 2) (((x197 p v1 J (x196 p v8 v2 v4 J L)).1).toNatClampNeg)) (J (p 2) ((((x197 p v1 J (x196 p v8 v2 v4 J L)).1) + (Int32.ofInt 1)).toNatClampNeg)) ((x197 p v1 J (x196 p v8 v2 v4 J L)).2.1) ((x197 p v1 J (x196 p v8 v2 v4 J L)).2.2)).1) v6) < 0
            · rw [if_pos h91] at k
              have k := ly_revb 6 (c' := (9, [(8, .int (v8 + (Int32.ofInt 1))), (6, .long ((x198 p v1 (J (p 2) (((x197 p v1 J (x196 p v8 v2 v4 J L)).1).toNatClampNeg)) (J (p 2) ((((x197 p v1 J (x196 p v8 v2 v4 J L)).1) + (Int32.ofInt 1)).toNatClampNeg)) ((x197 p v1 J (x196 p v8 v2 v4 J L)).2.1) ((x197 p v1 J (x196 p v8 v2 v4 J L)).2.2)).1)), (5, .int v8), (10, .long ((x198 p v1 (J (p 2) (((x197 p v1 J (x196 p v8 v2 v4 J L)).1).toNatClampNeg)) (J (p 2) ((((x197 p v1 J (x196 p v8 v2 v4 J L)).1) + (Int32.ofInt 1)).toNatClampNeg)) ((x197 p v1 J (x196 p v8 v2 v4 J L)).2.1) ((x197 p v1 J (x196 p v8 v2 v4 J L)).2.2)).1)), (9, .int ((x197 p v1 J (x196 p v8 v2 v4 J L)).1)), (0, .ref (p 0)), (1, .int v1), (2, .int v2), (3, .int v3), (4, .int v4)], [], me_w (lw M ((x198 p v1 (J (p 2) (((x197 p v1 J (x196 p v8 v2 v4 J L)).1).toNatClampNeg)) (J (p 2) ((((x197 p v1 J (x196 p v8 v2 v4 J L)).1) + (Int32.ofInt 1)).toNatClampNeg)) ((x197 p v1 J (x196 p v8 v2 v4 J L)).2.1) ((x197 p v1 J (x196 p v8 v2 v4 J L)).2.2)).2.2)) ((x198 p v1 (J (p 2) (((x197 p v1 J (x196 p v8 v2 v4 J L)).1).toNatClampNeg)) (J (p 2) ((((x197 p v1 J (x196 p v8 v2 v4 J L)).1) + (Int32.ofInt 1)).toNatClampNeg)) ((x197 p v1 J (x196 p v8 v2 v4 J L)).2.1) ((x197 p v1 J (x196 p v8 v2 v4 J L)).2.2)).2.1))) rfl k
              have k := nt_rn_w (a := [(8, .int (v8 + (Int32.ofInt 1))), (6, .long ((x198 p v1 (J (p 2) (((x197 p v1 J (x196 p v8 v2 v4 J L)).1).toNatClampNeg)) (J (p 2) ((((x197 p v1 J (x196 p v8 v2 v4 J L)).1) + (Int32.ofInt 1)).toNatClampNeg)) ((x197 p v1 J (x196 p v8 v2 v4 J L)).2.1) ((x197 p v1 J (x196 p v8 v2 v4 J L)).2.2)).1)), (5, .int v8), (10, .long ((x198 p v1 (J (p 2) (((x197 p v1 J (x196 p v8 v2 v4 J L)).1).toNatClampNeg)) (J (p 2) ((((x197 p v1 J (x196 p v8 v2 v4 J L)).1) + (Int32.ofInt 1)).toNatClampNeg)) ((x197 p v1 J (x196 p v8 v2 v4 J L)).2.1) ((x197 p v1 J (x196 p v8 v2 v4 J L)).2.2)).1)), (9, .int ((x197 p v1 J (x196 p v8 v2 v4 J L)).1)), (0, .ref (p 0)), (1, .int v1), (2, .int v2), (3, .int v3), (4, .int v4)]) (b := [(0, .ref (p 0)), (1, .int v1), (2, .int v2), (3, .int v3), (4, .int v4), (5, .int v8), (6, .long ((x198 p v1 (J (p 2) (((x197 p v1 J (x196 p v8 v2 v4 J L)).1).toNatClampNeg)) (J (p 2) ((((x197 p v1 J (x196 p v8 v2 v4 J L)).1) + (Int32.ofInt 1)).toNatClampNeg)) ((x197 p v1 J (x196 p v8 v2 v4 J L)).2.1) ((x197 p v1 J (x196 p v8 v2 v4 J L)).2.2)).1)), (8, .int (v8 + (Int32.ofInt 1))), (9, .int ((x197 p v1 J (x196 p v8 v2 v4 J L)).1)), (10, .long ((x198 p v1 (J (p 2) (((x197 p v1 J (x196 p v8 v2 v4 J L)).1).toNatClampNeg)) (J (p 2) ((((x197 p v1 J (x196 p v8 v2 v4 J L)).1) + (Int32.ofInt 1)).toNatClampNeg)) ((x197 p v1 J (x196 p v8 v2 v4 J L)).2.1) ((x197 p v1 J (x196 p v8 v2 v4 J L)).2.2)).1))]) ⟨rfl, rfl, rfl, rfl, rfl, rfl, rfl, rfl, rfl, rfl, trivial⟩ rfl k
              have k := ih v8 ((x198 p v1 (J (p 2) (((x197 p v1 J (x196 p v8 v2 v4 J L)).1).toNatClampNeg)) (J (p 2) ((((x197 p v1 J (x196 p v8 v2 v4 J L)).1) + (Int32.ofInt 1)).toNatClampNeg)) ((x197 p v1 J (x196 p v8 v2 v4 J L)).2.1) ((x197 p v1 J (x196 p v8 v2 v4 J L)).2.2)).1) (v8 + (Int32.ofInt 1)) ((x197 p v1 J (x196 p v8 v2 v4 J L)).1) ((x198 p v1 (J (p 2) (((x197 p v1 J (x196 p v8 v2 v4 J L)).1).toNatClampNeg)) (J (p 2) ((((x197 p v1 J (x196 p v8 v2 v4 J L)).1) + (Int32.ofInt 1)).toNatClampNeg)) ((x197 p v1 J (x196 p v8 v2 v4 J L)).2.1) ((x197 p v1 J (x196 p v8 v2 v4 J L)).2.2)).1) ((x198 p v1 (J (p 2) (((x197 p v1 J (x196 p v8 v2 v4 J L)).1).toNatClampNeg)) (J (p 2) ((((x197 p v1 J (x196 p v8 v2 v4 J L)).1) + (Int32.ofInt 1)).toNatClampNeg)) ((x197 p v1 J (x196 p v8 v2 v4 J L)).2.1) ((x197 p v1 J (x196 p v8 v2 v4 J L)).2.2)).2.1) ((x198 p v1 (J (p 2) (((x197 p v1 J (x196 p v8 v2 v4 J L)).1).toNatClampNeg)) (J (p 2) ((((x197 p v1 J (x196 p v8 v2 v4 J L)).1) + (Int32.ofInt 1)).toNatClampNeg)) ((x197 p v1 J (x196 p v8 v2 v4 J L)).2.1) ((x197 p v1 J (x196 p v8 v2 v4 J L)).2.2)).2.2) (by rw [show ((x198 p v1 (J (p 2) (((x197 p v1 J (x196 p v8 v2 v4 J L)).1).toNatClampNeg)) (J (p 2) ((((x197 p v1 J (x196 p v8 v2 v4 J L)).1) + (Int32.ofInt 1)).toNatClampNeg)) ((x197 p v1 J (x196 p v8 v2 v4 J L)).2.1) ((x197 p v1 J (x196 p v8 v2 v4 J L)).2.2)).2.1) (p 4) 2 = J (p 4) 2 from (congrFun (x198_frJ  (hp.2.1 4 0 (by omega) (by omega) (by decide))) 2).trans (congrFun (x197_frJ  (hp.2.1 4 0 (by omega) (by omega) (by decide))) 2)]; exact lx_dec h17 hc) k
              rw [k, x193_9, if_neg h17, if_neg h28, if_pos h52, if_neg h83, if_pos h91]
            · rw [if_neg h91] at k
              have k := ly_revb 3 (c' := (9, [(8, .int (v8 + (Int32.ofInt 1))), (10, .long ((x198 p v1 (J (p 2) (((x197 p v1 J (x196 p v8 v2 v4 J L)).1).toNatClampNeg)) (J (p 2) ((((x197 p v1 J (x196 p v8 v2 v4 J L)).1) + (Int32.ofInt 1)).toNatClampNeg)) ((x197 p v1 J (x196 p v8 v2 v4 J L)).2.1) ((x197 p v1 J (x196 p v8 v2 v4 J L)).2.2)).1)), (9, .int ((x197 p v1 J (x196 p v8 v2 v4 J L)).1)), (0, .ref (p 0)), (1, .int v1), (2, .int v2), (3, .int v3), (4, .int v4), (5, .int v5), (6, .long v6)], [], me_w (lw M ((x198 p v1 (J (p 2) (((x197 p v1 J (x196 p v8 v2 v4 J L)).1).toNatClampNeg)) (J (p 2) ((((x197 p v1 J (x196 p v8 v2 v4 J L)).1) + (Int32.ofInt 1)).toNatClampNeg)) ((x197 p v1 J (x196 p v8 v2 v4 J L)).2.1) ((x197 p v1 J (x196 p v8 v2 v4 J L)).2.2)).2.2)) ((x198 p v1 (J (p 2) (((x197 p v1 J (x196 p v8 v2 v4 J L)).1).toNatClampNeg)) (J (p 2) ((((x197 p v1 J (x196 p v8 v2 v4 J L)).1) + (Int32.ofInt 1)).toNatClampNeg)) ((x197 p v1 J (x196 p v8 v2 v4 J L)).2.1) ((x197 p v1 J (x196 p v8 v2 v4 J L)).2.2)).2.1))) rfl k
              have k := nt_rn_w (a := [(8, .int (v8 + (Int32.ofInt 1))), (10, .long ((x198 p v1 (J (p 2) (((x197 p v1 J (x196 p v8 v2 v4 J L)).1).toNatClampNeg)) (J (p 2) ((((x197 p v1 J (x196 p v8 v2 v4 J L)).1) + (Int32.ofInt 1)).toNatClampNeg)) ((x197 p v1 J (x196 p v8 v2 v4 J L)).2.1) ((x197 p v1 J (x196 p v8 v2 v4 J L)).2.2)).1)), (9, .int ((x197 p v1 J (x196 p v8 v2 v4 J L)).1)), (0, .ref (p 0)), (1, .int v1), (2, .int v2), (3, .int v3), (4, .int v4), (5, .int v5), (6, .long v6)]) (b := [(0, .ref (p 0)), (1, .int v1), (2, .int v2), (3, .int v3), (4, .int v4), (5, .int v5), (6, .long v6), (8, .int (v8 + (Int32.ofInt 1))), (9, .int ((x197 p v1 J (x196 p v8 v2 v4 J L)).1)), (10, .long ((x198 p v1 (J (p 2) (((x197 p v1 J (x196 p v8 v2 v4 J L)).1).toNatClampNeg)) (J (p 2) ((((x197 p v1 J (x196 p v8 v2 v4 J L)).1) + (Int32.ofInt 1)).toNatClampNeg)) ((x197 p v1 J (x196 p v8 v2 v4 J L)).2.1) ((x197 p v1 J (x196 p v8 v2 v4 J L)).2.2)).1))]) ⟨rfl, rfl, rfl, rfl, rfl, rfl, rfl, rfl, rfl, rfl, trivial⟩ rfl k
              have k := ih v5 v6 (v8 + (Int32.ofInt 1)) ((x197 p v1 J (x196 p v8 v2 v4 J L)).1) ((x198 p v1 (J (p 2) (((x197 p v1 J (x196 p v8 v2 v4 J L)).1).toNatClampNeg)) (J (p 2) ((((x197 p v1 J (x196 p v8 v2 v4 J L)).1) + (Int32.ofInt 1)).toNatClampNeg)) ((x197 p v1 J (x196 p v8 v2 v4 J L)).2.1) ((x197 p v1 J (x196 p v8 v2 v4 J L)).2.2)).1) ((x198 p v1 (J (p 2) (((x197 p v1 J (x196 p v8 v2 v4 J L)).1).toNatClampNeg)) (J (p 2) ((((x197 p v1 J (x196 p v8 v2 v4 J L)).1) + (Int32.ofInt 1)).toNatClampNeg)) ((x197 p v1 J (x196 p v8 v2 v4 J L)).2.1) ((x197 p v1 J (x196 p v8 v2 v4 J L)).2.2)).2.1) ((x198 p v1 (J (p 2) (((x197 p v1 J (x196 p v8 v2 v4 J L)).1).toNatClampNeg)) (J (p 2) ((((x197 p v1 J (x196 p v8 v2 v4 J L)).1) + (Int32.ofInt 1)).toNatClampNeg)) ((x197 p v1 J (x196 p v8 v2 v4 J L)).2.1) ((x197 p v1 J (x196 p v8 v2 v4 J L)).2.2)).2.2) (by rw [show ((x198 p v1 (J (p 2) (((x197 p v1 J (x196 p v8 v2 v4 J L)).1).toNatClampNeg)) (J (p 2) ((((x197 p v1 J (x196 p v8 v2 v4 J L)).1) + (Int32.ofInt 1)).toNatClampNeg)) ((x197 p v1 J (x196 p v8 v2 v4 J L)).2.1) ((x197 p v1 J (x196 p v8 v2 v4 J L)).2.2)).2.1) (p 4) 2 = J (p 4) 2 from (congrFun (x198_frJ  (hp.2.1 4 0 (by omega) (by omega) (by decide))) 2).trans (congrFun (x197_frJ  (hp.2.1 4 0 (by omega) (by omega) (by decide))) 2)]; exact lx_dec h17 hc) k
              rw [k, x193_9, if_neg h17, if_neg h28, if_pos h52, if_neg h83, if_neg h91]
        · rw [if_neg h52] at k
          have k := ly_revb 3 (c' := (9, [(8, .int (v8 + (Int32.ofInt 1))), (9, .int ((x197 p v1 J (x196 p v8 v2 v4 J L)).1)), (0, .ref (p 0)), (1, .int v1), (2, .int v2), (3, .int v3), (4, .int v4), (5, .int v5), (6, .long v6), (10, .long v10)], [], me_w (lw M ((x197 p v1 J (x196 p v8 v2 v4 J L)).2.2)) ((x197 p v1 J (x196 p v8 v2 v4 J L)).2.1))) rfl k
          have k := nt_rn_w (a := [(8, .int (v8 + (Int32.ofInt 1))), (9, .int ((x197 p v1 J (x196 p v8 v2 v4 J L)).1)), (0, .ref (p 0)), (1, .int v1), (2, .int v2), (3, .int v3), (4, .int v4), (5, .int v5), (6, .long v6), (10, .long v10)]) (b := [(0, .ref (p 0)), (1, .int v1), (2, .int v2), (3, .int v3), (4, .int v4), (5, .int v5), (6, .long v6), (8, .int (v8 + (Int32.ofInt 1))), (9, .int ((x197 p v1 J (x196 p v8 v2 v4 J L)).1)), (10, .long v10)]) ⟨rfl, rfl, rfl, rfl, rfl, rfl, rfl, rfl, rfl, rfl, trivial⟩ rfl k
          have k := ih v5 v6 (v8 + (Int32.ofInt 1)) ((x197 p v1 J (x196 p v8 v2 v4 J L)).1) v10 ((x197 p v1 J (x196 p v8 v2 v4 J L)).2.1) ((x197 p v1 J (x196 p v8 v2 v4 J L)).2.2) (by rw [show ((x197 p v1 J (x196 p v8 v2 v4 J L)).2.1) (p 4) 2 = J (p 4) 2 from congrFun (x197_frJ  (hp.2.1 4 0 (by omega) (by omega) (by decide))) 2]; exact lx_dec h17 hc) k
          rw [k, x193_9, if_neg h17, if_neg h28, if_neg h52]
theorem x193_9_rule {p : Nat → Nat} {v1 : Int32} {v2 : Int32} {v3 : Int32} {v4 : Int32} {I : Nat → Int32 → Int64 → Int32 → (Nat → Nat → Int32) → (Nat → Nat → Int64) → Prop} {Q : Int32 × (Nat → Nat → Int32) × (Nat → Nat → Int64) → Prop} (h0 : ∀ (v5 : Int32) (v6 : Int64) (v8 : Int32) (J : Nat → Nat → Int32) (L : Nat → Nat → Int64), I 0 v5 v6 v8 J L → Q (v5, J, L)) (h1 : ∀ (c : Nat) (v5 : Int32) (v6 : Int64) (v8 : Int32) (J : Nat → Nat → Int32) (L : Nat → Nat → Int64), I (c + 1) v5 v6 v8 J L →
    if (J (p 4) 2) ≤ v8 then (Q (v5, J, L))
    else if (x194 p v8 v2 v3 J) = 0 then (I c v5 v6 (v8 + (Int32.ofInt 1)) J L)
      else if 0 ≤ ((x197 p v1 J (x196 p v8 v2 v4 J L)).1) then if v5 < 0 then (I c v8 ((x198 p v1 (J (p 2) (((x197 p v1 J (x196 p v8 v2 v4 J L)).1).toNatClampNeg)) (J (p 2) ((((x197 p v1 J (x196 p v8 v2 v4 J L)).1) + (Int32.ofInt 1)).toNatClampNeg)) ((x197 p v1 J (x196 p v8 v2 v4 J L)).2.1) ((x197 p v1 J (x196 p v8 v2 v4 J L)).2.2)).1) (v8 + (Int32.ofInt 1)) ((x198 p v1 (J (p 2) (((x197 p v1 J (x196 p v8 v2 v4 J L)).1).toNatClampNeg)) (J (p 2) ((((x197 p v1 J (x196 p v8 v2 v4 J L)).1) + (Int32.ofInt 1)).toNatClampNeg)) ((x197 p v1 J (x196 p v8 v2 v4 J L)).2.1) ((x197 p v1 J (x196 p v8 v2 v4 J L)).2.2)).2.1) ((x198 p v1 (J (p 2) (((x197 p v1 J (x196 p v8 v2 v4 J L)).1).toNatClampNeg)) (J (p 2) ((((x197 p v1 J (x196 p v8 v2 v4 J L)).1) + (Int32.ofInt 1)).toNatClampNeg)) ((x197 p v1 J (x196 p v8 v2 v4 J L)).2.1) ((x197 p v1 J (x196 p v8 v2 v4 J L)).2.2)).2.2))
          else if (lg_cmp ((x198 p v1 (J (p 2) (((x197 p v1 J (x196 p v8 v2 v4 J L)).1).toNatClampNeg)) (J (p 2) ((((x197 p v1 J (x196 p v8 v2 v4 J L)).1) + (Int32.ofInt 1)).toNatClampNeg)) ((x197 p v1 J (x196 p v8 v2 v4 J L)).2.1) ((x197 p v1 J (x196 p v8 v2 v4 J L)).2.2)).1) v6) < 0 then (I c v8 ((x198 p v1 (J (p 2) (((x197 p v1 J (x196 p v8 v2 v4 J L)).1).toNatClampNeg)) (J (p 2) ((((x197 p v1 J (x196 p v8 v2 v4 J L)).1) + (Int32.ofInt 1)).toNatClampNeg)) ((x197 p v1 J (x196 p v8 v2 v4 J L)).2.1) ((x197 p v1 J (x196 p v8 v2 v4 J L)).2.2)).1) (v8 + (Int32.ofInt 1)) ((x198 p v1 (J (p 2) (((x197 p v1 J (x196 p v8 v2 v4 J L)).1).toNatClampNeg)) (J (p 2) ((((x197 p v1 J (x196 p v8 v2 v4 J L)).1) + (Int32.ofInt 1)).toNatClampNeg)) ((x197 p v1 J (x196 p v8 v2 v4 J L)).2.1) ((x197 p v1 J (x196 p v8 v2 v4 J L)).2.2)).2.1) ((x198 p v1 (J (p 2) (((x197 p v1 J (x196 p v8 v2 v4 J L)).1).toNatClampNeg)) (J (p 2) ((((x197 p v1 J (x196 p v8 v2 v4 J L)).1) + (Int32.ofInt 1)).toNatClampNeg)) ((x197 p v1 J (x196 p v8 v2 v4 J L)).2.1) ((x197 p v1 J (x196 p v8 v2 v4 J L)).2.2)).2.2))
            else (I c v5 v6 (v8 + (Int32.ofInt 1)) ((x198 p v1 (J (p 2) (((x197 p v1 J (x196 p v8 v2 v4 J L)).1).toNatClampNeg)) (J (p 2) ((((x197 p v1 J (x196 p v8 v2 v4 J L)).1) + (Int32.ofInt 1)).toNatClampNeg)) ((x197 p v1 J (x196 p v8 v2 v4 J L)).2.1) ((x197 p v1 J (x196 p v8 v2 v4 J L)).2.2)).2.1) ((x198 p v1 (J (p 2) (((x197 p v1 J (x196 p v8 v2 v4 J L)).1).toNatClampNeg)) (J (p 2) ((((x197 p v1 J (x196 p v8 v2 v4 J L)).1) + (Int32.ofInt 1)).toNatClampNeg)) ((x197 p v1 J (x196 p v8 v2 v4 J L)).2.1) ((x197 p v1 J (x196 p v8 v2 v4 J L)).2.2)).2.2))
        else (I c v5 v6 (v8 + (Int32.ofInt 1)) ((x197 p v1 J (x196 p v8 v2 v4 J L)).2.1) ((x197 p v1 J (x196 p v8 v2 v4 J L)).2.2))) : ∀ (c : Nat) (v5 : Int32) (v6 : Int64) (v8 : Int32) (J : Nat → Nat → Int32) (L : Nat → Nat → Int64), I c v5 v6 v8 J L → Q (x193_9 p v1 v2 v3 v4 c v5 v6 v8 J L) := by
  intro c
  induction c with
  | zero =>
    intro v5 v6 v8 J L hi
    rw [x193_9]
    exact h0 v5 v6 v8 J L hi
  | succ c ih =>
    intro v5 v6 v8 J L hi
    have hi := h1 c v5 v6 v8 J L hi
    rw [x193_9]
    by_cases h : (J (p 4) 2) ≤ v8
    · rw [if_pos h] at hi ⊢
      exact hi
    · rw [if_neg h] at hi ⊢
      by_cases h : (x194 p v8 v2 v3 J) = 0
      · rw [if_pos h] at hi ⊢
        exact ih _ _ _ _ _ hi
      · rw [if_neg h] at hi ⊢
        by_cases h : 0 ≤ ((x197 p v1 J (x196 p v8 v2 v4 J L)).1)
        · rw [if_pos h] at hi ⊢
          by_cases h : v5 < 0
          · rw [if_pos h] at hi ⊢
            exact ih _ _ _ _ _ hi
          · rw [if_neg h] at hi ⊢
            by_cases h : (lg_cmp ((x198 p v1 (J (p 2) (((x197 p v1 J (x196 p v8 v2 v4 J L)).1).toNatClampNeg)) (J (p 2) ((((x197 p v1 J (x196 p v8 v2 v4 J L)).1) + (Int32.ofInt 1)).toNatClampNeg)) ((x197 p v1 J (x196 p v8 v2 v4 J L)).2.1) ((x197 p v1 J (x196 p v8 v2 v4 J L)).2.2)).1) v6) < 0
            · rw [if_pos h] at hi ⊢
              exact ih _ _ _ _ _ hi
            · rw [if_neg h] at hi ⊢
              exact ih _ _ _ _ _ hi
        · rw [if_neg h] at hi ⊢
          exact ih _ _ _ _ _ hi
def x193 (p : Nat → Nat) (v1 : Int32) (v2 : Int32) (v3 : Int32) (v4 : Int32) (J : Nat → Nat → Int32) (L : Nat → Nat → Int64) : Int32 × (Nat → Nat → Int32) × (Nat → Nat → Int64) := (x193_9 p v1 v2 v3 v4 ((J (p 4) 2).toNatClampNeg) (Int32.ofInt (-1)) (Int64.ofNat 0) (Int32.ofInt 0) J L)
theorem xt193 {X : nt_X} {d : Nat} {M : nt_M} {o : Option Value × nt_M} {p : Nat → Nat} {v1 : Int32} {v2 : Int32} {v3 : Int32} {v4 : Int32} {J : Nat → Nat → Int32} {L : Nat → Nat → Int64} (hp : xs_P M p) (k : nt_ev X d 193 [.ref (p 0), .int v1, .int v2, .int v3, .int v4] (me_w (lw M L) J) o) : o = (some (.int ((x193 p v1 v2 v3 v4 J L).1)), me_w (lw M ((x193 p v1 v2 v3 v4 J L).2.2)) ((x193 p v1 v2 v3 v4 J L).2.1)) := by
  have k : nt_rn X d 193 (0, [(0, .ref (p 0)), (1, .int v1), (2, .int v2), (3, .int v3), (4, .int v4)], [], me_w (lw M L) J) o := k
  have k := ly_revb 6 (c' := (9, [(8, .int (Int32.ofInt 0)), (6, .long (Int64.ofNat 0)), (5, .int (Int32.ofInt (-1))), (0, .ref (p 0)), (1, .int v1), (2, .int v2), (3, .int v3), (4, .int v4)], [], me_w (lw M L) J)) rfl k
  have k := nt_rn_w (a := [(8, .int (Int32.ofInt 0)), (6, .long (Int64.ofNat 0)), (5, .int (Int32.ofInt (-1))), (0, .ref (p 0)), (1, .int v1), (2, .int v2), (3, .int v3), (4, .int v4)]) (b := [(0, .ref (p 0)), (1, .int v1), (2, .int v2), (3, .int v3), (4, .int v4), (5, .int (Int32.ofInt (-1))), (6, .long (Int64.ofNat 0)), (8, .int (Int32.ofInt 0)), (9, .int (Int32.ofInt 0)), (10, .long (Int64.ofNat 0))]) ⟨rfl, rfl, rfl, rfl, rfl, rfl, rfl, rfl, trivial⟩ rfl k
  have k := xt193_9 hp  ((J (p 4) 2).toNatClampNeg) (Int32.ofInt (-1)) (Int64.ofNat 0) (Int32.ofInt 0) (Int32.ofInt 0) (Int64.ofNat 0) J L (lx_beg (by decide)) k
  rw [k, x193]
theorem x193_9_frJ {p : Nat → Nat} {v1 : Int32} {v2 : Int32} {v3 : Int32} {v4 : Int32} {b : Nat} : ∀ (c : Nat) (v5 : Int32) (v6 : Int64) (v8 : Int32) (J : Nat → Nat → Int32) (L : Nat → Nat → Int64), b ≠ p 0 → (x193_9 p v1 v2 v3 v4 c v5 v6 v8 J L).2.1 b = J b := by
  intro c
  induction c with
  | zero =>
    intro v5 v6 v8 J L n0
    rw [x193_9]
    all_goals first | (dsimp only; exact (show J b = J b from rfl)) | exact (show J b = J b from rfl)
  | succ c ih =>
    intro v5 v6 v8 J L n0
    rw [x193_9]
    by_cases h : (J (p 4) 2) ≤ v8
    · rw [if_pos h]
      all_goals first | (dsimp only; exact (show J b = J b from rfl)) | exact (show J b = J b from rfl)
    · rw [if_neg h]
      by_cases h : (x194 p v8 v2 v3 J) = 0
      · rw [if_pos h]
        exact (ih _ _ _ _ _ n0).trans (rfl)
      · rw [if_neg h]
        by_cases h : 0 ≤ ((x197 p v1 J (x196 p v8 v2 v4 J L)).1)
        · rw [if_pos h]
          by_cases h : v5 < 0
          · rw [if_pos h]
            exact (ih _ _ _ _ _ n0).trans ((x198_frJ  n0).trans (x197_frJ  n0))
          · rw [if_neg h]
            by_cases h : (lg_cmp ((x198 p v1 (J (p 2) (((x197 p v1 J (x196 p v8 v2 v4 J L)).1).toNatClampNeg)) (J (p 2) ((((x197 p v1 J (x196 p v8 v2 v4 J L)).1) + (Int32.ofInt 1)).toNatClampNeg)) ((x197 p v1 J (x196 p v8 v2 v4 J L)).2.1) ((x197 p v1 J (x196 p v8 v2 v4 J L)).2.2)).1) v6) < 0
            · rw [if_pos h]
              exact (ih _ _ _ _ _ n0).trans ((x198_frJ  n0).trans (x197_frJ  n0))
            · rw [if_neg h]
              exact (ih _ _ _ _ _ n0).trans ((x198_frJ  n0).trans (x197_frJ  n0))
        · rw [if_neg h]
          exact (ih _ _ _ _ _ n0).trans (x197_frJ  n0)
theorem x193_frJ {p : Nat → Nat} {v1 : Int32} {v2 : Int32} {v3 : Int32} {v4 : Int32} {J : Nat → Nat → Int32} {L : Nat → Nat → Int64} {b : Nat} (n0 : b ≠ p 0) : (x193 p v1 v2 v3 v4 J L).2.1 b = J b := by
  unfold x193
  exact (x193_9_frJ _ _ _ _ _ _ n0).trans (rfl)
theorem x193_9_frL {p : Nat → Nat} {v1 : Int32} {v2 : Int32} {v3 : Int32} {v4 : Int32} {b : Nat} : ∀ (c : Nat) (v5 : Int32) (v6 : Int64) (v8 : Int32) (J : Nat → Nat → Int32) (L : Nat → Nat → Int64), b ≠ p 5 → b ≠ p 6 → (x193_9 p v1 v2 v3 v4 c v5 v6 v8 J L).2.2 b = L b := by
  intro c
  induction c with
  | zero =>
    intro v5 v6 v8 J L n0 n1
    rw [x193_9]
    all_goals first | (dsimp only; exact (show L b = L b from rfl)) | exact (show L b = L b from rfl)
  | succ c ih =>
    intro v5 v6 v8 J L n0 n1
    rw [x193_9]
    by_cases h : (J (p 4) 2) ≤ v8
    · rw [if_pos h]
      all_goals first | (dsimp only; exact (show L b = L b from rfl)) | exact (show L b = L b from rfl)
    · rw [if_neg h]
      by_cases h : (x194 p v8 v2 v3 J) = 0
      · rw [if_pos h]
        exact (ih _ _ _ _ _ n0 n1).trans (rfl)
      · rw [if_neg h]
        by_cases h : 0 ≤ ((x197 p v1 J (x196 p v8 v2 v4 J L)).1)
        · rw [if_pos h]
          by_cases h : v5 < 0
          · rw [if_pos h]
            exact (ih _ _ _ _ _ n0 n1).trans ((x198_frL n0).trans ((x197_frL n0).trans (x196_frL n1)))
          · rw [if_neg h]
            by_cases h : (lg_cmp ((x198 p v1 (J (p 2) (((x197 p v1 J (x196 p v8 v2 v4 J L)).1).toNatClampNeg)) (J (p 2) ((((x197 p v1 J (x196 p v8 v2 v4 J L)).1) + (Int32.ofInt 1)).toNatClampNeg)) ((x197 p v1 J (x196 p v8 v2 v4 J L)).2.1) ((x197 p v1 J (x196 p v8 v2 v4 J L)).2.2)).1) v6) < 0
            · rw [if_pos h]
              exact (ih _ _ _ _ _ n0 n1).trans ((x198_frL n0).trans ((x197_frL n0).trans (x196_frL n1)))
            · rw [if_neg h]
              exact (ih _ _ _ _ _ n0 n1).trans ((x198_frL n0).trans ((x197_frL n0).trans (x196_frL n1)))
        · rw [if_neg h]
          exact (ih _ _ _ _ _ n0 n1).trans ((x197_frL n0).trans (x196_frL n1))
theorem x193_frL {p : Nat → Nat} {v1 : Int32} {v2 : Int32} {v3 : Int32} {v4 : Int32} {J : Nat → Nat → Int32} {L : Nat → Nat → Int64} {b : Nat} (n0 : b ≠ p 5) (n1 : b ≠ p 6) : (x193 p v1 v2 v3 v4 J L).2.2 b = L b := by
  unfold x193
  exact (x193_9_frL _ _ _ _ _ _ n0 n1).trans (rfl)
