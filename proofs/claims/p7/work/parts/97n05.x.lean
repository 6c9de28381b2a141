/-! the reference: what a day keeps -/
def xk_K (e e1 : Nat → Int32) : Prop := xr_W e1 ∧ ∀ i, i < 6 → e1 i = e i
theorem xk_r {e : Nat → Int32} (h : xr_W e) : xk_K e e := ⟨h, fun _ _ => rfl⟩
theorem xk_t {a b c : Nat → Int32} (h : xk_K a b) (g : xk_K b c) : xk_K a c := ⟨g.1, fun i hi => (g.2 i hi).trans (h.2 i hi)⟩
theorem xk_up {e : Nat → Int32} {J : Nat → Nat → Int32} {a j : Nat} {v : Int32} (h : xk_K e (J a)) (hj : 6 ≤ j) (hv : (xr_b j).1 ≤ v.toInt ∧ v.toInt ≤ (xr_b j).2) : xk_K e (nt_u J a j v a) := ⟨xr_up h.1 hv, fun i hi => by rw [me_uk (by omega)]; exact h.2 i hi⟩
theorem xk_ua {e : Nat → Int32} {J : Nat → Nat → Int32} {a j n : Nat} {v : Int32} (h : xk_K e (J a)) (e1 : j = n) (hj : 6 ≤ n) (hv : xr_b n = (-2147483648, 2147483647)) : xk_K e (nt_u J a j v a) := by
  subst e1
  exact xk_up h hj (xr_any hv)
theorem xk_ub {e : Nat → Int32} {J : Nat → Nat → Int32} {a j n : Nat} {l m : Int} {v : Int32} (h : xk_K e (J a)) (e1 : j = n) (hj : 6 ≤ n) (hb : xr_b n = (l, m)) (hv : l ≤ v.toInt ∧ v.toInt ≤ m) : xk_K e (nt_u J a j v a) := by
  subst e1
  refine xk_up h hj ?_
  rw [hb]
  exact hv
theorem xi_m1 : (Int32.ofInt (-1)).toInt = -1 := by decide
theorem xi_nn {b i : Int32} (n : ¬ b ≤ i) (h : 0 ≤ i.toInt) : 0 ≤ (i + Int32.ofInt 1).toInt := by rw [lx_inc n]; omega
theorem xi_va {p : Nat → Nat} {J : Nat → Nat → Int32} {v : Int32} (hW : xr_W (J (p 4))) (hv : 0 ≤ v.toInt ∧ v.toInt ≤ 7) : 0 ≤ (x180 p v (Int32.ofInt 0) J).toInt ∧ (x180 p v (Int32.ofInt 0) J).toInt ≤ 5 := by
  unfold x180
  rw [show ((Int32.ofInt 172 + Int32.ofInt 5 * v) + Int32.ofInt 0).toNatClampNeg = 172 + 5 * v.toInt.toNat + 0 from xi_3 (a := 172) (m := 5) (b := 0) (by omega) (by omega) (by omega) hv.1 (by omega)]
  exact xr_sh hW (by omega)
theorem xw_191 {p : Nat → Nat} {J : Nat → Nat → Int32} {v : Int32} (hW : xr_W (J (p 4))) (hv : 0 ≤ v.toInt ∧ v.toInt ≤ 7) : xk_K (J (p 4)) (x191 p v J (p 4)) := by
  have hs := xi_va hW hv
  have fin : ∀ (v5 v3 : Int32) (J1 : Nat → Nat → Int32), xk_K (J (p 4)) (J1 (p 4)) → xk_K (J (p 4)) ((nt_u (nt_u (nt_u (nt_u (nt_u J1 (p 4) ((((Int32.ofInt 10) + ((Int32.ofInt 7) * (x180 p v (Int32.ofInt 0) J))) + (Int32.ofInt 6)).toNatClampNeg) ((J1 (p 4) ((((Int32.ofInt 10) + ((Int32.ofInt 7) * (x180 p v (Int32.ofInt 0) J))) + (Int32.ofInt 6)).toNatClampNeg)) + v5)) (p 4) 7 (((nt_u J1 (p 4) ((((Int32.ofInt 10) + ((Int32.ofInt 7) * (x180 p v (Int32.ofInt 0) J))) + (Int32.ofInt 6)).toNatClampNeg) ((J1 (p 4) ((((Int32.ofInt 10) + ((Int32.ofInt 7) * (x180 p v (Int32.ofInt 0) J))) + (Int32.ofInt 6)).toNatClampNeg)) + v5)) (p 4) 7) + v3)) (p 4) ((((Int32.ofInt 10) + ((Int32.ofInt 7) * (x180 p v (Int32.ofInt 0) J))) + (Int32.ofInt 4)).toNatClampNeg) (Int32.ofInt 0)) (p 4) ((((Int32.ofInt 10) + ((Int32.ofInt 7) * (x180 p v (Int32.ofInt 0) J))) + (Int32.ofInt 5)).toNatClampNeg) (Int32.ofInt (-1))) (p 4) ((((Int32.ofInt 172) + ((Int32.ofInt 5) * v)) + (Int32.ofInt 4)).toNatClampNeg) (Int32.ofInt 2)) (p 4)) := by
    intro v5 v3 J1 h
    refine xk_ua (xk_ub (xk_ua (xk_ua (xk_ua h (xi_s6 hs.1 (by omega)) (by omega) (xr_bs (by omega) (by omega) (by omega))) rfl (by omega) rfl) (xi_s4 hs.1 (by omega)) (by omega) (xr_bs (by omega) (by omega) (by omega))) (xi_s5 hs.1 (by omega)) (by omega) (xr_b5 (by omega)) (by rw [xi_m1]; omega)) (xi_v4 hv.1 (by omega)) (by omega) (xr_bv (by omega) (by omega) (by omega))
  unfold x191
  refine x191_31_rule (I := fun _ _ v6 J1 => xk_K (J (p 4)) (J1 (p 4)) ∧ 0 ≤ v6.toInt) (Q := fun J1 => xk_K (J (p 4)) (J1 (p 4))) ?_ ?_ _ _ _ _ ⟨xk_r hW, by decide⟩
  · intro v5 v6 J1 h
    exact fin _ _ _ h.1
  · intro c v5 v6 J1 h
    by_cases h1 : J1 (p 4) 2 ≤ v6
    · rw [if_pos h1]
      exact fin _ _ _ h.1
    · rw [if_neg h1]
      by_cases h2 : x171 p v6 (x180 p v (Int32.ofInt 0) J) J1 = 0
      · rw [if_pos h2]
        exact ⟨h.1, xi_nn h1 h.2⟩
      · rw [if_neg h2]
        obtain ⟨s, hs6, e⟩ := xk_ow h.1.1 h1 h.2
        exact ⟨xk_ua h.1 e (by omega) (xr_bs hs6 (by omega) (by omega)), xi_nn h1 h.2⟩
theorem xw_202b {p : Nat → Nat} {e : Nat → Int32} {v1 : Int32} {c : Nat} {v4 : Int32} {J : Nat → Nat → Int32} (h : xk_K e (J (p 4))) (h0 : 0 ≤ v4.toInt) : xk_K e (x202_145 p v1 c v4 J (p 4)) := by
  refine x202_145_rule (I := fun _ v4 J1 => xk_K e (J1 (p 4)) ∧ 0 ≤ v4.toInt) (Q := fun J1 => xk_K e (J1 (p 4))) ?_ ?_ _ _ _ ⟨h, h0⟩
  · intro v4 J1 h
    exact h.1
  · intro c v4 J1 h
    by_cases h1 : J1 (p 4) 2 ≤ v4
    · rw [if_pos h1]
      exact h.1
    · rw [if_neg h1]
      have l24 := xi_lt h1 (xr_2 h.1.1).2
      have l0 := h.2
      by_cases h2 : x173 p v4 (Int32.ofInt 3) J1 = v1
      · rw [if_pos h2]
        exact ⟨xk_ua h.1 (xi_p4 h.2 (by omega)) (by omega) (xr_bp (by omega) (by omega) (by omega) (by omega)), xi_nn h1 h.2⟩
      · rw [if_neg h2]
        exact ⟨h.1, xi_nn h1 h.2⟩
theorem xw_lose {p : Nat → Nat} {e : Nat → Int32} {J : Nat → Nat → Int32} {i x : Int32} (h : xk_K e (J (p 4))) (hv : 0 ≤ i.toInt ∧ i.toInt ≤ 5) (hx : 0 ≤ x.toInt ∧ x.toInt ≤ 7) : xk_K e (nt_u (nt_u (nt_u J (p 4) (((Int32.ofInt 10 + Int32.ofInt 7 * i) + Int32.ofInt 4).toNatClampNeg) (Int32.ofInt 2)) (p 4) (((Int32.ofInt 10 + Int32.ofInt 7 * i) + Int32.ofInt 5).toNatClampNeg) (Int32.ofInt (-1))) (p 4) (((Int32.ofInt 172 + Int32.ofInt 5 * x) + Int32.ofInt 4).toNatClampNeg) (Int32.ofInt 3) (p 4)) :=
  xk_ua (xk_ub (xk_ua h (xi_s4 hv.1 (by omega)) (by omega) (xr_bs (by omega) (by omega) (by omega))) (xi_s5 hv.1 (by omega)) (by omega) (xr_b5 (by omega)) (by rw [xi_m1]; omega)) (xi_v4 hx.1 (by omega)) (by omega) (xr_bv (by omega) (by omega) (by omega))
theorem xw_losem {p : Nat → Nat} {e : Nat → Int32} {J : Nat → Nat → Int32} {i x : Int32} (h : xk_K e (J (p 4))) (hv : 0 ≤ i.toInt ∧ i.toInt ≤ 5) (hx : -1 ≤ x.toInt ∧ x.toInt ≤ 7) : xk_K e (nt_u (nt_u (nt_u J (p 4) (((Int32.ofInt 10 + Int32.ofInt 7 * i) + Int32.ofInt 4).toNatClampNeg) (Int32.ofInt 2)) (p 4) (((Int32.ofInt 10 + Int32.ofInt 7 * i) + Int32.ofInt 5).toNatClampNeg) (Int32.ofInt (-1))) (p 4) (((Int32.ofInt 172 + Int32.ofInt 5 * x) + Int32.ofInt 4).toNatClampNeg) (Int32.ofInt 3) (p 4)) :=
  xk_ua (xk_ub (xk_ua h (xi_s4 hv.1 (by omega)) (by omega) (xr_bs (by omega) (by omega) (by omega))) (xi_s5 hv.1 (by omega)) (by omega) (xr_b5 (by omega)) (by rw [xi_m1]; omega)) (xi_vm hx.1 hx.2) (by omega) (xr_bm hx.1 hx.2)
theorem xw_202 {p : Nat → Nat} {J : Nat → Nat → Int32} {v : Int32} (hW : xr_W (J (p 4))) (hv : 0 ≤ v.toInt ∧ v.toInt ≤ 5) : xk_K (J (p 4)) (x202 p v J (p 4)) := by
  have wr : ∀ (J1 : Nat → Nat → Int32) (v3 x : Int32), xk_K (J (p 4)) (J1 (p 4)) → 0 ≤ v3.toInt → v3.toInt < 24 → xk_K (J (p 4)) (nt_u J1 (p 4) ((((Int32.ofInt 52) + ((Int32.ofInt 5) * v3)) + (Int32.ofInt 1)).toNatClampNeg) x (p 4)) := fun J1 v3 x h a b => xk_ua h (xi_p1 a (by omega)) (by omega) (xr_bp (by omega) (by omega) (by omega) (by omega))
  have fin : ∀ (v2 : Int32) (J1 : Nat → Nat → Int32), xk_K (J (p 4)) (J1 (p 4)) → xk_K (J (p 4)) ((if v2 = 0 then J1
    else if (x180 p (x169 p v (Int32.ofInt 5) J1) (Int32.ofInt 2) J1) = ((J1 (p 4) 4) + (Int32.ofInt 1)) then J1
      else (x202_145 p v (((nt_u (nt_u (nt_u J1 (p 4) ((((Int32.ofInt 10) + ((Int32.ofInt 7) * v)) + (Int32.ofInt 4)).toNatClampNeg) (Int32.ofInt 2)) (p 4) ((((Int32.ofInt 10) + ((Int32.ofInt 7) * v)) + (Int32.ofInt 5)).toNatClampNeg) (Int32.ofInt (-1))) (p 4) ((((Int32.ofInt 172) + ((Int32.ofInt 5) * (x169 p v (Int32.ofInt 5) J1))) + (Int32.ofInt 4)).toNatClampNeg) (Int32.ofInt 3)) (p 4) 2).toNatClampNeg) (Int32.ofInt 0) (nt_u (nt_u (nt_u J1 (p 4) ((((Int32.ofInt 10) + ((Int32.ofInt 7) * v)) + (Int32.ofInt 4)).toNatClampNeg) (Int32.ofInt 2)) (p 4) ((((Int32.ofInt 10) + ((Int32.ofInt 7) * v)) + (Int32.ofInt 5)).toNatClampNeg) (Int32.ofInt (-1))) (p 4) ((((Int32.ofInt 172) + ((Int32.ofInt 5) * (x169 p v (Int32.ofInt 5) J1))) + (Int32.ofInt 4)).toNatClampNeg) (Int32.ofInt 3)))) (p 4)) := by
    intro v2 J1 h
    by_cases a : v2 = 0
    · rw [if_pos a]
      exact h
    · rw [if_neg a]
      by_cases b : (x180 p (x169 p v (Int32.ofInt 5) J1) (Int32.ofInt 2) J1) = ((J1 (p 4) 4) + (Int32.ofInt 1))
      · rw [if_pos b]
        exact h
      · rw [if_neg b]
        exact xw_202b (xw_losem h hv (xi_on h.1 hv)) (by decide)
  unfold x202
  refine x202_4_rule (I := fun _ _ v3 J1 => xk_K (J (p 4)) (J1 (p 4)) ∧ 0 ≤ v3.toInt) (Q := fun J1 => xk_K (J (p 4)) (J1 (p 4))) ?_ ?_ _ _ _ _ ⟨xk_r hW, by decide⟩
  · intro v2 v3 J1 h
    exact fin v2 J1 h.1
  · intro c v2 v3 J1 h
    by_cases h1 : J1 (p 4) 2 ≤ v3
    · rw [if_pos h1]
      have f := fin v2 J1 h.1
      by_cases a : v2 = 0
      · rw [if_pos a] at f ⊢
        exact f
      · rw [if_neg a] at f ⊢
        by_cases b : (x180 p (x169 p v (Int32.ofInt 5) J1) (Int32.ofInt 2) J1) = ((J1 (p 4) 4) + (Int32.ofInt 1))
        · rw [if_pos b] at f ⊢
          exact f
        · rw [if_neg b] at f ⊢
          exact f
    · rw [if_neg h1]
      have l24 := xi_lt h1 (xr_2 h.1.1).2
      have w := fun x => wr J1 v3 x h.1 h.2 l24
      have n := xi_nn h1 h.2
      by_cases h2 : x171 p v3 v J1 = 0
      · rw [if_pos h2]
        exact ⟨h.1, n⟩
      · rw [if_neg h2]
        by_cases a : v2 = 0
        · rw [if_pos a]
          split
          · exact ⟨w _, n⟩
          · exact ⟨w _, n⟩
        · rw [if_neg a]
          exact ⟨w _, n⟩
theorem xw_185 {p : Nat → Nat} {e : Nat → Int32} {J : Nat → Nat → Int32} {v1 v2 : Int32} (h : xk_K e (J (p 4))) (h1 : 0 ≤ v1.toInt ∧ v1.toInt < 24) (h2 : -1 ≤ v2.toInt ∧ v2.toInt ≤ 5) : xk_K e (x185 p v1 v2 J (p 4)) ∧ x185 p v1 v2 J (p 4) 6 = J (p 4) 6 + Int32.ofInt 1 := by
  have ei := xi_p3 h1.1 (by omega)
  refine ⟨?_, ?_⟩
  · unfold x185
    exact xk_ua (xk_ua (xk_ub h ei (by omega) (xr_b3 (by omega)) h2) rfl (by omega) rfl) rfl (by omega) rfl
  · unfold x185
    rw [me_uk (by omega), me_us, me_uk (by rw [ei]; omega)]
theorem xw_193 {p : Nat → Nat} {v1 v2 v3 v4 : Int32} {J : Nat → Nat → Int32} {L : Nat → Nat → Int64} (hd : p 4 ≠ p 0) (hW : xr_W (J (p 4))) : -1 ≤ (x193 p v1 v2 v3 v4 J L).1.toInt ∧ (x193 p v1 v2 v3 v4 J L).1.toInt < 24 := by
  unfold x193
  refine x193_9_rule (I := fun _ v5 _ v8 J1 _ => J1 (p 4) = J (p 4) ∧ 0 ≤ v8.toInt ∧ -1 ≤ v5.toInt ∧ v5.toInt < 24) (Q := fun r => -1 ≤ r.1.toInt ∧ r.1.toInt < 24) ?_ ?_ _ _ _ _ _ _ ⟨rfl, by decide, by decide, by decide⟩
  · intro v5 v6 v8 J1 L1 h
    exact h.2.2
  · intro c v5 v6 v8 J1 L1 h
    by_cases h1 : J1 (p 4) 2 ≤ v8
    · rw [if_pos h1]
      exact h.2.2
    · rw [if_neg h1]
      have n := xi_nn h1 h.2.1
      have l24 : v8.toInt < 24 := xi_lt h1 (by rw [h.1]; exact (xr_2 hW).2)
      have l0 := h.2.1
      split
      · exact ⟨h.1, n, h.2.2⟩
      · split
        · split
          · exact ⟨(x198_frJ hd).trans ((x197_frJ hd).trans h.1), n, by omega, l24⟩
          · split
            · exact ⟨(x198_frJ hd).trans ((x197_frJ hd).trans h.1), n, by omega, l24⟩
            · exact ⟨(x198_frJ hd).trans ((x197_frJ hd).trans h.1), n, h.2.2⟩
        · exact ⟨(x197_frJ hd).trans h.1, n, h.2.2⟩
theorem xh_on {p : Nat → Nat} {J : Nat → Nat → Int32} (h : ¬ x184 p J = 0) : ¬ J (p 4) 5 ≤ J (p 4) 6 := by
  intro c
  apply h
  unfold x184
  rw [if_pos c]
  rfl
theorem xh_ge {x : Int32} (h : 0 ≤ x) : 0 ≤ x.toInt := by
  have h : (0 : Int32).toInt ≤ x.toInt := Int32.le_iff_toInt_le.mp h
  rw [show (0 : Int32).toInt = 0 from by decide] at h
  exact h
/-! Model.fitsOut -/
def x192_18 (p : Nat → Nat) (v1 : Int32) (v2 : Int32) (v3 : Int32) (v4 : Int32) : Nat → (Nat → Nat → Int32) → (Nat → Nat → Int64) → (Nat → Nat → Int32) × (Nat → Nat → Int64)
  | 0, J, L => if (x175 p v2 v4 J) ≤ 0 then (J, L)
    else if (x184 p J) = 0 then (J, L)
      else if 0 ≤ ((x193 p v1 v2 v4 v3 J L).1) then (x185 p ((x193 p v1 v2 v4 v3 J L).1) v2 ((x193 p v1 v2 v4 v3 J L).2.1), (x193 p v1 v2 v4 v3 J L).2.2)
        else ((x193 p v1 v2 v4 v3 J L).2.1, (x193 p v1 v2 v4 v3 J L).2.2)
  | c + 1, J, L => if (x175 p v2 v4 J) ≤ 0 then (J, L)
    else if (x184 p J) = 0 then (J, L)
      else if 0 ≤ ((x193 p v1 v2 v4 v3 J L).1) then (x192_18 p v1 v2 v3 v4 c (x185 p ((x193 p v1 v2 v4 v3 J L).1) v2 ((x193 p v1 v2 v4 v3 J L).2.1)) ((x193 p v1 v2 v4 v3 J L).2.2))
        else ((x193 p v1 v2 v4 v3 J L).2.1, (x193 p v1 v2 v4 v3 J L).2.2)
theorem xt192_18 {X : nt_X} {d : Nat} {M : nt_M} {o : Option Value × nt_M} {p : Nat → Nat} {v1 : Int32} {v2 : Int32} {v3 : Int32} {v4 : Int32} (hp : xs_P M p) (hv : 0 ≤ v2.toInt ∧ v2.toInt ≤ 5) : ∀ (c : Nat) (v5 : Int32) (J : Nat → Nat → Int32) (L : Nat → Nat → Int64), (xr_W (J (p 4)) ∧ (J (p 4) 5).toInt - (J (p 4) 6).toInt ≤ c) → nt_rn X d 192 (18, [(0, .ref (p 0)), (1, .int v1), (2, .int v2), (3, .int v3), (4, .int v4), (5, .int v5)], [], me_w (lw M L) J) o → ∃ (w5 : Int32), nt_rn X d 192 (64, [(0, .ref (p 0)), (1, .int v1), (2, .int v2), (3, .int v3), (4, .int v4), (5, .int w5)], [], me_w (lw M ((x192_18 p v1 v2 v3 v4 c J L).2)) ((x192_18 p v1 v2 v3 v4 c J L).1)) o := by
  intro c
  induction c with
  | zero =>
    intro v5 J L hc k
    have k := ly_revb 3 (c' := (22, [(0, .ref (p 0)), (1, .int v1), (2, .int v2), (3, .int v3), (4, .int v4), (5, .int v5)], [.int v4, .int v2, .ref (p 0)], me_w (lw M L) J)) rfl k
    obtain ⟨d1, o1, ed, kc, k⟩ := lz_c (g := 175) (q := 1) (vs := [.ref (p 0), .int v2, .int v4]) (rest := []) rfl rfl (by decide) (Or.inr (Or.inl ⟨_, rfl, rfl⟩)) rfl k
    have e1 := xt175 (xs_lp hp) kc
    subst e1
    have k : nt_rn X _ 192 (25, [(0, .ref (p 0)), (1, .int v1), (2, .int v2), (3, .int v3), (4, .int v4), (5, .int v5)], [.int (x175 p v2 v4 J)], me_w (lw M L) J) _ := k
    have k := ly_revb 1 (c' := (if (x175 p v2 v4 J) ≤ 0 then 64 else 28, [(0, .ref (p 0)), (1, .int v1), (2, .int v2), (3, .int v3), (4, .int v4), (5, .int v5)], [], me_w (lw M L) J)) rfl k
    by_cases h25 : (x175 p v2 v4 J) ≤ 0
    · rw [if_pos h25] at k
      have k := nt_rn_w (a := [(0, .ref (p 0)), (1, .int v1), (2, .int v2), (3, .int v3), (4, .int v4), (5, .int v5)]) (b := [(0, .ref (p 0)), (1, .int v1), (2, .int v2), (3, .int v3), (4, .int v4), (5, .int v5)]) ⟨rfl, rfl, rfl, rfl, rfl, rfl, trivial⟩ rfl k
      rw [x192_18, if_pos h25]
      exact ⟨_, k⟩
    · rw [if_neg h25] at k
      have k := ly_revb 1 (c' := (29, [(0, .ref (p 0)), (1, .int v1), (2, .int v2), (3, .int v3), (4, .int v4), (5, .int v5)], [.ref (p 0)], me_w (lw M L) J)) rfl k
      obtain ⟨d1, o1, ed, kc, k⟩ := lz_c (g := 184) (q := 1) (vs := [.ref (p 0)]) (rest := []) rfl rfl (by decide) (Or.inr (Or.inl ⟨_, rfl, rfl⟩)) rfl k
      have e1 := xt184 (xs_lp hp) kc
      subst e1
      have k : nt_rn X _ 192 (32, [(0, .ref (p 0)), (1, .int v1), (2, .int v2), (3, .int v3), (4, .int v4), (5, .int v5)], [.int (x184 p J)], me_w (lw M L) J) _ := k
      have k := ly_revb 1 (c' := (if (x184 p J) = 0 then 64 else 35, [(0, .ref (p 0)), (1, .int v1), (2, .int v2), (3, .int v3), (4, .int v4), (5, .int v5)], [], me_w (lw M L) J)) rfl k
      by_cases h32 : (x184 p J) = 0
      · rw [if_pos h32] at k
        have k := nt_rn_w (a := [(0, .ref (p 0)), (1, .int v1), (2, .int v2), (3, .int v3), (4, .int v4), (5, .int v5)]) (b := [(0, .ref (p 0)), (1, .int v1), (2, .int v2), (3, .int v3), (4, .int v4), (5, .int v5)]) ⟨rfl, rfl, rfl, rfl, rfl, rfl, trivial⟩ rfl k
        rw [x192_18, if_neg h25, if_pos h32]
        exact ⟨_, k⟩
      · rw [if_neg h32] at k
        have k := ly_revb 5 (c' := (41, [(0, .ref (p 0)), (1, .int v1), (2, .int v2), (3, .int v3), (4, .int v4), (5, .int v5)], [.int v3, .int v4, .int v2, .int v1, .ref (p 0)], me_w (lw M L) J)) rfl k
        obtain ⟨d1, o1, ed, kc, k⟩ := lz_c (g := 193) (q := 1) (vs := [.ref (p 0), .int v1, .int v2, .int v4, .int v3]) (rest := []) rfl rfl (by decide) (Or.inr (Or.inl ⟨_, rfl, rfl⟩)) rfl k
        have e1 := xt193 hp kc
        subst e1
        have k : nt_rn X _ 192 (44, [(0, .ref (p 0)), (1, .int v1), (2, .int v2), (3, .int v3), (4, .int v4), (5, .int v5)], [.int ((x193 p v1 v2 v4 v3 J L).1)], me_w (lw M ((x193 p v1 v2 v4 v3 J L).2.2)) ((x193 p v1 v2 v4 v3 J L).2.1)) _ := k
        have k := ly_revb 3 (c' := (if 0 ≤ ((x193 p v1 v2 v4 v3 J L).1) then 54 else 51, [(5, .int ((x193 p v1 v2 v4 v3 J L).1)), (0, .ref (p 0)), (1, .int v1), (2, .int v2), (3, .int v3), (4, .int v4)], [], me_w (lw M ((x193 p v1 v2 v4 v3 J L).2.2)) ((x193 p v1 v2 v4 v3 J L).2.1))) rfl k
        by_cases h48 : 0 ≤ ((x193 p v1 v2 v4 v3 J L).1)
        · rw [if_pos h48] at k
          have k := ly_revb 3 (c' := (58, [(5, .int ((x193 p v1 v2 v4 v3 J L).1)), (0, .ref (p 0)), (1, .int v1), (2, .int v2), (3, .int v3), (4, .int v4)], [.int v2, .int ((x193 p v1 v2 v4 v3 J L).1), .ref (p 0)], me_w (lw M ((x193 p v1 v2 v4 v3 J L).2.2)) ((x193 p v1 v2 v4 v3 J L).2.1))) rfl k
          obtain ⟨d1, o1, ed, kc, k⟩ := lz_c (g := 185) (q := 1) (vs := [.ref (p 0), .int ((x193 p v1 v2 v4 v3 J L).1), .int v2]) (rest := []) rfl rfl (by decide) (Or.inr (Or.inl ⟨_, rfl, rfl⟩)) rfl k
          have e1 := xt185 (xs_lp hp) kc
          subst e1
          have k : nt_rn X _ 192 (61, [(5, .int ((x193 p v1 v2 v4 v3 J L).1)), (0, .ref (p 0)), (1, .int v1), (2, .int v2), (3, .int v3), (4, .int v4)], [], me_w (lw M ((x193 p v1 v2 v4 v3 J L).2.2)) (x185 p ((x193 p v1 v2 v4 v3 J L).1) v2 ((x193 p v1 v2 v4 v3 J L).2.1))) _ := k
          have k := ly_revb 1 (c' := (18, [(5, .int ((x193 p v1 v2 v4 v3 J L).1)), (0, .ref (p 0)), (1, .int v1), (2, .int v2), (3, .int v3), (4, .int v4)], [], me_w (lw M ((x193 p v1 v2 v4 v3 J L).2.2)) (x185 p ((x193 p v1 v2 v4 v3 J L).1) v2 ((x193 p v1 v2 v4 v3 J L).2.1)))) rfl k
          have k := nt_rn_w (a := [(5, .int ((x193 p v1 v2 v4 v3 J L).1)), (0, .ref (p 0)), (1, .int v1), (2, .int v2), (3, .int v3), (4, .int v4)]) (b := [(0, .ref (p 0)), (1, .int v1), (2, .int v2), (3, .int v3), (4, .int v4), (5, .int ((x193 p v1 v2 v4 v3 J L).1))]) ⟨rfl, rfl, rfl, rfl, rfl, rfl, trivial⟩ rfl k
          exact (xh_on h32 (lx_end hc.2)).elim
        · rw [if_neg h48] at k
          have k := ly_revb 1 (c' := (64, [(5, .int ((x193 p v1 v2 v4 v3 J L).1)), (0, .ref (p 0)), (1, .int v1), (2, .int v2), (3, .int v3), (4, .int v4)], [], me_w (lw M ((x193 p v1 v2 v4 v3 J L).2.2)) ((x193 p v1 v2 v4 v3 J L).2.1))) rfl k
          have k := nt_rn_w (a := [(5, .int ((x193 p v1 v2 v4 v3 J L).1)), (0, .ref (p 0)), (1, .int v1), (2, .int v2), (3, .int v3), (4, .int v4)]) (b := [(0, .ref (p 0)), (1, .int v1), (2, .int v2), (3, .int v3), (4, .int v4), (5, .int ((x193 p v1 v2 v4 v3 J L).1))]) ⟨rfl, rfl, rfl, rfl, rfl, rfl, trivial⟩ rfl k
          rw [x192_18, if_neg h25, if_neg h32, if_neg h48]
          exact ⟨_, k⟩
  | succ c ih =>
    intro v5 J L hc k
    have k := ly_revb 3 (c' := (22, [(0, .ref (p 0)), (1, .int v1), (2, .int v2), (3, .int v3), (4, .int v4), (5, .int v5)], [.int v4, .int v2, .ref (p 0)], me_w (lw M L) J)) rfl k
    obtain ⟨d1, o1, ed, kc, k⟩ := lz_c (g := 175) (q := 1) (vs := [.ref (p 0), .int v2, .int v4]) (rest := []) rfl rfl (by decide) (Or.inr (Or.inl ⟨_, rfl, rfl⟩)) rfl k
    have e1 := xt175 (xs_lp hp) kc
    subst e1
    have k : nt_rn X _ 192 (25, [(0, .ref (p 0)), (1, .int v1), (2, .int v2), (3, .int v3), (4, .int v4), (5, .int v5)], [.int (x175 p v2 v4 J)], me_w (lw M L) J) _ := k
    have k := ly_revb 1 (c' := (if (x175 p v2 v4 J) ≤ 0 then 64 else 28, [(0, .ref (p 0)), (1, .int v1), (2, .int v2), (3, .int v3), (4, .int v4), (5, .int v5)], [], me_w (lw M L) J)) rfl k
    by_cases h25 : (x175 p v2 v4 J) ≤ 0
    · rw [if_pos h25] at k
      have k := nt_rn_w (a := [(0, .ref (p 0)), (1, .int v1), (2, .int v2), (3, .int v3), (4, .int v4), (5, .int v5)]) (b := [(0, .ref (p 0)), (1, .int v1), (2, .int v2), (3, .int v3), (4, .int v4), (5, .int v5)]) ⟨rfl, rfl, rfl, rfl, rfl, rfl, trivial⟩ rfl k
      rw [x192_18, if_pos h25]
      exact ⟨_, k⟩
    · rw [if_neg h25] at k
      have k := ly_revb 1 (c' := (29, [(0, .ref (p 0)), (1, .int v1), (2, .int v2), (3, .int v3), (4, .int v4), (5, .int v5)], [.ref (p 0)], me_w (lw M L) J)) rfl k
      obtain ⟨d1, o1, ed, kc, k⟩ := lz_c (g := 184) (q := 1) (vs := [.ref (p 0)]) (rest := []) rfl rfl (by decide) (Or.inr (Or.inl ⟨_, rfl, rfl⟩)) rfl k
      have e1 := xt184 (xs_lp hp) kc
      subst e1
      have k : nt_rn X _ 192 (32, [(0, .ref (p 0)), (1, .int v1), (2, .int v2), (3, .int v3), (4, .int v4), (5, .int v5)], [.int (x184 p J)], me_w (lw M L) J) _ := k
      have k := ly_revb 1 (c' := (if (x184 p J) = 0 then 64 else 35, [(0, .ref (p 0)), (1, .int v1), (2, .int v2), (3, .int v3), (4, .int v4), (5, .int v5)], [], me_w (lw M L) J)) rfl k
      by_cases h32 : (x184 p J) = 0
      · rw [if_pos h32] at k
        have k := nt_rn_w (a := [(0, .ref (p 0)), (1, .int v1), (2, .int v2), (3, .int v3), (4, .int v4), (5, .int v5)]) (b := [(0, .ref (p 0)), (1, .int v1), (2, .int v2), (3, .int v3), (4, .int v4), (5, .int v5)]) ⟨rfl, rfl, rfl, rfl, rfl, rfl, trivial⟩ rfl k
        rw [x192_18, if_neg h25, if_pos h32]
        exact ⟨_, k⟩
      · rw [if_neg h32] at k
        have k := ly_revb 5 (c' := (41, [(0, .ref (p 0)), (1, .int v1), (2, .int v2), (3, .int v3), (4, .int v4), (5, .int v5)], [.int v3, .int v4, .int v2, .int v1, .ref (p 0)], me_w (lw M L) J)) rfl k
        obtain ⟨d1, o1, ed, kc, k⟩ := lz_c (g := 193) (q := 1) (vs := [.ref (p 0), .int v1, .int v2, .int v4, .int v3]) (rest := []) rfl rfl (by decide) (Or.inr (Or.inl ⟨_, rfl, rfl⟩)) rfl k
        have e1 := xt193 hp kc
        subst e1
        have k : nt_rn X _ 192 (44, [(0, .ref (p 0)), (1, .int v1), (2, .int v2), (3, .int v3), (4, .int v4), (5, .int v5)], [.int ((x193 p v1 v2 v4 v3 J L).1)], me_w (lw M ((x193 p v1 v2 v4 v3 J L).2.2)) ((x193 p v1 v2 v4 v3 J L).2.1)) _ := k
        have k := ly_revb 3 (c' := (if 0 ≤ ((x193 p v1 v2 v4 v3 J L).1) then 54 else 51, [(5, .int ((x193 p v1 v2 v4 v3 J L).1)), (0, .ref (p 0)), (1, .int v1), (2, .int v2), (3, .int v3), (4, .int v4)], [], me_w (lw M ((x193 p v1 v2 v4 v3 J L).2.2)) ((x193 p v1 v2 v4 v3 J L).2.1))) rfl k
        by_cases h48 : 0 ≤ ((x193 p v1 v2 v4 v3 J L).1)
        · rw [if_pos h48] at k
          have k := ly_revb 3 (c' := (58, [(5, .int ((x193 p v1 v2 v4 v3 J L).1)), (0, .ref (p 0)), (1, .int v1), (2, .int v2), (3, .int v3), (4, .int v4)], [.int v2, .int ((x193 p v1 v2 v4 v3 J L).1), .ref (p 0)], me_w (lw M ((x193 p v1 v2 v4 v3 J L).2.2)) ((x193 p v1 v2 v4 v3 J L).2.1))) rfl k
          obtain ⟨d1, o1, ed, kc, k⟩ := lz_c (g := 185) (q := 1) (vs := [.ref (p 0), .int ((x193 p v1 v2 v4 v3 J L).1), .int v2]) (rest := []) rfl rfl (by decide) (Or.inr (Or.inl ⟨_, rfl, rfl⟩)) rfl k
          have e1 := xt185 (xs_lp hp) kc
          subst e1
          have k : nt_rn X _ 192 (61, [(5, .int ((x193 p v1 v2 v4 v3 J L).1)), (0, .ref (p 0)), (1, .int v1), (2, .int v2), (3, .int v3), (4, .int v4)], [], me_w (lw M ((x193 p v1 v2 v4 v3 J L).2.2)) (x185 p ((x193 p v1 v2 v4 v3 J L).1) v2 ((x193 p v1 v2 v4 v3 J L).2.1))) _ := k
          have k := ly_revb 1 (c' := (18, [(5, .int ((x193 p v1 v2 v4 v3 J L).1)), (0, .ref (p 0)), (1, .int v1), (2, .int v2), (3, .int v3), (4, .int v4)], [], me_w (lw M ((x193 p v1 v2 v4 v3 J L).2.2)) (x185 p ((x193 p v1 v2 v4 v3 J L).1) v2 ((x193 p v1 v2 v4 v3 J L).2.1)))) rfl k
          have k := nt_rn_w (a := [(5, .int ((x193 p v1 v2 v4 v3 J L).1)), (0, .ref (p 0)), (1, .int v1), (2, .int v2), (3, .int v3), (4, .int v4)]) (b := [(0, .ref (p 0)), (1, .int v1), (2, .int v2), (3, .int v3), (4, .int v4), (5, .int ((x193 p v1 v2 v4 v3 J L).1))]) ⟨rfl, rfl, rfl, rfl, rfl, rfl, trivial⟩ rfl k
          have k := ih ((x193 p v1 v2 v4 v3 J L).1) (x185 p ((x193 p v1 v2 v4 v3 J L).1) v2 ((x193 p v1 v2 v4 v3 J L).2.1)) ((x193 p v1 v2 v4 v3 J L).2.2) (by have b := xw_193 (v1 := v1) (v2 := v2) (v3 := v4) (v4 := v3) (L := L) (hp.2.1 4 0 (by omega) (by omega) (by decide)) hc.1; have z := xw_185 (v1 := (x193 p v1 v2 v4 v3 J L).1) (v2 := v2) (J := (x193 p v1 v2 v4 v3 J L).2.1) (e := J (p 4)) (by rw [x193_frJ (hp.2.1 4 0 (by omega) (by omega) (by decide))]; exact xk_r hc.1) ⟨xh_ge h48, b.2⟩ ⟨by omega, hv.2⟩; exact ⟨z.1.1, by rw [z.1.2 5 (by omega), z.2, x193_frJ (hp.2.1 4 0 (by omega) (by omega) (by decide))]; exact lx_dec (xh_on h32) hc.2⟩) k
          rw [x192_18, if_neg h25, if_neg h32, if_pos h48]
          exact k
        · rw [if_neg h48] at k
          have k := ly_revb 1 (c' := (64, [(5, .int ((x193 p v1 v2 v4 v3 J L).1)), (0, .ref (p 0)), (1, .int v1), (2, .int v2), (3, .int v3), (4, .int v4)], [], me_w (lw M ((x193 p v1 v2 v4 v3 J L).2.2)) ((x193 p v1 v2 v4 v3 J L).2.1))) rfl k
          have k := nt_rn_w (a := [(5, .int ((x193 p v1 v2 v4 v3 J L).1)), (0, .ref (p 0)), (1, .int v1), (2, .int v2), (3, .int v3), (4, .int v4)]) (b := [(0, .ref (p 0)), (1, .int v1), (2, .int v2), (3, .int v3), (4, .int v4), (5, .int ((x193 p v1 v2 v4 v3 J L).1))]) ⟨rfl, rfl, rfl, rfl, rfl, rfl, trivial⟩ rfl k
          rw [x192_18, if_neg h25, if_neg h32, if_neg h48]
          exact ⟨_, k⟩
theorem x192_18_rule {p : Nat → Nat} {v1 : Int32} {v2 : Int32} {v3 : Int32} {v4 : Int32} {I : Nat → (Nat → Nat → Int32) → (Nat → Nat → Int64) → Prop} {Q : (Nat → Nat → Int32) × (Nat → Nat → Int64) → Prop} (h0 : ∀ (J : Nat → Nat → Int32) (L : Nat → Nat → Int64), I 0 J L → Q (if (x175 p v2 v4 J) ≤ 0 then (J, L)
    else if (x184 p J) = 0 then (J, L)
      else if 0 ≤ ((x193 p v1 v2 v4 v3 J L).1) then (x185 p ((x193 p v1 v2 v4 v3 J L).1) v2 ((x193 p v1 v2 v4 v3 J L).2.1), (x193 p v1 v2 v4 v3 J L).2.2)
        else ((x193 p v1 v2 v4 v3 J L).2.1, (x193 p v1 v2 v4 v3 J L).2.2))) (h1 : ∀ (c : Nat) (J : Nat → Nat → Int32) (L : Nat → Nat → Int64), I (c + 1) J L →
    if (x175 p v2 v4 J) ≤ 0 then (Q (J, L))
    else if (x184 p J) = 0 then (Q (J, L))
      else if 0 ≤ ((x193 p v1 v2 v4 v3 J L).1) then (I c  (x185 p ((x193 p v1 v2 v4 v3 J L).1) v2 ((x193 p v1 v2 v4 v3 J L).2.1)) ((x193 p v1 v2 v4 v3 J L).2.2))
        else (Q ((x193 p v1 v2 v4 v3 J L).2.1, (x193 p v1 v2 v4 v3 J L).2.2))) : ∀ (c : Nat) (J : Nat → Nat → Int32) (L : Nat → Nat → Int64), I c J L → Q (x192_18 p v1 v2 v3 v4 c J L) := by
  intro c
  induction c with
  | zero =>
    intro J L hi
    rw [x192_18]
    exact h0 J L hi
  | succ c ih =>
    intro J L hi
    have hi := h1 c J L hi
    rw [x192_18]
    by_cases h : (x175 p v2 v4 J) ≤ 0
    · rw [if_pos h] at hi ⊢
      exact hi
    · rw [if_neg h] at hi ⊢
      by_cases h : (x184 p J) = 0
      · rw [if_pos h] at hi ⊢
        exact hi
      · rw [if_neg h] at hi ⊢
        by_cases h : 0 ≤ ((x193 p v1 v2 v4 v3 J L).1)
        · rw [if_pos h] at hi ⊢
          exact ih _ _ hi
        · rw [if_neg h] at hi ⊢
          exact hi
theorem xw_192i {p : Nat → Nat} {e : Nat → Int32} {v1 v2 v3 v4 : Int32} (hd : p 4 ≠ p 0) (h2 : 0 ≤ v2.toInt ∧ v2.toInt ≤ 5) {c : Nat} {J : Nat → Nat → Int32} {L : Nat → Nat → Int64} (h : xk_K e (J (p 4))) : xk_K e ((x192_18 p v1 v2 v3 v4 c J L).1 (p 4)) := by
  refine x192_18_rule (I := fun _ J1 _ => xk_K e (J1 (p 4))) (Q := fun r => xk_K e (r.1 (p 4))) ?_ ?_ _ _ _ h
  · intro J1 L1 h
    have t : xk_K e ((x193 p v1 v2 v4 v3 J1 L1).2.1 (p 4)) := by rw [x193_frJ hd]; exact h
    have b := xw_193 (v1 := v1) (v2 := v2) (v3 := v4) (v4 := v3) (L := L1) hd h.1
    split
    · exact h
    · split
      · exact h
      · split
        · exact (xw_185 t ⟨xh_ge (by assumption), b.2⟩ ⟨by omega, h2.2⟩).1
        · exact t
  · intro c J1 L1 h
    have t : xk_K e ((x193 p v1 v2 v4 v3 J1 L1).2.1 (p 4)) := by rw [x193_frJ hd]; exact h
    have b := xw_193 (v1 := v1) (v2 := v2) (v3 := v4) (v4 := v3) (L := L1) hd h.1
    split
    · exact h
    · split
      · exact h
      · split
        · exact (xw_185 t ⟨xh_ge (by assumption), b.2⟩ ⟨by omega, h2.2⟩).1
        · exact t
theorem x192_18_frJ {p : Nat → Nat} {v1 : Int32} {v2 : Int32} {v3 : Int32} {v4 : Int32} {b : Nat} : ∀ (c : Nat) (J : Nat → Nat → Int32) (L : Nat → Nat → Int64), b ≠ p 0 → b ≠ p 4 → (x192_18 p v1 v2 v3 v4 c J L).1 b = J b := by
  intro c
  induction c with
  | zero =>
    intro  J L n0 n1
    rw [x192_18]
    by_cases h : (x175 p v2 v4 J) ≤ 0
    · rw [if_pos h]
      all_goals first | (dsimp only; exact (show J b = J b from rfl)) | exact (show J b = J b from rfl)
    · rw [if_neg h]
      by_cases h : (x184 p J) = 0
      · rw [if_pos h]
        all_goals first | (dsimp only; exact (show J b = J b from rfl)) | exact (show J b = J b from rfl)
      · rw [if_neg h]
        by_cases h : 0 ≤ ((x193 p v1 v2 v4 v3 J L).1)
        · rw [if_pos h]
          all_goals first | (dsimp only; exact (show (x185 p ((x193 p v1 v2 v4 v3 J L).1) v2 ((x193 p v1 v2 v4 v3 J L).2.1)) b = J b from (x185_frJ  n1).trans (x193_frJ  n0))) | exact (show (x185 p ((x193 p v1 v2 v4 v3 J L).1) v2 ((x193 p v1 v2 v4 v3 J L).2.1)) b = J b from (x185_frJ  n1).trans (x193_frJ  n0))
        · rw [if_neg h]
          all_goals first | (dsimp only; exact (show ((x193 p v1 v2 v4 v3 J L).2.1) b = J b from x193_frJ  n0)) | exact (show ((x193 p v1 v2 v4 v3 J L).2.1) b = J b from x193_frJ  n0)
  | succ c ih =>
    intro  J L n0 n1
    rw [x192_18]
    by_cases h : (x175 p v2 v4 J) ≤ 0
    · rw [if_pos h]
      all_goals first | (dsimp only; exact (show J b = J b from rfl)) | exact (show J b = J b from rfl)
    · rw [if_neg h]
      by_cases h : (x184 p J) = 0
      · rw [if_pos h]
        all_goals first | (dsimp only; exact (show J b = J b from rfl)) | exact (show J b = J b from rfl)
      · rw [if_neg h]
        by_cases h : 0 ≤ ((x193 p v1 v2 v4 v3 J L).1)
        · rw [if_pos h]
          exact (ih _ _ n0 n1).trans ((x185_frJ  n1).trans (x193_frJ  n0))
        · rw [if_neg h]
          all_goals first | (dsimp only; exact (show ((x193 p v1 v2 v4 v3 J L).2.1) b = J b from x193_frJ  n0)) | exact (show ((x193 p v1 v2 v4 v3 J L).2.1) b = J b from x193_frJ  n0)
theorem x192_18_frL {p : Nat → Nat} {v1 : Int32} {v2 : Int32} {v3 : Int32} {v4 : Int32} {b : Nat} : ∀ (c : Nat) (J : Nat → Nat → Int32) (L : Nat → Nat → Int64), b ≠ p 5 → b ≠ p 6 → (x192_18 p v1 v2 v3 v4 c J L).2 b = L b := by
  intro c
  induction c with
  | zero =>
    intro  J L n0 n1
    rw [x192_18]
    by_cases h : (x175 p v2 v4 J) ≤ 0
    · rw [if_pos h]
      all_goals first | (dsimp only; exact (show L b = L b from rfl)) | exact (show L b = L b from rfl)
    · rw [if_neg h]
      by_cases h : (x184 p J) = 0
      · rw [if_pos h]
        all_goals first | (dsimp only; exact (show L b = L b from rfl)) | exact (show L b = L b from rfl)
      · rw [if_neg h]
        by_cases h : 0 ≤ ((x193 p v1 v2 v4 v3 J L).1)
        · rw [if_pos h]
          all_goals first | (dsimp only; exact (show ((x193 p v1 v2 v4 v3 J L).2.2) b = L b from x193_frL n0 n1)) | exact (show ((x193 p v1 v2 v4 v3 J L).2.2) b = L b from x193_frL n0 n1)
        · rw [if_neg h]
          all_goals first | (dsimp only; exact (show ((x193 p v1 v2 v4 v3 J L).2.2) b = L b from x193_frL n0 n1)) | exact (show ((x193 p v1 v2 v4 v3 J L).2.2) b = L b from x193_frL n0 n1)
  | succ c ih =>
    intro  J L n0 n1
    rw [x192_18]
    by_cases h : (x175 p v2 v4 J) ≤ 0
    · rw [if_pos h]
      all_goals first | (dsimp only; exact (show L b = L b from rfl)) | exact (show L b = L b from rfl)
    · rw [if_neg h]
      by_cases h : (x184 p J) = 0
      · rw [if_pos h]
        all_goals first | (dsimp only; exact (show L b = L b from rfl)) | exact (show L b = L b from rfl)
      · rw [if_neg h]
        by_cases h : 0 ≤ ((x193 p v1 v2 v4 v3 J L).1)
        · rw [if_pos h]
          exact (ih _ _ n0 n1).trans (x193_frL n0 n1)
        · rw [if_neg h]
          all_goals first | (dsimp only; exact (show ((x193 p v1 v2 v4 v3 J L).2.2) b = L b from x193_frL n0 n1)) | exact (show ((x193 p v1 v2 v4 v3 J L).2.2) b = L b from x193_frL n0 n1)
def x192_3 (p : Nat → Nat) (v1 : Int32) (v2 : Int32) (v3 : Int32) : Nat → Int32 → (Nat → Nat → Int32) → (Nat → Nat → Int64) → (Nat → Nat → Int32) × (Nat → Nat → Int64)
  | 0, v4, J, L => if (x174 p v2 J) = 0 then (J, L)
    else (nt_u (nt_u (nt_u J (p 4) ((((Int32.ofInt 10) + ((Int32.ofInt 7) * v2)) + (Int32.ofInt 4)).toNatClampNeg) (Int32.ofInt 1)) (p 4) ((((Int32.ofInt 10) + ((Int32.ofInt 7) * v2)) + (Int32.ofInt 5)).toNatClampNeg) v3) (p 4) ((((Int32.ofInt 172) + ((Int32.ofInt 5) * v3)) + (Int32.ofInt 4)).toNatClampNeg) (Int32.ofInt 1), L)
  | c + 1, v4, J, L => if (J (p 4) 0) ≤ v4 then if (x174 p v2 J) = 0 then (J, L)
      else (nt_u (nt_u (nt_u J (p 4) ((((Int32.ofInt 10) + ((Int32.ofInt 7) * v2)) + (Int32.ofInt 4)).toNatClampNeg) (Int32.ofInt 1)) (p 4) ((((Int32.ofInt 10) + ((Int32.ofInt 7) * v2)) + (Int32.ofInt 5)).toNatClampNeg) v3) (p 4) ((((Int32.ofInt 172) + ((Int32.ofInt 5) * v3)) + (Int32.ofInt 4)).toNatClampNeg) (Int32.ofInt 1), L)
    else if v1 < 0 then if (x174 p v2 J) = 0 then (J, L)
        else (nt_u (nt_u (nt_u J (p 4) ((((Int32.ofInt 10) + ((Int32.ofInt 7) * v2)) + (Int32.ofInt 4)).toNatClampNeg) (Int32.ofInt 1)) (p 4) ((((Int32.ofInt 10) + ((Int32.ofInt 7) * v2)) + (Int32.ofInt 5)).toNatClampNeg) v3) (p 4) ((((Int32.ofInt 172) + ((Int32.ofInt 5) * v3)) + (Int32.ofInt 4)).toNatClampNeg) (Int32.ofInt 1), L)
      else (x192_3 p v1 v2 v3 c (v4 + (Int32.ofInt 1)) ((x192_18 p v1 v2 v3 v4 (((J (p 4) 5).toInt - (J (p 4) 6).toInt).toNat) J L).1) ((x192_18 p v1 v2 v3 v4 (((J (p 4) 5).toInt - (J (p 4) 6).toInt).toNat) J L).2))
theorem xt192_3 {X : nt_X} {d : Nat} {M : nt_M} {o : Option Value × nt_M} {p : Nat → Nat} {v1 : Int32} {v2 : Int32} {v3 : Int32} (hp : xs_P M p) (hv : 0 ≤ v2.toInt ∧ v2.toInt ≤ 5) : ∀ (c : Nat) (v4 : Int32) (v5 : Int32) (J : Nat → Nat → Int32) (L : Nat → Nat → Int64), (xr_W (J (p 4)) ∧ 0 ≤ v4.toInt ∧ (J (p 4) 0).toInt - v4.toInt ≤ c) → nt_rn X d 192 (3, [(0, .ref (p 0)), (1, .int v1), (2, .int v2), (3, .int v3), (4, .int v4), (5, .int v5)], [], me_w (lw M L) J) o → o = (none, me_w (lw M ((x192_3 p v1 v2 v3 c v4 J L).2)) ((x192_3 p v1 v2 v3 c v4 J L).1)) := by
  intro c
  induction c with
  | zero =>
    intro v4 v5 J L hc k
    have k := ly_revb 2 (c' := (6, [(0, .ref (p 0)), (1, .int v1), (2, .int v2), (3, .int v3), (4, .int v4), (5, .int v5)], [.ref (p 0), .int v4], me_w (lw M L) J)) rfl k
    have k := lz_get (a := (p 0)) (g := 1127) (M := me_w (lw M L) J) (v := .ref (p 4)) rfl (nt_gfR rfl (hp.1 (0, 27, 4) (by decide))) k
    have k := ly_revb 1 (c' := (10, [(0, .ref (p 0)), (1, .int v1), (2, .int v2), (3, .int v3), (4, .int v4), (5, .int v5)], [.int (Int32.ofInt 0), .ref (p 4), .int v4], me_w (lw M L) J)) rfl k
    have k := mx_iald (v := J (p 4) 0) rfl (hp.2.2.1 4 (by omega)) ((congrArg (J (p 4)) (show (Int32.ofInt 0).toNatClampNeg = 0 from rfl)).trans (rfl)) k
    have k := ly_revb 1 (c' := (if (J (p 4) 0) ≤ v4 then 70 else 14, [(0, .ref (p 0)), (1, .int v1), (2, .int v2), (3, .int v3), (4, .int v4), (5, .int v5)], [], me_w (lw M L) J)) rfl k
    have h11 : (J (p 4) 0) ≤ v4 := lx_end hc.2.2
    rw [if_pos h11] at k
    have k := ly_revb 2 (c' := (72, [(0, .ref (p 0)), (1, .int v1), (2, .int v2), (3, .int v3), (4, .int v4), (5, .int v5)], [.int v2, .ref (p 0)], me_w (lw M L) J)) rfl k
    obtain ⟨d1, o1, ed, kc, k⟩ := lz_c (g := 174) (q := 1) (vs := [.ref (p 0), .int v2]) (rest := []) rfl rfl (by decide) (Or.inr (Or.inl ⟨_, rfl, rfl⟩)) rfl k
    have e1 := xt174 (xs_lp hp) kc
    subst e1
    have k : nt_rn X _ 192 (75, [(0, .ref (p 0)), (1, .int v1), (2, .int v2), (3, .int v3), (4, .int v4), (5, .int v5)], [.int (x174 p v2 J)], me_w (lw M L) J) _ := k
    have k := ly_revb 1 (c' := (if (x174 p v2 J) = 0 then 78 else 79, [(0, .ref (p 0)), (1, .int v1), (2, .int v2), (3, .int v3), (4, .int v4), (5, .int v5)], [], me_w (lw M L) J)) rfl k
    by_cases h75 : (x174 p v2 J) = 0
    · rw [if_pos h75] at k
      have k := lz_rv rfl rfl k
      rw [k, x192_3, if_pos h75]
    · rw [if_neg h75] at k
      have k := ly_revb 1 (c' := (80, [(0, .ref (p 0)), (1, .int v1), (2, .int v2), (3, .int v3), (4, .int v4), (5, .int v5)], [.ref (p 0)], me_w (lw M L) J)) rfl k
      have k := lz_get (a := (p 0)) (g := 1127) (M := me_w (lw M L) J) (v := .ref (p 4)) rfl (nt_gfR rfl (hp.1 (0, 27, 4) (by decide))) k
      have k := ly_revb 8 (c' := (93, [(0, .ref (p 0)), (1, .int v1), (2, .int v2), (3, .int v3), (4, .int v4), (5, .int v5)], [.int (Int32.ofInt 1), .int (((Int32.ofInt 10) + ((Int32.ofInt 7) * v2)) + (Int32.ofInt 4)), .ref (p 4)], me_w (lw M L) J)) rfl k
      have k := mx_iast (q := (((Int32.ofInt 10) + ((Int32.ofInt 7) * v2)) + (Int32.ofInt 4)).toNatClampNeg) rfl rfl k
      have k : nt_rn X _ 192 (94, [(0, .ref (p 0)), (1, .int v1), (2, .int v2), (3, .int v3), (4, .int v4), (5, .int v5)], [], me_w (lw M L) (nt_u J (p 4) ((((Int32.ofInt 10) + ((Int32.ofInt 7) * v2)) + (Int32.ofInt 4)).toNatClampNeg) (Int32.ofInt 1))) _ := k
      have k := ly_revb 1 (c' := (95, [(0, .ref (p 0)), (1, .int v1), (2, .int v2), (3, .int v3), (4, .int v4), (5, .int v5)], [.ref (p 0)], me_w (lw M L) (nt_u J (p 4) ((((Int32.ofInt 10) + ((Int32.ofInt 7) * v2)) + (Int32.ofInt 4)).toNatClampNeg) (Int32.ofInt 1)))) rfl k
      have k := lz_get (a := (p 0)) (g := 1127) (M := me_w (lw M L) (nt_u J (p 4) ((((Int32.ofInt 10) + ((Int32.ofInt 7) * v2)) + (Int32.ofInt 4)).toNatClampNeg) (Int32.ofInt 1))) (v := .ref (p 4)) rfl (nt_gfR rfl (hp.1 (0, 27, 4) (by decide))) k
      have k := ly_revb 8 (c' := (108, [(0, .ref (p 0)), (1, .int v1), (2, .int v2), (3, .int v3), (4, .int v4), (5, .int v5)], [.int v3, .int (((Int32.ofInt 10) + ((Int32.ofInt 7) * v2)) + (Int32.ofInt 5)), .ref (p 4)], me_w (lw M L) (nt_u J (p 4) ((((Int32.ofInt 10) + ((Int32.ofInt 7) * v2)) + (Int32.ofInt 4)).toNatClampNeg) (Int32.ofInt 1)))) rfl k
      have k := mx_iast (q := (((Int32.ofInt 10) + ((Int32.ofInt 7) * v2)) + (Int32.ofInt 5)).toNatClampNeg) rfl rfl k
      have k : nt_rn X _ 192 (109, [(0, .ref (p 0)), (1, .int v1), (2, .int v2), (3, .int v3), (4, .int v4), (5, .int v5)], [], me_w (lw M L) (nt_u (nt_u J (p 4) ((((Int32.ofInt 10) + ((Int32.ofInt 7) * v2)) + (Int32.ofInt 4)).toNatClampNeg) (Int32.ofInt 1)) (p 4) ((((Int32.ofInt 10) + ((Int32.ofInt 7) * v2)) + (Int32.ofInt 5)).toNatClampNeg) v3)) _ := k
      have k := ly_revb 1 (c' := (110, [(0, .ref (p 0)), (1, .int v1), (2, .int v2), (3, .int v3), (4, .int v4), (5, .int v5)], [.ref (p 0)], me_w (lw M L) (nt_u (nt_u J (p 4) ((((Int32.ofInt 10) + ((Int32.ofInt 7) * v2)) + (Int32.ofInt 4)).toNatClampNeg) (Int32.ofInt 1)) (p 4) ((((Int32.ofInt 10) + ((Int32.ofInt 7) * v2)) + (Int32.ofInt 5)).toNatClampNeg) v3))) rfl k
      have k := lz_get (a := (p 0)) (g := 1127) (M := me_w (lw M L) (nt_u (nt_u J (p 4) ((((Int32.ofInt 10) + ((Int32.ofInt 7) * v2)) + (Int32.ofInt 4)).toNatClampNeg) (Int32.ofInt 1)) (p 4) ((((Int32.ofInt 10) + ((Int32.ofInt 7) * v2)) + (Int32.ofInt 5)).toNatClampNeg) v3)) (v := .ref (p 4)) rfl (nt_gfR rfl (hp.1 (0, 27, 4) (by decide))) k
      have k := ly_revb 8 (c' := (123, [(0, .ref (p 0)), (1, .int v1), (2, .int v2), (3, .int v3), (4, .int v4), (5, .int v5)], [.int (Int32.ofInt 1), .int (((Int32.ofInt 172) + ((Int32.ofInt 5) * v3)) + (Int32.ofInt 4)), .ref (p 4)], me_w (lw M L) (nt_u (nt_u J (p 4) ((((Int32.ofInt 10) + ((Int32.ofInt 7) * v2)) + (Int32.ofInt 4)).toNatClampNeg) (Int32.ofInt 1)) (p 4) ((((Int32.ofInt 10) + ((Int32.ofInt 7) * v2)) + (Int32.ofInt 5)).toNatClampNeg) v3))) rfl k
      have k := mx_iast (q := (((Int32.ofInt 172) + ((Int32.ofInt 5) * v3)) + (Int32.ofInt 4)).toNatClampNeg) rfl rfl k
      have k : nt_rn X _ 192 (124, [(0, .ref (p 0)), (1, .int v1), (2, .int v2), (3, .int v3), (4, .int v4), (5, .int v5)], [], me_w (lw M L) (nt_u (nt_u (nt_u J (p 4) ((((Int32.ofInt 10) + ((Int32.ofInt 7) * v2)) + (Int32.ofInt 4)).toNatClampNeg) (Int32.ofInt 1)) (p 4) ((((Int32.ofInt 10) + ((Int32.ofInt 7) * v2)) + (Int32.ofInt 5)).toNatClampNeg) v3) (p 4) ((((Int32.ofInt 172) + ((Int32.ofInt 5) * v3)) + (Int32.ofInt 4)).toNatClampNeg) (Int32.ofInt 1))) _ := k
      have k := lz_rv rfl rfl k
      rw [k, x192_3, if_neg h75]
  | succ c ih =>
    intro v4 v5 J L hc k
    have k := ly_revb 2 (c' := (6, [(0, .ref (p 0)), (1, .int v1), (2, .int v2), (3, .int v3), (4, .int v4), (5, .int v5)], [.ref (p 0), .int v4], me_w (lw M L) J)) rfl k
    have k := lz_get (a := (p 0)) (g := 1127) (M := me_w (lw M L) J) (v := .ref (p 4)) rfl (nt_gfR rfl (hp.1 (0, 27, 4) (by decide))) k
    have k := ly_revb 1 (c' := (10, [(0, .ref (p 0)), (1, .int v1), (2, .int v2), (3, .int v3), (4, .int v4), (5, .int v5)], [.int (Int32.ofInt 0), .ref (p 4), .int v4], me_w (lw M L) J)) rfl k
    have k := mx_iald (v := J (p 4) 0) rfl (hp.2.2.1 4 (by omega)) ((congrArg (J (p 4)) (show (Int32.ofInt 0).toNatClampNeg = 0 from rfl)).trans (rfl)) k
    have k := ly_revb 1 (c' := (if (J (p 4) 0) ≤ v4 then 70 else 14, [(0, .ref (p 0)), (1, .int v1), (2, .int v2), (3, .int v3), (4, .int v4), (5, .int v5)], [], me_w (lw M L) J)) rfl k
    by_cases h11 : (J (p 4) 0) ≤ v4
    · rw [if_pos h11] at k
      have k := ly_revb 2 (c' := (72, [(0, .ref (p 0)), (1, .int v1), (2, .int v2), (3, .int v3), (4, .int v4), (5, .int v5)], [.int v2, .ref (p 0)], me_w (lw M L) J)) rfl k
      obtain ⟨d1, o1, ed, kc, k⟩ := lz_c (g := 174) (q := 1) (vs := [.ref (p 0), .int v2]) (rest := []) rfl rfl (by decide) (Or.inr (Or.inl ⟨_, rfl, rfl⟩)) rfl k
      have e1 := xt174 (xs_lp hp) kc
      subst e1
      have k : nt_rn X _ 192 (75, [(0, .ref (p 0)), (1, .int v1), (2, .int v2), (3, .int v3), (4, .int v4), (5, .int v5)], [.int (x174 p v2 J)], me_w (lw M L) J) _ := k
      have k := ly_revb 1 (c' := (if (x174 p v2 J) = 0 then 78 else 79, [(0, .ref (p 0)), (1, .int v1), (2, .int v2), (3, .int v3), (4, .int v4), (5, .int v5)], [], me_w (lw M L) J)) rfl k
      by_cases h75 : (x174 p v2 J) = 0
      · rw [if_pos h75] at k
        have k := lz_rv rfl rfl k
        rw [k, x192_3, if_pos h11, if_pos h75]
      · rw [if_neg h75] at k
        have k := ly_revb 1 (c' := (80, [(0, .ref (p 0)), (1, .int v1), (2, .int v2), (3, .int v3), (4, .int v4), (5, .int v5)], [.ref (p 0)], me_w (lw M L) J)) rfl k
        have k := lz_get (a := (p 0)) (g := 1127) (M := me_w (lw M L) J) (v := .ref (p 4)) rfl (nt_gfR rfl (hp.1 (0, 27, 4) (by decide))) k
        have k := ly_revb 8 (c' := (93, [(0, .ref (p 0)), (1, .int v1), (2, .int v2), (3, .int v3), (4, .int v4), (5, .int v5)], [.int (Int32.ofInt 1), .int (((Int32.ofInt 10) + ((Int32.ofInt 7) * v2)) + (Int32.ofInt 4)), .ref (p 4)], me_w (lw M L) J)) rfl k
        have k := mx_iast (q := (((Int32.ofInt 10) + ((Int32.ofInt 7) * v2)) + (Int32.ofInt 4)).toNatClampNeg) rfl rfl k
        have k : nt_rn X _ 192 (94, [(0, .ref (p 0)), (1, .int v1), (2, .int v2), (3, .int v3), (4, .int v4), (5, .int v5)], [], me_w (lw M L) (nt_u J (p 4) ((((Int32.ofInt 10) + ((Int32.ofInt 7) * v2)) + (Int32.ofInt 4)).toNatClampNeg) (Int32.ofInt 1))) _ := k
        have k := ly_revb 1 (c' := (95, [(0, .ref (p 0)), (1, .int v1), (2, .int v2), (3, .int v3), (4, .int v4), (5, .int v5)], [.ref (p 0)], me_w (lw M L) (nt_u J (p 4) ((((Int32.ofInt 10) + ((Int32.ofInt 7) * v2)) + (Int32.ofInt 4)).toNatClampNeg) (Int32.ofInt 1)))) rfl k
        have k := lz_get (a := (p 0)) (g := 1127) (M := me_w (lw M L) (nt_u J (p 4) ((((Int32.ofInt 10) + ((Int32.ofInt 7) * v2)) + (Int32.ofInt 4)).toNatClampNeg) (Int32.ofInt 1))) (v := .ref (p 4)) rfl (nt_gfR rfl (hp.1 (0, 27, 4) (by decide))) k
        have k := ly_revb 8 (c' := (108, [(0, .ref (p 0)), (1, .int v1), (2, .int v2), (3, .int v3), (4, .int v4), (5, .int v5)], [.int v3, .int (((Int32.ofInt 10) + ((Int32.ofInt 7) * v2)) + (Int32.ofInt 5)), .ref (p 4)], me_w (lw M L) (nt_u J (p 4) ((((Int32.ofInt 10) + ((Int32.ofInt 7) * v2)) + (Int32.ofInt 4)).toNatClampNeg) (Int32.ofInt 1)))) rfl k
        have k := mx_iast (q := (((Int32.ofInt 10) + ((Int32.ofInt 7) * v2)) + (Int32.ofInt 5)).toNatClampNeg) rfl rfl k
        have k : nt_rn X _ 192 (109, [(0, .ref (p 0)), (1, .int v1), (2, .int v2), (3, .int v3), (4, .int v4), (5, .int v5)], [], me_w (lw M L) (nt_u (nt_u J (p 4) ((((Int32.ofInt 10) + ((Int32.ofInt 7) * v2)) + (Int32.ofInt 4)).toNatClampNeg) (Int32.ofInt 1)) (p 4) ((((Int32.ofInt 10) + ((Int32.ofInt 7) * v2)) + (Int32.ofInt 5)).toNatClampNeg) v3)) _ := k
        have k := ly_revb 1 (c' := (110, [(0, .ref (p 0)), (1, .int v1), (2, .int v2), (3, .int v3), (4, .int v4), (5, .int v5)], [.ref (p 0)], me_w (lw M L) (nt_u (nt_u J (p 4) ((((Int32.ofInt 10) + ((Int32.ofInt 7) * v2)) + (Int32.ofInt 4)).toNatClampNeg) (Int32.ofInt 1)) (p 4) ((((Int32.ofInt 10) + ((Int32.ofInt 7) * v2)) + (Int32.ofInt 5)).toNatClampNeg) v3))) rfl k
        have k := lz_get (a := (p 0)) (g := 1127) (M := me_w (lw M L) (nt_u (nt_u J (p 4) ((((Int32.ofInt 10) + ((Int32.ofInt 7) * v2)) + (Int32.ofInt 4)).toNatClampNeg) (Int32.ofInt 1)) (p 4) ((((Int32.ofInt 10) + ((Int32.ofInt 7) * v2)) + (Int32.ofInt 5)).toNatClampNeg) v3)) (v := .ref (p 4)) rfl (nt_gfR rfl (hp.1 (0, 27, 4) (by decide))) k
        have k := ly_revb 8 (c' := (123, [(0, .ref (p 0)), (1, .int v1), (2, .int v2), (3, .int v3), (4, .int v4), (5, .int v5)], [.int (Int32.ofInt 1), .int (((Int32.ofInt 172) + ((Int32.ofInt 5) * v3)) + (Int32.ofInt 4)), .ref (p 4)], me_w (lw M L) (nt_u (nt_u J (p 4) ((((Int32.ofInt 10) + ((Int32.ofInt 7) * v2)) + (Int32.ofInt 4)).toNatClampNeg) (Int32.ofInt 1)) (p 4) ((((Int32.ofInt 10) + ((Int32.ofInt 7) * v2)) + (Int32.ofInt 5)).toNatClampNeg) v3))) rfl k
        have k := mx_iast (q := (((Int32.ofInt 172) + ((Int32.ofInt 5) * v3)) + (Int32.ofInt 4)).toNatClampNeg) rfl rfl k
        have k : nt_rn X _ 192 (124, [(0, .ref (p 0)), (1, .int v1), (2, .int v2), (3, .int v3), (4, .int v4), (5, .int v5)], [], me_w (lw M L) (nt_u (nt_u (nt_u J (p 4) ((((Int32.ofInt 10) + ((Int32.ofInt 7) * v2)) + (Int32.ofInt 4)).toNatClampNeg) (Int32.ofInt 1)) (p 4) ((((Int32.ofInt 10) + ((Int32.ofInt 7) * v2)) + (Int32.ofInt 5)).toNatClampNeg) v3) (p 4) ((((Int32.ofInt 172) + ((Int32.ofInt 5) * v3)) + (Int32.ofInt 4)).toNatClampNeg) (Int32.ofInt 1))) _ := k
        have k := lz_rv rfl rfl k
        rw [k, x192_3, if_pos h11, if_neg h75]
    · rw [if_neg h11] at k
      have k := ly_revb 2 (c' := (if v1 < 0 then 70 else 18, [(0, .ref (p 0)), (1, .int v1), (2, .int v2), (3, .int v3), (4, .int v4), (5, .int v5)], [], me_w (lw M L) J)) rfl k
      by_cases h15 : v1 < 0
      · rw [if_pos h15] at k
        have k := ly_revb 2 (c' := (72, [(0, .ref (p 0)), (1, .int v1), (2, .int v2), (3, .int v3), (4, .int v4), (5, .int v5)], [.int v2, .ref (p 0)], me_w (lw M L) J)) rfl k
        obtain ⟨d1, o1, ed, kc, k⟩ := lz_c (g := 174) (q := 1) (vs := [.ref (p 0), .int v2]) (rest := []) rfl rfl (by decide) (Or.inr (Or.inl ⟨_, rfl, rfl⟩)) rfl k
        have e1 := xt174 (xs_lp hp) kc
        subst e1
        have k : nt_rn X _ 192 (75, [(0, .ref (p 0)), (1, .int v1), (2, .int v2), (3, .int v3), (4, .int v4), (5, .int v5)], [.int (x174 p v2 J)], me_w (lw M L) J) _ := k
        have k := ly_revb 1 (c' := (if (x174 p v2 J) = 0 then 78 else 79, [(0, .ref (p 0)), (1, .int v1), (2, .int v2), (3, .int v3), (4, .int v4), (5, .int v5)], [], me_w (lw M L) J)) rfl k
        by_cases h75 : (x174 p v2 J) = 0
        · rw [if_pos h75] at k
          have k := lz_rv rfl rfl k
          rw [k, x192_3, if_neg h11, if_pos h15, if_pos h75]
        · rw [if_neg h75] at k
          have k := ly_revb 1 (c' := (80, [(0, .ref (p 0)), (1, .int v1), (2, .int v2), (3, .int v3), (4, .int v4), (5, .int v5)], [.ref (p 0)], me_w (lw M L) J)) rfl k
          have k := lz_get (a := (p 0)) (g := 1127) (M := me_w (lw M L) J) (v := .ref (p 4)) rfl (nt_gfR rfl (hp.1 (0, 27, 4) (by decide))) k
          have k := ly_revb 8 (c' := (93, [(0, .ref (p 0)), (1, .int v1), (2, .int v2), (3, .int v3), (4, .int v4), (5, .int v5)], [.int (Int32.ofInt 1), .int (((Int32.ofInt 10) + ((Int32.ofInt 7) * v2)) + (Int32.ofInt 4)), .ref (p 4)], me_w (lw M L) J)) rfl k
          have k := mx_iast (q := (((Int32.ofInt 10) + ((Int32.ofInt 7) * v2)) + (Int32.ofInt 4)).toNatClampNeg) rfl rfl k
          have k : nt_rn X _ 192 (94, [(0, .ref (p 0)), (1, .int v1), (2, .int v2), (3, .int v3), (4, .int v4), (5, .int v5)], [], me_w (lw M L) (nt_u J (p 4) ((((Int32.ofInt 10) + ((Int32.ofInt 7) * v2)) + (Int32.ofInt 4)).toNatClampNeg) (Int32.ofInt 1))) _ := k
          have k := ly_revb 1 (c' := (95, [(0, .ref (p 0)), (1, .int v1), (2, .int v2), (3, .int v3), (4, .int v4), (5, .int v5)], [.ref (p 0)], me_w (lw M L) (nt_u J (p 4) ((((Int32.ofInt 10) + ((Int32.ofInt 7) * v2)) + (Int32.ofInt 4)).toNatClampNeg) (Int32.ofInt 1)))) rfl k
          have k := lz_get (a := (p 0)) (g := 1127) (M := me_w (lw M L) (nt_u J (p 4) ((((Int32.ofInt 10) + ((Int32.ofInt 7) * v2)) + (Int32.ofInt 4)).toNatClampNeg) (Int32.ofInt 1))) (v := .ref (p 4)) rfl (nt_gfR rfl (hp.1 (0, 27, 4) (by decide))) k
          have k := ly_revb 8 (c' := (108, [(0, .ref (p 0)), (1, .int v1), (2, .int v2), (3, .int v3), (4, .int v4), (5, .int v5)], [.int v3, .int (((Int32.ofInt 10) + ((Int32.ofInt 7) * v2)) + (Int32.ofInt 5)), .ref (p 4)], me_w (lw M L) (nt_u J (p 4) ((((Int32.ofInt 10) + ((Int32.ofInt 7) * v2)) + (Int32.ofInt 4)).toNatClampNeg) (Int32.ofInt 1)))) rfl k
          have k := mx_iast (q := (((Int32.ofInt 10) + ((Int32.ofInt 7) * v2)) + (Int32.ofInt 5)).toNatClampNeg) rfl rfl k
          have k : nt_rn X _ 192 (109, [(0, .ref (p 0)), (1, .int v1), (2, .int v2), (3, .int v3), (4, .int v4), (5, .int v5)], [], me_w (lw M L) (nt_u (nt_u J (p 4) ((((Int32.ofInt 10) + ((Int32.ofInt 7) * v2)) + (Int32.ofInt 4)).toNatClampNeg) (Int32.ofInt 1)) (p 4) ((((Int32.ofInt 10) + ((Int32.ofInt 7) * v2)) + (Int32.ofInt 5)).toNatClampNeg) v3)) _ := k
          have k := ly_revb 1 (c' := (110, [(0, .ref (p 0)), (1, .int v1), (2, .int v2), (3, .int v3), (4, .int v4), (5, .int v5)], [.ref (p 0)], me_w (lw M L) (nt_u (nt_u J (p 4) ((((Int32.ofInt 10) + ((Int32.ofInt 7) * v2)) + (Int32.ofInt 4)).toNatClampNeg) (Int32.ofInt 1)) (p 4) ((((Int32.ofInt 10) + ((Int32.ofInt 7) * v2)) + (Int32.ofInt 5)).toNatClampNeg) v3))) rfl k
          have k := lz_get (a := (p 0)) (g := 1127) (M := me_w (lw M L) (nt_u (nt_u J (p 4) ((((Int32.ofInt 10) + ((Int32.ofInt 7) * v2)) + (Int32.ofInt 4)).toNatClampNeg) (Int32.ofInt 1)) (p 4) ((((Int32.ofInt 10) + ((Int32.ofInt 7) * v2)) + (Int32.ofInt 5)).toNatClampNeg) v3)) (v := .ref (p 4)) rfl (nt_gfR rfl (hp.1 (0, 27, 4) (by decide))) k
          have k := ly_revb 8 (c' := (123, [(0, .ref (p 0)), (1, .int v1), (2, .int v2), (3, .int v3), (4, .int v4), (5, .int v5)], [.int (Int32.ofInt 1), .int (((Int32.ofInt 172) + ((Int32.ofInt 5) * v3)) + (Int32.ofInt 4)), .ref (p 4)], me_w (lw M L) (nt_u (nt_u J (p 4) ((((Int32.ofInt 10) + ((Int32.ofInt 7) * v2)) + (Int32.ofInt 4)).toNatClampNeg) (Int32.ofInt 1)) (p 4) ((((Int32.ofInt 10) + ((Int32.ofInt 7) * v2)) + (Int32.ofInt 5)).toNatClampNeg) v3))) rfl k
          have k := mx_iast (q := (((Int32.ofInt 172) + ((Int32.ofInt 5) * v3)) + (Int32.ofInt 4)).toNatClampNeg) rfl rfl k
          have k : nt_rn X _ 192 (124, [(0, .ref (p 0)), (1, .int v1), (2, .int v2), (3, .int v3), (4, .int v4), (5, .int v5)], [], me_w (lw M L) (nt_u (nt_u (nt_u J (p 4) ((((Int32.ofInt 10) + ((Int32.ofInt 7) * v2)) + (Int32.ofInt 4)).toNatClampNeg) (Int32.ofInt 1)) (p 4) ((((Int32.ofInt 10) + ((Int32.ofInt 7) * v2)) + (Int32.ofInt 5)).toNatClampNeg) v3) (p 4) ((((Int32.ofInt 172) + ((Int32.ofInt 5) * v3)) + (Int32.ofInt 4)).toNatClampNeg) (Int32.ofInt 1))) _ := k
          have k := lz_rv rfl rfl k
          rw [k, x192_3, if_neg h11, if_pos h15, if_neg h75]
      · rw [if_neg h15] at k
        have k := nt_rn_w (a := [(0, .ref (p 0)), (1, .int v1), (2, .int v2), (3, .int v3), (4, .int v4), (5, .int v5)]) (b := [(0, .ref (p 0)), (1, .int v1), (2, .int v2), (3, .int v3), (4, .int v4), (5, .int v5)]) ⟨rfl, rfl, rfl, rfl, rfl, rfl, trivial⟩ rfl k
        have k := xt192_18 hp hv  (((J (p 4) 5).toInt - (J (p 4) 6).toInt).toNat) v5 J L (⟨hc.1, lx_bg2⟩) k
        obtain ⟨w5, k⟩ := k
        have k : nt_rn X _ 192 (64, [(0, .ref (p 0)), (1, .int v1), (2, .int v2), (3, .int v3), (4, .int v4), (5, .int w5)], [], me_w (lw M ((x192_18 p v1 v2 v3 v4 (((J (p 4) 5).toInt - (J (p 4) 6).toInt).toNat) J L).2)) ((x192_18 p v1 v2 v3 v4 (((J (p 4) 5).toInt - (J (p 4) 6).toInt).toNat) J L).1)) _ := k
        have k := ly_revb 2 (c' := (3, [(4, .int (v4 + (Int32.ofInt 1))), (0, .ref (p 0)), (1, .int v1), (2, .int v2), (3, .int v3), (5, .int w5)], [], me_w (lw M ((x192_18 p v1 v2 v3 v4 (((J (p 4) 5).toInt - (J (p 4) 6).toInt).toNat) J L).2)) ((x192_18 p v1 v2 v3 v4 (((J (p 4) 5).toInt - (J (p 4) 6).toInt).toNat) J L).1))) rfl k
        have k := nt_rn_w (a := [(4, .int (v4 + (Int32.ofInt 1))), (0, .ref (p 0)), (1, .int v1), (2, .int v2), (3, .int v3), (5, .int w5)]) (b := [(0, .ref (p 0)), (1, .int v1), (2, .int v2), (3, .int v3), (4, .int (v4 + (Int32.ofInt 1))), (5, .int w5)]) ⟨rfl, rfl, rfl, rfl, rfl, rfl, trivial⟩ rfl k
        have k := ih (v4 + (Int32.ofInt 1)) w5 ((x192_18 p v1 v2 v3 v4 (((J (p 4) 5).toInt - (J (p 4) 6).toInt).toNat) J L).1) ((x192_18 p v1 v2 v3 v4 (((J (p 4) 5).toInt - (J (p 4) 6).toInt).toNat) J L).2) (by have z := xw_192i (v1 := v1) (v3 := v3) (v4 := v4) (c := ((J (p 4) 5).toInt - (J (p 4) 6).toInt).toNat) (L := L) (hp.2.1 4 0 (by omega) (by omega) (by decide)) hv (xk_r hc.1); exact ⟨z.1, xi_nn h11 hc.2.1, by rw [z.2 0 (by omega)]; exact lx_dec h11 hc.2.2⟩) k
        rw [k, x192_3, if_neg h11, if_neg h15]
theorem x192_3_rule {p : Nat → Nat} {v1 : Int32} {v2 : Int32} {v3 : Int32} {I : Nat → Int32 → (Nat → Nat → Int32) → (Nat → Nat → Int64) → Prop} {Q : (Nat → Nat → Int32) × (Nat → Nat → Int64) → Prop} (h0 : ∀ (v4 : Int32) (J : Nat → Nat → Int32) (L : Nat → Nat → Int64), I 0 v4 J L → Q (if (x174 p v2 J) = 0 then (J, L)
    else (nt_u (nt_u (nt_u J (p 4) ((((Int32.ofInt 10) + ((Int32.ofInt 7) * v2)) + (Int32.ofInt 4)).toNatClampNeg) (Int32.ofInt 1)) (p 4) ((((Int32.ofInt 10) + ((Int32.ofInt 7) * v2)) + (Int32.ofInt 5)).toNatClampNeg) v3) (p 4) ((((Int32.ofInt 172) + ((Int32.ofInt 5) * v3)) + (Int32.ofInt 4)).toNatClampNeg) (Int32.ofInt 1), L))) (h1 : ∀ (c : Nat) (v4 : Int32) (J : Nat → Nat → Int32) (L : Nat → Nat → Int64), I (c + 1) v4 J L →
    if (J (p 4) 0) ≤ v4 then if (x174 p v2 J) = 0 then (Q (J, L))
      else (Q (nt_u (nt_u (nt_u J (p 4) ((((Int32.ofInt 10) + ((Int32.ofInt 7) * v2)) + (Int32.ofInt 4)).toNatClampNeg) (Int32.ofInt 1)) (p 4) ((((Int32.ofInt 10) + ((Int32.ofInt 7) * v2)) + (Int32.ofInt 5)).toNatClampNeg) v3) (p 4) ((((Int32.ofInt 172) + ((Int32.ofInt 5) * v3)) + (Int32.ofInt 4)).toNatClampNeg) (Int32.ofInt 1), L))
    else if v1 < 0 then if (x174 p v2 J) = 0 then (Q (J, L))
        else (Q (nt_u (nt_u (nt_u J (p 4) ((((Int32.ofInt 10) + ((Int32.ofInt 7) * v2)) + (Int32.ofInt 4)).toNatClampNeg) (Int32.ofInt 1)) (p 4) ((((Int32.ofInt 10) + ((Int32.ofInt 7) * v2)) + (Int32.ofInt 5)).toNatClampNeg) v3) (p 4) ((((Int32.ofInt 172) + ((Int32.ofInt 5) * v3)) + (Int32.ofInt 4)).toNatClampNeg) (Int32.ofInt 1), L))
      else (I c (v4 + (Int32.ofInt 1)) ((x192_18 p v1 v2 v3 v4 (((J (p 4) 5).toInt - (J (p 4) 6).toInt).toNat) J L).1) ((x192_18 p v1 v2 v3 v4 (((J (p 4) 5).toInt - (J (p 4) 6).toInt).toNat) J L).2))) : ∀ (c : Nat) (v4 : Int32) (J : Nat → Nat → Int32) (L : Nat → Nat → Int64), I c v4 J L → Q (x192_3 p v1 v2 v3 c v4 J L) := by
  intro c
  induction c with
  | zero =>
    intro v4 J L hi
    rw [x192_3]
    exact h0 v4 J L hi
  | succ c ih =>
    intro v4 J L hi
    have hi := h1 c v4 J L hi
    rw [x192_3]
    by_cases h : (J (p 4) 0) ≤ v4
    · rw [if_pos h] at hi ⊢
      by_cases h : (x174 p v2 J) = 0
      · rw [if_pos h] at hi ⊢
        exact hi
      · rw [if_neg h] at hi ⊢
        exact hi
    · rw [if_neg h] at hi ⊢
      by_cases h : v1 < 0
      · rw [if_pos h] at hi ⊢
        by_cases h : (x174 p v2 J) = 0
        · rw [if_pos h] at hi ⊢
          exact hi
        · rw [if_neg h] at hi ⊢
          exact hi
      · rw [if_neg h] at hi ⊢
        exact ih _ _ _ hi
def x192 (p : Nat → Nat) (v1 : Int32) (v2 : Int32) (v3 : Int32) (J : Nat → Nat → Int32) (L : Nat → Nat → Int64) : (Nat → Nat → Int32) × (Nat → Nat → Int64) := (x192_3 p v1 v2 v3 ((J (p 4) 0).toNatClampNeg) (Int32.ofInt 0) J L)
theorem xt192 {X : nt_X} {d : Nat} {M : nt_M} {o : Option Value × nt_M} {p : Nat → Nat} {v1 : Int32} {v2 : Int32} {v3 : Int32} {J : Nat → Nat → Int32} {L : Nat → Nat → Int64} (hp : xs_P M p) (hw : xr_W (J (p 4))) (hv : 0 ≤ v2.toInt ∧ v2.toInt ≤ 5) (k : nt_ev X d 192 [.ref (p 0), .int v1, .int v2, .int v3] (me_w (lw M L) J) o) : o = (none, me_w (lw M ((x192 p v1 v2 v3 J L).2)) ((x192 p v1 v2 v3 J L).1)) := by
  have k : nt_rn X d 192 (0, [(0, .ref (p 0)), (1, .int v1), (2, .int v2), (3, .int v3)], [], me_w (lw M L) J) o := k
  have k := ly_revb 2 (c' := (3, [(4, .int (Int32.ofInt 0)), (0, .ref (p 0)), (1, .int v1), (2, .int v2), (3, .int v3)], [], me_w (lw M L) J)) rfl k
  have k := nt_rn_w (a := [(4, .int (Int32.ofInt 0)), (0, .ref (p 0)), (1, .int v1), (2, .int v2), (3, .int v3)]) (b := [(0, .ref (p 0)), (1, .int v1), (2, .int v2), (3, .int v3), (4, .int (Int32.ofInt 0)), (5, .int (Int32.ofInt 0))]) ⟨rfl, rfl, rfl, rfl, rfl, trivial⟩ rfl k
  have k := xt192_3 hp hv  ((J (p 4) 0).toNatClampNeg) (Int32.ofInt 0) (Int32.ofInt 0) J L (⟨hw, by decide, lx_beg (by decide)⟩) k
  rw [k, x192]
theorem x192_3_frJ {p : Nat → Nat} {v1 : Int32} {v2 : Int32} {v3 : Int32} {b : Nat} : ∀ (c : Nat) (v4 : Int32) (J : Nat → Nat → Int32) (L : Nat → Nat → Int64), b ≠ p 0 → b ≠ p 4 → (x192_3 p v1 v2 v3 c v4 J L).1 b = J b := by
  intro c
  induction c with
  | zero =>
    intro v4 J L n0 n1
    rw [x192_3]
    by_cases h : (x174 p v2 J) = 0
    · rw [if_pos h]
      all_goals first | (dsimp only; exact (show J b = J b from rfl)) | exact (show J b = J b from rfl)
    · rw [if_neg h]
      all_goals first | (dsimp only; exact (show (nt_u (nt_u (nt_u J (p 4) ((((Int32.ofInt 10) + ((Int32.ofInt 7) * v2)) + (Int32.ofInt 4)).toNatClampNeg) (Int32.ofInt 1)) (p 4) ((((Int32.ofInt 10) + ((Int32.ofInt 7) * v2)) + (Int32.ofInt 5)).toNatClampNeg) v3) (p 4) ((((Int32.ofInt 172) + ((Int32.ofInt 5) * v3)) + (Int32.ofInt 4)).toNatClampNeg) (Int32.ofInt 1)) b = J b from (mu_o n1).trans ((mu_o n1).trans (mu_o n1)))) | exact (show (nt_u (nt_u (nt_u J (p 4) ((((Int32.ofInt 10) + ((Int32.ofInt 7) * v2)) + (Int32.ofInt 4)).toNatClampNeg) (Int32.ofInt 1)) (p 4) ((((Int32.ofInt 10) + ((Int32.ofInt 7) * v2)) + (Int32.ofInt 5)).toNatClampNeg) v3) (p 4) ((((Int32.ofInt 172) + ((Int32.ofInt 5) * v3)) + (Int32.ofInt 4)).toNatClampNeg) (Int32.ofInt 1)) b = J b from (mu_o n1).trans ((mu_o n1).trans (mu_o n1)))
  | succ c ih =>
    intro v4 J L n0 n1
    rw [x192_3]
    by_cases h : (J (p 4) 0) ≤ v4
    · rw [if_pos h]
      by_cases h : (x174 p v2 J) = 0
      · rw [if_pos h]
        all_goals first | (dsimp only; exact (show J b = J b from rfl)) | exact (show J b = J b from rfl)
      · rw [if_neg h]
        all_goals first | (dsimp only; exact (show (nt_u (nt_u (nt_u J (p 4) ((((Int32.ofInt 10) + ((Int32.ofInt 7) * v2)) + (Int32.ofInt 4)).toNatClampNeg) (Int32.ofInt 1)) (p 4) ((((Int32.ofInt 10) + ((Int32.ofInt 7) * v2)) + (Int32.ofInt 5)).toNatClampNeg) v3) (p 4) ((((Int32.ofInt 172) + ((Int32.ofInt 5) * v3)) + (Int32.ofInt 4)).toNatClampNeg) (Int32.ofInt 1)) b = J b from (mu_o n1).trans ((mu_o n1).trans (mu_o n1)))) | exact (show (nt_u (nt_u (nt_u J (p 4) ((((Int32.ofInt 10) + ((Int32.ofInt 7) * v2)) + (Int32.ofInt 4)).toNatClampNeg) (Int32.ofInt 1)) (p 4) ((((Int32.ofInt 10) + ((Int32.ofInt 7) * v2)) + (Int32.ofInt 5)).toNatClampNeg) v3) (p 4) ((((Int32.ofInt 172) + ((Int32.ofInt 5) * v3)) + (Int32.ofInt 4)).toNatClampNeg) (Int32.ofInt 1)) b = J b from (mu_o n1).trans ((mu_o n1).trans (mu_o n1)))
    · rw [if_neg h]
      by_cases h : v1 < 0
      · rw [if_pos h]
        by_cases h : (x174 p v2 J) = 0
        · rw [if_pos h]
          all_goals first | (dsimp only; exact (show J b = J b from rfl)) | exact (show J b = J b from rfl)
        · rw [if_neg h]
          all_goals first | (dsimp only; exact (show (nt_u (nt_u (nt_u J (p 4) ((((Int32.ofInt 10) + ((Int32.ofInt 7) * v2)) + (Int32.ofInt 4)).toNatClampNeg) (Int32.ofInt 1)) (p 4) ((((Int32.ofInt 10) + ((Int32.ofInt 7) * v2)) + (Int32.ofInt 5)).toNatClampNeg) v3) (p 4) ((((Int32.ofInt 172) + ((Int32.ofInt 5) * v3)) + (Int32.ofInt 4)).toNatClampNeg) (Int32.ofInt 1)) b = J b from (mu_o n1).trans ((mu_o n1).trans (mu_o n1)))) | exact (show (nt_u (nt_u (nt_u J (p 4) ((((Int32.ofInt 10) + ((Int32.ofInt 7) * v2)) + (Int32.ofInt 4)).toNatClampNeg) (Int32.ofInt 1)) (p 4) ((((Int32.ofInt 10) + ((Int32.ofInt 7) * v2)) + (Int32.ofInt 5)).toNatClampNeg) v3) (p 4) ((((Int32.ofInt 172) + ((Int32.ofInt 5) * v3)) + (Int32.ofInt 4)).toNatClampNeg) (Int32.ofInt 1)) b = J b from (mu_o n1).trans ((mu_o n1).trans (mu_o n1)))
      · rw [if_neg h]
        exact (ih _ _ _ n0 n1).trans (x192_18_frJ _ _ _ n0 n1)
theorem x192_frJ {p : Nat → Nat} {v1 : Int32} {v2 : Int32} {v3 : Int32} {J : Nat → Nat → Int32} {L : Nat → Nat → Int64} {b : Nat} (n0 : b ≠ p 0) (n1 : b ≠ p 4) : (x192 p v1 v2 v3 J L).1 b = J b := by
  unfold x192
  exact (x192_3_frJ _ _ _ _ n0 n1).trans (rfl)
theorem x192_3_frL {p : Nat → Nat} {v1 : Int32} {v2 : Int32} {v3 : Int32} {b : Nat} : ∀ (c : Nat) (v4 : Int32) (J : Nat → Nat → Int32) (L : Nat → Nat → Int64), b ≠ p 5 → b ≠ p 6 → (x192_3 p v1 v2 v3 c v4 J L).2 b = L b := by
  intro c
  induction c with
  | zero =>
    intro v4 J L n0 n1
    rw [x192_3]
    by_cases h : (x174 p v2 J) = 0
    · rw [if_pos h]
      all_goals first | (dsimp only; exact (show L b = L b from rfl)) | exact (show L b = L b from rfl)
    · rw [if_neg h]
      all_goals first | (dsimp only; exact (show L b = L b from rfl)) | exact (show L b = L b from rfl)
  | succ c ih =>
    intro v4 J L n0 n1
    rw [x192_3]
    by_cases h : (J (p 4) 0) ≤ v4
    · rw [if_pos h]
      by_cases h : (x174 p v2 J) = 0
      · rw [if_pos h]
        all_goals first | (dsimp only; exact (show L b = L b from rfl)) | exact (show L b = L b from rfl)
      · rw [if_neg h]
        all_goals first | (dsimp only; exact (show L b = L b from rfl)) | exact (show L b = L b from rfl)
    · rw [if_neg h]
      by_cases h : v1 < 0
      · rw [if_pos h]
        by_cases h : (x174 p v2 J) = 0
        · rw [if_pos h]
          all_goals first | (dsimp only; exact (show L b = L b from rfl)) | exact (show L b = L b from rfl)
        · rw [if_neg h]
          all_goals first | (dsimp only; exact (show L b = L b from rfl)) | exact (show L b = L b from rfl)
      · rw [if_neg h]
        exact (ih _ _ _ n0 n1).trans (x192_18_frL _ _ _ n0 n1)
theorem x192_frL {p : Nat → Nat} {v1 : Int32} {v2 : Int32} {v3 : Int32} {J : Nat → Nat → Int32} {L : Nat → Nat → Int64} {b : Nat} (n0 : b ≠ p 5) (n1 : b ≠ p 6) : (x192 p v1 v2 v3 J L).2 b = L b := by
  unfold x192
  exact (x192_3_frL _ _ _ _ n0 n1).trans (rfl)
theorem xw_192 {p : Nat → Nat} {v1 v2 v3 : Int32} (hd : p 4 ≠ p 0) (h2 : 0 ≤ v2.toInt ∧ v2.toInt ≤ 5) (h3 : 0 ≤ v3.toInt ∧ v3.toInt ≤ 7) {J : Nat → Nat → Int32} {L : Nat → Nat → Int64} (hW : xr_W (J (p 4))) : xk_K (J (p 4)) ((x192 p v1 v2 v3 J L).1 (p 4)) := by
  have fin : ∀ (J1 : Nat → Nat → Int32), xk_K (J (p 4)) (J1 (p 4)) → xk_K (J (p 4)) ((nt_u (nt_u (nt_u J1 (p 4) ((((Int32.ofInt 10) + ((Int32.ofInt 7) * v2)) + (Int32.ofInt 4)).toNatClampNeg) (Int32.ofInt 1)) (p 4) ((((Int32.ofInt 10) + ((Int32.ofInt 7) * v2)) + (Int32.ofInt 5)).toNatClampNeg) v3) (p 4) ((((Int32.ofInt 172) + ((Int32.ofInt 5) * v3)) + (Int32.ofInt 4)).toNatClampNeg) (Int32.ofInt 1)) (p 4)) := fun J1 h =>
    xk_ua (xk_ub (xk_ua h (xi_s4 h2.1 (by omega)) (by omega) (xr_bs (by omega) (by omega) (by omega))) (xi_s5 h2.1 (by omega)) (by omega) (xr_b5 (by omega)) (by omega)) (xi_v4 h3.1 (by omega)) (by omega) (xr_bv (by omega) (by omega) (by omega))
  unfold x192
  refine x192_3_rule (I := fun _ _ J1 _ => xk_K (J (p 4)) (J1 (p 4))) (Q := fun r => xk_K (J (p 4)) (r.1 (p 4))) ?_ ?_ _ _ _ _ (xk_r hW)
  · intro v4 J1 L1 h
    by_cases h1 : (x174 p v2 J1) = 0
    · rw [if_pos h1]
      exact h
    · rw [if_neg h1]
      exact fin J1 h
  · intro c v4 J1 L1 h
    by_cases ha : (J1 (p 4) 0) ≤ v4
    · rw [if_pos ha]
      by_cases h1 : (x174 p v2 J1) = 0
      · rw [if_pos h1]
        exact h
      · rw [if_neg h1]
        exact fin J1 h
    · rw [if_neg ha]
      by_cases hb : v1 < 0
      · rw [if_pos hb]
        by_cases h1 : (x174 p v2 J1) = 0
        · rw [if_pos h1]
          exact h
        · rw [if_neg h1]
          exact fin J1 h
      · rw [if_neg hb]
        exact xw_192i hd h2 h
theorem xk_pa {p : Nat → Nat} {J J1 : Nat → Nat → Int32} {k c : Nat} {i : Int32} (hk : k < 6) (z : xk_K (J (p 4)) (J1 (p 4))) (n : ¬ J (p 4) k ≤ i) (h0 : 0 ≤ i.toInt) (hc : (J (p 4) k).toInt - i.toInt ≤ (c + 1 : Nat)) : xr_W (J1 (p 4)) ∧ 0 ≤ (i + Int32.ofInt 1).toInt ∧ (J1 (p 4) k).toInt - (i + Int32.ofInt 1).toInt ≤ c := ⟨z.1, xi_nn n h0, by rw [z.2 k hk]; exact lx_dec n hc⟩
theorem xi_l7 {e : Nat → Int32} {i : Int32} (hW : xr_W e) (n : ¬ e 3 ≤ i) (h0 : 0 ≤ i.toInt) : 0 ≤ i.toInt ∧ i.toInt ≤ 7 := ⟨h0, by have := xi_lt n (xr_3 hW).2; omega⟩
theorem xi_l5 {e : Nat → Int32} {i : Int32} (hW : xr_W e) (n : ¬ e 1 ≤ i) (h0 : 0 ≤ i.toInt) : 0 ≤ i.toInt ∧ i.toInt ≤ 5 := ⟨h0, by have := xi_lt n (xr_1 hW).2; omega⟩
/-! Model.passes -/
def x190_108 (p : Nat → Nat) (L : Nat → Nat → Int64) : Nat → Int32 → (Nat → Nat → Int32) → (Nat → Nat → Int32) × (Nat → Nat → Int64)
  | 0, v2, J => (nt_u (nt_u J (p 4) 4 ((J (p 4) 4) + (Int32.ofInt 1))) (p 4) 6 (Int32.ofInt 0), L)
  | c + 1, v2, J => if (J (p 4) 1) ≤ v2 then (nt_u (nt_u J (p 4) 4 ((J (p 4) 4) + (Int32.ofInt 1))) (p 4) 6 (Int32.ofInt 0), L)
    else if (x169 p v2 (Int32.ofInt 4) J) = (Int32.ofInt 1) then (x190_108 p L c (v2 + (Int32.ofInt 1)) (x202 p v2 J))
      else (x190_108 p L c (v2 + (Int32.ofInt 1)) J)
theorem xt190_108 {X : nt_X} {d : Nat} {M : nt_M} {o : Option Value × nt_M} {p : Nat → Nat} {v1 : Int32} {L : Nat → Nat → Int64} (hp : xs_P M p) : ∀ (c : Nat) (v2 : Int32) (J : Nat → Nat → Int32), (xr_W (J (p 4)) ∧ 0 ≤ v2.toInt ∧ (J (p 4) 1).toInt - v2.toInt ≤ c) → nt_rn X d 190 (108, [(0, .ref (p 0)), (1, .int v1), (2, .int v2)], [], me_w (lw M L) J) o → o = (none, me_w (lw M ((x190_108 p L c v2 J).2)) ((x190_108 p L c v2 J).1)) := by
  intro c
  induction c with
  | zero =>
    intro v2 J hc k
    have k := ly_revb 2 (c' := (110, [(0, .ref (p 0)), (1, .int v1), (2, .int v2)], [.ref (p 0), .int v2], me_w (lw M L) J)) rfl k
    have k := lz_get (a := (p 0)) (g := 1127) (M := me_w (lw M L) J) (v := .ref (p 4)) rfl (nt_gfR rfl (hp.1 (0, 27, 4) (by decide))) k
    have k := ly_revb 1 (c' := (114, [(0, .ref (p 0)), (1, .int v1), (2, .int v2)], [.int (Int32.ofInt 1), .ref (p 4), .int v2], me_w (lw M L) J)) rfl k
    have k := mx_iald (v := J (p 4) 1) rfl (hp.2.2.1 4 (by omega)) ((congrArg (J (p 4)) (show (Int32.ofInt 1).toNatClampNeg = 1 from rfl)).trans (rfl)) k
    have k := ly_revb 1 (c' := (if (J (p 4) 1) ≤ v2 then 139 else 118, [(0, .ref (p 0)), (1, .int v1), (2, .int v2)], [], me_w (lw M L) J)) rfl k
    have h115 : (J (p 4) 1) ≤ v2 := lx_end hc.2.2
    rw [if_pos h115] at k
    have k := ly_revb 1 (c' := (140, [(0, .ref (p 0)), (1, .int v1), (2, .int v2)], [.ref (p 0)], me_w (lw M L) J)) rfl k
    have k := lz_get (a := (p 0)) (g := 1127) (M := me_w (lw M L) J) (v := .ref (p 4)) rfl (nt_gfR rfl (hp.1 (0, 27, 4) (by decide))) k
    have k := ly_revb 2 (c' := (145, [(0, .ref (p 0)), (1, .int v1), (2, .int v2)], [.int (Int32.ofInt 4), .ref (p 4), .int (Int32.ofInt 4), .ref (p 4)], me_w (lw M L) J)) rfl k
    have k := mx_iald (v := J (p 4) 4) rfl (hp.2.2.1 4 (by omega)) ((congrArg (J (p 4)) (show (Int32.ofInt 4).toNatClampNeg = 4 from rfl)).trans (rfl)) k
    have k := ly_revb 2 (c' := (148, [(0, .ref (p 0)), (1, .int v1), (2, .int v2)], [.int ((J (p 4) 4) + (Int32.ofInt 1)), .int (Int32.ofInt 4), .ref (p 4)], me_w (lw M L) J)) rfl k
    have k := mx_iast (q := 4) rfl (show (Int32.ofInt 4).toNatClampNeg = 4 from rfl) k
    have k : nt_rn X _ 190 (149, [(0, .ref (p 0)), (1, .int v1), (2, .int v2)], [], me_w (lw M L) (nt_u J (p 4) 4 ((J (p 4) 4) + (Int32.ofInt 1)))) _ := k
    have k := ly_revb 1 (c' := (150, [(0, .ref (p 0)), (1, .int v1), (2, .int v2)], [.ref (p 0)], me_w (lw M L) (nt_u J (p 4) 4 ((J (p 4) 4) + (Int32.ofInt 1))))) rfl k
    have k := lz_get (a := (p 0)) (g := 1127) (M := me_w (lw M L) (nt_u J (p 4) 4 ((J (p 4) 4) + (Int32.ofInt 1)))) (v := .ref (p 4)) rfl (nt_gfR rfl (hp.1 (0, 27, 4) (by decide))) k
    have k := ly_revb 2 (c' := (156, [(0, .ref (p 0)), (1, .int v1), (2, .int v2)], [.int (Int32.ofInt 0), .int (Int32.ofInt 6), .ref (p 4)], me_w (lw M L) (nt_u J (p 4) 4 ((J (p 4) 4) + (Int32.ofInt 1))))) rfl k
    have k := mx_iast (q := 6) rfl (show (Int32.ofInt 6).toNatClampNeg = 6 from rfl) k
    have k : nt_rn X _ 190 (157, [(0, .ref (p 0)), (1, .int v1), (2, .int v2)], [], me_w (lw M L) (nt_u (nt_u J (p 4) 4 ((J (p 4) 4) + (Int32.ofInt 1))) (p 4) 6 (Int32.ofInt 0))) _ := k
    have k := lz_rv rfl rfl k
    rw [k, x190_108]
  | succ c ih =>
    intro v2 J hc k
    have k := ly_revb 2 (c' := (110, [(0, .ref (p 0)), (1, .int v1), (2, .int v2)], [.ref (p 0), .int v2], me_w (lw M L) J)) rfl k
    have k := lz_get (a := (p 0)) (g := 1127) (M := me_w (lw M L) J) (v := .ref (p 4)) rfl (nt_gfR rfl (hp.1 (0, 27, 4) (by decide))) k
    have k := ly_revb 1 (c' := (114, [(0, .ref (p 0)), (1, .int v1), (2, .int v2)], [.int (Int32.ofInt 1), .ref (p 4), .int v2], me_w (lw M L) J)) rfl k
    have k := mx_iald (v := J (p 4) 1) rfl (hp.2.2.1 4 (by omega)) ((congrArg (J (p 4)) (show (Int32.ofInt 1).toNatClampNeg = 1 from rfl)).trans (rfl)) k
    have k := ly_revb 1 (c' := (if (J (p 4) 1) ≤ v2 then 139 else 118, [(0, .ref (p 0)), (1, .int v1), (2, .int v2)], [], me_w (lw M L) J)) rfl k
    by_cases h115 : (J (p 4) 1) ≤ v2
    · rw [if_pos h115] at k
      have k := ly_revb 1 (c' := (140, [(0, .ref (p 0)), (1, .int v1), (2, .int v2)], [.ref (p 0)], me_w (lw M L) J)) rfl k
      have k := lz_get (a := (p 0)) (g := 1127) (M := me_w (lw M L) J) (v := .ref (p 4)) rfl (nt_gfR rfl (hp.1 (0, 27, 4) (by decide))) k
      have k := ly_revb 2 (c' := (145, [(0, .ref (p 0)), (1, .int v1), (2, .int v2)], [.int (Int32.ofInt 4), .ref (p 4), .int (Int32.ofInt 4), .ref (p 4)], me_w (lw M L) J)) rfl k
      have k := mx_iald (v := J (p 4) 4) rfl (hp.2.2.1 4 (by omega)) ((congrArg (J (p 4)) (show (Int32.ofInt 4).toNatClampNeg = 4 from rfl)).trans (rfl)) k
      have k := ly_revb 2 (c' := (148, [(0, .ref (p 0)), (1, .int v1), (2, .int v2)], [.int ((J (p 4) 4) + (Int32.ofInt 1)), .int (Int32.ofInt 4), .ref (p 4)], me_w (lw M L) J)) rfl k
      have k := mx_iast (q := 4) rfl (show (Int32.ofInt 4).toNatClampNeg = 4 from rfl) k
      have k : nt_rn X _ 190 (149, [(0, .ref (p 0)), (1, .int v1), (2, .int v2)], [], me_w (lw M L) (nt_u J (p 4) 4 ((J (p 4) 4) + (Int32.ofInt 1)))) _ := k
      have k := ly_revb 1 (c' := (150, [(0, .ref (p 0)), (1, .int v1), (2, .int v2)], [.ref (p 0)], me_w (lw M L) (nt_u J (p 4) 4 ((J (p 4) 4) + (Int32.ofInt 1))))) rfl k
      have k := lz_get (a := (p 0)) (g := 1127) (M := me_w (lw M L) (nt_u J (p 4) 4 ((J (p 4) 4) + (Int32.ofInt 1)))) (v := .ref (p 4)) rfl (nt_gfR rfl (hp.1 (0, 27, 4) (by decide))) k
      have k := ly_revb 2 (c' := (156, [(0, .ref (p 0)), (1, .int v1), (2, .int v2)], [.int (Int32.ofInt 0), .int (Int32.ofInt 6), .ref (p 4)], me_w (lw M L) (nt_u J (p 4) 4 ((J (p 4) 4) + (Int32.ofInt 1))))) rfl k
      have k := mx_iast (q := 6) rfl (show (Int32.ofInt 6).toNatClampNeg = 6 from rfl) k
      have k : nt_rn X _ 190 (157, [(0, .ref (p 0)), (1, .int v1), (2, .int v2)], [], me_w (lw M L) (nt_u (nt_u J (p 4) 4 ((J (p 4) 4) + (Int32.ofInt 1))) (p 4) 6 (Int32.ofInt 0))) _ := k
      have k := lz_rv rfl rfl k
      rw [k, x190_108, if_pos h115]
    · rw [if_neg h115] at k
      have k := ly_revb 3 (c' := (121, [(0, .ref (p 0)), (1, .int v1), (2, .int v2)], [.int (Int32.ofInt 4), .int v2, .ref (p 0)], me_w (lw M L) J)) rfl k
      obtain ⟨d1, o1, ed, kc, k⟩ := lz_c (g := 169) (q := 1) (vs := [.ref (p 0), .int v2, .int (Int32.ofInt 4)]) (rest := []) rfl rfl (by decide) (Or.inr (Or.inl ⟨_, rfl, rfl⟩)) rfl k
      have e1 := xt169 (xs_lp hp) kc
      subst e1
      have k : nt_rn X _ 190 (124, [(0, .ref (p 0)), (1, .int v1), (2, .int v2)], [.int (x169 p v2 (Int32.ofInt 4) J)], me_w (lw M L) J) _ := k
      have k := ly_revb 2 (c' := (if (x169 p v2 (Int32.ofInt 4) J) = (Int32.ofInt 1) then 128 else 133, [(0, .ref (p 0)), (1, .int v1), (2, .int v2)], [], me_w (lw M L) J)) rfl k
      by_cases h125 : (x169 p v2 (Int32.ofInt 4) J) = (Int32.ofInt 1)
      · rw [if_pos h125] at k
        have k := ly_revb 2 (c' := (130, [(0, .ref (p 0)), (1, .int v1), (2, .int v2)], [.int v2, .ref (p 0)], me_w (lw M L) J)) rfl k
        obtain ⟨d1, o1, ed, kc, k⟩ := lz_c (g := 202) (q := 1) (vs := [.ref (p 0), .int v2]) (rest := []) rfl rfl (by decide) (Or.inr (Or.inl ⟨_, rfl, rfl⟩)) rfl k
        have e1 := xt202 (xs_lp hp) hc.1 (xi_l5 hc.1 h115 hc.2.1) kc
        subst e1
        have k : nt_rn X _ 190 (133, [(0, .ref (p 0)), (1, .int v1), (2, .int v2)], [], me_w (lw M L) (x202 p v2 J)) _ := k
        have k := ly_revb 2 (c' := (108, [(2, .int (v2 + (Int32.ofInt 1))), (0, .ref (p 0)), (1, .int v1)], [], me_w (lw M L) (x202 p v2 J))) rfl k
        have k := nt_rn_w (a := [(2, .int (v2 + (Int32.ofInt 1))), (0, .ref (p 0)), (1, .int v1)]) (b := [(0, .ref (p 0)), (1, .int v1), (2, .int (v2 + (Int32.ofInt 1)))]) ⟨rfl, rfl, rfl, trivial⟩ rfl k
        have k := ih (v2 + (Int32.ofInt 1)) (x202 p v2 J) (xk_pa (by omega) (xw_202 hc.1 (xi_l5 hc.1 h115 hc.2.1)) h115 hc.2.1 hc.2.2) k
        rw [k, x190_108, if_neg h115, if_pos h125]
      · rw [if_neg h125] at k
        have k := ly_revb 2 (c' := (108, [(2, .int (v2 + (Int32.ofInt 1))), (0, .ref (p 0)), (1, .int v1)], [], me_w (lw M L) J)) rfl k
        have k := nt_rn_w (a := [(2, .int (v2 + (Int32.ofInt 1))), (0, .ref (p 0)), (1, .int v1)]) (b := [(0, .ref (p 0)), (1, .int v1), (2, .int (v2 + (Int32.ofInt 1)))]) ⟨rfl, rfl, rfl, trivial⟩ rfl k
        have k := ih (v2 + (Int32.ofInt 1)) J (xk_dec hc.1 h115 hc.2.1 hc.2.2) k
        rw [k, x190_108, if_neg h115, if_neg h125]
theorem x190_108_rule {p : Nat → Nat} {L : Nat → Nat → Int64} {I : Nat → Int32 → (Nat → Nat → Int32) → Prop} {Q : (Nat → Nat → Int32) × (Nat → Nat → Int64) → Prop} (h0 : ∀ (v2 : Int32) (J : Nat → Nat → Int32), I 0 v2 J → Q (nt_u (nt_u J (p 4) 4 ((J (p 4) 4) + (Int32.ofInt 1))) (p 4) 6 (Int32.ofInt 0), L)) (h1 : ∀ (c : Nat) (v2 : Int32) (J : Nat → Nat → Int32), I (c + 1) v2 J →
    if (J (p 4) 1) ≤ v2 then (Q (nt_u (nt_u J (p 4) 4 ((J (p 4) 4) + (Int32.ofInt 1))) (p 4) 6 (Int32.ofInt 0), L))
    else if (x169 p v2 (Int32.ofInt 4) J) = (Int32.ofInt 1) then (I c (v2 + (Int32.ofInt 1)) (x202 p v2 J))
      else (I c (v2 + (Int32.ofInt 1)) J)) : ∀ (c : Nat) (v2 : Int32) (J : Nat → Nat → Int32), I c v2 J → Q (x190_108 p L c v2 J) := by
  intro c
  induction c with
  | zero =>
    intro v2 J hi
    rw [x190_108]
    exact h0 v2 J hi
  | succ c ih =>
    intro v2 J hi
    have hi := h1 c v2 J hi
    rw [x190_108]
    by_cases h : (J (p 4) 1) ≤ v2
    · rw [if_pos h] at hi ⊢
      exact hi
    · rw [if_neg h] at hi ⊢
      by_cases h : (x169 p v2 (Int32.ofInt 4) J) = (Int32.ofInt 1)
      · rw [if_pos h] at hi ⊢
        exact ih _ _ hi
      · rw [if_neg h] at hi ⊢
        exact ih _ _ hi
def x190_50 (p : Nat → Nat) (v1 : Int32) : Nat → Int32 → (Nat → Nat → Int32) → (Nat → Nat → Int64) → (Nat → Nat → Int32) × (Nat → Nat → Int64)
  | 0, v2, J, L => (x190_108 p L ((J (p 4) 1).toNatClampNeg) (Int32.ofInt 0) J)
  | c + 1, v2, J, L => if (J (p 4) 3) ≤ v2 then (x190_108 p L ((J (p 4) 1).toNatClampNeg) (Int32.ofInt 0) J)
    else if (x180 p v2 (Int32.ofInt 1) J) = (J (p 4) 4) then if (x182 p (x180 p v2 (Int32.ofInt 0) J) J) = 0 then (x190_50 p v1 c (v2 + (Int32.ofInt 1)) J L)
        else (x190_50 p v1 c (v2 + (Int32.ofInt 1)) ((x192 p v1 (x180 p v2 (Int32.ofInt 0) J) v2 J L).1) ((x192 p v1 (x180 p v2 (Int32.ofInt 0) J) v2 J L).2))
      else (x190_50 p v1 c (v2 + (Int32.ofInt 1)) J L)
theorem xt190_50 {X : nt_X} {d : Nat} {M : nt_M} {o : Option Value × nt_M} {p : Nat → Nat} {v1 : Int32} (hp : xs_P M p) : ∀ (c : Nat) (v2 : Int32) (J : Nat → Nat → Int32) (L : Nat → Nat → Int64), (xr_W (J (p 4)) ∧ 0 ≤ v2.toInt ∧ (J (p 4) 3).toInt - v2.toInt ≤ c) → nt_rn X d 190 (50, [(0, .ref (p 0)), (1, .int v1), (2, .int v2)], [], me_w (lw M L) J) o → o = (none, me_w (lw M ((x190_50 p v1 c v2 J L).2)) ((x190_50 p v1 c v2 J L).1)) := by
  intro c
  induction c with
  | zero =>
    intro v2 J L hc k
    have k := ly_revb 2 (c' := (52, [(0, .ref (p 0)), (1, .int v1), (2, .int v2)], [.ref (p 0), .int v2], me_w (lw M L) J)) rfl k
    have k := lz_get (a := (p 0)) (g := 1127) (M := me_w (lw M L) J) (v := .ref (p 4)) rfl (nt_gfR rfl (hp.1 (0, 27, 4) (by decide))) k
    have k := ly_revb 1 (c' := (56, [(0, .ref (p 0)), (1, .int v1), (2, .int v2)], [.int (Int32.ofInt 3), .ref (p 4), .int v2], me_w (lw M L) J)) rfl k
    have k := mx_iald (v := J (p 4) 3) rfl (hp.2.2.1 4 (by omega)) ((congrArg (J (p 4)) (show (Int32.ofInt 3).toNatClampNeg = 3 from rfl)).trans (rfl)) k
    have k := ly_revb 1 (c' := (if (J (p 4) 3) ≤ v2 then 106 else 60, [(0, .ref (p 0)), (1, .int v1), (2, .int v2)], [], me_w (lw M L) J)) rfl k
    have h57 : (J (p 4) 3) ≤ v2 := lx_end hc.2.2
    rw [if_pos h57] at k
    have k := ly_revb 2 (c' := (108, [(2, .int (Int32.ofInt 0)), (0, .ref (p 0)), (1, .int v1)], [], me_w (lw M L) J)) rfl k
    have k := nt_rn_w (a := [(2, .int (Int32.ofInt 0)), (0, .ref (p 0)), (1, .int v1)]) (b := [(0, .ref (p 0)), (1, .int v1), (2, .int (Int32.ofInt 0))]) ⟨rfl, rfl, rfl, trivial⟩ rfl k
    have k := xt190_108 hp  ((J (p 4) 1).toNatClampNeg) (Int32.ofInt 0) J (⟨hc.1, by decide, lx_beg (by decide)⟩) k
    rw [k, x190_50]
  | succ c ih =>
    intro v2 J L hc k
    have k := ly_revb 2 (c' := (52, [(0, .ref (p 0)), (1, .int v1), (2, .int v2)], [.ref (p 0), .int v2], me_w (lw M L) J)) rfl k
    have k := lz_get (a := (p 0)) (g := 1127) (M := me_w (lw M L) J) (v := .ref (p 4)) rfl (nt_gfR rfl (hp.1 (0, 27, 4) (by decide))) k
    have k := ly_revb 1 (c' := (56, [(0, .ref (p 0)), (1, .int v1), (2, .int v2)], [.int (Int32.ofInt 3), .ref (p 4), .int v2], me_w (lw M L) J)) rfl k
    have k := mx_iald (v := J (p 4) 3) rfl (hp.2.2.1 4 (by omega)) ((congrArg (J (p 4)) (show (Int32.ofInt 3).toNatClampNeg = 3 from rfl)).trans (rfl)) k
    have k := ly_revb 1 (c' := (if (J (p 4) 3) ≤ v2 then 106 else 60, [(0, .ref (p 0)), (1, .int v1), (2, .int v2)], [], me_w (lw M L) J)) rfl k
    by_cases h57 : (J (p 4) 3) ≤ v2
    · rw [if_pos h57] at k
      have k := ly_revb 2 (c' := (108, [(2, .int (Int32.ofInt 0)), (0, .ref (p 0)), (1, .int v1)], [], me_w (lw M L) J)) rfl k
      have k := nt_rn_w (a := [(2, .int (Int32.ofInt 0)), (0, .ref (p 0)), (1, .int v1)]) (b := [(0, .ref (p 0)), (1, .int v1), (2, .int (Int32.ofInt 0))]) ⟨rfl, rfl, rfl, trivial⟩ rfl k
      have k := xt190_108 hp  ((J (p 4) 1).toNatClampNeg) (Int32.ofInt 0) J (⟨hc.1, by decide, lx_beg (by decide)⟩) k
      rw [k, x190_50, if_pos h57]
    · rw [if_neg h57] at k
      have k := ly_revb 3 (c' := (63, [(0, .ref (p 0)), (1, .int v1), (2, .int v2)], [.int (Int32.ofInt 1), .int v2, .ref (p 0)], me_w (lw M L) J)) rfl k
      obtain ⟨d1, o1, ed, kc, k⟩ := lz_c (g := 180) (q := 1) (vs := [.ref (p 0), .int v2, .int (Int32.ofInt 1)]) (rest := []) rfl rfl (by decide) (Or.inr (Or.inl ⟨_, rfl, rfl⟩)) rfl k
      have e1 := xt180 (xs_lp hp) kc
      subst e1
      have k : nt_rn X _ 190 (66, [(0, .ref (p 0)), (1, .int v1), (2, .int v2)], [.int (x180 p v2 (Int32.ofInt 1) J)], me_w (lw M L) J) _ := k
      have k := ly_revb 1 (c' := (67, [(0, .ref (p 0)), (1, .int v1), (2, .int v2)], [.ref (p 0), .int (x180 p v2 (Int32.ofInt 1) J)], me_w (lw M L) J)) rfl k
      have k := lz_get (a := (p 0)) (g := 1127) (M := me_w (lw M L) J) (v := .ref (p 4)) rfl (nt_gfR rfl (hp.1 (0, 27, 4) (by decide))) k
      have k := ly_revb 1 (c' := (71, [(0, .ref (p 0)), (1, .int v1), (2, .int v2)], [.int (Int32.ofInt 4), .ref (p 4), .int (x180 p v2 (Int32.ofInt 1) J)], me_w (lw M L) J)) rfl k
      have k := mx_iald (v := J (p 4) 4) rfl (hp.2.2.1 4 (by omega)) ((congrArg (J (p 4)) (show (Int32.ofInt 4).toNatClampNeg = 4 from rfl)).trans (rfl)) k
      have k := ly_revb 1 (c' := (if (x180 p v2 (Int32.ofInt 1) J) = (J (p 4) 4) then 75 else 100, [(0, .ref (p 0)), (1, .int v1), (2, .int v2)], [], me_w (lw M L) J)) rfl k
      by_cases h72 : (x180 p v2 (Int32.ofInt 1) J) = (J (p 4) 4)
      · rw [if_pos h72] at k
        have k := ly_revb 4 (c' := (79, [(0, .ref (p 0)), (1, .int v1), (2, .int v2)], [.int (Int32.ofInt 0), .int v2, .ref (p 0), .ref (p 0)], me_w (lw M L) J)) rfl k
        obtain ⟨d1, o1, ed, kc, k⟩ := lz_c (g := 180) (q := 1) (vs := [.ref (p 0), .int v2, .int (Int32.ofInt 0)]) (rest := [.ref (p 0)]) rfl rfl (by decide) (Or.inr (Or.inl ⟨_, rfl, rfl⟩)) rfl k
        have e1 := xt180 (xs_lp hp) kc
        subst e1
        have k : nt_rn X _ 190 (82, [(0, .ref (p 0)), (1, .int v1), (2, .int v2)], [.int (x180 p v2 (Int32.ofInt 0) J), .ref (p 0)], me_w (lw M L) J) _ := k
        obtain ⟨d1, o1, ed, kc, k⟩ := lz_c (g := 182) (q := 1) (vs := [.ref (p 0), .int (x180 p v2 (Int32.ofInt 0) J)]) (rest := []) rfl rfl (by decide) (Or.inr (Or.inl ⟨_, rfl, rfl⟩)) rfl k
        have e1 := xt182 (xs_lp hp) kc
        subst e1
        have k : nt_rn X _ 190 (85, [(0, .ref (p 0)), (1, .int v1), (2, .int v2)], [.int (x182 p (x180 p v2 (Int32.ofInt 0) J) J)], me_w (lw M L) J) _ := k
        have k := ly_revb 1 (c' := (if (x182 p (x180 p v2 (Int32.ofInt 0) J) J) = 0 then 100 else 88, [(0, .ref (p 0)), (1, .int v1), (2, .int v2)], [], me_w (lw M L) J)) rfl k
        by_cases h85 : (x182 p (x180 p v2 (Int32.ofInt 0) J) J) = 0
        · rw [if_pos h85] at k
          have k := ly_revb 2 (c' := (50, [(2, .int (v2 + (Int32.ofInt 1))), (0, .ref (p 0)), (1, .int v1)], [], me_w (lw M L) J)) rfl k
          have k := nt_rn_w (a := [(2, .int (v2 + (Int32.ofInt 1))), (0, .ref (p 0)), (1, .int v1)]) (b := [(0, .ref (p 0)), (1, .int v1), (2, .int (v2 + (Int32.ofInt 1)))]) ⟨rfl, rfl, rfl, trivial⟩ rfl k
          have k := ih (v2 + (Int32.ofInt 1)) J L (xk_dec hc.1 h57 hc.2.1 hc.2.2) k
          rw [k, x190_50, if_neg h57, if_pos h72, if_pos h85]
        · rw [if_neg h85] at k
          have k := ly_revb 5 (c' := (93, [(0, .ref (p 0)), (1, .int v1), (2, .int v2)], [.int (Int32.ofInt 0), .int v2, .ref (p 0), .int v1, .ref (p 0)], me_w (lw M L) J)) rfl k
          obtain ⟨d1, o1, ed, kc, k⟩ := lz_c (g := 180) (q := 1) (vs := [.ref (p 0), .int v2, .int (Int32.ofInt 0)]) (rest := [.int v1, .ref (p 0)]) rfl rfl (by decide) (Or.inr (Or.inl ⟨_, rfl, rfl⟩)) rfl k
          have e1 := xt180 (xs_lp hp) kc
          subst e1
          have k : nt_rn X _ 190 (96, [(0, .ref (p 0)), (1, .int v1), (2, .int v2)], [.int (x180 p v2 (Int32.ofInt 0) J), .int v1, .ref (p 0)], me_w (lw M L) J) _ := k
          have k := ly_revb 1 (c' := (97, [(0, .ref (p 0)), (1, .int v1), (2, .int v2)], [.int v2, .int (x180 p v2 (Int32.ofInt 0) J), .int v1, .ref (p 0)], me_w (lw M L) J)) rfl k
          obtain ⟨d1, o1, ed, kc, k⟩ := lz_c (g := 192) (q := 1) (vs := [.ref (p 0), .int v1, .int (x180 p v2 (Int32.ofInt 0) J), .int v2]) (rest := []) rfl rfl (by decide) (Or.inr (Or.inl ⟨_, rfl, rfl⟩)) rfl k
          have e1 := xt192 hp hc.1 (xi_va hc.1 (xi_l7 hc.1 h57 hc.2.1)) kc
          subst e1
          have k : nt_rn X _ 190 (100, [(0, .ref (p 0)), (1, .int v1), (2, .int v2)], [], me_w (lw M ((x192 p v1 (x180 p v2 (Int32.ofInt 0) J) v2 J L).2)) ((x192 p v1 (x180 p v2 (Int32.ofInt 0) J) v2 J L).1)) _ := k
          have k := ly_revb 2 (c' := (50, [(2, .int (v2 + (Int32.ofInt 1))), (0, .ref (p 0)), (1, .int v1)], [], me_w (lw M ((x192 p v1 (x180 p v2 (Int32.ofInt 0) J) v2 J L).2)) ((x192 p v1 (x180 p v2 (Int32.ofInt 0) J) v2 J L).1))) rfl k
          have k := nt_rn_w (a := [(2, .int (v2 + (Int32.ofInt 1))), (0, .ref (p 0)), (1, .int v1)]) (b := [(0, .ref (p 0)), (1, .int v1), (2, .int (v2 + (Int32.ofInt 1)))]) ⟨rfl, rfl, rfl, trivial⟩ rfl k
          have k := ih (v2 + (Int32.ofInt 1)) ((x192 p v1 (x180 p v2 (Int32.ofInt 0) J) v2 J L).1) ((x192 p v1 (x180 p v2 (Int32.ofInt 0) J) v2 J L).2) (xk_pa (by omega) (xw_192 (hp.2.1 4 0 (by omega) (by omega) (by decide)) (xi_va hc.1 (xi_l7 hc.1 h57 hc.2.1)) (xi_l7 hc.1 h57 hc.2.1) hc.1) h57 hc.2.1 hc.2.2) k
          rw [k, x190_50, if_neg h57, if_pos h72, if_neg h85]
      · rw [if_neg h72] at k
        have k := ly_revb 2 (c' := (50, [(2, .int (v2 + (Int32.ofInt 1))), (0, .ref (p 0)), (1, .int v1)], [], me_w (lw M L) J)) rfl k
        have k := nt_rn_w (a := [(2, .int (v2 + (Int32.ofInt 1))), (0, .ref (p 0)), (1, .int v1)]) (b := [(0, .ref (p 0)), (1, .int v1), (2, .int (v2 + (Int32.ofInt 1)))]) ⟨rfl, rfl, rfl, trivial⟩ rfl k
        have k := ih (v2 + (Int32.ofInt 1)) J L (xk_dec hc.1 h57 hc.2.1 hc.2.2) k
        rw [k, x190_50, if_neg h57, if_neg h72]
theorem x190_50_rule {p : Nat → Nat} {v1 : Int32} {I : Nat → Int32 → (Nat → Nat → Int32) → (Nat → Nat → Int64) → Prop} {Q : (Nat → Nat → Int32) × (Nat → Nat → Int64) → Prop} (h0 : ∀ (v2 : Int32) (J : Nat → Nat → Int32) (L : Nat → Nat → Int64), I 0 v2 J L → Q (x190_108 p L ((J (p 4) 1).toNatClampNeg) (Int32.ofInt 0) J)) (h1 : ∀ (c : Nat) (v2 : Int32) (J : Nat → Nat → Int32) (L : Nat → Nat → Int64), I (c + 1) v2 J L →
    if (J (p 4) 3) ≤ v2 then (Q (x190_108 p L ((J (p 4) 1).toNatClampNeg) (Int32.ofInt 0) J))
    else if (x180 p v2 (Int32.ofInt 1) J) = (J (p 4) 4) then if (x182 p (x180 p v2 (Int32.ofInt 0) J) J) = 0 then (I c (v2 + (Int32.ofInt 1)) J L)
        else (I c (v2 + (Int32.ofInt 1)) ((x192 p v1 (x180 p v2 (Int32.ofInt 0) J) v2 J L).1) ((x192 p v1 (x180 p v2 (Int32.ofInt 0) J) v2 J L).2))
      else (I c (v2 + (Int32.ofInt 1)) J L)) : ∀ (c : Nat) (v2 : Int32) (J : Nat → Nat → Int32) (L : Nat → Nat → Int64), I c v2 J L → Q (x190_50 p v1 c v2 J L) := by
  intro c
  induction c with
  | zero =>
    intro v2 J L hi
    rw [x190_50]
    exact h0 v2 J L hi
  | succ c ih =>
    intro v2 J L hi
    have hi := h1 c v2 J L hi
    rw [x190_50]
    by_cases h : (J (p 4) 3) ≤ v2
    · rw [if_pos h] at hi ⊢
      exact hi
    · rw [if_neg h] at hi ⊢
      by_cases h : (x180 p v2 (Int32.ofInt 1) J) = (J (p 4) 4)
      · rw [if_pos h] at hi ⊢
        by_cases h : (x182 p (x180 p v2 (Int32.ofInt 0) J) J) = 0
        · rw [if_pos h] at hi ⊢
          exact ih _ _ _ hi
        · rw [if_neg h] at hi ⊢
          exact ih _ _ _ hi
      · rw [if_neg h] at hi ⊢
        exact ih _ _ _ hi
def x190_2 (p : Nat → Nat) (v1 : Int32) (L : Nat → Nat → Int64) : Nat → Int32 → (Nat → Nat → Int32) → (Nat → Nat → Int32) × (Nat → Nat → Int64)
  | 0, v2, J => (x190_50 p v1 ((J (p 4) 3).toNatClampNeg) (Int32.ofInt 0) J L)
  | c + 1, v2, J => if (J (p 4) 3) ≤ v2 then (x190_50 p v1 ((J (p 4) 3).toNatClampNeg) (Int32.ofInt 0) J L)
    else if (x180 p v2 (Int32.ofInt 4) J) = (Int32.ofInt 1) then if (x180 p v2 (Int32.ofInt 2) J) = (J (p 4) 4) then (x190_2 p v1 L c (v2 + (Int32.ofInt 1)) (x191 p v2 J))
        else (x190_2 p v1 L c (v2 + (Int32.ofInt 1)) J)
      else (x190_2 p v1 L c (v2 + (Int32.ofInt 1)) J)
theorem xt190_2 {X : nt_X} {d : Nat} {M : nt_M} {o : Option Value × nt_M} {p : Nat → Nat} {v1 : Int32} {L : Nat → Nat → Int64} (hp : xs_P M p) : ∀ (c : Nat) (v2 : Int32) (J : Nat → Nat → Int32), (xr_W (J (p 4)) ∧ 0 ≤ v2.toInt ∧ (J (p 4) 3).toInt - v2.toInt ≤ c) → nt_rn X d 190 (2, [(0, .ref (p 0)), (1, .int v1), (2, .int v2)], [], me_w (lw M L) J) o → o = (none, me_w (lw M ((x190_2 p v1 L c v2 J).2)) ((x190_2 p v1 L c v2 J).1)) := by
  intro c
  induction c with
  | zero =>
    intro v2 J hc k
    have k := ly_revb 2 (c' := (4, [(0, .ref (p 0)), (1, .int v1), (2, .int v2)], [.ref (p 0), .int v2], me_w (lw M L) J)) rfl k
    have k := lz_get (a := (p 0)) (g := 1127) (M := me_w (lw M L) J) (v := .ref (p 4)) rfl (nt_gfR rfl (hp.1 (0, 27, 4) (by decide))) k
    have k := ly_revb 1 (c' := (8, [(0, .ref (p 0)), (1, .int v1), (2, .int v2)], [.int (Int32.ofInt 3), .ref (p 4), .int v2], me_w (lw M L) J)) rfl k
    have k := mx_iald (v := J (p 4) 3) rfl (hp.2.2.1 4 (by omega)) ((congrArg (J (p 4)) (show (Int32.ofInt 3).toNatClampNeg = 3 from rfl)).trans (rfl)) k
    have k := ly_revb 1 (c' := (if (J (p 4) 3) ≤ v2 then 48 else 12, [(0, .ref (p 0)), (1, .int v1), (2, .int v2)], [], me_w (lw M L) J)) rfl k
    have h9 : (J (p 4) 3) ≤ v2 := lx_end hc.2.2
    rw [if_pos h9] at k
    have k := ly_revb 2 (c' := (50, [(2, .int (Int32.ofInt 0)), (0, .ref (p 0)), (1, .int v1)], [], me_w (lw M L) J)) rfl k
    have k := nt_rn_w (a := [(2, .int (Int32.ofInt 0)), (0, .ref (p 0)), (1, .int v1)]) (b := [(0, .ref (p 0)), (1, .int v1), (2, .int (Int32.ofInt 0))]) ⟨rfl, rfl, rfl, trivial⟩ rfl k
    have k := xt190_50 hp  ((J (p 4) 3).toNatClampNeg) (Int32.ofInt 0) J L (⟨hc.1, by decide, lx_beg (by decide)⟩) k
    rw [k, x190_2]
  | succ c ih =>
    intro v2 J hc k
    have k := ly_revb 2 (c' := (4, [(0, .ref (p 0)), (1, .int v1), (2, .int v2)], [.ref (p 0), .int v2], me_w (lw M L) J)) rfl k
    have k := lz_get (a := (p 0)) (g := 1127) (M := me_w (lw M L) J) (v := .ref (p 4)) rfl (nt_gfR rfl (hp.1 (0, 27, 4) (by decide))) k
    have k := ly_revb 1 (c' := (8, [(0, .ref (p 0)), (1, .int v1), (2, .int v2)], [.int (Int32.ofInt 3), .ref (p 4), .int v2], me_w (lw M L) J)) rfl k
    have k := mx_iald (v := J (p 4) 3) rfl (hp.2.2.1 4 (by omega)) ((congrArg (J (p 4)) (show (Int32.ofInt 3).toNatClampNeg = 3 from rfl)).trans (rfl)) k
    have k := ly_revb 1 (c' := (if (J (p 4) 3) ≤ v2 then 48 else 12, [(0, .ref (p 0)), (1, .int v1), (2, .int v2)], [], me_w (lw M L) J)) rfl k
    by_cases h9 : (J (p 4) 3) ≤ v2
    · rw [if_pos h9] at k
      have k := ly_revb 2 (c' := (50, [(2, .int (Int32.ofInt 0)), (0, .ref (p 0)), (1, .int v1)], [], me_w (lw M L) J)) rfl k
      have k := nt_rn_w (a := [(2, .int (Int32.ofInt 0)), (0, .ref (p 0)), (1, .int v1)]) (b := [(0, .ref (p 0)), (1, .int v1), (2, .int (Int32.ofInt 0))]) ⟨rfl, rfl, rfl, trivial⟩ rfl k
      have k := xt190_50 hp  ((J (p 4) 3).toNatClampNeg) (Int32.ofInt 0) J L (⟨hc.1, by decide, lx_beg (by decide)⟩) k
      rw [k, x190_2, if_pos h9]
    · rw [if_neg h9] at k
      have k := ly_revb 3 (c' := (15, [(0, .ref (p 0)), (1, .int v1), (2, .int v2)], [.int (Int32.ofInt 4), .int v2, .ref (p 0)], me_w (lw M L) J)) rfl k
      obtain ⟨d1, o1, ed, kc, k⟩ := lz_c (g := 180) (q := 1) (vs := [.ref (p 0), .int v2, .int (Int32.ofInt 4)]) (rest := []) rfl rfl (by decide) (Or.inr (Or.inl ⟨_, rfl, rfl⟩)) rfl k
      have e1 := xt180 (xs_lp hp) kc
      subst e1
      have k : nt_rn X _ 190 (18, [(0, .ref (p 0)), (1, .int v1), (2, .int v2)], [.int (x180 p v2 (Int32.ofInt 4) J)], me_w (lw M L) J) _ := k
      have k := ly_revb 2 (c' := (if (x180 p v2 (Int32.ofInt 4) J) = (Int32.ofInt 1) then 22 else 42, [(0, .ref (p 0)), (1, .int v1), (2, .int v2)], [], me_w (lw M L) J)) rfl k
      by_cases h19 : (x180 p v2 (Int32.ofInt 4) J) = (Int32.ofInt 1)
      · rw [if_pos h19] at k
        have k := ly_revb 3 (c' := (25, [(0, .ref (p 0)), (1, .int v1), (2, .int v2)], [.int (Int32.ofInt 2), .int v2, .ref (p 0)], me_w (lw M L) J)) rfl k
        obtain ⟨d1, o1, ed, kc, k⟩ := lz_c (g := 180) (q := 1) (vs := [.ref (p 0), .int v2, .int (Int32.ofInt 2)]) (rest := []) rfl rfl (by decide) (Or.inr (Or.inl ⟨_, rfl, rfl⟩)) rfl k
        have e1 := xt180 (xs_lp hp) kc
        subst e1
        have k : nt_rn X _ 190 (28, [(0, .ref (p 0)), (1, .int v1), (2, .int v2)], [.int (x180 p v2 (Int32.ofInt 2) J)], me_w (lw M L) J) _ := k
        have k := ly_revb 1 (c' := (29, [(0, .ref (p 0)), (1, .int v1), (2, .int v2)], [.ref (p 0), .int (x180 p v2 (Int32.ofInt 2) J)], me_w (lw M L) J)) rfl k
        have k := lz_get (a := (p 0)) (g := 1127) (M := me_w (lw M L) J) (v := .ref (p 4)) rfl (nt_gfR rfl (hp.1 (0, 27, 4) (by decide))) k
        have k := ly_revb 1 (c' := (33, [(0, .ref (p 0)), (1, .int v1), (2, .int v2)], [.int (Int32.ofInt 4), .ref (p 4), .int (x180 p v2 (Int32.ofInt 2) J)], me_w (lw M L) J)) rfl k
        have k := mx_iald (v := J (p 4) 4) rfl (hp.2.2.1 4 (by omega)) ((congrArg (J (p 4)) (show (Int32.ofInt 4).toNatClampNeg = 4 from rfl)).trans (rfl)) k
        have k := ly_revb 1 (c' := (if (x180 p v2 (Int32.ofInt 2) J) = (J (p 4) 4) then 37 else 42, [(0, .ref (p 0)), (1, .int v1), (2, .int v2)], [], me_w (lw M L) J)) rfl k
        by_cases h34 : (x180 p v2 (Int32.ofInt 2) J) = (J (p 4) 4)
        · rw [if_pos h34] at k
          have k := ly_revb 2 (c' := (39, [(0, .ref (p 0)), (1, .int v1), (2, .int v2)], [.int v2, .ref (p 0)], me_w (lw M L) J)) rfl k
          obtain ⟨d1, o1, ed, kc, k⟩ := lz_c (g := 191) (q := 1) (vs := [.ref (p 0), .int v2]) (rest := []) rfl rfl (by decide) (Or.inr (Or.inl ⟨_, rfl, rfl⟩)) rfl k
          have e1 := xt191 (xs_lp hp) hc.1 kc
          subst e1
          have k : nt_rn X _ 190 (42, [(0, .ref (p 0)), (1, .int v1), (2, .int v2)], [], me_w (lw M L) (x191 p v2 J)) _ := k
          have k := ly_revb 2 (c' := (2, [(2, .int (v2 + (Int32.ofInt 1))), (0, .ref (p 0)), (1, .int v1)], [], me_w (lw M L) (x191 p v2 J))) rfl k
          have k := nt_rn_w (a := [(2, .int (v2 + (Int32.ofInt 1))), (0, .ref (p 0)), (1, .int v1)]) (b := [(0, .ref (p 0)), (1, .int v1), (2, .int (v2 + (Int32.ofInt 1)))]) ⟨rfl, rfl, rfl, trivial⟩ rfl k
          have k := ih (v2 + (Int32.ofInt 1)) (x191 p v2 J) (xk_pa (by omega) (xw_191 hc.1 (xi_l7 hc.1 h9 hc.2.1)) h9 hc.2.1 hc.2.2) k
          rw [k, x190_2, if_neg h9, if_pos h19, if_pos h34]
        · rw [if_neg h34] at k
          have k := ly_revb 2 (c' := (2, [(2, .int (v2 + (Int32.ofInt 1))), (0, .ref (p 0)), (1, .int v1)], [], me_w (lw M L) J)) rfl k
          have k := nt_rn_w (a := [(2, .int (v2 + (Int32.ofInt 1))), (0, .ref (p 0)), (1, .int v1)]) (b := [(0, .ref (p 0)), (1, .int v1), (2, .int (v2 + (Int32.ofInt 1)))]) ⟨rfl, rfl, rfl, trivial⟩ rfl k
          have k := ih (v2 + (Int32.ofInt 1)) J (xk_dec hc.1 h9 hc.2.1 hc.2.2) k
          rw [k, x190_2, if_neg h9, if_pos h19, if_neg h34]
      · rw [if_neg h19] at k
        have k := ly_revb 2 (c' := (2, [(2, .int (v2 + (Int32.ofInt 1))), (0, .ref (p 0)), (1, .int v1)], [], me_w (lw M L) J)) rfl k
        have k := nt_rn_w (a := [(2, .int (v2 + (Int32.ofInt 1))), (0, .ref (p 0)), (1, .int v1)]) (b := [(0, .ref (p 0)), (1, .int v1), (2, .int (v2 + (Int32.ofInt 1)))]) ⟨rfl, rfl, rfl, trivial⟩ rfl k
        have k := ih (v2 + (Int32.ofInt 1)) J (xk_dec hc.1 h9 hc.2.1 hc.2.2) k
        rw [k, x190_2, if_neg h9, if_neg h19]
theorem x190_2_rule {p : Nat → Nat} {v1 : Int32} {L : Nat → Nat → Int64} {I : Nat → Int32 → (Nat → Nat → Int32) → Prop} {Q : (Nat → Nat → Int32) × (Nat → Nat → Int64) → Prop} (h0 : ∀ (v2 : Int32) (J : Nat → Nat → Int32), I 0 v2 J → Q (x190_50 p v1 ((J (p 4) 3).toNatClampNeg) (Int32.ofInt 0) J L)) (h1 : ∀ (c : Nat) (v2 : Int32) (J : Nat → Nat → Int32), I (c + 1) v2 J →
    if (J (p 4) 3) ≤ v2 then (Q (x190_50 p v1 ((J (p 4) 3).toNatClampNeg) (Int32.ofInt 0) J L))
    else if (x180 p v2 (Int32.ofInt 4) J) = (Int32.ofInt 1) then if (x180 p v2 (Int32.ofInt 2) J) = (J (p 4) 4) then (I c (v2 + (Int32.ofInt 1)) (x191 p v2 J))
        else (I c (v2 + (Int32.ofInt 1)) J)
      else (I c (v2 + (Int32.ofInt 1)) J)) : ∀ (c : Nat) (v2 : Int32) (J : Nat → Nat → Int32), I c v2 J → Q (x190_2 p v1 L c v2 J) := by
  intro c
  induction c with
  | zero =>
    intro v2 J hi
    rw [x190_2]
    exact h0 v2 J hi
  | succ c ih =>
    intro v2 J hi
    have hi := h1 c v2 J hi
    rw [x190_2]
    by_cases h : (J (p 4) 3) ≤ v2
    · rw [if_pos h] at hi ⊢
      exact hi
    · rw [if_neg h] at hi ⊢
      by_cases h : (x180 p v2 (Int32.ofInt 4) J) = (Int32.ofInt 1)
      · rw [if_pos h] at hi ⊢
        by_cases h : (x180 p v2 (Int32.ofInt 2) J) = (J (p 4) 4)
        · rw [if_pos h] at hi ⊢
          exact ih _ _ hi
        · rw [if_neg h] at hi ⊢
          exact ih _ _ hi
      · rw [if_neg h] at hi ⊢
        exact ih _ _ hi
def x190 (p : Nat → Nat) (v1 : Int32) (J : Nat → Nat → Int32) (L : Nat → Nat → Int64) : (Nat → Nat → Int32) × (Nat → Nat → Int64) := (x190_2 p v1 L ((J (p 4) 3).toNatClampNeg) (Int32.ofInt 0) J)
theorem xt190 {X : nt_X} {d : Nat} {M : nt_M} {o : Option Value × nt_M} {p : Nat → Nat} {v1 : Int32} {J : Nat → Nat → Int32} {L : Nat → Nat → Int64} (hp : xs_P M p) (hw : xr_W (J (p 4))) (k : nt_ev X d 190 [.ref (p 0), .int v1] (me_w (lw M L) J) o) : o = (none, me_w (lw M ((x190 p v1 J L).2)) ((x190 p v1 J L).1)) := by
  have k : nt_rn X d 190 (0, [(0, .ref (p 0)), (1, .int v1)], [], me_w (lw M L) J) o := k
  have k := ly_revb 2 (c' := (2, [(2, .int (Int32.ofInt 0)), (0, .ref (p 0)), (1, .int v1)], [], me_w (lw M L) J)) rfl k
  have k := nt_rn_w (a := [(2, .int (Int32.ofInt 0)), (0, .ref (p 0)), (1, .int v1)]) (b := [(0, .ref (p 0)), (1, .int v1), (2, .int (Int32.ofInt 0))]) ⟨rfl, rfl, rfl, trivial⟩ rfl k
  have k := xt190_2 hp  ((J (p 4) 3).toNatClampNeg) (Int32.ofInt 0) J (⟨hw, by decide, lx_beg (by decide)⟩) k
  rw [k, x190]
theorem x190_108_frJ {p : Nat → Nat} {L : Nat → Nat → Int64} {b : Nat} : ∀ (c : Nat) (v2 : Int32) (J : Nat → Nat → Int32), b ≠ p 0 → b ≠ p 4 → (x190_108 p L c v2 J).1 b = J b := by
  intro c
  induction c with
  | zero =>
    intro v2 J n0 n1
    rw [x190_108]
    all_goals first | (dsimp only; exact (show (nt_u (nt_u J (p 4) 4 ((J (p 4) 4) + (Int32.ofInt 1))) (p 4) 6 (Int32.ofInt 0)) b = J b from (mu_o n1).trans (mu_o n1))) | exact (show (nt_u (nt_u J (p 4) 4 ((J (p 4) 4) + (Int32.ofInt 1))) (p 4) 6 (Int32.ofInt 0)) b = J b from (mu_o n1).trans (mu_o n1))
  | succ c ih =>
    intro v2 J n0 n1
    rw [x190_108]
    by_cases h : (J (p 4) 1) ≤ v2
    · rw [if_pos h]
      all_goals first | (dsimp only; exact (show (nt_u (nt_u J (p 4) 4 ((J (p 4) 4) + (Int32.ofInt 1))) (p 4) 6 (Int32.ofInt 0)) b = J b from (mu_o n1).trans (mu_o n1))) | exact (show (nt_u (nt_u J (p 4) 4 ((J (p 4) 4) + (Int32.ofInt 1))) (p 4) 6 (Int32.ofInt 0)) b = J b from (mu_o n1).trans (mu_o n1))
    · rw [if_neg h]
      by_cases h : (x169 p v2 (Int32.ofInt 4) J) = (Int32.ofInt 1)
      · rw [if_pos h]
        exact (ih _ _ n0 n1).trans (x202_frJ  n1)
      · rw [if_neg h]
        exact (ih _ _ n0 n1).trans (rfl)
theorem x190_50_frJ {p : Nat → Nat} {v1 : Int32} {b : Nat} : ∀ (c : Nat) (v2 : Int32) (J : Nat → Nat → Int32) (L : Nat → Nat → Int64), b ≠ p 0 → b ≠ p 4 → (x190_50 p v1 c v2 J L).1 b = J b := by
  intro c
  induction c with
  | zero =>
    intro v2 J L n0 n1
    rw [x190_50]
    exact (x190_108_frJ _ _ _ n0 n1).trans (rfl)
  | succ c ih =>
    intro v2 J L n0 n1
    rw [x190_50]
    by_cases h : (J (p 4) 3) ≤ v2
    · rw [if_pos h]
      exact (x190_108_frJ _ _ _ n0 n1).trans (rfl)
    · rw [if_neg h]
      by_cases h : (x180 p v2 (Int32.ofInt 1) J) = (J (p 4) 4)
      · rw [if_pos h]
        by_cases h : (x182 p (x180 p v2 (Int32.ofInt 0) J) J) = 0
        · rw [if_pos h]
          exact (ih _ _ _ n0 n1).trans (rfl)
        · rw [if_neg h]
          exact (ih _ _ _ n0 n1).trans (x192_frJ  n0 n1)
      · rw [if_neg h]
        exact (ih _ _ _ n0 n1).trans (rfl)
theorem x190_2_frJ {p : Nat → Nat} {v1 : Int32} {L : Nat → Nat → Int64} {b : Nat} : ∀ (c : Nat) (v2 : Int32) (J : Nat → Nat → Int32), b ≠ p 0 → b ≠ p 4 → (x190_2 p v1 L c v2 J).1 b = J b := by
  intro c
  induction c with
  | zero =>
    intro v2 J n0 n1
    rw [x190_2]
    exact (x190_50_frJ _ _ _ _ n0 n1).trans (rfl)
  | succ c ih =>
    intro v2 J n0 n1
    rw [x190_2]
    by_cases h : (J (p 4) 3) ≤ v2
    · rw [if_pos h]
      exact (x190_50_frJ _ _ _ _ n0 n1).trans (rfl)
    · rw [if_neg h]
      by_cases h : (x180 p v2 (Int32.ofInt 4) J) = (Int32.ofInt 1)
      · rw [if_pos h]
        by_cases h : (x180 p v2 (Int32.ofInt 2) J) = (J (p 4) 4)
        · rw [if_pos h]
          exact (ih _ _ n0 n1).trans (x191_frJ  n1)
        · rw [if_neg h]
          exact (ih _ _ n0 n1).trans (rfl)
      · rw [if_neg h]
        exact (ih _ _ n0 n1).trans (rfl)
theorem x190_frJ {p : Nat → Nat} {v1 : Int32} {J : Nat → Nat → Int32} {L : Nat → Nat → Int64} {b : Nat} (n0 : b ≠ p 0) (n1 : b ≠ p 4) : (x190 p v1 J L).1 b = J b := by
  unfold x190
  exact (x190_2_frJ _ _ _ n0 n1).trans (rfl)
theorem x190_108_frL {p : Nat → Nat} {L : Nat → Nat → Int64} {b : Nat} : ∀ (c : Nat) (v2 : Int32) (J : Nat → Nat → Int32), b ≠ p 5 → b ≠ p 6 → (x190_108 p L c v2 J).2 b = L b := by
  intro c
  induction c with
  | zero =>
    intro v2 J n0 n1
    rw [x190_108]
    all_goals first | (dsimp only; exact (show L b = L b from rfl)) | exact (show L b = L b from rfl)
  | succ c ih =>
    intro v2 J n0 n1
    rw [x190_108]
    by_cases h : (J (p 4) 1) ≤ v2
    · rw [if_pos h]
      all_goals first | (dsimp only; exact (show L b = L b from rfl)) | exact (show L b = L b from rfl)
    · rw [if_neg h]
      by_cases h : (x169 p v2 (Int32.ofInt 4) J) = (Int32.ofInt 1)
      · rw [if_pos h]
        exact (ih _ _ n0 n1).trans (rfl)
      · rw [if_neg h]
        exact (ih _ _ n0 n1).trans (rfl)
theorem x190_50_frL {p : Nat → Nat} {v1 : Int32} {b : Nat} : ∀ (c : Nat) (v2 : Int32) (J : Nat → Nat → Int32) (L : Nat → Nat → Int64), b ≠ p 5 → b ≠ p 6 → (x190_50 p v1 c v2 J L).2 b = L b := by
  intro c
  induction c with
  | zero =>
    intro v2 J L n0 n1
    rw [x190_50]
    exact (x190_108_frL _ _ _ n0 n1).trans (rfl)
  | succ c ih =>
    intro v2 J L n0 n1
    rw [x190_50]
    by_cases h : (J (p 4) 3) ≤ v2
    · rw [if_pos h]
      exact (x190_108_frL _ _ _ n0 n1).trans (rfl)
    · rw [if_neg h]
      by_cases h : (x180 p v2 (Int32.ofInt 1) J) = (J (p 4) 4)
      · rw [if_pos h]
        by_cases h : (x182 p (x180 p v2 (Int32.ofInt 0) J) J) = 0
        · rw [if_pos h]
          exact (ih _ _ _ n0 n1).trans (rfl)
        · rw [if_neg h]
          exact (ih _ _ _ n0 n1).trans (x192_frL n0 n1)
      · rw [if_neg h]
        exact (ih _ _ _ n0 n1).trans (rfl)
theorem x190_2_frL {p : Nat → Nat} {v1 : Int32} {L : Nat → Nat → Int64} {b : Nat} : ∀ (c : Nat) (v2 : Int32) (J : Nat → Nat → Int32), b ≠ p 5 → b ≠ p 6 → (x190_2 p v1 L c v2 J).2 b = L b := by
  intro c
  induction c with
  | zero =>
    intro v2 J n0 n1
    rw [x190_2]
    exact (x190_50_frL _ _ _ _ n0 n1).trans (rfl)
  | succ c ih =>
    intro v2 J n0 n1
    rw [x190_2]
    by_cases h : (J (p 4) 3) ≤ v2
    · rw [if_pos h]
      exact (x190_50_frL _ _ _ _ n0 n1).trans (rfl)
    · rw [if_neg h]
      by_cases h : (x180 p v2 (Int32.ofInt 4) J) = (Int32.ofInt 1)
      · rw [if_pos h]
        by_cases h : (x180 p v2 (Int32.ofInt 2) J) = (J (p 4) 4)
        · rw [if_pos h]
          exact (ih _ _ n0 n1).trans (rfl)
        · rw [if_neg h]
          exact (ih _ _ n0 n1).trans (rfl)
      · rw [if_neg h]
        exact (ih _ _ n0 n1).trans (rfl)
theorem x190_frL {p : Nat → Nat} {v1 : Int32} {J : Nat → Nat → Int32} {L : Nat → Nat → Int64} {b : Nat} (n0 : b ≠ p 5) (n1 : b ≠ p 6) : (x190 p v1 J L).2 b = L b := by
  unfold x190
  exact (x190_2_frL _ _ _ n0 n1).trans (rfl)
