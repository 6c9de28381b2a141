section
/-! the reference: what a day keeps -/
def xk_K (e e1 : Nat → Int32) : Prop := xr_W e1 ∧ ∀ i, i < 6 → e1 i = e i
theorem xk_r {e : Nat → Int32} (h : xr_W e) : xk_K e e := ⟨h, fun _ _ => rfl⟩
theorem xk_t {a b c : Nat → Int32} (h : xk_K a b) (g : xk_K b c) : xk_K a c := ⟨g.1, fun i hi => (g.2 i hi).trans (h.2 i hi)⟩
theorem xk_up {e : Nat → Int32} {J : Nat → Nat → Int32} {a j : Nat} {v : Int32} (h : xk_K e (J a)) (hj : 6 ≤ j) (hv : (xr_b j).1 ≤ v.toInt ∧ v.toInt ≤ (xr_b j).2) : xk_K e (nt_u J a j v a) := ⟨xr_up h.1 hv, fun i hi => by rw [me_uk (by omega)]; exact h.2 i hi⟩
theorem xk_ua {e : Nat → Int32} {J : Nat → Nat → Int32} {a j n : Nat} {v : Int32} (h : xk_K e (J a)) (e1 : j = n) (hj : 6 ≤ n) (hv : xr_b n = (-2147483648, 2147483647)) : xk_K e (nt_u J a j v a) := by
  subst e1
  exact xk_up h hj (xr_any hv)
theorem xk_ub {e : Nat → Int32} {J : Nat → Nat → Int32} {a j n : Nat} {l m : Int} {v : Int32} (h : xk_K e (J a)) (e1 : j = n) (hj : 6 ≤ n) (hb : xr_b n = (l, m)) (hv : l ≤ v.toInt ∧ v.toInt ≤ m) : xk_K e (nt_u J a j v a) := by
  subst e1
  refine xk_up h hj ?_
  rw [hb]
  exact hv
theorem xi_m1 : (Int32.ofInt (-1)).toInt = -1 := by decide
theorem xi_nn {b i : Int32} (n : ¬ b ≤ i) (h : 0 ≤ i.toInt) : 0 ≤ (i + Int32.ofInt 1).toInt := by rw [lx_inc n]; omega
theorem xi_va {p : Nat → Nat} {J : Nat → Nat → Int32} {v : Int32} (hW : xr_W (J (p 4))) (hv : 0 ≤ v.toInt ∧ v.toInt ≤ 7) : 0 ≤ (x180 p v (Int32.ofInt 0) J).toInt ∧ (x180 p v (Int32.ofInt 0) J).toInt ≤ 5 := by
  unfold x180
  rw [show ((Int32.ofInt 172 + Int32.ofInt 5 * v) + Int32.ofInt 0).toNatClampNeg = 172 + 5 * v.toInt.toNat + 0 from xi_3 (a := 172) (m := 5) (b := 0) (by omega) (by omega) (by omega) hv.1 (by omega)]
  exact xr_sh hW (by omega)
theorem xw_191 {p : Nat → Nat} {J : Nat → Nat → Int32} {v : Int32} (hW : xr_W (J (p 4))) (hv : 0 ≤ v.toInt ∧ v.toInt ≤ 7) : xk_K (J (p 4)) (x191 p v J (p 4)) := by
  have hs := xi_va hW hv
  have fin : ∀ (v5 v3 : Int32) (J1 : Nat → Nat → Int32), xk_K (J (p 4)) (J1 (p 4)) → xk_K (J (p 4)) ((nt_u (nt_u (nt_u (nt_u (nt_u J1 (p 4) ((((Int32.ofInt 10) + ((Int32.ofInt 7) * (x180 p v (Int32.ofInt 0) J))) + (Int32.ofInt 6)).toNatClampNeg) ((J1 (p 4) ((((Int32.ofInt 10) + ((Int32.ofInt 7) * (x180 p v (Int32.ofInt 0) J))) + (Int32.ofInt 6)).toNatClampNeg)) + v5)) (p 4) 7 (((nt_u J1 (p 4) ((((Int32.ofInt 10) + ((Int32.ofInt 7) * (x180 p v (Int32.ofInt 0) J))) + (Int32.ofInt 6)).toNatClampNeg) ((J1 (p 4) ((((Int32.ofInt 10) + ((Int32.ofInt 7) * (x180 p v (Int32.ofInt 0) J))) + (Int32.ofInt 6)).toNatClampNeg)) + v5)) (p 4) 7) + v3)) (p 4) ((((Int32.ofInt 10) + ((Int32.ofInt 7) * (x180 p v (Int32.ofInt 0) J))) + (Int32.ofInt 4)).toNatClampNeg) (Int32.ofInt 0)) (p 4) ((((Int32.ofInt 10) + ((Int32.ofInt 7) * (x180 p v (Int32.ofInt 0) J))) + (Int32.ofInt 5)).toNatClampNeg) (Int32.ofInt (-1))) (p 4) ((((Int32.ofInt 172) + ((Int32.ofInt 5) * v)) + (Int32.ofInt 4)).toNatClampNeg) (Int32.ofInt 2)) (p 4)) := by
    intro v5 v3 J1 h
    refine xk_ua (xk_ub (xk_ua (xk_ua (xk_ua h (xi_s6 hs.1 (by omega)) (by omega) (xr_bs (by omega) (by omega) (by omega))) rfl (by omega) rfl) (xi_s4 hs.1 (by omega)) (by omega) (xr_bs (by omega) (by omega) (by omega))) (xi_s5 hs.1 (by omega)) (by omega) (xr_b5 (by omega)) (by rw [xi_m1]; omega)) (xi_v4 hv.1 (by omega)) (by omega) (xr_bv (by omega) (by omega) (by omega))
  unfold x191
  refine x191_31_rule (I := fun _ _ v6 J1 => xk_K (J (p 4)) (J1 (p 4)) ∧ 0 ≤ v6.toInt) (Q := fun J1 => xk_K (J (p 4)) (J1 (p 4))) ?_ ?_ _ _ _ _ ⟨xk_r hW, by decide⟩
  · intro v5 v6 J1 h
    exact fin _ _ _ h.1
  · intro c v5 v6 J1 h
    by_cases h1 : J1 (p 4) 2 ≤ v6
    · rw [if_pos h1]
      exact fin _ _ _ h.1
    · rw [if_neg h1]
      by_cases h2 : x171 p v6 (x180 p v (Int32.ofInt 0) J) J1 = 0
      · rw [if_pos h2]
        exact ⟨h.1, xi_nn h1 h.2⟩
      · rw [if_neg h2]
        obtain ⟨s, hs6, e⟩ := xk_ow h.1.1 h1 h.2
        exact ⟨xk_ua h.1 e (by omega) (xr_bs hs6 (by omega) (by omega)), xi_nn h1 h.2⟩
theorem xw_202b {p : Nat → Nat} {e : Nat → Int32} {v1 : Int32} {c : Nat} {v4 : Int32} {J : Nat → Nat → Int32} (h : xk_K e (J (p 4))) (h0 : 0 ≤ v4.toInt) : xk_K e (x202_145 p v1 c v4 J (p 4)) := by
  refine x202_145_rule (I := fun _ v4 J1 => xk_K e (J1 (p 4)) ∧ 0 ≤ v4.toInt) (Q := fun J1 => xk_K e (J1 (p 4))) ?_ ?_ _ _ _ ⟨h, h0⟩
  · intro v4 J1 h
    exact h.1
  · intro c v4 J1 h
    by_cases h1 : J1 (p 4) 2 ≤ v4
    · rw [if_pos h1]
      exact h.1
    · rw [if_neg h1]
      have l24 := xi_lt h1 (xr_2 h.1.1).2
      have l0 := h.2
      by_cases h2 : x173 p v4 (Int32.ofInt 3) J1 = v1
      · rw [if_pos h2]
        exact ⟨xk_ua h.1 (xi_p4 h.2 (by omega)) (by omega) (xr_bp (by omega) (by omega) (by omega) (by omega)), xi_nn h1 h.2⟩
      · rw [if_neg h2]
        exact ⟨h.1, xi_nn h1 h.2⟩
theorem xw_losem {p : Nat → Nat} {e : Nat → Int32} {J : Nat → Nat → Int32} {i x : Int32} (h : xk_K e (J (p 4))) (hv : 0 ≤ i.toInt ∧ i.toInt ≤ 5) (hx : -1 ≤ x.toInt ∧ x.toInt ≤ 7) : xk_K e (nt_u (nt_u (nt_u J (p 4) (((Int32.ofInt 10 + Int32.ofInt 7 * i) + Int32.ofInt 4).toNatClampNeg) (Int32.ofInt 2)) (p 4) (((Int32.ofInt 10 + Int32.ofInt 7 * i) + Int32.ofInt 5).toNatClampNeg) (Int32.ofInt (-1))) (p 4) (((Int32.ofInt 172 + Int32.ofInt 5 * x) + Int32.ofInt 4).toNatClampNeg) (Int32.ofInt 3) (p 4)) :=
  xk_ua (xk_ub (xk_ua h (xi_s4 hv.1 (by omega)) (by omega) (xr_bs (by omega) (by omega) (by omega))) (xi_s5 hv.1 (by omega)) (by omega) (xr_b5 (by omega)) (by rw [xi_m1]; omega)) (xi_vm hx.1 hx.2) (by omega) (xr_bm hx.1 hx.2)
theorem xw_202 {p : Nat → Nat} {J : Nat → Nat → Int32} {v : Int32} (hW : xr_W (J (p 4))) (hv : 0 ≤ v.toInt ∧ v.toInt ≤ 5) : xk_K (J (p 4)) (x202 p v J (p 4)) := by
  have wr : ∀ (J1 : Nat → Nat → Int32) (v3 x : Int32), xk_K (J (p 4)) (J1 (p 4)) → 0 ≤ v3.toInt → v3.toInt < 24 → xk_K (J (p 4)) (nt_u J1 (p 4) ((((Int32.ofInt 52) + ((Int32.ofInt 5) * v3)) + (Int32.ofInt 1)).toNatClampNeg) x (p 4)) := fun J1 v3 x h a b => xk_ua h (xi_p1 a (by omega)) (by omega) (xr_bp (by omega) (by omega) (by omega) (by omega))
  have fin : ∀ (v2 : Int32) (J1 : Nat → Nat → Int32), xk_K (J (p 4)) (J1 (p 4)) → xk_K (J (p 4)) ((if v2 = 0 then J1
    else if (x180 p (x169 p v (Int32.ofInt 5) J1) (Int32.ofInt 2) J1) = ((J1 (p 4) 4) + (Int32.ofInt 1)) then J1
      else (x202_145 p v (((nt_u (nt_u (nt_u J1 (p 4) ((((Int32.ofInt 10) + ((Int32.ofInt 7) * v)) + (Int32.ofInt 4)).toNatClampNeg) (Int32.ofInt 2)) (p 4) ((((Int32.ofInt 10) + ((Int32.ofInt 7) * v)) + (Int32.ofInt 5)).toNatClampNeg) (Int32.ofInt (-1))) (p 4) ((((Int32.ofInt 172) + ((Int32.ofInt 5) * (x169 p v (Int32.ofInt 5) J1))) + (Int32.ofInt 4)).toNatClampNeg) (Int32.ofInt 3)) (p 4) 2).toNatClampNeg) (Int32.ofInt 0) (nt_u (nt_u (nt_u J1 (p 4) ((((Int32.ofInt 10) + ((Int32.ofInt 7) * v)) + (Int32.ofInt 4)).toNatClampNeg) (Int32.ofInt 2)) (p 4) ((((Int32.ofInt 10) + ((Int32.ofInt 7) * v)) + (Int32.ofInt 5)).toNatClampNeg) (Int32.ofInt (-1))) (p 4) ((((Int32.ofInt 172) + ((Int32.ofInt 5) * (x169 p v (Int32.ofInt 5) J1))) + (Int32.ofInt 4)).toNatClampNeg) (Int32.ofInt 3)))) (p 4)) := by
    intro v2 J1 h
    by_cases a : v2 = 0
    · rw [if_pos a]
      exact h
    · rw [if_neg a]
      by_cases b : (x180 p (x169 p v (Int32.ofInt 5) J1) (Int32.ofInt 2) J1) = ((J1 (p 4) 4) + (Int32.ofInt 1))
      · rw [if_pos b]
        exact h
      · rw [if_neg b]
        exact xw_202b (xw_losem h hv (xi_on h.1 hv)) (by decide)
  unfold x202
  refine x202_4_rule (I := fun _ _ v3 J1 => xk_K (J (p 4)) (J1 (p 4)) ∧ 0 ≤ v3.toInt) (Q := fun J1 => xk_K (J (p 4)) (J1 (p 4))) ?_ ?_ _ _ _ _ ⟨xk_r hW, by decide⟩
  · intro v2 v3 J1 h
    exact fin v2 J1 h.1
  · intro c v2 v3 J1 h
    by_cases h1 : J1 (p 4) 2 ≤ v3
    · rw [if_pos h1]
      have f := fin v2 J1 h.1
      by_cases a : v2 = 0
      · rw [if_pos a] at f ⊢
        exact f
      · rw [if_neg a] at f ⊢
        by_cases b : (x180 p (x169 p v (Int32.ofInt 5) J1) (Int32.ofInt 2) J1) = ((J1 (p 4) 4) + (Int32.ofInt 1))
        · rw [if_pos b] at f ⊢
          exact f
        · rw [if_neg b] at f ⊢
          exact f
    · rw [if_neg h1]
      have l24 := xi_lt h1 (xr_2 h.1.1).2
      have w := fun x => wr J1 v3 x h.1 h.2 l24
      have n := xi_nn h1 h.2
      by_cases h2 : x171 p v3 v J1 = 0
      · rw [if_pos h2]
        exact ⟨h.1, n⟩
      · rw [if_neg h2]
        by_cases a : v2 = 0
        · rw [if_pos a]
          split
          · exact ⟨w _, n⟩
          · exact ⟨w _, n⟩
        · rw [if_neg a]
          exact ⟨w _, n⟩
theorem xw_185 {p : Nat → Nat} {e : Nat → Int32} {J : Nat → Nat → Int32} {v1 v2 : Int32} (h : xk_K e (J (p 4))) (h1 : 0 ≤ v1.toInt ∧ v1.toInt < 24) (h2 : -1 ≤ v2.toInt ∧ v2.toInt ≤ 5) : xk_K e (x185 p v1 v2 J (p 4)) ∧ x185 p v1 v2 J (p 4) 6 = J (p 4) 6 + Int32.ofInt 1 := by
  have ei := xi_p3 h1.1 (by omega)
  refine ⟨?_, ?_⟩
  · unfold x185
    exact xk_ua (xk_ua (xk_ub h ei (by omega) (xr_b3 (by omega)) h2) rfl (by omega) rfl) rfl (by omega) rfl
  · unfold x185
    rw [me_uk (by omega), me_us, me_uk (by rw [ei]; omega)]
theorem xw_193 {p : Nat → Nat} {v1 v2 v3 v4 : Int32} {J : Nat → Nat → Int32} {L : Nat → Nat → Int64} (hd : p 4 ≠ p 0) (hW : xr_W (J (p 4))) : -1 ≤ (x193 p v1 v2 v3 v4 J L).1.toInt ∧ (x193 p v1 v2 v3 v4 J L).1.toInt < 24 := by
  unfold x193
  refine x193_9_rule (I := fun _ v5 _ v8 J1 _ => J1 (p 4) = J (p 4) ∧ 0 ≤ v8.toInt ∧ -1 ≤ v5.toInt ∧ v5.toInt < 24) (Q := fun r => -1 ≤ r.1.toInt ∧ r.1.toInt < 24) ?_ ?_ _ _ _ _ _ _ ⟨rfl, by decide, by decide, by decide⟩
  · intro v5 v6 v8 J1 L1 h
    exact h.2.2
  · intro c v5 v6 v8 J1 L1 h
    by_cases h1 : J1 (p 4) 2 ≤ v8
    · rw [if_pos h1]
      exact h.2.2
    · rw [if_neg h1]
      have n := xi_nn h1 h.2.1
      have l24 : v8.toInt < 24 := xi_lt h1 (by rw [h.1]; exact (xr_2 hW).2)
      have l0 := h.2.1
      split
      · exact ⟨h.1, n, h.2.2⟩
      · split
        · split
          · exact ⟨(x198_frJ hd).trans ((x197_frJ hd).trans h.1), n, by omega, l24⟩
          · split
            · exact ⟨(x198_frJ hd).trans ((x197_frJ hd).trans h.1), n, by omega, l24⟩
            · exact ⟨(x198_frJ hd).trans ((x197_frJ hd).trans h.1), n, h.2.2⟩
        · exact ⟨(x197_frJ hd).trans h.1, n, h.2.2⟩
theorem xh_on {p : Nat → Nat} {J : Nat → Nat → Int32} (h : ¬ x184 p J = 0) : ¬ J (p 4) 5 ≤ J (p 4) 6 := by
  intro c
  apply h
  unfold x184
  rw [if_pos c]
  rfl
theorem xh_ge {x : Int32} (h : 0 ≤ x) : 0 ≤ x.toInt := by
  have h : (0 : Int32).toInt ≤ x.toInt := Int32.le_iff_toInt_le.mp h
  rw [show (0 : Int32).toInt = 0 from by decide] at h
  exact h
/-! Model.fitsOut -/
def x192_18 (p : Nat → Nat) (v1 : Int32) (v2 : Int32) (v3 : Int32) (v4 : Int32) : Nat → (Nat → Nat → Int32) → (Nat → Nat → Int64) → (Nat → Nat → Int32) × (Nat → Nat → Int64)
  | 0, J, L => if (x175 p v2 v4 J) ≤ 0 then (J, L)
    else if (x184 p J) = 0 then (J, L)
      else if 0 ≤ ((x193 p v1 v2 v4 v3 J L).1) then (x185 p ((x193 p v1 v2 v4 v3 J L).1) v2 ((x193 p v1 v2 v4 v3 J L).2.1), (x193 p v1 v2 v4 v3 J L).2.2)
        else ((x193 p v1 v2 v4 v3 J L).2.1, (x193 p v1 v2 v4 v3 J L).2.2)
  | c + 1, J, L => if (x175 p v2 v4 J) ≤ 0 then (J, L)
    else if (x184 p J) = 0 then (J, L)
      else if 0 ≤ ((x193 p v1 v2 v4 v3 J L).1) then (x192_18 p v1 v2 v3 v4 c (x185 p ((x193 p v1 v2 v4 v3 J L).1) v2 ((x193 p v1 v2 v4 v3 J L).2.1)) ((x193 p v1 v2 v4 v3 J L).2.2))
        else ((x193 p v1 v2 v4 v3 J L).2.1, (x193 p v1 v2 v4 v3 J L).2.2)
theorem xt192_18 {X : nt_X} {d : Nat} {M : nt_M} {o : Option Value × nt_M} {p : Nat → Nat} {v1 : Int32} {v2 : Int32} {v3 : Int32} {v4 : Int32} (hp : xs_P M p) (hv : 0 ≤ v2.toInt ∧ v2.toInt ≤ 5) : ∀ (c : Nat) (v5 : Int32) (J : Nat → Nat → Int32) (L : Nat → Nat → Int64), (xr_W (J (p 4)) ∧ (J (p 4) 5).toInt - (J (p 4) 6).toInt ≤ c) → nt_rn X d 192 (18, [(0, .ref (p 0)), (1, .int v1), (2, .int v2), (3, .int v3), (4, .int v4), (5, .int v5)], [], me_w (lw M L) J) o → ∃ (w5 : Int32), nt_rn X d 192 (64, [(0, .ref (p 0)), (1, .int v1), (2, .int v2), (3, .int v3), (4, .int v4), (5, .int w5)], [], me_w (lw M ((x192_18 p v1 v2 v3 v4 c J L).2)) ((x192_18 p v1 v2 v3 v4 c J L).1)) o := by
  intro c
  induction c with
  | zero =>
    intro v5 J L hc k
    have k := ly_revb 3 (c' := (22, [(0, .ref (p 0)), (1, .int v1), (2, .int v2), (3, .int v3), (4, .int v4), (5, .int v5)], [.int v4, .int v2, .ref (p 0)], me_w (lw M L) J)) rfl k
    obtain ⟨d1, o1, ed, kc, k⟩ := lz_c (g := 175) (q := 1) (vs := [.ref (p 0), .int v2, .int v4]) (rest := []) rfl rfl (by decide) (Or.inr (Or.inl ⟨_, rfl, rfl⟩)) rfl k
    have e1 := xt175 (xs_lp hp) kc
    subst e1
    have k : nt_rn X _ 192 (25, [(0, .ref (p 0)), (1, .int v1), (2, .int v2), (3, .int v3), (4, .int v4), (5, .int v5)], [.int (x175 p v2 v4 J)], me_w (lw M L) J) _ := k
    have k := ly_revb 1 (c' := (if (x175 p v2 v4 J) ≤ 0 then 64 else 28, [(0, .ref (p 0)), (1, .int v1), (2, .int v2), (3, .int v3), (4, .int v4), (5, .int v5)], [], me_w (lw M L) J)) rfl k
    by_cases h25 : (x175 p v2 v4 J) ≤ 0
    · rw [if_pos h25] at k
      have k := nt_rn_w (a := [(0, .ref (p 0)), (1, .int v1), (2, .int v2), (3, .int v3), (4, .int v4), (5, .int v5)]) (b := [(0, .ref (p 0)), (1, .int v1), (2, .int v2), (3, .int v3), (4, .int v4), (5, .int v5)]) ⟨rfl, rfl, rfl, rfl, rfl, rfl, trivial⟩ rfl k
      rw [x192_18, if_pos h25]
      exact ⟨_, k⟩
    · rw [if_neg h25] at k
      have k := ly_revb 1 (c' := (29, [(0, .ref (p 0)), (1, .int v1), (2, .int v2), (3, .int v3), (4, .int v4), (5, .int v5)], [.ref (p 0)], me_w (lw M L) J)) rfl k
      obtain ⟨d1, o1, ed, kc, k⟩ := lz_c (g := 184) (q := 1) (vs := [.ref (p 0)]) (rest := []) rfl rfl (by decide) (Or.inr (Or.inl ⟨_, rfl, rfl⟩)) rfl k
      have e1 := xt184 (xs_lp hp) kc
      subst e1
      have k : nt_rn X _ 192 (32, [(0, .ref (p 0)), (1, .int v1), (2, .int v2), (3, .int v3), (4, .int v4), (5, .int v5)], [.int (x184 p J)], me_w (lw M L) J) _ := k
      have k := ly_revb 1 (c' := (if (x184 p J) = 0 then 64 else 35, [(0, .ref (p 0)), (1, .int v1), (2, .int v2), (3, .int v3), (4, .int v4), (5, .int v5)], [], me_w (lw M L) J)) rfl k
      by_cases h32 : (x184 p J) = 0
      · rw [if_pos h32] at k
        have k := nt_rn_w (a := [(0, .ref (p 0)), (1, .int v1), (2, .int v2), (3, .int v3), (4, .int v4), (5, .int v5)]) (b := [(0, .ref (p 0)), (1, .int v1), (2, .int v2), (3, .int v3), (4, .int v4), (5, .int v5)]) ⟨rfl, rfl, rfl, rfl, rfl, rfl, trivial⟩ rfl k
        rw [x192_18, if_neg h25, if_pos h32]
        exact ⟨_, k⟩
      · rw [if_neg h32] at k
        have k := ly_revb 5 (c' := (41, [(0, .ref (p 0)), (1, .int v1), (2, .int v2), (3, .int v3), (4, .int v4), (5, .int v5)], [.int v3, .int v4, .int v2, .int v1, .ref (p 0)], me_w (lw M L) J)) rfl k
        obtain ⟨d1, o1, ed, kc, k⟩ := lz_c (g := 193) (q := 1) (vs := [.ref (p 0), .int v1, .int v2, .int v4, .int v3]) (rest := []) rfl rfl (by decide) (Or.inr (Or.inl ⟨_, rfl, rfl⟩)) rfl k
        have e1 := xt193 hp kc
        subst e1
        have k : nt_rn X _ 192 (44, [(0, .ref (p 0)), (1, .int v1), (2, .int v2), (3, .int v3), (4, .int v4), (5, .int v5)], [.int ((x193 p v1 v2 v4 v3 J L).1)], me_w (lw M ((x193 p v1 v2 v4 v3 J L).2.2)) ((x193 p v1 v2 v4 v3 J L).2.1)) _ := k
        have k := ly_revb 3 (c' := (if 0 ≤ ((x193 p v1 v2 v4 v3 J L).1) then 54 else 51, [(5, .int ((x193 p v1 v2 v4 v3 J L).1)), (0, .ref (p 0)), (1, .int v1), (2, .int v2), (3, .int v3), (4, .int v4)], [], me_w (lw M ((x193 p v1 v2 v4 v3 J L).2.2)) ((x193 p v1 v2 v4 v3 J L).2.1))) rfl k
        by_cases h48 : 0 ≤ ((x193 p v1 v2 v4 v3 J L).1)
        · rw [if_pos h48] at k
          have k := ly_revb 3 (c' := (58, [(5, .int ((x193 p v1 v2 v4 v3 J L).1)), (0, .ref (p 0)), (1, .int v1), (2, .int v2), (3, .int v3), (4, .int v4)], [.int v2, .int ((x193 p v1 v2 v4 v3 J L).1), .ref (p 0)], me_w (lw M ((x193 p v1 v2 v4 v3 J L).2.2)) ((x193 p v1 v2 v4 v3 J L).2.1))) rfl k
          obtain ⟨d1, o1, ed, kc, k⟩ := lz_c (g := 185) (q := 1) (vs := [.ref (p 0), .int ((x193 p v1 v2 v4 v3 J L).1), .int v2]) (rest := []) rfl rfl (by decide) (Or.inr (Or.inl ⟨_, rfl, rfl⟩)) rfl k
          have e1 := xt185 (xs_lp hp) kc
          subst e1
          have k : nt_rn X _ 192 (61, [(5, .int ((x193 p v1 v2 v4 v3 J L).1)), (0, .ref (p 0)), (1, .int v1), (2, .int v2), (3, .int v3), (4, .int v4)], [], me_w (lw M ((x193 p v1 v2 v4 v3 J L).2.2)) (x185 p ((x193 p v1 v2 v4 v3 J L).1) v2 ((x193 p v1 v2 v4 v3 J L).2.1))) _ := k
          have k := ly_revb 1 (c' := (18, [(5, .int ((x193 p v1 v2 v4 v3 J L).1)), (0, .ref (p 0)), (1, .int v1), (2, .int v2), (3, .int v3), (4, .int v4)], [], me_w (lw M ((x193 p v1 v2 v4 v3 J L).2.2)) (x185 p ((x193 p v1 v2 v4 v3 J L).1) v2 ((x193 p v1 v2 v4 v3 J L).2.1)))) rfl k
          have k := nt_rn_w (a := [(5, .int ((x193 p v1 v2 v4 v3 J L).1)), (0, .ref (p 0)), (1, .int v1), (2, .int v2), (3, .int v3), (4, .int v4)]) (b := [(0, .ref (p 0)), (1, .int v1), (2, .int v2), (3, .int v3), (4, .int v4), (5, .int ((x193 p v1 v2 v4 v3 J L).1))]) ⟨rfl, rfl, rfl, rfl, rfl, rfl, trivial⟩ rfl k
          exact (xh_on h32 (lx_end hc.2)).elim
        · rw [if_neg h48] at k
          have k := ly_revb 1 (c' := (64, [(5, .int ((x193 p v1 v2 v4 v3 J L).1)), (0, .ref (p 0)), (1, .int v1), (2, .int v2), (3, .int v3), (4, .int v4)], [], me_w (lw M ((x193 p v1 v2 v4 v3 J L).2.2)) ((x193 p v1 v2 v4 v3 J L).2.1))) rfl k
          have k := nt_rn_w (a := [(5, .int ((x193 p v1 v2 v4 v3 J L).1)), (0, .ref (p 0)), (1, .int v1), (2, .int v2), (3, .int v3), (4, .int v4)]) (b := [(0, .ref (p 0)), (1, .int v1), (2, .int v2), (3, .int v3), (4, .int v4), (5, .int ((x193 p v1 v2 v4 v3 J L).1))]) ⟨rfl, rfl, rfl, rfl, rfl, rfl, trivial⟩ rfl k
          rw [x192_18, if_neg h25, if_neg h32, if_neg h48]
          exact ⟨_, k⟩
  | succ c ih =>
    intro v5 J L hc k
    have k := ly_revb 3 (c' := (22, [(0, .ref (p 0)), (1, .int v1), (2, .int v2), (3, .int v3), (4, .int v4), (5, .int v5)], [.int v4, .int v2, .ref (p 0)], me_w (lw M L) J)) rfl k
    obtain ⟨d1, o1, ed, kc, k⟩ := lz_c (g := 175) (q := 1) (vs := [.ref (p 0), .int v2, .int v4]) (rest := []) rfl rfl (by decide) (Or.inr (Or.inl ⟨_, rfl, rfl⟩)) rfl k
    have e1 := xt175 (xs_lp hp) kc
    subst e1
    have k : nt_rn X _ 192 (25, [(0, .ref (p 0)), (1, .int v1), (2, .int v2), (3, .int v3), (4, .int v4), (5, .int v5)], [.int (x175 p v2 v4 J)], me_w (lw M L) J) _ := k
    have k := ly_revb 1 (c' := (if (x175 p v2 v4 J) ≤ 0 then 64 else 28, [(0, .ref (p 0)), (1, .int v1), (2, .int v2), (3, .int v3), (4, .int v4), (5, .int v5)], [], me_w (lw M L) J)) rfl k
    by_cases h25 : (x175 p v2 v4 J) ≤ 0
    · rw [if_pos h25] at k
      have k := nt_rn_w (a := [(0, .ref (p 0)), (1, .int v1), (2, .int v2), (3, .int v3), (4, .int v4), (5, .int v5)]) (b := [(0, .ref (p 0)), (1, .int v1), (2, .int v2), (3, .int v3), (4, .int v4), (5, .int v5)]) ⟨rfl, rfl, rfl, rfl, rfl, rfl, trivial⟩ rfl k
      rw [x192_18, if_pos h25]
      exact ⟨_, k⟩
    · rw [if_neg h25] at k
      have k := ly_revb 1 (c' := (29, [(0, .ref (p 0)), (1, .int v1), (2, .int v2), (3, .int v3), (4, .int v4), (5, .int v5)], [.ref (p 0)], me_w (lw M L) J)) rfl k
      obtain ⟨d1, o1, ed, kc, k⟩ := lz_c (g := 184) (q := 1) (vs := [.ref (p 0)]) (rest := []) rfl rfl (by decide) (Or.inr (Or.inl ⟨_, rfl, rfl⟩)) rfl k
      have e1 := xt184 (xs_lp hp) kc
      subst e1
      have k : nt_rn X _ 192 (32, [(0, .ref (p 0)), (1, .int v1), (2, .int v2), (3, .int v3), (4, .int v4), (5, .int v5)], [.int (x184 p J)], me_w (lw M L) J) _ := k
      have k := ly_revb 1 (c' := (if (x184 p J) = 0 then 64 else 35, [(0, .ref (p 0)), (1, .int v1), (2, .int v2), (3, .int v3), (4, .int v4), (5, .int v5)], [], me_w (lw M L) J)) rfl k
      by_cases h32 : (x184 p J) = 0
      · rw [if_pos h32] at k
        have k := nt_rn_w (a := [(0, .ref (p 0)), (1, .int v1), (2, .int v2), (3, .int v3), (4, .int v4), (5, .int v5)]) (b := [(0, .ref (p 0)), (1, .int v1), (2, .int v2), (3, .int v3), (4, .int v4), (5, .int v5)]) ⟨rfl, rfl, rfl, rfl, rfl, rfl, trivial⟩ rfl k
        rw [x192_18, if_neg h25, if_pos h32]
        exact ⟨_, k⟩
      · rw [if_neg h32] at k
        have k := ly_revb 5 (c' := (41, [(0, .ref (p 0)), (1, .int v1), (2, .int v2), (3, .int v3), (4, .int v4), (5, .int v5)], [.int v3, .int v4, .int v2, .int v1, .ref (p 0)], me_w (lw M L) J)) rfl k
        obtain ⟨d1, o1, ed, kc, k⟩ := lz_c (g := 193) (q := 1) (vs := [.ref (p 0), .int v1, .int v2, .int v4, .int v3]) (rest := []) rfl rfl (by decide) (Or.inr (Or.inl ⟨_, rfl, rfl⟩)) rfl k
        have e1 := xt193 hp kc
        subst e1
        have k : nt_rn X _ 192 (44, [(0, .ref (p 0)), (1, .int v1), (2, .int v2), (3, .int v3), (4, .int v4), (5, .int v5)], [.int ((x193 p v1 v2 v4 v3 J L).1)], me_w (lw M ((x193 p v1 v2 v4 v3 J L).2.2)) ((x193 p v1 v2 v4 v3 J L).2.1)) _ := k
        have k := ly_revb 3 (c' := (if 0 ≤ ((x193 p v1 v2 v4 v3 J L).1) then 54 else 51, [(5, .int ((x193 p v1 v2 v4 v3 J L).1)), (0, .ref (p 0)), (1, .int v1), (2, .int v2), (3, .int v3), (4, .int v4)], [], me_w (lw M ((x193 p v1 v2 v4 v3 J L).2.2)) ((x193 p v1 v2 v4 v3 J L).2.1))) rfl k
        by_cases h48 : 0 ≤ ((x193 p v1 v2 v4 v3 J L).1)
        · rw [if_pos h48] at k
          have k := ly_revb 3 (c' := (58, [(5, .int ((x193 p v1 v2 v4 v3 J L).1)), (0, .ref (p 0)), (1, .int v1), (2, .int v2), (3, .int v3), (4, .int v4)], [.int v2, .int ((x193 p v1 v2 v4 v3 J L).1), .ref (p 0)], me_w (lw M ((x193 p v1 v2 v4 v3 J L).2.2)) ((x193 p v1 v2 v4 v3 J L).2.1))) rfl k
          obtain ⟨d1, o1, ed, kc, k⟩ := lz_c (g := 185) (q := 1) (vs := [.ref (p 0), .int ((x193 p v1 v2 v4 v3 J L).1), .int v2]) (rest := []) rfl rfl (by decide) (Or.inr (Or.inl ⟨_, rfl, rfl⟩)) rfl k
          have e1 := xt185 (xs_lp hp) kc
          subst e1
          have k : nt_rn X _ 192 (61, [(5, .int ((x193 p v1 v2 v4 v3 J L).1)), (0, .ref (p 0)), (1, .int v1), (2, .int v2), (3, .int v3), (4, .int v4)], [], me_w (lw M ((x193 p v1 v2 v4 v3 J L).2.2)) (x185 p ((x193 p v1 v2 v4 v3 J L).1) v2 ((x193 p v1 v2 v4 v3 J L).2.1))) _ := k
          have k := ly_revb 1 (c' := (18, [(5, .int ((x193 p v1 v2 v4 v3 J L).1)), (0, .ref (p 0)), (1, .int v1), (2, .int v2), (3, .int v3), (4, .int v4)], [], me_w (lw M ((x193 p v1 v2 v4 v3 J L).2.2)) (x185 p ((x193 p v1 v2 v4 v3 J L).1) v2 ((x193 p v1 v2 v4 v3 J L).2.1)))) rfl k
          have k := nt_rn_w (a := [(5, .int ((x193 p v1 v2 v4 v3 J L).1)), (0, .ref (p 0)), (1, .int v1), (2, .int v2), (3, .int v3), (4, .int v4)]) (b := [(0, .ref (p 0)), (1, .int v1), (2, .int v2), (3, .int v3), (4, .int v4), (5, .int ((x193 p v1 v2 v4 v3 J L).1))]) ⟨rfl, rfl, rfl, rfl, rfl, rfl, trivial⟩ rfl k
          have k := ih ((x193 p v1 v2 v4 v3 J L).1) (x185 p ((x193 p v1 v2 v4 v3 J L).1) v2 ((x193 p v1 v2 v4 v3 J L).2.1)) ((x193 p v1 v2 v4 v3 J L).2.2) (by have b := xw_193 (v1 := v1) (v2 := v2) (v3 := v4) (v4 := v3) (L := L) (hp.2.1 4 0 (by omega) (by omega) (by decide)) hc.1; have z := xw_185 (v1 := (x193 p v1 v2 v4 v3 J L).1) (v2 := v2) (J := (x193 p v1 v2 v4 v3 J L).2.1) (e := J (p 4)) (by rw [x193_frJ (hp.2.1 4 0 (by omega) (by omega) (by decide))]; exact xk_r hc.1) ⟨xh_ge h48, b.2⟩ ⟨by omega, hv.2⟩; exact ⟨z.1.1, by rw [z.1.2 5 (by omega), z.2, x193_frJ (hp.2.1 4 0 (by omega) (by omega) (by decide))]; exact lx_dec (xh_on h32) hc.2⟩) k
          rw [x192_18, if_neg h25, if_neg h32, if_pos h48]
          exact k
        · rw [if_neg h48] at k
          have k := ly_revb 1 (c' := (64, [(5, .int ((x193 p v1 v2 v4 v3 J L).1)), (0, .ref (p 0)), (1, .int v1), (2, .int v2), (3, .int v3), (4, .int v4)], [], me_w (lw M ((x193 p v1 v2 v4 v3 J L).2.2)) ((x193 p v1 v2 v4 v3 J L).2.1))) rfl k
          have k := nt_rn_w (a := [(5, .int ((x193 p v1 v2 v4 v3 J L).1)), (0, .ref (p 0)), (1, .int v1), (2, .int v2), (3, .int v3), (4, .int v4)]) (b := [(0, .ref (p 0)), (1, .int v1), (2, .int v2), (3, .int v3), (4, .int v4), (5, .int ((x193 p v1 v2 v4 v3 J L).1))]) ⟨rfl, rfl, rfl, rfl, rfl, rfl, trivial⟩ rfl k
          rw [x192_18, if_neg h25, if_neg h32, if_neg h48]
          exact ⟨_, k⟩
theorem x192_18_rule {p : Nat → Nat} {v1 : Int32} {v2 : Int32} {v3 : Int32} {v4 : Int32} {I : Nat → (Nat → Nat → Int32) → (Nat → Nat → Int64) → Prop} {Q : (Nat → Nat → Int32) × (Nat → Nat → Int64) → Prop} (h0 : ∀ (J : Nat → Nat → Int32) (L : Nat → Nat → Int64), I 0 J L → Q (if (x175 p v2 v4 J) ≤ 0 then (J, L)
    else if (x184 p J) = 0 then (J, L)
      else if 0 ≤ ((x193 p v1 v2 v4 v3 J L).1) then (x185 p ((x193 p v1 v2 v4 v3 J L).1) v2 ((x193 p v1 v2 v4 v3 J L).2.1), (x193 p v1 v2 v4 v3 J L).2.2)
        else ((x193 p v1 v2 v4 v3 J L).2.1, (x193 p v1 v2 v4 v3 J L).2.2))) (h1 : ∀ (c : Nat) (J : Nat → Nat → Int32) (L : Nat → Nat → Int64), I (c + 1) J L →
    if (x175 p v2 v4 J) ≤ 0 then (Q (J, L))
    else if (x184 p J) = 0 then (Q (J, L))
      else if 0 ≤ ((x193 p v1 v2 v4 v3 J L).1) then (I c  (x185 p ((x193 p v1 v2 v4 v3 J L).1) v2 ((x193 p v1 v2 v4 v3 J L).2.1)) ((x193 p v1 v2 v4 v3 J L).2.2))
        else (Q ((x193 p v1 v2 v4 v3 J L).2.1, (x193 p v1 v2 v4 v3 J L).2.2))) : ∀ (c : Nat) (J : Nat → Nat → Int32) (L : Nat → Nat → Int64), I c J L → Q (x192_18 p v1 v2 v3 v4 c J L) := by
  intro c
  induction c with
  | zero =>
    intro J L hi
    rw [x192_18]
    exact h0 J L hi
  | succ c ih =>
    intro J L hi
    have hi := h1 c J L hi
    rw [x192_18]
    by_cases h : (x175 p v2 v4 J) ≤ 0
    · rw [if_pos h] at hi ⊢
      exact hi
    · rw [if_neg h] at hi ⊢
      by_cases h : (x184 p J) = 0
      · rw [if_pos h] at hi ⊢
        exact hi
      · rw [if_neg h] at hi ⊢
        by_cases h : 0 ≤ ((x193 p v1 v2 v4 v3 J L).1)
        · rw [if_pos h] at hi ⊢
          exact ih _ _ hi
        · rw [if_neg h] at hi ⊢
          exact hi
theorem xw_192i {p : Nat → Nat} {e : Nat → Int32} {v1 v2 v3 v4 : Int32} (hd : p 4 ≠ p 0) (h2 : 0 ≤ v2.toInt ∧ v2.toInt ≤ 5) {c : Nat} {J : Nat → Nat → Int32} {L : Nat → Nat → Int64} (h : xk_K e (J (p 4))) : xk_K e ((x192_18 p v1 v2 v3 v4 c J L).1 (p 4)) := by
  refine x192_18_rule (I := fun _ J1 _ => xk_K e (J1 (p 4))) (Q := fun r => xk_K e (r.1 (p 4))) ?_ ?_ _ _ _ h
  · intro J1 L1 h
    have t : xk_K e ((x193 p v1 v2 v4 v3 J1 L1).2.1 (p 4)) := by rw [x193_frJ hd]; exact h
    have b := xw_193 (v1 := v1) (v2 := v2) (v3 := v4) (v4 := v3) (L := L1) hd h.1
    split
    · exact h
    · split
      · exact h
      · split
        · exact (xw_185 t ⟨xh_ge (by assumption), b.2⟩ ⟨by omega, h2.2⟩).1
        · exact t
  · intro c J1 L1 h
    have t : xk_K e ((x193 p v1 v2 v4 v3 J1 L1).2.1 (p 4)) := by rw [x193_frJ hd]; exact h
    have b := xw_193 (v1 := v1) (v2 := v2) (v3 := v4) (v4 := v3) (L := L1) hd h.1
    split
    · exact h
    · split
      · exact h
      · split
        · exact (xw_185 t ⟨xh_ge (by assumption), b.2⟩ ⟨by omega, h2.2⟩).1
        · exact t
theorem x192_18_frJ {p : Nat → Nat} {v1 : Int32} {v2 : Int32} {v3 : Int32} {v4 : Int32} {b : Nat} : ∀ (c : Nat) (J : Nat → Nat → Int32) (L : Nat → Nat → Int64), b ≠ p 0 → b ≠ p 4 → (x192_18 p v1 v2 v3 v4 c J L).1 b = J b := by
  intro c
  induction c with
  | zero =>
    intro  J L n0 n1
    rw [x192_18]
    by_cases h : (x175 p v2 v4 J) ≤ 0
    · rw [if_pos h]
      all_goals first | (dsimp only; exact (show J b = J b from rfl)) | exact (show J b = J b from rfl)
    · rw [if_neg h]
      by_cases h : (x184 p J) = 0
      · rw [if_pos h]
        all_goals first | (dsimp only; exact (show J b = J b from rfl)) | exact (show J b = J b from rfl)
      · rw [if_neg h]
        by_cases h : 0 ≤ ((x193 p v1 v2 v4 v3 J L).1)
        · rw [if_pos h]
          all_goals first | (dsimp only; exact (show (x185 p ((x193 p v1 v2 v4 v3 J L).1) v2 ((x193 p v1 v2 v4 v3 J L).2.1)) b = J b from (x185_frJ  n1).trans (x193_frJ  n0))) | exact (show (x185 p ((x193 p v1 v2 v4 v3 J L).1) v2 ((x193 p v1 v2 v4 v3 J L).2.1)) b = J b from (x185_frJ  n1).trans (x193_frJ  n0))
        · rw [if_neg h]
          all_goals first | (dsimp only; exact (show ((x193 p v1 v2 v4 v3 J L).2.1) b = J b from x193_frJ  n0)) | exact (show ((x193 p v1 v2 v4 v3 J L).2.1) b = J b from x193_frJ  n0)
  | succ c ih =>
    intro  J L n0 n1
    rw [x192_18]
    by_cases h : (x175 p v2 v4 J) ≤ 0
    · rw [if_pos h]
      all_goals first | (dsimp only; exact (show J b = J b from rfl)) | exact (show J b = J b from rfl)
    · rw [if_neg h]
      by_cases h : (x184 p J) = 0
      · rw [if_pos h]
        all_goals first | (dsimp only; exact (show J b = J b from rfl)) | exact (show J b = J b from rfl)
      · rw [if_neg h]
        by_cases h : 0 ≤ ((x193 p v1 v2 v4 v3 J L).1)
        · rw [if_pos h]
          exact (ih _ _ n0 n1).trans ((x185_frJ  n1).trans (x193_frJ  n0))
        · rw [if_neg h]
          all_goals first | (dsimp only; exact (show ((x193 p v1 v2 v4 v3 J L).2.1) b = J b from x193_frJ  n0)) | exact (show ((x193 p v1 v2 v4 v3 J L).2.1) b = J b from x193_frJ  n0)
def x192_3 (p : Nat → Nat) (v1 : Int32) (v2 : Int32) (v3 : Int32) : Nat → Int32 → (Nat → Nat → Int32) → (Nat → Nat → Int64) → (Nat → Nat → Int32) × (Nat → Nat → Int64)
  | 0, v4, J, L => if (x174 p v2 J) = 0 then (J, L)
    else (nt_u (nt_u (nt_u J (p 4) ((((Int32.ofInt 10) + ((Int32.ofInt 7) * v2)) + (Int32.ofInt 4)).toNatClampNeg) (Int32.ofInt 1)) (p 4) ((((Int32.ofInt 10) + ((Int32.ofInt 7) * v2)) + (Int32.ofInt 5)).toNatClampNeg) v3) (p 4) ((((Int32.ofInt 172) + ((Int32.ofInt 5) * v3)) + (Int32.ofInt 4)).toNatClampNeg) (Int32.ofInt 1), L)
  | c + 1, v4, J, L => if (J (p 4) 0) ≤ v4 then if (x174 p v2 J) = 0 then (J, L)
      else (nt_u (nt_u (nt_u J (p 4) ((((Int32.ofInt 10) + ((Int32.ofInt 7) * v2)) + (Int32.ofInt 4)).toNatClampNeg) (Int32.ofInt 1)) (p 4) ((((Int32.ofInt 10) + ((Int32.ofInt 7) * v2)) + (Int32.ofInt 5)).toNatClampNeg) v3) (p 4) ((((Int32.ofInt 172) + ((Int32.ofInt 5) * v3)) + (Int32.ofInt 4)).toNatClampNeg) (Int32.ofInt 1), L)
    else if v1 < 0 then if (x174 p v2 J) = 0 then (J, L)
        else (nt_u (nt_u (nt_u J (p 4) ((((Int32.ofInt 10) + ((Int32.ofInt 7) * v2)) + (Int32.ofInt 4)).toNatClampNeg) (Int32.ofInt 1)) (p 4) ((((Int32.ofInt 10) + ((Int32.ofInt 7) * v2)) + (Int32.ofInt 5)).toNatClampNeg) v3) (p 4) ((((Int32.ofInt 172) + ((Int32.ofInt 5) * v3)) + (Int32.ofInt 4)).toNatClampNeg) (Int32.ofInt 1), L)
      else (x192_3 p v1 v2 v3 c (v4 + (Int32.ofInt 1)) ((x192_18 p v1 v2 v3 v4 (((J (p 4) 5).toInt - (J (p 4) 6).toInt).toNat) J L).1) ((x192_18 p v1 v2 v3 v4 (((J (p 4) 5).toInt - (J (p 4) 6).toInt).toNat) J L).2))
theorem xt192_3 {X : nt_X} {d : Nat} {M : nt_M} {o : Option Value × nt_M} {p : Nat → Nat} {v1 : Int32} {v2 : Int32} {v3 : Int32} (hp : xs_P M p) (hv : 0 ≤ v2.toInt ∧ v2.toInt ≤ 5) : ∀ (c : Nat) (v4 : Int32) (v5 : Int32) (J : Nat → Nat → Int32) (L : Nat → Nat → Int64), (xr_W (J (p 4)) ∧ 0 ≤ v4.toInt ∧ (J (p 4) 0).toInt - v4.toInt ≤ c) → nt_rn X d 192 (3, [(0, .ref (p 0)), (1, .int v1), (2, .int v2), (3, .int v3), (4, .int v4), (5, .int v5)], [], me_w (lw M L) J) o → o = (none, me_w (lw M ((x192_3 p v1 v2 v3 c v4 J L).2)) ((x192_3 p v1 v2 v3 c v4 J L).1)) := by
  intro c
  induction c with
  | zero =>
    intro v4 v5 J L hc k
    have k := ly_revb 2 (c' := (6, [(0, .ref (p 0)), (1, .int v1), (2, .int v2), (3, .int v3), (4, .int v4), (5, .int v5)], [.ref (p 0), .int v4], me_w (lw M L) J)) rfl k
    have k := lz_get (a := (p 0)) (g := 1127) (M := me_w (lw M L) J) (v := .ref (p 4)) rfl (nt_gfR rfl (hp.1 (0, 27, 4) (by decide))) k
    have k := ly_revb 1 (c' := (10, [(0, .ref (p 0)), (1, .int v1), (2, .int v2), (3, .int v3), (4, .int v4), (5, .int v5)], [.int (Int32.ofInt 0), .ref (p 4), .int v4], me_w (lw M L) J)) rfl k
    have k := mx_iald (v := J (p 4) 0) rfl (hp.2.2.1 4 (by omega)) ((congrArg (J (p 4)) (show (Int32.ofInt 0).toNatClampNeg = 0 from rfl)).trans (rfl)) k
    have k := ly_revb 1 (c' := (if (J (p 4) 0) ≤ v4 then 70 else 14, [(0, .ref (p 0)), (1, .int v1), (2, .int v2), (3, .int v3), (4, .int v4), (5, .int v5)], [], me_w (lw M L) J)) rfl k
    have h11 : (J (p 4) 0) ≤ v4 := lx_end hc.2.2
    rw [if_pos h11] at k
    have k := ly_revb 2 (c' := (72, [(0, .ref (p 0)), (1, .int v1), (2, .int v2), (3, .int v3), (4, .int v4), (5, .int v5)], [.int v2, .ref (p 0)], me_w (lw M L) J)) rfl k
    obtain ⟨d1, o1, ed, kc, k⟩ := lz_c (g := 174) (q := 1) (vs := [.ref (p 0), .int v2]) (rest := []) rfl rfl (by decide) (Or.inr (Or.inl ⟨_, rfl, rfl⟩)) rfl k
    have e1 := xt174 (xs_lp hp) kc
    subst e1
    have k : nt_rn X _ 192 (75, [(0, .ref (p 0)), (1, .int v1), (2, .int v2), (3, .int v3), (4, .int v4), (5, .int v5)], [.int (x174 p v2 J)], me_w (lw M L) J) _ := k
    have k := ly_revb 1 (c' := (if (x174 p v2 J) = 0 then 78 else 79, [(0, .ref (p 0)), (1, .int v1), (2, .int v2), (3, .int v3), (4, .int v4), (5, .int v5)], [], me_w (lw M L) J)) rfl k
    by_cases h75 : (x174 p v2 J) = 0
    · rw [if_pos h75] at k
      have k := lz_rv rfl rfl k
      rw [k, x192_3, if_pos h75]
    · rw [if_neg h75] at k
      have k := ly_revb 1 (c' := (80, [(0, .ref (p 0)), (1, .int v1), (2, .int v2), (3, .int v3), (4, .int v4), (5, .int v5)], [.ref (p 0)], me_w (lw M L) J)) rfl k
      have k := lz_get (a := (p 0)) (g := 1127) (M := me_w (lw M L) J) (v := .ref (p 4)) rfl (nt_gfR rfl (hp.1 (0, 27, 4) (by decide))) k
      have k := ly_revb 8 (c' := (93, [(0, .ref (p 0)), (1, .int v1), (2, .int v2), (3, .int v3), (4, .int v4), (5, .int v5)], [.int (Int32.ofInt 1), .int (((Int32.ofInt 10) + ((Int32.ofInt 7) * v2)) + (Int32.ofInt 4)), .ref (p 4)], me_w (lw M L) J)) rfl k
      have k := mx_iast (q := (((Int32.ofInt 10) + ((Int32.ofInt 7) * v2)) + (Int32.ofInt 4)).toNatClampNeg) rfl rfl k
      have k : nt_rn X _ 192 (94, [(0, .ref (p 0)), (1, .int v1), (2, .int v2), (3, .int v3), (4, .int v4), (5, .int v5)], [], me_w (lw M L) (nt_u J (p 4) ((((Int32.ofInt 10) + ((Int32.ofInt 7) * v2)) + (Int32.ofInt 4)).toNatClampNeg) (Int32.ofInt 1))) _ := k
      have k := ly_revb 1 (c' := (95, [(0, .ref (p 0)), (1, .int v1), (2, .int v2), (3, .int v3), (4, .int v4), (5, .int v5)], [.ref (p 0)], me_w (lw M L) (nt_u J (p 4) ((((Int32.ofInt 10) + ((Int32.ofInt 7) * v2)) + (Int32.ofInt 4)).toNatClampNeg) (Int32.ofInt 1)))) rfl k
      have k := lz_get (a := (p 0)) (g := 1127) (M := me_w (lw M L) (nt_u J (p 4) ((((Int32.ofInt 10) + ((Int32.ofInt 7) * v2)) + (Int32.ofInt 4)).toNatClampNeg) (Int32.ofInt 1))) (v := .ref (p 4)) rfl (nt_gfR rfl (hp.1 (0, 27, 4) (by decide))) k
      have k := ly_revb 8 (c' := (108, [(0, .ref (p 0)), (1, .int v1), (2, .int v2), (3, .int v3), (4, .int v4), (5, .int v5)], [.int v3, .int (((Int32.ofInt 10) + ((Int32.ofInt 7) * v2)) + (Int32.ofInt 5)), .ref (p 4)], me_w (lw M L) (nt_u J (p 4) ((((Int32.ofInt 10) + ((Int32.ofInt 7) * v2)) + (Int32.ofInt 4)).toNatClampNeg) (Int32.ofInt 1)))) rfl k
      have k := mx_iast (q := (((Int32.ofInt 10) + ((Int32.ofInt 7) * v2)) + (Int32.ofInt 5)).toNatClampNeg) rfl rfl k
      have k : nt_rn X _ 192 (109, [(0, .ref (p 0)), (1, .int v1), (2, .int v2), (3, .int v3), (4, .int v4), (5, .int v5)], [], me_w (lw M L) (nt_u (nt_u J (p 4) ((((Int32.ofInt 10) + ((Int32.ofInt 7) * v2)) + (Int32.ofInt 4)).toNatClampNeg) (Int32.ofInt 1)) (p 4) ((((Int32.ofInt 10) + ((Int32.ofInt 7) * v2)) + (Int32.ofInt 5)).toNatClampNeg) v3)) _ := k
      have k := ly_revb 1 (c' := (110, [(0, .ref (p 0)), (1, .int v1), (2, .int v2), (3, .int v3), (4, .int v4), (5, .int v5)], [.ref (p 0)], me_w (lw M L) (nt_u (nt_u J (p 4) ((((Int32.ofInt 10) + ((Int32.ofInt 7) * v2)) + (Int32.ofInt 4)).toNatClampNeg) (Int32.ofInt 1)) (p 4) ((((Int32.ofInt 10) + ((Int32.ofInt 7) * v2)) + (Int32.ofInt 5)).toNatClampNeg) v3))) rfl k
      have k := lz_get (a := (p 0)) (g := 1127) (M := me_w (lw M L) (nt_u (nt_u J (p 4) ((((Int32.ofInt 10) + ((Int32.ofInt 7) * v2)) + (Int32.ofInt 4)).toNatClampNeg) (Int32.ofInt 1)) (p 4) ((((Int32.ofInt 10) + ((Int32.ofInt 7) * v2)) + (Int32.ofInt 5)).toNatClampNeg) v3)) (v := .ref (p 4)) rfl (nt_gfR rfl (hp.1 (0, 27, 4) (by decide))) k
      have k := ly_revb 8 (c' := (123, [(0, .ref (p 0)), (1, .int v1), (2, .int v2), (3, .int v3), (4, .int v4), (5, .int v5)], [.int (Int32.ofInt 1), .int (((Int32.ofInt 172) + ((Int32.ofInt 5) * v3)) + (Int32.ofInt 4)), .ref (p 4)], me_w (lw M L) (nt_u (nt_u J (p 4) ((((Int32.ofInt 10) + ((Int32.ofInt 7) * v2)) + (Int32.ofInt 4)).toNatClampNeg) (Int32.ofInt 1)) (p 4) ((((Int32.ofInt 10) + ((Int32.ofInt 7) * v2)) + (Int32.ofInt 5)).toNatClampNeg) v3))) rfl k
      have k := mx_iast (q := (((Int32.ofInt 172) + ((Int32.ofInt 5) * v3)) + (Int32.ofInt 4)).toNatClampNeg) rfl rfl k
      have k : nt_rn X _ 192 (124, [(0, .ref (p 0)), (1, .int v1), (2, .int v2), (3, .int v3), (4, .int v4), (5, .int v5)], [], me_w (lw M L) (nt_u (nt_u (nt_u J (p 4) ((((Int32.ofInt 10) + ((Int32.ofInt 7) * v2)) + (Int32.ofInt 4)).toNatClampNeg) (Int32.ofInt 1)) (p 4) ((((Int32.ofInt 10) + ((Int32.ofInt 7) * v2)) + (Int32.ofInt 5)).toNatClampNeg) v3) (p 4) ((((Int32.ofInt 172) + ((Int32.ofInt 5) * v3)) + (Int32.ofInt 4)).toNatClampNeg) (Int32.ofInt 1))) _ := k
      have k := lz_rv rfl rfl k
      rw [k, x192_3, if_neg h75]
  | succ c ih =>
    intro v4 v5 J L hc k
    have k := ly_revb 2 (c' := (6, [(0, .ref (p 0)), (1, .int v1), (2, .int v2), (3, .int v3), (4, .int v4), (5, .int v5)], [.ref (p 0), .int v4], me_w (lw M L) J)) rfl k
    have k := lz_get (a := (p 0)) (g := 1127) (M := me_w (lw M L) J) (v := .ref (p 4)) rfl (nt_gfR rfl (hp.1 (0, 27, 4) (by decide))) k
    have k := ly_revb 1 (c' := (10, [(0, .ref (p 0)), (1, .int v1), (2, .int v2), (3, .int v3), (4, .int v4), (5, .int v5)], [.int (Int32.ofInt 0), .ref (p 4), .int v4], me_w (lw M L) J)) rfl k
    have k := mx_iald (v := J (p 4) 0) rfl (hp.2.2.1 4 (by omega)) ((congrArg (J (p 4)) (show (Int32.ofInt 0).toNatClampNeg = 0 from rfl)).trans (rfl)) k
    have k := ly_revb 1 (c' := (if (J (p 4) 0) ≤ v4 then 70 else 14, [(0, .ref (p 0)), (1, .int v1), (2, .int v2), (3, .int v3), (4, .int v4), (5, .int v5)], [], me_w (lw M L) J)) rfl k
    by_cases h11 : (J (p 4) 0) ≤ v4
    · rw [if_pos h11] at k
      have k := ly_revb 2 (c' := (72, [(0, .ref (p 0)), (1, .int v1), (2, .int v2), (3, .int v3), (4, .int v4), (5, .int v5)], [.int v2, .ref (p 0)], me_w (lw M L) J)) rfl k
      obtain ⟨d1, o1, ed, kc, k⟩ := lz_c (g := 174) (q := 1) (vs := [.ref (p 0), .int v2]) (rest := []) rfl rfl (by decide) (Or.inr (Or.inl ⟨_, rfl, rfl⟩)) rfl k
      have e1 := xt174 (xs_lp hp) kc
      subst e1
      have k : nt_rn X _ 192 (75, [(0, .ref (p 0)), (1, .int v1), (2, .int v2), (3, .int v3), (4, .int v4), (5, .int v5)], [.int (x174 p v2 J)], me_w (lw M L) J) _ := k
      have k := ly_revb 1 (c' := (if (x174 p v2 J) = 0 then 78 else 79, [(0, .ref (p 0)), (1, .int v1), (2, .int v2), (3, .int v3), (4, .int v4), (5, .int v5)], [], me_w (lw M L) J)) rfl k
      by_cases h75 : (x174 p v2 J) = 0
      · rw [if_pos h75] at k
        have k := lz_rv rfl rfl k
        rw [k, x192_3, if_pos h11, if_pos h75]
      · rw [if_neg h75] at k
        have k := ly_revb 1 (c' := (80, [(0, .ref (p 0)), (1, .int v1), (2, .int v2), (3, .int v3), (4, .int v4), (5, .int v5)], [.ref (p 0)], me_w (lw M L) J)) rfl k
        have k := lz_get (a := (p 0)) (g := 1127) (M := me_w (lw M L) J) (v := .ref (p 4)) rfl (nt_gfR rfl (hp.1 (0, 27, 4) (by decide))) k
        have k := ly_revb 8 (c' := (93, [(0, .ref (p 0)), (1, .int v1), (2, .int v2), (3, .int v3), (4, .int v4), (5, .int v5)], [.int (Int32.ofInt 1), .int (((Int32.ofInt 10) + ((Int32.ofInt 7) * v2)) + (Int32.ofInt 4)), .ref (p 4)], me_w (lw M L) J)) rfl k
        have k := mx_iast (q := (((Int32.ofInt 10) + ((Int32.ofInt 7) * v2)) + (Int32.ofInt 4)).toNatClampNeg) rfl rfl k
        have k : nt_rn X _ 192 (94, [(0, .ref (p 0)), (1, .int v1), (2, .int v2), (3, .int v3), (4, .int v4), (5, .int v5)], [], me_w (lw M L) (nt_u J (p 4) ((((Int32.ofInt 10) + ((Int32.ofInt 7) * v2)) + (Int32.ofInt 4)).toNatClampNeg) (Int32.ofInt 1))) _ := k
        have k := ly_revb 1 (c' := (95, [(0, .ref (p 0)), (1, .int v1), (2, .int v2), (3, .int v3), (4, .int v4), (5, .int v5)], [.ref (p 0)], me_w (lw M L) (nt_u J (p 4) ((((Int32.ofInt 10) + ((Int32.ofInt 7) * v2)) + (Int32.ofInt 4)).toNatClampNeg) (Int32.ofInt 1)))) rfl k
        have k := lz_get (a := (p 0)) (g := 1127) (M := me_w (lw M L) (nt_u J (p 4) ((((Int32.ofInt 10) + ((Int32.ofInt 7) * v2)) + (Int32.ofInt 4)).toNatClampNeg) (Int32.ofInt 1))) (v := .ref (p 4)) rfl (nt_gfR rfl (hp.1 (0, 27, 4) (by decide))) k
        have k := ly_revb 8 (c' := (108, [(0, .ref (p 0)), (1, .int v1), (2, .int v2), (3, .int v3), (4, .int v4), (5, .int v5)], [.int v3, .int (((Int32.ofInt 10) + ((Int32.ofInt 7) * v2)) + (Int32.ofInt 5)), .ref (p 4)], me_w (lw M L) (nt_u J (p 4) ((((Int32.ofInt 10) + ((Int32.ofInt 7) * v2)) + (Int32.ofInt 4)).toNatClampNeg) (Int32.ofInt 1)))) rfl k
        have k := mx_iast (q := (((Int32.ofInt 10) + ((Int32.ofInt 7) * v2)) + (Int32.ofInt 5)).toNatClampNeg) rfl rfl k
        have k : nt_rn X _ 192 (109, [(0, .ref (p 0)), (1, .int v1), (2, .int v2), (3, .int v3), (4, .int v4), (5, .int v5)], [], me_w (lw M L) (nt_u (nt_u J (p 4) ((((Int32.ofInt 10) + ((Int32.ofInt 7) * v2)) + (Int32.ofInt 4)).toNatClampNeg) (Int32.ofInt 1)) (p 4) ((((Int32.ofInt 10) + ((Int32.ofInt 7) * v2)) + (Int32.ofInt 5)).toNatClampNeg) v3)) _ := k
        have k := ly_revb 1 (c' := (110, [(0, .ref (p 0)), (1, .int v1), (2, .int v2), (3, .int v3), (4, .int v4), (5, .int v5)], [.ref (p 0)], me_w (lw M L) (nt_u (nt_u J (p 4) ((((Int32.ofInt 10) + ((Int32.ofInt 7) * v2)) + (Int32.ofInt 4)).toNatClampNeg) (Int32.ofInt 1)) (p 4) ((((Int32.ofInt 10) + ((Int32.ofInt 7) * v2)) + (Int32.ofInt 5)).toNatClampNeg) v3))) rfl k
        have k := lz_get (a := (p 0)) (g := 1127) (M := me_w (lw M L) (nt_u (nt_u J (p 4) ((((Int32.ofInt 10) + ((Int32.ofInt 7) * v2)) + (Int32.ofInt 4)).toNatClampNeg) (Int32.ofInt 1)) (p 4) ((((Int32.ofInt 10) + ((Int32.ofInt 7) * v2)) + (Int32.ofInt 5)).toNatClampNeg) v3)) (v := .ref (p 4)) rfl (nt_gfR rfl (hp.1 (0, 27, 4) (by decide))) k
        have k := ly_revb 8 (c' := (123, [(0, .ref (p 0)), (1, .int v1), (2, .int v2), (3, .int v3), (4, .int v4), (5, .int v5)], [.int (Int32.ofInt 1), .int (((Int32.ofInt 172) + ((Int32.ofInt 5) * v3)) + (Int32.ofInt 4)), .ref (p 4)], me_w (lw M L) (nt_u (nt_u J (p 4) ((((Int32.ofInt 10) + ((Int32.ofInt 7) * v2)) + (Int32.ofInt 4)).toNatClampNeg) (Int32.ofInt 1)) (p 4) ((((Int32.ofInt 10) + ((Int32.ofInt 7) * v2)) + (Int32.ofInt 5)).toNatClampNeg) v3))) rfl k
        have k := mx_iast (q := (((Int32.ofInt 172) + ((Int32.ofInt 5) * v3)) + (Int32.ofInt 4)).toNatClampNeg) rfl rfl k
        have k : nt_rn X _ 192 (124, [(0, .ref (p 0)), (1, .int v1), (2, .int v2), (3, .int v3), (4, .int v4), (5, .int v5)], [], me_w (lw M L) (nt_u (nt_u (nt_u J (p 4) ((((Int32.ofInt 10) + ((Int32.ofInt 7) * v2)) + (Int32.ofInt 4)).toNatClampNeg) (Int32.ofInt 1)) (p 4) ((((Int32.ofInt 10) + ((Int32.ofInt 7) * v2)) + (Int32.ofInt 5)).toNatClampNeg) v3) (p 4) ((((Int32.ofInt 172) + ((Int32.ofInt 5) * v3)) + (Int32.ofInt 4)).toNatClampNeg) (Int32.ofInt 1))) _ := k
        have k := lz_rv rfl rfl k
        rw [k, x192_3, if_pos h11, if_neg h75]
    · rw [if_neg h11] at k
      have k := ly_revb 2 (c' := (if v1 < 0 then 70 else 18, [(0, .ref (p 0)), (1, .int v1), (2, .int v2), (3, .int v3), (4, .int v4), (5, .int v5)], [], me_w (lw M L) J)) rfl k
      by_cases h15 : v1 < 0
      · rw [if_pos h15] at k
        have k := ly_revb 2 (c' := (72, [(0, .ref (p 0)), (1, .int v1), (2, .int v2), (3, .int v3), (4, .int v4), (5, .int v5)], [.int v2, .ref (p 0)], me_w (lw M L) J)) rfl k
        obtain ⟨d1, o1, ed, kc, k⟩ := lz_c (g := 174) (q := 1) (vs := [.ref (p 0), .int v2]) (rest := []) rfl rfl (by decide) (Or.inr (Or.inl ⟨_, rfl, rfl⟩)) rfl k
        have e1 := xt174 (xs_lp hp) kc
        subst e1
        have k : nt_rn X _ 192 (75, [(0, .ref (p 0)), (1, .int v1), (2, .int v2), (3, .int v3), (4, .int v4), (5, .int v5)], [.int (x174 p v2 J)], me_w (lw M L) J) _ := k
        have k := ly_revb 1 (c' := (if (x174 p v2 J) = 0 then 78 else 79, [(0, .ref (p 0)), (1, .int v1), (2, .int v2), (3, .int v3), (4, .int v4), (5, .int v5)], [], me_w (lw M L) J)) rfl k
        by_cases h75 : (x174 p v2 J) = 0
        · rw [if_pos h75] at k
          have k := lz_rv rfl rfl k
          rw [k, x192_3, if_neg h11, if_pos h15, if_pos h75]
        · rw [if_neg h75] at k
          have k := ly_revb 1 (c' := (80, [(0, .ref (p 0)), (1, .int v1), (2, .int v2), (3, .int v3), (4, .int v4), (5, .int v5)], [.ref (p 0)], me_w (lw M L) J)) rfl k
          have k := lz_get (a := (p 0)) (g := 1127) (M := me_w (lw M L) J) (v := .ref (p 4)) rfl (nt_gfR rfl (hp.1 (0, 27, 4) (by decide))) k
          have k := ly_revb 8 (c' := (93, [(0, .ref (p 0)), (1, .int v1), (2, .int v2), (3, .int v3), (4, .int v4), (5, .int v5)], [.int (Int32.ofInt 1), .int (((Int32.ofInt 10) + ((Int32.ofInt 7) * v2)) + (Int32.ofInt 4)), .ref (p 4)], me_w (lw M L) J)) rfl k
          have k := mx_iast (q := (((Int32.ofInt 10) + ((Int32.ofInt 7) * v2)) + (Int32.ofInt 4)).toNatClampNeg) rfl rfl k
          have k : nt_rn X _ 192 (94, [(0, .ref (p 0)), (1, .int v1), (2, .int v2), (3, .int v3), (4, .int v4), (5, .int v5)], [], me_w (lw M L) (nt_u J (p 4) ((((Int32.ofInt 10) + ((Int32.ofInt 7) * v2)) + (Int32.ofInt 4)).toNatClampNeg) (Int32.ofInt 1))) _ := k
          have k := ly_revb 1 (c' := (95, [(0, .ref (p 0)), (1, .int v1), (2, .int v2), (3, .int v3), (4, .int v4), (5, .int v5)], [.ref (p 0)], me_w (lw M L) (nt_u J (p 4) ((((Int32.ofInt 10) + ((Int32.ofInt 7) * v2)) + (Int32.ofInt 4)).toNatClampNeg) (Int32.ofInt 1)))) rfl k
          have k := lz_get (a := (p 0)) (g := 1127) (M := me_w (lw M L) (nt_u J (p 4) ((((Int32.ofInt 10) + ((Int32.ofInt 7) * v2)) + (Int32.ofInt 4)).toNatClampNeg) (Int32.ofInt 1))) (v := .ref (p 4)) rfl (nt_gfR rfl (hp.1 (0, 27, 4) (by decide))) k
          have k := ly_revb 8 (c' := (108, [(0, .ref (p 0)), (1, .int v1), (2, .int v2), (3, .int v3), (4, .int v4), (5, .int v5)], [.int v3, .int (((Int32.ofInt 10) + ((Int32.ofInt 7) * v2)) + (Int32.ofInt 5)), .ref (p 4)], me_w (lw M L) (nt_u J (p 4) ((((Int32.ofInt 10) + ((Int32.ofInt 7) * v2)) + (Int32.ofInt 4)).toNatClampNeg) (Int32.ofInt 1)))) rfl k
          have k := mx_iast (q := (((Int32.ofInt 10) + ((Int32.ofInt 7) * v2)) + (Int32.ofInt 5)).toNatClampNeg) rfl rfl k
          have k : nt_rn X _ 192 (109, [(0, .ref (p 0)), (1, .int v1), (2, .int v2), (3, .int v3), (4, .int v4), (5, .int v5)], [], me_w (lw M L) (nt_u (nt_u J (p 4) ((((Int32.ofInt 10) + ((Int32.ofInt 7) * v2)) + (Int32.ofInt 4)).toNatClampNeg) (Int32.ofInt 1)) (p 4) ((((Int32.ofInt 10) + ((Int32.ofInt 7) * v2)) + (Int32.ofInt 5)).toNatClampNeg) v3)) _ := k
          have k := ly_revb 1 (c' := (110, [(0, .ref (p 0)), (1, .int v1), (2, .int v2), (3, .int v3), (4, .int v4), (5, .int v5)], [.ref (p 0)], me_w (lw M L) (nt_u (nt_u J (p 4) ((((Int32.ofInt 10) + ((Int32.ofInt 7) * v2)) + (Int32.ofInt 4)).toNatClampNeg) (Int32.ofInt 1)) (p 4) ((((Int32.ofInt 10) + ((Int32.ofInt 7) * v2)) + (Int32.ofInt 5)).toNatClampNeg) v3))) rfl k
          have k := lz_get (a := (p 0)) (g := 1127) (M := me_w (lw M L) (nt_u (nt_u J (p 4) ((((Int32.ofInt 10) + ((Int32.ofInt 7) * v2)) + (Int32.ofInt 4)).toNatClampNeg) (Int32.ofInt 1)) (p 4) ((((Int32.ofInt 10) + ((Int32.ofInt 7) * v2)) + (Int32.ofInt 5)).toNatClampNeg) v3)) (v := .ref (p 4)) rfl (nt_gfR rfl (hp.1 (0, 27, 4) (by decide))) k
          have k := ly_revb 8 (c' := (123, [(0, .ref (p 0)), (1, .int v1), (2, .int v2), (3, .int v3), (4, .int v4), (5, .int v5)], [.int (Int32.ofInt 1), .int (((Int32.ofInt 172) + ((Int32.ofInt 5) * v3)) + (Int32.ofInt 4)), .ref (p 4)], me_w (lw M L) (nt_u (nt_u J (p 4) ((((Int32.ofInt 10) + ((Int32.ofInt 7) * v2)) + (Int32.ofInt 4)).toNatClampNeg) (Int32.ofInt 1)) (p 4) ((((Int32.ofInt 10) + ((Int32.ofInt 7) * v2)) + (Int32.ofInt 5)).toNatClampNeg) v3))) rfl k
          have k := mx_iast (q := (((Int32.ofInt 172) + ((Int32.ofInt 5) * v3)) + (Int32.ofInt 4)).toNatClampNeg) rfl rfl k
          have k : nt_rn X _ 192 (124, [(0, .ref (p 0)), (1, .int v1), (2, .int v2), (3, .int v3), (4, .int v4), (5, .int v5)], [], me_w (lw M L) (nt_u (nt_u (nt_u J (p 4) ((((Int32.ofInt 10) + ((Int32.ofInt 7) * v2)) + (Int32.ofInt 4)).toNatClampNeg) (Int32.ofInt 1)) (p 4) ((((Int32.ofInt 10) + ((Int32.ofInt 7) * v2)) + (Int32.ofInt 5)).toNatClampNeg) v3) (p 4) ((((Int32.ofInt 172) + ((Int32.ofInt 5) * v3)) + (Int32.ofInt 4)).toNatClampNeg) (Int32.ofInt 1))) _ := k
          have k := lz_rv rfl rfl k
          rw [k, x192_3, if_neg h11, if_pos h15, if_neg h75]
      · rw [if_neg h15] at k
        have k := nt_rn_w (a := [(0, .ref (p 0)), (1, .int v1), (2, .int v2), (3, .int v3), (4, .int v4), (5, .int v5)]) (b := [(0, .ref (p 0)), (1, .int v1), (2, .int v2), (3, .int v3), (4, .int v4), (5, .int v5)]) ⟨rfl, rfl, rfl, rfl, rfl, rfl, trivial⟩ rfl k
        have k := xt192_18 hp hv  (((J (p 4) 5).toInt - (J (p 4) 6).toInt).toNat) v5 J L (⟨hc.1, lx_bg2⟩) k
        obtain ⟨w5, k⟩ := k
        have k : nt_rn X _ 192 (64, [(0, .ref (p 0)), (1, .int v1), (2, .int v2), (3, .int v3), (4, .int v4), (5, .int w5)], [], me_w (lw M ((x192_18 p v1 v2 v3 v4 (((J (p 4) 5).toInt - (J (p 4) 6).toInt).toNat) J L).2)) ((x192_18 p v1 v2 v3 v4 (((J (p 4) 5).toInt - (J (p 4) 6).toInt).toNat) J L).1)) _ := k
        have k := ly_revb 2 (c' := (3, [(4, .int (v4 + (Int32.ofInt 1))), (0, .ref (p 0)), (1, .int v1), (2, .int v2), (3, .int v3), (5, .int w5)], [], me_w (lw M ((x192_18 p v1 v2 v3 v4 (((J (p 4) 5).toInt - (J (p 4) 6).toInt).toNat) J L).2)) ((x192_18 p v1 v2 v3 v4 (((J (p 4) 5).toInt - (J (p 4) 6).toInt).toNat) J L).1))) rfl k
        have k := nt_rn_w (a := [(4, .int (v4 + (Int32.ofInt 1))), (0, .ref (p 0)), (1, .int v1), (2, .int v2), (3, .int v3), (5, .int w5)]) (b := [(0, .ref (p 0)), (1, .int v1), (2, .int v2), (3, .int v3), (4, .int (v4 + (Int32.ofInt 1))), (5, .int w5)]) ⟨rfl, rfl, rfl, rfl, rfl, rfl, trivial⟩ rfl k
        have k := ih (v4 + (Int32.ofInt 1)) w5 ((x192_18 p v1 v2 v3 v4 (((J (p 4) 5).toInt - (J (p 4) 6).toInt).toNat) J L).1) ((x192_18 p v1 v2 v3 v4 (((J (p 4) 5).toInt - (J (p 4) 6).toInt).toNat) J L).2) (by have z := xw_192i (v1 := v1) (v3 := v3) (v4 := v4) (c := ((J (p 4) 5).toInt - (J (p 4) 6).toInt).toNat) (L := L) (hp.2.1 4 0 (by omega) (by omega) (by decide)) hv (xk_r hc.1); exact ⟨z.1, xi_nn h11 hc.2.1, by rw [z.2 0 (by omega)]; exact lx_dec h11 hc.2.2⟩) k
        rw [k, x192_3, if_neg h11, if_neg h15]
theorem x192_3_rule {p : Nat → Nat} {v1 : Int32} {v2 : Int32} {v3 : Int32} {I : Nat → Int32 → (Nat → Nat → Int32) → (Nat → Nat → Int64) → Prop} {Q : (Nat → Nat → Int32) × (Nat → Nat → Int64) → Prop} (h0 : ∀ (v4 : Int32) (J : Nat → Nat → Int32) (L : Nat → Nat → Int64), I 0 v4 J L → Q (if (x174 p v2 J) = 0 then (J, L)
    else (nt_u (nt_u (nt_u J (p 4) ((((Int32.ofInt 10) + ((Int32.ofInt 7) * v2)) + (Int32.ofInt 4)).toNatClampNeg) (Int32.ofInt 1)) (p 4) ((((Int32.ofInt 10) + ((Int32.ofInt 7) * v2)) + (Int32.ofInt 5)).toNatClampNeg) v3) (p 4) ((((Int32.ofInt 172) + ((Int32.ofInt 5) * v3)) + (Int32.ofInt 4)).toNatClampNeg) (Int32.ofInt 1), L))) (h1 : ∀ (c : Nat) (v4 : Int32) (J : Nat → Nat → Int32) (L : Nat → Nat → Int64), I (c + 1) v4 J L →
    if (J (p 4) 0) ≤ v4 then if (x174 p v2 J) = 0 then (Q (J, L))
      else (Q (nt_u (nt_u (nt_u J (p 4) ((((Int32.ofInt 10) + ((Int32.ofInt 7) * v2)) + (Int32.ofInt 4)).toNatClampNeg) (Int32.ofInt 1)) (p 4) ((((Int32.ofInt 10) + ((Int32.ofInt 7) * v2)) + (Int32.ofInt 5)).toNatClampNeg) v3) (p 4) ((((Int32.ofInt 172) + ((Int32.ofInt 5) * v3)) + (Int32.ofInt 4)).toNatClampNeg) (Int32.ofInt 1), L))
    else if v1 < 0 then if (x174 p v2 J) = 0 then (Q (J, L))
        else (Q (nt_u (nt_u (nt_u J (p 4) ((((Int32.ofInt 10) + ((Int32.ofInt 7) * v2)) + (Int32.ofInt 4)).toNatClampNeg) (Int32.ofInt 1)) (p 4) ((((Int32.ofInt 10) + ((Int32.ofInt 7) * v2)) + (Int32.ofInt 5)).toNatClampNeg) v3) (p 4) ((((Int32.ofInt 172) + ((Int32.ofInt 5) * v3)) + (Int32.ofInt 4)).toNatClampNeg) (Int32.ofInt 1), L))
      else (I c (v4 + (Int32.ofInt 1)) ((x192_18 p v1 v2 v3 v4 (((J (p 4) 5).toInt - (J (p 4) 6).toInt).toNat) J L).1) ((x192_18 p v1 v2 v3 v4 (((J (p 4) 5).toInt - (J (p 4) 6).toInt).toNat) J L).2))) : ∀ (c : Nat) (v4 : Int32) (J : Nat → Nat → Int32) (L : Nat → Nat → Int64), I c v4 J L → Q (x192_3 p v1 v2 v3 c v4 J L) := by
  intro c
  induction c with
  | zero =>
    intro v4 J L hi
    rw [x192_3]
    exact h0 v4 J L hi
  | succ c ih =>
    intro v4 J L hi
    have hi := h1 c v4 J L hi
    rw [x192_3]
    by_cases h : (J (p 4) 0) ≤ v4
    · rw [if_pos h] at hi ⊢
      by_cases h : (x174 p v2 J) = 0
      · rw [if_pos h] at hi ⊢
        exact hi
      · rw [if_neg h] at hi ⊢
        exact hi
    · rw [if_neg h] at hi ⊢
      by_cases h : v1 < 0
      · rw [if_pos h] at hi ⊢
        by_cases h : (x174 p v2 J) = 0
        · rw [if_pos h] at hi ⊢
          exact hi
        · rw [if_neg h] at hi ⊢
          exact hi
      · rw [if_neg h] at hi ⊢
        exact ih _ _ _ hi
def x192 (p : Nat → Nat) (v1 : Int32) (v2 : Int32) (v3 : Int32) (J : Nat → Nat → Int32) (L : Nat → Nat → Int64) : (Nat → Nat → Int32) × (Nat → Nat → Int64) := (x192_3 p v1 v2 v3 ((J (p 4) 0).toNatClampNeg) (Int32.ofInt 0) J L)
theorem xt192 {X : nt_X} {d : Nat} {M : nt_M} {o : Option Value × nt_M} {p : Nat → Nat} {v1 : Int32} {v2 : Int32} {v3 : Int32} {J : Nat → Nat → Int32} {L : Nat → Nat → Int64} (hp : xs_P M p) (hw : xr_W (J (p 4))) (hv : 0 ≤ v2.toInt ∧ v2.toInt ≤ 5) (k : nt_ev X d 192 [.ref (p 0), .int v1, .int v2, .int v3] (me_w (lw M L) J) o) : o = (none, me_w (lw M ((x192 p v1 v2 v3 J L).2)) ((x192 p v1 v2 v3 J L).1)) := by
  have k : nt_rn X d 192 (0, [(0, .ref (p 0)), (1, .int v1), (2, .int v2), (3, .int v3)], [], me_w (lw M L) J) o := k
  have k := ly_revb 2 (c' := (3, [(4, .int (Int32.ofInt 0)), (0, .ref (p 0)), (1, .int v1), (2, .int v2), (3, .int v3)], [], me_w (lw M L) J)) rfl k
  have k := nt_rn_w (a := [(4, .int (Int32.ofInt 0)), (0, .ref (p 0)), (1, .int v1), (2, .int v2), (3, .int v3)]) (b := [(0, .ref (p 0)), (1, .int v1), (2, .int v2), (3, .int v3), (4, .int (Int32.ofInt 0)), (5, .int (Int32.ofInt 0))]) ⟨rfl, rfl, rfl, rfl, rfl, trivial⟩ rfl k
  have k := xt192_3 hp hv  ((J (p 4) 0).toNatClampNeg) (Int32.ofInt 0) (Int32.ofInt 0) J L (⟨hw, by decide, lx_beg (by decide)⟩) k
  rw [k, x192]
theorem x192_3_frJ {p : Nat → Nat} {v1 : Int32} {v2 : Int32} {v3 : Int32} {b : Nat} : ∀ (c : Nat) (v4 : Int32) (J : Nat → Nat → Int32) (L : Nat → Nat → Int64), b ≠ p 0 → b ≠ p 4 → (x192_3 p v1 v2 v3 c v4 J L).1 b = J b := by
  intro c
  induction c with
  | zero =>
    intro v4 J L n0 n1
    rw [x192_3]
    by_cases h : (x174 p v2 J) = 0
    · rw [if_pos h]
      all_goals first | (dsimp only; exact (show J b = J b from rfl)) | exact (show J b = J b from rfl)
    · rw [if_neg h]
      all_goals first | (dsimp only; exact (show (nt_u (nt_u (nt_u J (p 4) ((((Int32.ofInt 10) + ((Int32.ofInt 7) * v2)) + (Int32.ofInt 4)).toNatClampNeg) (Int32.ofInt 1)) (p 4) ((((Int32.ofInt 10) + ((Int32.ofInt 7) * v2)) + (Int32.ofInt 5)).toNatClampNeg) v3) (p 4) ((((Int32.ofInt 172) + ((Int32.ofInt 5) * v3)) + (Int32.ofInt 4)).toNatClampNeg) (Int32.ofInt 1)) b = J b from (mu_o n1).trans ((mu_o n1).trans (mu_o n1)))) | exact (show (nt_u (nt_u (nt_u J (p 4) ((((Int32.ofInt 10) + ((Int32.ofInt 7) * v2)) + (Int32.ofInt 4)).toNatClampNeg) (Int32.ofInt 1)) (p 4) ((((Int32.ofInt 10) + ((Int32.ofInt 7) * v2)) + (Int32.ofInt 5)).toNatClampNeg) v3) (p 4) ((((Int32.ofInt 172) + ((Int32.ofInt 5) * v3)) + (Int32.ofInt 4)).toNatClampNeg) (Int32.ofInt 1)) b = J b from (mu_o n1).trans ((mu_o n1).trans (mu_o n1)))
  | succ c ih =>
    intro v4 J L n0 n1
    rw [x192_3]
    by_cases h : (J (p 4) 0) ≤ v4
    · rw [if_pos h]
      by_cases h : (x174 p v2 J) = 0
      · rw [if_pos h]
        all_goals first | (dsimp only; exact (show J b = J b from rfl)) | exact (show J b = J b from rfl)
      · rw [if_neg h]
        all_goals first | (dsimp only; exact (show (nt_u (nt_u (nt_u J (p 4) ((((Int32.ofInt 10) + ((Int32.ofInt 7) * v2)) + (Int32.ofInt 4)).toNatClampNeg) (Int32.ofInt 1)) (p 4) ((((Int32.ofInt 10) + ((Int32.ofInt 7) * v2)) + (Int32.ofInt 5)).toNatClampNeg) v3) (p 4) ((((Int32.ofInt 172) + ((Int32.ofInt 5) * v3)) + (Int32.ofInt 4)).toNatClampNeg) (Int32.ofInt 1)) b = J b from (mu_o n1).trans ((mu_o n1).trans (mu_o n1)))) | exact (show (nt_u (nt_u (nt_u J (p 4) ((((Int32.ofInt 10) + ((Int32.ofInt 7) * v2)) + (Int32.ofInt 4)).toNatClampNeg) (Int32.ofInt 1)) (p 4) ((((Int32.ofInt 10) + ((Int32.ofInt 7) * v2)) + (Int32.ofInt 5)).toNatClampNeg) v3) (p 4) ((((Int32.ofInt 172) + ((Int32.ofInt 5) * v3)) + (Int32.ofInt 4)).toNatClampNeg) (Int32.ofInt 1)) b = J b from (mu_o n1).trans ((mu_o n1).trans (mu_o n1)))
    · rw [if_neg h]
      by_cases h : v1 < 0
      · rw [if_pos h]
        by_cases h : (x174 p v2 J) = 0
        · rw [if_pos h]
          all_goals first | (dsimp only; exact (show J b = J b from rfl)) | exact (show J b = J b from rfl)
        · rw [if_neg h]
          all_goals first | (dsimp only; exact (show (nt_u (nt_u (nt_u J (p 4) ((((Int32.ofInt 10) + ((Int32.ofInt 7) * v2)) + (Int32.ofInt 4)).toNatClampNeg) (Int32.ofInt 1)) (p 4) ((((Int32.ofInt 10) + ((Int32.ofInt 7) * v2)) + (Int32.ofInt 5)).toNatClampNeg) v3) (p 4) ((((Int32.ofInt 172) + ((Int32.ofInt 5) * v3)) + (Int32.ofInt 4)).toNatClampNeg) (Int32.ofInt 1)) b = J b from (mu_o n1).trans ((mu_o n1).trans (mu_o n1)))) | exact (show (nt_u (nt_u (nt_u J (p 4) ((((Int32.ofInt 10) + ((Int32.ofInt 7) * v2)) + (Int32.ofInt 4)).toNatClampNeg) (Int32.ofInt 1)) (p 4) ((((Int32.ofInt 10) + ((Int32.ofInt 7) * v2)) + (Int32.ofInt 5)).toNatClampNeg) v3) (p 4) ((((Int32.ofInt 172) + ((Int32.ofInt 5) * v3)) + (Int32.ofInt 4)).toNatClampNeg) (Int32.ofInt 1)) b = J b from (mu_o n1).trans ((mu_o n1).trans (mu_o n1)))
      · rw [if_neg h]
        exact (ih _ _ _ n0 n1).trans (x192_18_frJ _ _ _ n0 n1)
theorem x192_frJ {p : Nat → Nat} {v1 : Int32} {v2 : Int32} {v3 : Int32} {J : Nat → Nat → Int32} {L : Nat → Nat → Int64} {b : Nat} (n0 : b ≠ p 0) (n1 : b ≠ p 4) : (x192 p v1 v2 v3 J L).1 b = J b := by
  unfold x192
  exact (x192_3_frJ _ _ _ _ n0 n1).trans (rfl)
theorem xw_192 {p : Nat → Nat} {v1 v2 v3 : Int32} (hd : p 4 ≠ p 0) (h2 : 0 ≤ v2.toInt ∧ v2.toInt ≤ 5) (h3 : 0 ≤ v3.toInt ∧ v3.toInt ≤ 7) {J : Nat → Nat → Int32} {L : Nat → Nat → Int64} (hW : xr_W (J (p 4))) : xk_K (J (p 4)) ((x192 p v1 v2 v3 J L).1 (p 4)) := by
  have fin : ∀ (J1 : Nat → Nat → Int32), xk_K (J (p 4)) (J1 (p 4)) → xk_K (J (p 4)) ((nt_u (nt_u (nt_u J1 (p 4) ((((Int32.ofInt 10) + ((Int32.ofInt 7) * v2)) + (Int32.ofInt 4)).toNatClampNeg) (Int32.ofInt 1)) (p 4) ((((Int32.ofInt 10) + ((Int32.ofInt 7) * v2)) + (Int32.ofInt 5)).toNatClampNeg) v3) (p 4) ((((Int32.ofInt 172) + ((Int32.ofInt 5) * v3)) + (Int32.ofInt 4)).toNatClampNeg) (Int32.ofInt 1)) (p 4)) := fun J1 h =>
    xk_ua (xk_ub (xk_ua h (xi_s4 h2.1 (by omega)) (by omega) (xr_bs (by omega) (by omega) (by omega))) (xi_s5 h2.1 (by omega)) (by omega) (xr_b5 (by omega)) (by omega)) (xi_v4 h3.1 (by omega)) (by omega) (xr_bv (by omega) (by omega) (by omega))
  unfold x192
  refine x192_3_rule (I := fun _ _ J1 _ => xk_K (J (p 4)) (J1 (p 4))) (Q := fun r => xk_K (J (p 4)) (r.1 (p 4))) ?_ ?_ _ _ _ _ (xk_r hW)
  · intro v4 J1 L1 h
    by_cases h1 : (x174 p v2 J1) = 0
    · rw [if_pos h1]
      exact h
    · rw [if_neg h1]
      exact fin J1 h
  · intro c v4 J1 L1 h
    by_cases ha : (J1 (p 4) 0) ≤ v4
    · rw [if_pos ha]
      by_cases h1 : (x174 p v2 J1) = 0
      · rw [if_pos h1]
        exact h
      · rw [if_neg h1]
        exact fin J1 h
    · rw [if_neg ha]
      by_cases hb : v1 < 0
      · rw [if_pos hb]
        by_cases h1 : (x174 p v2 J1) = 0
        · rw [if_pos h1]
          exact h
        · rw [if_neg h1]
          exact fin J1 h
      · rw [if_neg hb]
        exact xw_192i hd h2 h
theorem xk_pa {p : Nat → Nat} {J J1 : Nat → Nat → Int32} {k c : Nat} {i : Int32} (hk : k < 6) (z : xk_K (J (p 4)) (J1 (p 4))) (n : ¬ J (p 4) k ≤ i) (h0 : 0 ≤ i.toInt) (hc : (J (p 4) k).toInt - i.toInt ≤ (c + 1 : Nat)) : xr_W (J1 (p 4)) ∧ 0 ≤ (i + Int32.ofInt 1).toInt ∧ (J1 (p 4) k).toInt - (i + Int32.ofInt 1).toInt ≤ c := ⟨z.1, xi_nn n h0, by rw [z.2 k hk]; exact lx_dec n hc⟩
theorem xi_l7 {e : Nat → Int32} {i : Int32} (hW : xr_W e) (n : ¬ e 3 ≤ i) (h0 : 0 ≤ i.toInt) : 0 ≤ i.toInt ∧ i.toInt ≤ 7 := ⟨h0, by have := xi_lt n (xr_3 hW).2; omega⟩
theorem xi_l5 {e : Nat → Int32} {i : Int32} (hW : xr_W e) (n : ¬ e 1 ≤ i) (h0 : 0 ≤ i.toInt) : 0 ≤ i.toInt ∧ i.toInt ≤ 5 := ⟨h0, by have := xi_lt n (xr_1 hW).2; omega⟩
/-! Model.passes -/
def x190_108 (p : Nat → Nat) (L : Nat → Nat → Int64) : Nat → Int32 → (Nat → Nat → Int32) → (Nat → Nat → Int32) × (Nat → Nat → Int64)
  | 0, v2, J => (nt_u (nt_u J (p 4) 4 ((J (p 4) 4) + (Int32.ofInt 1))) (p 4) 6 (Int32.ofInt 0), L)
  | c + 1, v2, J => if (J (p 4) 1) ≤ v2 then (nt_u (nt_u J (p 4) 4 ((J (p 4) 4) + (Int32.ofInt 1))) (p 4) 6 (Int32.ofInt 0), L)
    else if (x169 p v2 (Int32.ofInt 4) J) = (Int32.ofInt 1) then (x190_108 p L c (v2 + (Int32.ofInt 1)) (x202 p v2 J))
      else (x190_108 p L c (v2 + (Int32.ofInt 1)) J)
theorem xt190_108 {X : nt_X} {d : Nat} {M : nt_M} {o : Option Value × nt_M} {p : Nat → Nat} {v1 : Int32} {L : Nat → Nat → Int64} (hp : xs_P M p) : ∀ (c : Nat) (v2 : Int32) (J : Nat → Nat → Int32), (xr_W (J (p 4)) ∧ 0 ≤ v2.toInt ∧ (J (p 4) 1).toInt - v2.toInt ≤ c) → nt_rn X d 190 (108, [(0, .ref (p 0)), (1, .int v1), (2, .int v2)], [], me_w (lw M L) J) o → o = (none, me_w (lw M ((x190_108 p L c v2 J).2)) ((x190_108 p L c v2 J).1)) := by
  intro c
  induction c with
  | zero =>
    intro v2 J hc k
    have k := ly_revb 2 (c' := (110, [(0, .ref (p 0)), (1, .int v1), (2, .int v2)], [.ref (p 0), .int v2], me_w (lw M L) J)) rfl k
    have k := lz_get (a := (p 0)) (g := 1127) (M := me_w (lw M L) J) (v := .ref (p 4)) rfl (nt_gfR rfl (hp.1 (0, 27, 4) (by decide))) k
    have k := ly_revb 1 (c' := (114, [(0, .ref (p 0)), (1, .int v1), (2, .int v2)], [.int (Int32.ofInt 1), .ref (p 4), .int v2], me_w (lw M L) J)) rfl k
    have k := mx_iald (v := J (p 4) 1) rfl (hp.2.2.1 4 (by omega)) ((congrArg (J (p 4)) (show (Int32.ofInt 1).toNatClampNeg = 1 from rfl)).trans (rfl)) k
    have k := ly_revb 1 (c' := (if (J (p 4) 1) ≤ v2 then 139 else 118, [(0, .ref (p 0)), (1, .int v1), (2, .int v2)], [], me_w (lw M L) J)) rfl k
    have h115 : (J (p 4) 1) ≤ v2 := lx_end hc.2.2
    rw [if_pos h115] at k
    have k := ly_revb 1 (c' := (140, [(0, .ref (p 0)), (1, .int v1), (2, .int v2)], [.ref (p 0)], me_w (lw M L) J)) rfl k
    have k := lz_get (a := (p 0)) (g := 1127) (M := me_w (lw M L) J) (v := .ref (p 4)) rfl (nt_gfR rfl (hp.1 (0, 27, 4) (by decide))) k
    have k := ly_revb 2 (c' := (145, [(0, .ref (p 0)), (1, .int v1), (2, .int v2)], [.int (Int32.ofInt 4), .ref (p 4), .int (Int32.ofInt 4), .ref (p 4)], me_w (lw M L) J)) rfl k
    have k := mx_iald (v := J (p 4) 4) rfl (hp.2.2.1 4 (by omega)) ((congrArg (J (p 4)) (show (Int32.ofInt 4).toNatClampNeg = 4 from rfl)).trans (rfl)) k
    have k := ly_revb 2 (c' := (148, [(0, .ref (p 0)), (1, .int v1), (2, .int v2)], [.int ((J (p 4) 4) + (Int32.ofInt 1)), .int (Int32.ofInt 4), .ref (p 4)], me_w (lw M L) J)) rfl k
    have k := mx_iast (q := 4) rfl (show (Int32.ofInt 4).toNatClampNeg = 4 from rfl) k
    have k : nt_rn X _ 190 (149, [(0, .ref (p 0)), (1, .int v1), (2, .int v2)], [], me_w (lw M L) (nt_u J (p 4) 4 ((J (p 4) 4) + (Int32.ofInt 1)))) _ := k
    have k := ly_revb 1 (c' := (150, [(0, .ref (p 0)), (1, .int v1), (2, .int v2)], [.ref (p 0)], me_w (lw M L) (nt_u J (p 4) 4 ((J (p 4) 4) + (Int32.ofInt 1))))) rfl k
    have k := lz_get (a := (p 0)) (g := 1127) (M := me_w (lw M L) (nt_u J (p 4) 4 ((J (p 4) 4) + (Int32.ofInt 1)))) (v := .ref (p 4)) rfl (nt_gfR rfl (hp.1 (0, 27, 4) (by decide))) k
    have k := ly_revb 2 (c' := (156, [(0, .ref (p 0)), (1, .int v1), (2, .int v2)], [.int (Int32.ofInt 0), .int (Int32.ofInt 6), .ref (p 4)], me_w (lw M L) (nt_u J (p 4) 4 ((J (p 4) 4) + (Int32.ofInt 1))))) rfl k
    have k := mx_iast (q := 6) rfl (show (Int32.ofInt 6).toNatClampNeg = 6 from rfl) k
    have k : nt_rn X _ 190 (157, [(0, .ref (p 0)), (1, .int v1), (2, .int v2)], [], me_w (lw M L) (nt_u (nt_u J (p 4) 4 ((J (p 4) 4) + (Int32.ofInt 1))) (p 4) 6 (Int32.ofInt 0))) _ := k
    have k := lz_rv rfl rfl k
    rw [k, x190_108]
  | succ c ih =>
    intro v2 J hc k
    have k := ly_revb 2 (c' := (110, [(0, .ref (p 0)), (1, .int v1), (2, .int v2)], [.ref (p 0), .int v2], me_w (lw M L) J)) rfl k
    have k := lz_get (a := (p 0)) (g := 1127) (M := me_w (lw M L) J) (v := .ref (p 4)) rfl (nt_gfR rfl (hp.1 (0, 27, 4) (by decide))) k
    have k := ly_revb 1 (c' := (114, [(0, .ref (p 0)), (1, .int v1), (2, .int v2)], [.int (Int32.ofInt 1), .ref (p 4), .int v2], me_w (lw M L) J)) rfl k
    have k := mx_iald (v := J (p 4) 1) rfl (hp.2.2.1 4 (by omega)) ((congrArg (J (p 4)) (show (Int32.ofInt 1).toNatClampNeg = 1 from rfl)).trans (rfl)) k
    have k := ly_revb 1 (c' := (if (J (p 4) 1) ≤ v2 then 139 else 118, [(0, .ref (p 0)), (1, .int v1), (2, .int v2)], [], me_w (lw M L) J)) rfl k
    by_cases h115 : (J (p 4) 1) ≤ v2
    · rw [if_pos h115] at k
      have k := ly_revb 1 (c' := (140, [(0, .ref (p 0)), (1, .int v1), (2, .int v2)], [.ref (p 0)], me_w (lw M L) J)) rfl k
      have k := lz_get (a := (p 0)) (g := 1127) (M := me_w (lw M L) J) (v := .ref (p 4)) rfl (nt_gfR rfl (hp.1 (0, 27, 4) (by decide))) k
      have k := ly_revb 2 (c' := (145, [(0, .ref (p 0)), (1, .int v1), (2, .int v2)], [.int (Int32.ofInt 4), .ref (p 4), .int (Int32.ofInt 4), .ref (p 4)], me_w (lw M L) J)) rfl k
      have k := mx_iald (v := J (p 4) 4) rfl (hp.2.2.1 4 (by omega)) ((congrArg (J (p 4)) (show (Int32.ofInt 4).toNatClampNeg = 4 from rfl)).trans (rfl)) k
      have k := ly_revb 2 (c' := (148, [(0, .ref (p 0)), (1, .int v1), (2, .int v2)], [.int ((J (p 4) 4) + (Int32.ofInt 1)), .int (Int32.ofInt 4), .ref (p 4)], me_w (lw M L) J)) rfl k
      have k := mx_iast (q := 4) rfl (show (Int32.ofInt 4).toNatClampNeg = 4 from rfl) k
      have k : nt_rn X _ 190 (149, [(0, .ref (p 0)), (1, .int v1), (2, .int v2)], [], me_w (lw M L) (nt_u J (p 4) 4 ((J (p 4) 4) + (Int32.ofInt 1)))) _ := k
      have k := ly_revb 1 (c' := (150, [(0, .ref (p 0)), (1, .int v1), (2, .int v2)], [.ref (p 0)], me_w (lw M L) (nt_u J (p 4) 4 ((J (p 4) 4) + (Int32.ofInt 1))))) rfl k
      have k := lz_get (a := (p 0)) (g := 1127) (M := me_w (lw M L) (nt_u J (p 4) 4 ((J (p 4) 4) + (Int32.ofInt 1)))) (v := .ref (p 4)) rfl (nt_gfR rfl (hp.1 (0, 27, 4) (by decide))) k
      have k := ly_revb 2 (c' := (156, [(0, .ref (p 0)), (1, .int v1), (2, .int v2)], [.int (Int32.ofInt 0), .int (Int32.ofInt 6), .ref (p 4)], me_w (lw M L) (nt_u J (p 4) 4 ((J (p 4) 4) + (Int32.ofInt 1))))) rfl k
      have k := mx_iast (q := 6) rfl (show (Int32.ofInt 6).toNatClampNeg = 6 from rfl) k
      have k : nt_rn X _ 190 (157, [(0, .ref (p 0)), (1, .int v1), (2, .int v2)], [], me_w (lw M L) (nt_u (nt_u J (p 4) 4 ((J (p 4) 4) + (Int32.ofInt 1))) (p 4) 6 (Int32.ofInt 0))) _ := k
      have k := lz_rv rfl rfl k
      rw [k, x190_108, if_pos h115]
    · rw [if_neg h115] at k
      have k := ly_revb 3 (c' := (121, [(0, .ref (p 0)), (1, .int v1), (2, .int v2)], [.int (Int32.ofInt 4), .int v2, .ref (p 0)], me_w (lw M L) J)) rfl k
      obtain ⟨d1, o1, ed, kc, k⟩ := lz_c (g := 169) (q := 1) (vs := [.ref (p 0), .int v2, .int (Int32.ofInt 4)]) (rest := []) rfl rfl (by decide) (Or.inr (Or.inl ⟨_, rfl, rfl⟩)) rfl k
      have e1 := xt169 (xs_lp hp) kc
      subst e1
      have k : nt_rn X _ 190 (124, [(0, .ref (p 0)), (1, .int v1), (2, .int v2)], [.int (x169 p v2 (Int32.ofInt 4) J)], me_w (lw M L) J) _ := k
      have k := ly_revb 2 (c' := (if (x169 p v2 (Int32.ofInt 4) J) = (Int32.ofInt 1) then 128 else 133, [(0, .ref (p 0)), (1, .int v1), (2, .int v2)], [], me_w (lw M L) J)) rfl k
      by_cases h125 : (x169 p v2 (Int32.ofInt 4) J) = (Int32.ofInt 1)
      · rw [if_pos h125] at k
        have k := ly_revb 2 (c' := (130, [(0, .ref (p 0)), (1, .int v1), (2, .int v2)], [.int v2, .ref (p 0)], me_w (lw M L) J)) rfl k
        obtain ⟨d1, o1, ed, kc, k⟩ := lz_c (g := 202) (q := 1) (vs := [.ref (p 0), .int v2]) (rest := []) rfl rfl (by decide) (Or.inr (Or.inl ⟨_, rfl, rfl⟩)) rfl k
        have e1 := xt202 (xs_lp hp) hc.1 (xi_l5 hc.1 h115 hc.2.1) kc
        subst e1
        have k : nt_rn X _ 190 (133, [(0, .ref (p 0)), (1, .int v1), (2, .int v2)], [], me_w (lw M L) (x202 p v2 J)) _ := k
        have k := ly_revb 2 (c' := (108, [(2, .int (v2 + (Int32.ofInt 1))), (0, .ref (p 0)), (1, .int v1)], [], me_w (lw M L) (x202 p v2 J))) rfl k
        have k := nt_rn_w (a := [(2, .int (v2 + (Int32.ofInt 1))), (0, .ref (p 0)), (1, .int v1)]) (b := [(0, .ref (p 0)), (1, .int v1), (2, .int (v2 + (Int32.ofInt 1)))]) ⟨rfl, rfl, rfl, trivial⟩ rfl k
        have k := ih (v2 + (Int32.ofInt 1)) (x202 p v2 J) (xk_pa (by omega) (xw_202 hc.1 (xi_l5 hc.1 h115 hc.2.1)) h115 hc.2.1 hc.2.2) k
        rw [k, x190_108, if_neg h115, if_pos h125]
      · rw [if_neg h125] at k
        have k := ly_revb 2 (c' := (108, [(2, .int (v2 + (Int32.ofInt 1))), (0, .ref (p 0)), (1, .int v1)], [], me_w (lw M L) J)) rfl k
        have k := nt_rn_w (a := [(2, .int (v2 + (Int32.ofInt 1))), (0, .ref (p 0)), (1, .int v1)]) (b := [(0, .ref (p 0)), (1, .int v1), (2, .int (v2 + (Int32.ofInt 1)))]) ⟨rfl, rfl, rfl, trivial⟩ rfl k
        have k := ih (v2 + (Int32.ofInt 1)) J (xk_dec hc.1 h115 hc.2.1 hc.2.2) k
        rw [k, x190_108, if_neg h115, if_neg h125]
theorem x190_108_rule {p : Nat → Nat} {L : Nat → Nat → Int64} {I : Nat → Int32 → (Nat → Nat → Int32) → Prop} {Q : (Nat → Nat → Int32) × (Nat → Nat → Int64) → Prop} (h0 : ∀ (v2 : Int32) (J : Nat → Nat → Int32), I 0 v2 J → Q (nt_u (nt_u J (p 4) 4 ((J (p 4) 4) + (Int32.ofInt 1))) (p 4) 6 (Int32.ofInt 0), L)) (h1 : ∀ (c : Nat) (v2 : Int32) (J : Nat → Nat → Int32), I (c + 1) v2 J →
    if (J (p 4) 1) ≤ v2 then (Q (nt_u (nt_u J (p 4) 4 ((J (p 4) 4) + (Int32.ofInt 1))) (p 4) 6 (Int32.ofInt 0), L))
    else if (x169 p v2 (Int32.ofInt 4) J) = (Int32.ofInt 1) then (I c (v2 + (Int32.ofInt 1)) (x202 p v2 J))
      else (I c (v2 + (Int32.ofInt 1)) J)) : ∀ (c : Nat) (v2 : Int32) (J : Nat → Nat → Int32), I c v2 J → Q (x190_108 p L c v2 J) := by
  intro c
  induction c with
  | zero =>
    intro v2 J hi
    rw [x190_108]
    exact h0 v2 J hi
  | succ c ih =>
    intro v2 J hi
    have hi := h1 c v2 J hi
    rw [x190_108]
    by_cases h : (J (p 4) 1) ≤ v2
    · rw [if_pos h] at hi ⊢
      exact hi
    · rw [if_neg h] at hi ⊢
      by_cases h : (x169 p v2 (Int32.ofInt 4) J) = (Int32.ofInt 1)
      · rw [if_pos h] at hi ⊢
        exact ih _ _ hi
      · rw [if_neg h] at hi ⊢
        exact ih _ _ hi
def x190_50 (p : Nat → Nat) (v1 : Int32) : Nat → Int32 → (Nat → Nat → Int32) → (Nat → Nat → Int64) → (Nat → Nat → Int32) × (Nat → Nat → Int64)
  | 0, v2, J, L => (x190_108 p L ((J (p 4) 1).toNatClampNeg) (Int32.ofInt 0) J)
  | c + 1, v2, J, L => if (J (p 4) 3) ≤ v2 then (x190_108 p L ((J (p 4) 1).toNatClampNeg) (Int32.ofInt 0) J)
    else if (x180 p v2 (Int32.ofInt 1) J) = (J (p 4) 4) then if (x182 p (x180 p v2 (Int32.ofInt 0) J) J) = 0 then (x190_50 p v1 c (v2 + (Int32.ofInt 1)) J L)
        else (x190_50 p v1 c (v2 + (Int32.ofInt 1)) ((x192 p v1 (x180 p v2 (Int32.ofInt 0) J) v2 J L).1) ((x192 p v1 (x180 p v2 (Int32.ofInt 0) J) v2 J L).2))
      else (x190_50 p v1 c (v2 + (Int32.ofInt 1)) J L)
theorem xt190_50 {X : nt_X} {d : Nat} {M : nt_M} {o : Option Value × nt_M} {p : Nat → Nat} {v1 : Int32} (hp : xs_P M p) : ∀ (c : Nat) (v2 : Int32) (J : Nat → Nat → Int32) (L : Nat → Nat → Int64), (xr_W (J (p 4)) ∧ 0 ≤ v2.toInt ∧ (J (p 4) 3).toInt - v2.toInt ≤ c) → nt_rn X d 190 (50, [(0, .ref (p 0)), (1, .int v1), (2, .int v2)], [], me_w (lw M L) J) o → o = (none, me_w (lw M ((x190_50 p v1 c v2 J L).2)) ((x190_50 p v1 c v2 J L).1)) := by
  intro c
  induction c with
  | zero =>
    intro v2 J L hc k
    have k := ly_revb 2 (c' := (52, [(0, .ref (p 0)), (1, .int v1), (2, .int v2)], [.ref (p 0), .int v2], me_w (lw M L) J)) rfl k
    have k := lz_get (a := (p 0)) (g := 1127) (M := me_w (lw M L) J) (v := .ref (p 4)) rfl (nt_gfR rfl (hp.1 (0, 27, 4) (by decide))) k
    have k := ly_revb 1 (c' := (56, [(0, .ref (p 0)), (1, .int v1), (2, .int v2)], [.int (Int32.ofInt 3), .ref (p 4), .int v2], me_w (lw M L) J)) rfl k
    have k := mx_iald (v := J (p 4) 3) rfl (hp.2.2.1 4 (by omega)) ((congrArg (J (p 4)) (show (Int32.ofInt 3).toNatClampNeg = 3 from rfl)).trans (rfl)) k
    have k := ly_revb 1 (c' := (if (J (p 4) 3) ≤ v2 then 106 else 60, [(0, .ref (p 0)), (1, .int v1), (2, .int v2)], [], me_w (lw M L) J)) rfl k
    have h57 : (J (p 4) 3) ≤ v2 := lx_end hc.2.2
    rw [if_pos h57] at k
    have k := ly_revb 2 (c' := (108, [(2, .int (Int32.ofInt 0)), (0, .ref (p 0)), (1, .int v1)], [], me_w (lw M L) J)) rfl k
    have k := nt_rn_w (a := [(2, .int (Int32.ofInt 0)), (0, .ref (p 0)), (1, .int v1)]) (b := [(0, .ref (p 0)), (1, .int v1), (2, .int (Int32.ofInt 0))]) ⟨rfl, rfl, rfl, trivial⟩ rfl k
    have k := xt190_108 hp  ((J (p 4) 1).toNatClampNeg) (Int32.ofInt 0) J (⟨hc.1, by decide, lx_beg (by decide)⟩) k
    rw [k, x190_50]
  | succ c ih =>
    intro v2 J L hc k
    have k := ly_revb 2 (c' := (52, [(0, .ref (p 0)), (1, .int v1), (2, .int v2)], [.ref (p 0), .int v2], me_w (lw M L) J)) rfl k
    have k := lz_get (a := (p 0)) (g := 1127) (M := me_w (lw M L) J) (v := .ref (p 4)) rfl (nt_gfR rfl (hp.1 (0, 27, 4) (by decide))) k
    have k := ly_revb 1 (c' := (56, [(0, .ref (p 0)), (1, .int v1), (2, .int v2)], [.int (Int32.ofInt 3), .ref (p 4), .int v2], me_w (lw M L) J)) rfl k
    have k := mx_iald (v := J (p 4) 3) rfl (hp.2.2.1 4 (by omega)) ((congrArg (J (p 4)) (show (Int32.ofInt 3).toNatClampNeg = 3 from rfl)).trans (rfl)) k
    have k := ly_revb 1 (c' := (if (J (p 4) 3) ≤ v2 then 106 else 60, [(0, .ref (p 0)), (1, .int v1), (2, .int v2)], [], me_w (lw M L) J)) rfl k
    by_cases h57 : (J (p 4) 3) ≤ v2
    · rw [if_pos h57] at k
      have k := ly_revb 2 (c' := (108, [(2, .int (Int32.ofInt 0)), (0, .ref (p 0)), (1, .int v1)], [], me_w (lw M L) J)) rfl k
      have k := nt_rn_w (a := [(2, .int (Int32.ofInt 0)), (0, .ref (p 0)), (1, .int v1)]) (b := [(0, .ref (p 0)), (1, .int v1), (2, .int (Int32.ofInt 0))]) ⟨rfl, rfl, rfl, trivial⟩ rfl k
      have k := xt190_108 hp  ((J (p 4) 1).toNatClampNeg) (Int32.ofInt 0) J (⟨hc.1, by decide, lx_beg (by decide)⟩) k
      rw [k, x190_50, if_pos h57]
    · rw [if_neg h57] at k
      have k := ly_revb 3 (c' := (63, [(0, .ref (p 0)), (1, .int v1), (2, .int v2)], [.int (Int32.ofInt 1), .int v2, .ref (p 0)], me_w (lw M L) J)) rfl k
      obtain ⟨d1, o1, ed, kc, k⟩ := lz_c (g := 180) (q := 1) (vs := [.ref (p 0), .int v2, .int (Int32.ofInt 1)]) (rest := []) rfl rfl (by decide) (Or.inr (Or.inl ⟨_, rfl, rfl⟩)) rfl k
      have e1 := xt180 (xs_lp hp) kc
      subst e1
      have k : nt_rn X _ 190 (66, [(0, .ref (p 0)), (1, .int v1), (2, .int v2)], [.int (x180 p v2 (Int32.ofInt 1) J)], me_w (lw M L) J) _ := k
      have k := ly_revb 1 (c' := (67, [(0, .ref (p 0)), (1, .int v1), (2, .int v2)], [.ref (p 0), .int (x180 p v2 (Int32.ofInt 1) J)], me_w (lw M L) J)) rfl k
      have k := lz_get (a := (p 0)) (g := 1127) (M := me_w (lw M L) J) (v := .ref (p 4)) rfl (nt_gfR rfl (hp.1 (0, 27, 4) (by decide))) k
      have k := ly_revb 1 (c' := (71, [(0, .ref (p 0)), (1, .int v1), (2, .int v2)], [.int (Int32.ofInt 4), .ref (p 4), .int (x180 p v2 (Int32.ofInt 1) J)], me_w (lw M L) J)) rfl k
      have k := mx_iald (v := J (p 4) 4) rfl (hp.2.2.1 4 (by omega)) ((congrArg (J (p 4)) (show (Int32.ofInt 4).toNatClampNeg = 4 from rfl)).trans (rfl)) k
      have k := ly_revb 1 (c' := (if (x180 p v2 (Int32.ofInt 1) J) = (J (p 4) 4) then 75 else 100, [(0, .ref (p 0)), (1, .int v1), (2, .int v2)], [], me_w (lw M L) J)) rfl k
      by_cases h72 : (x180 p v2 (Int32.ofInt 1) J) = (J (p 4) 4)
      · rw [if_pos h72] at k
        have k := ly_revb 4 (c' := (79, [(0, .ref (p 0)), (1, .int v1), (2, .int v2)], [.int (Int32.ofInt 0), .int v2, .ref (p 0), .ref (p 0)], me_w (lw M L) J)) rfl k
        obtain ⟨d1, o1, ed, kc, k⟩ := lz_c (g := 180) (q := 1) (vs := [.ref (p 0), .int v2, .int (Int32.ofInt 0)]) (rest := [.ref (p 0)]) rfl rfl (by decide) (Or.inr (Or.inl ⟨_, rfl, rfl⟩)) rfl k
        have e1 := xt180 (xs_lp hp) kc
        subst e1
        have k : nt_rn X _ 190 (82, [(0, .ref (p 0)), (1, .int v1), (2, .int v2)], [.int (x180 p v2 (Int32.ofInt 0) J), .ref (p 0)], me_w (lw M L) J) _ := k
        obtain ⟨d1, o1, ed, kc, k⟩ := lz_c (g := 182) (q := 1) (vs := [.ref (p 0), .int (x180 p v2 (Int32.ofInt 0) J)]) (rest := []) rfl rfl (by decide) (Or.inr (Or.inl ⟨_, rfl, rfl⟩)) rfl k
        have e1 := xt182 (xs_lp hp) kc
        subst e1
        have k : nt_rn X _ 190 (85, [(0, .ref (p 0)), (1, .int v1), (2, .int v2)], [.int (x182 p (x180 p v2 (Int32.ofInt 0) J) J)], me_w (lw M L) J) _ := k
        have k := ly_revb 1 (c' := (if (x182 p (x180 p v2 (Int32.ofInt 0) J) J) = 0 then 100 else 88, [(0, .ref (p 0)), (1, .int v1), (2, .int v2)], [], me_w (lw M L) J)) rfl k
        by_cases h85 : (x182 p (x180 p v2 (Int32.ofInt 0) J) J) = 0
        · rw [if_pos h85] at k
          have k := ly_revb 2 (c' := (50, [(2, .int (v2 + (Int32.ofInt 1))), (0, .ref (p 0)), (1, .int v1)], [], me_w (lw M L) J)) rfl k
          have k := nt_rn_w (a := [(2, .int (v2 + (Int32.ofInt 1))), (0, .ref (p 0)), (1, .int v1)]) (b := [(0, .ref (p 0)), (1, .int v1), (2, .int (v2 + (Int32.ofInt 1)))]) ⟨rfl, rfl, rfl, trivial⟩ rfl k
          have k := ih (v2 + (Int32.ofInt 1)) J L (xk_dec hc.1 h57 hc.2.1 hc.2.2) k
          rw [k, x190_50, if_neg h57, if_pos h72, if_pos h85]
        · rw [if_neg h85] at k
          have k := ly_revb 5 (c' := (93, [(0, .ref (p 0)), (1, .int v1), (2, .int v2)], [.int (Int32.ofInt 0), .int v2, .ref (p 0), .int v1, .ref (p 0)], me_w (lw M L) J)) rfl k
          obtain ⟨d1, o1, ed, kc, k⟩ := lz_c (g := 180) (q := 1) (vs := [.ref (p 0), .int v2, .int (Int32.ofInt 0)]) (rest := [.int v1, .ref (p 0)]) rfl rfl (by decide) (Or.inr (Or.inl ⟨_, rfl, rfl⟩)) rfl k
          have e1 := xt180 (xs_lp hp) kc
          subst e1
          have k : nt_rn X _ 190 (96, [(0, .ref (p 0)), (1, .int v1), (2, .int v2)], [.int (x180 p v2 (Int32.ofInt 0) J), .int v1, .ref (p 0)], me_w (lw M L) J) _ := k
          have k := ly_revb 1 (c' := (97, [(0, .ref (p 0)), (1, .int v1), (2, .int v2)], [.int v2, .int (x180 p v2 (Int32.ofInt 0) J), .int v1, .ref (p 0)], me_w (lw M L) J)) rfl k
          obtain ⟨d1, o1, ed, kc, k⟩ := lz_c (g := 192) (q := 1) (vs := [.ref (p 0), .int v1, .int (x180 p v2 (Int32.ofInt 0) J), .int v2]) (rest := []) rfl rfl (by decide) (Or.inr (Or.inl ⟨_, rfl, rfl⟩)) rfl k
          have e1 := xt192 hp hc.1 (xi_va hc.1 (xi_l7 hc.1 h57 hc.2.1)) kc
          subst e1
          have k : nt_rn X _ 190 (100, [(0, .ref (p 0)), (1, .int v1), (2, .int v2)], [], me_w (lw M ((x192 p v1 (x180 p v2 (Int32.ofInt 0) J) v2 J L).2)) ((x192 p v1 (x180 p v2 (Int32.ofInt 0) J) v2 J L).1)) _ := k
          have k := ly_revb 2 (c' := (50, [(2, .int (v2 + (Int32.ofInt 1))), (0, .ref (p 0)), (1, .int v1)], [], me_w (lw M ((x192 p v1 (x180 p v2 (Int32.ofInt 0) J) v2 J L).2)) ((x192 p v1 (x180 p v2 (Int32.ofInt 0) J) v2 J L).1))) rfl k
          have k := nt_rn_w (a := [(2, .int (v2 + (Int32.ofInt 1))), (0, .ref (p 0)), (1, .int v1)]) (b := [(0, .ref (p 0)), (1, .int v1), (2, .int (v2 + (Int32.ofInt 1)))]) ⟨rfl, rfl, rfl, trivial⟩ rfl k
          have k := ih (v2 + (Int32.ofInt 1)) ((x192 p v1 (x180 p v2 (Int32.ofInt 0) J) v2 J L).1) ((x192 p v1 (x180 p v2 (Int32.ofInt 0) J) v2 J L).2) (xk_pa (by omega) (xw_192 (hp.2.1 4 0 (by omega) (by omega) (by decide)) (xi_va hc.1 (xi_l7 hc.1 h57 hc.2.1)) (xi_l7 hc.1 h57 hc.2.1) hc.1) h57 hc.2.1 hc.2.2) k
          rw [k, x190_50, if_neg h57, if_pos h72, if_neg h85]
      · rw [if_neg h72] at k
        have k := ly_revb 2 (c' := (50, [(2, .int (v2 + (Int32.ofInt 1))), (0, .ref (p 0)), (1, .int v1)], [], me_w (lw M L) J)) rfl k
        have k := nt_rn_w (a := [(2, .int (v2 + (Int32.ofInt 1))), (0, .ref (p 0)), (1, .int v1)]) (b := [(0, .ref (p 0)), (1, .int v1), (2, .int (v2 + (Int32.ofInt 1)))]) ⟨rfl, rfl, rfl, trivial⟩ rfl k
        have k := ih (v2 + (Int32.ofInt 1)) J L (xk_dec hc.1 h57 hc.2.1 hc.2.2) k
        rw [k, x190_50, if_neg h57, if_neg h72]
theorem x190_50_rule {p : Nat → Nat} {v1 : Int32} {I : Nat → Int32 → (Nat → Nat → Int32) → (Nat → Nat → Int64) → Prop} {Q : (Nat → Nat → Int32) × (Nat → Nat → Int64) → Prop} (h0 : ∀ (v2 : Int32) (J : Nat → Nat → Int32) (L : Nat → Nat → Int64), I 0 v2 J L → Q (x190_108 p L ((J (p 4) 1).toNatClampNeg) (Int32.ofInt 0) J)) (h1 : ∀ (c : Nat) (v2 : Int32) (J : Nat → Nat → Int32) (L : Nat → Nat → Int64), I (c + 1) v2 J L →
    if (J (p 4) 3) ≤ v2 then (Q (x190_108 p L ((J (p 4) 1).toNatClampNeg) (Int32.ofInt 0) J))
    else if (x180 p v2 (Int32.ofInt 1) J) = (J (p 4) 4) then if (x182 p (x180 p v2 (Int32.ofInt 0) J) J) = 0 then (I c (v2 + (Int32.ofInt 1)) J L)
        else (I c (v2 + (Int32.ofInt 1)) ((x192 p v1 (x180 p v2 (Int32.ofInt 0) J) v2 J L).1) ((x192 p v1 (x180 p v2 (Int32.ofInt 0) J) v2 J L).2))
      else (I c (v2 + (Int32.ofInt 1)) J L)) : ∀ (c : Nat) (v2 : Int32) (J : Nat → Nat → Int32) (L : Nat → Nat → Int64), I c v2 J L → Q (x190_50 p v1 c v2 J L) := by
  intro c
  induction c with
  | zero =>
    intro v2 J L hi
    rw [x190_50]
    exact h0 v2 J L hi
  | succ c ih =>
    intro v2 J L hi
    have hi := h1 c v2 J L hi
    rw [x190_50]
    by_cases h : (J (p 4) 3) ≤ v2
    · rw [if_pos h] at hi ⊢
      exact hi
    · rw [if_neg h] at hi ⊢
      by_cases h : (x180 p v2 (Int32.ofInt 1) J) = (J (p 4) 4)
      · rw [if_pos h] at hi ⊢
        by_cases h : (x182 p (x180 p v2 (Int32.ofInt 0) J) J) = 0
        · rw [if_pos h] at hi ⊢
          exact ih _ _ _ hi
        · rw [if_neg h] at hi ⊢
          exact ih _ _ _ hi
      · rw [if_neg h] at hi ⊢
        exact ih _ _ _ hi
def x190_2 (p : Nat → Nat) (v1 : Int32) (L : Nat → Nat → Int64) : Nat → Int32 → (Nat → Nat → Int32) → (Nat → Nat → Int32) × (Nat → Nat → Int64)
  | 0, v2, J => (x190_50 p v1 ((J (p 4) 3).toNatClampNeg) (Int32.ofInt 0) J L)
  | c + 1, v2, J => if (J (p 4) 3) ≤ v2 then (x190_50 p v1 ((J (p 4) 3).toNatClampNeg) (Int32.ofInt 0) J L)
    else if (x180 p v2 (Int32.ofInt 4) J) = (Int32.ofInt 1) then if (x180 p v2 (Int32.ofInt 2) J) = (J (p 4) 4) then (x190_2 p v1 L c (v2 + (Int32.ofInt 1)) (x191 p v2 J))
        else (x190_2 p v1 L c (v2 + (Int32.ofInt 1)) J)
      else (x190_2 p v1 L c (v2 + (Int32.ofInt 1)) J)
theorem xt190_2 {X : nt_X} {d : Nat} {M : nt_M} {o : Option Value × nt_M} {p : Nat → Nat} {v1 : Int32} {L : Nat → Nat → Int64} (hp : xs_P M p) : ∀ (c : Nat) (v2 : Int32) (J : Nat → Nat → Int32), (xr_W (J (p 4)) ∧ 0 ≤ v2.toInt ∧ (J (p 4) 3).toInt - v2.toInt ≤ c) → nt_rn X d 190 (2, [(0, .ref (p 0)), (1, .int v1), (2, .int v2)], [], me_w (lw M L) J) o → o = (none, me_w (lw M ((x190_2 p v1 L c v2 J).2)) ((x190_2 p v1 L c v2 J).1)) := by
  intro c
  induction c with
  | zero =>
    intro v2 J hc k
    have k := ly_revb 2 (c' := (4, [(0, .ref (p 0)), (1, .int v1), (2, .int v2)], [.ref (p 0), .int v2], me_w (lw M L) J)) rfl k
    have k := lz_get (a := (p 0)) (g := 1127) (M := me_w (lw M L) J) (v := .ref (p 4)) rfl (nt_gfR rfl (hp.1 (0, 27, 4) (by decide))) k
    have k := ly_revb 1 (c' := (8, [(0, .ref (p 0)), (1, .int v1), (2, .int v2)], [.int (Int32.ofInt 3), .ref (p 4), .int v2], me_w (lw M L) J)) rfl k
    have k := mx_iald (v := J (p 4) 3) rfl (hp.2.2.1 4 (by omega)) ((congrArg (J (p 4)) (show (Int32.ofInt 3).toNatClampNeg = 3 from rfl)).trans (rfl)) k
    have k := ly_revb 1 (c' := (if (J (p 4) 3) ≤ v2 then 48 else 12, [(0, .ref (p 0)), (1, .int v1), (2, .int v2)], [], me_w (lw M L) J)) rfl k
    have h9 : (J (p 4) 3) ≤ v2 := lx_end hc.2.2
    rw [if_pos h9] at k
    have k := ly_revb 2 (c' := (50, [(2, .int (Int32.ofInt 0)), (0, .ref (p 0)), (1, .int v1)], [], me_w (lw M L) J)) rfl k
    have k := nt_rn_w (a := [(2, .int (Int32.ofInt 0)), (0, .ref (p 0)), (1, .int v1)]) (b := [(0, .ref (p 0)), (1, .int v1), (2, .int (Int32.ofInt 0))]) ⟨rfl, rfl, rfl, trivial⟩ rfl k
    have k := xt190_50 hp  ((J (p 4) 3).toNatClampNeg) (Int32.ofInt 0) J L (⟨hc.1, by decide, lx_beg (by decide)⟩) k
    rw [k, x190_2]
  | succ c ih =>
    intro v2 J hc k
    have k := ly_revb 2 (c' := (4, [(0, .ref (p 0)), (1, .int v1), (2, .int v2)], [.ref (p 0), .int v2], me_w (lw M L) J)) rfl k
    have k := lz_get (a := (p 0)) (g := 1127) (M := me_w (lw M L) J) (v := .ref (p 4)) rfl (nt_gfR rfl (hp.1 (0, 27, 4) (by decide))) k
    have k := ly_revb 1 (c' := (8, [(0, .ref (p 0)), (1, .int v1), (2, .int v2)], [.int (Int32.ofInt 3), .ref (p 4), .int v2], me_w (lw M L) J)) rfl k
    have k := mx_iald (v := J (p 4) 3) rfl (hp.2.2.1 4 (by omega)) ((congrArg (J (p 4)) (show (Int32.ofInt 3).toNatClampNeg = 3 from rfl)).trans (rfl)) k
    have k := ly_revb 1 (c' := (if (J (p 4) 3) ≤ v2 then 48 else 12, [(0, .ref (p 0)), (1, .int v1), (2, .int v2)], [], me_w (lw M L) J)) rfl k
    by_cases h9 : (J (p 4) 3) ≤ v2
    · rw [if_pos h9] at k
      have k := ly_revb 2 (c' := (50, [(2, .int (Int32.ofInt 0)), (0, .ref (p 0)), (1, .int v1)], [], me_w (lw M L) J)) rfl k
      have k := nt_rn_w (a := [(2, .int (Int32.ofInt 0)), (0, .ref (p 0)), (1, .int v1)]) (b := [(0, .ref (p 0)), (1, .int v1), (2, .int (Int32.ofInt 0))]) ⟨rfl, rfl, rfl, trivial⟩ rfl k
      have k := xt190_50 hp  ((J (p 4) 3).toNatClampNeg) (Int32.ofInt 0) J L (⟨hc.1, by decide, lx_beg (by decide)⟩) k
      rw [k, x190_2, if_pos h9]
    · rw [if_neg h9] at k
      have k := ly_revb 3 (c' := (15, [(0, .ref (p 0)), (1, .int v1), (2, .int v2)], [.int (Int32.ofInt 4), .int v2, .ref (p 0)], me_w (lw M L) J)) rfl k
      obtain ⟨d1, o1, ed, kc, k⟩ := lz_c (g := 180) (q := 1) (vs := [.ref (p 0), .int v2, .int (Int32.ofInt 4)]) (rest := []) rfl rfl (by decide) (Or.inr (Or.inl ⟨_, rfl, rfl⟩)) rfl k
      have e1 := xt180 (xs_lp hp) kc
      subst e1
      have k : nt_rn X _ 190 (18, [(0, .ref (p 0)), (1, .int v1), (2, .int v2)], [.int (x180 p v2 (Int32.ofInt 4) J)], me_w (lw M L) J) _ := k
      have k := ly_revb 2 (c' := (if (x180 p v2 (Int32.ofInt 4) J) = (Int32.ofInt 1) then 22 else 42, [(0, .ref (p 0)), (1, .int v1), (2, .int v2)], [], me_w (lw M L) J)) rfl k
      by_cases h19 : (x180 p v2 (Int32.ofInt 4) J) = (Int32.ofInt 1)
      · rw [if_pos h19] at k
        have k := ly_revb 3 (c' := (25, [(0, .ref (p 0)), (1, .int v1), (2, .int v2)], [.int (Int32.ofInt 2), .int v2, .ref (p 0)], me_w (lw M L) J)) rfl k
        obtain ⟨d1, o1, ed, kc, k⟩ := lz_c (g := 180) (q := 1) (vs := [.ref (p 0), .int v2, .int (Int32.ofInt 2)]) (rest := []) rfl rfl (by decide) (Or.inr (Or.inl ⟨_, rfl, rfl⟩)) rfl k
        have e1 := xt180 (xs_lp hp) kc
        subst e1
        have k : nt_rn X _ 190 (28, [(0, .ref (p 0)), (1, .int v1), (2, .int v2)], [.int (x180 p v2 (Int32.ofInt 2) J)], me_w (lw M L) J) _ := k
        have k := ly_revb 1 (c' := (29, [(0, .ref (p 0)), (1, .int v1), (2, .int v2)], [.ref (p 0), .int (x180 p v2 (Int32.ofInt 2) J)], me_w (lw M L) J)) rfl k
        have k := lz_get (a := (p 0)) (g := 1127) (M := me_w (lw M L) J) (v := .ref (p 4)) rfl (nt_gfR rfl (hp.1 (0, 27, 4) (by decide))) k
        have k := ly_revb 1 (c' := (33, [(0, .ref (p 0)), (1, .int v1), (2, .int v2)], [.int (Int32.ofInt 4), .ref (p 4), .int (x180 p v2 (Int32.ofInt 2) J)], me_w (lw M L) J)) rfl k
        have k := mx_iald (v := J (p 4) 4) rfl (hp.2.2.1 4 (by omega)) ((congrArg (J (p 4)) (show (Int32.ofInt 4).toNatClampNeg = 4 from rfl)).trans (rfl)) k
        have k := ly_revb 1 (c' := (if (x180 p v2 (Int32.ofInt 2) J) = (J (p 4) 4) then 37 else 42, [(0, .ref (p 0)), (1, .int v1), (2, .int v2)], [], me_w (lw M L) J)) rfl k
        by_cases h34 : (x180 p v2 (Int32.ofInt 2) J) = (J (p 4) 4)
        · rw [if_pos h34] at k
          have k := ly_revb 2 (c' := (39, [(0, .ref (p 0)), (1, .int v1), (2, .int v2)], [.int v2, .ref (p 0)], me_w (lw M L) J)) rfl k
          obtain ⟨d1, o1, ed, kc, k⟩ := lz_c (g := 191) (q := 1) (vs := [.ref (p 0), .int v2]) (rest := []) rfl rfl (by decide) (Or.inr (Or.inl ⟨_, rfl, rfl⟩)) rfl k
          have e1 := xt191 (xs_lp hp) hc.1 kc
          subst e1
          have k : nt_rn X _ 190 (42, [(0, .ref (p 0)), (1, .int v1), (2, .int v2)], [], me_w (lw M L) (x191 p v2 J)) _ := k
          have k := ly_revb 2 (c' := (2, [(2, .int (v2 + (Int32.ofInt 1))), (0, .ref (p 0)), (1, .int v1)], [], me_w (lw M L) (x191 p v2 J))) rfl k
          have k := nt_rn_w (a := [(2, .int (v2 + (Int32.ofInt 1))), (0, .ref (p 0)), (1, .int v1)]) (b := [(0, .ref (p 0)), (1, .int v1), (2, .int (v2 + (Int32.ofInt 1)))]) ⟨rfl, rfl, rfl, trivial⟩ rfl k
          have k := ih (v2 + (Int32.ofInt 1)) (x191 p v2 J) (xk_pa (by omega) (xw_191 hc.1 (xi_l7 hc.1 h9 hc.2.1)) h9 hc.2.1 hc.2.2) k
          rw [k, x190_2, if_neg h9, if_pos h19, if_pos h34]
        · rw [if_neg h34] at k
          have k := ly_revb 2 (c' := (2, [(2, .int (v2 + (Int32.ofInt 1))), (0, .ref (p 0)), (1, .int v1)], [], me_w (lw M L) J)) rfl k
          have k := nt_rn_w (a := [(2, .int (v2 + (Int32.ofInt 1))), (0, .ref (p 0)), (1, .int v1)]) (b := [(0, .ref (p 0)), (1, .int v1), (2, .int (v2 + (Int32.ofInt 1)))]) ⟨rfl, rfl, rfl, trivial⟩ rfl k
          have k := ih (v2 + (Int32.ofInt 1)) J (xk_dec hc.1 h9 hc.2.1 hc.2.2) k
          rw [k, x190_2, if_neg h9, if_pos h19, if_neg h34]
      · rw [if_neg h19] at k
        have k := ly_revb 2 (c' := (2, [(2, .int (v2 + (Int32.ofInt 1))), (0, .ref (p 0)), (1, .int v1)], [], me_w (lw M L) J)) rfl k
        have k := nt_rn_w (a := [(2, .int (v2 + (Int32.ofInt 1))), (0, .ref (p 0)), (1, .int v1)]) (b := [(0, .ref (p 0)), (1, .int v1), (2, .int (v2 + (Int32.ofInt 1)))]) ⟨rfl, rfl, rfl, trivial⟩ rfl k
        have k := ih (v2 + (Int32.ofInt 1)) J (xk_dec hc.1 h9 hc.2.1 hc.2.2) k
        rw [k, x190_2, if_neg h9, if_neg h19]
theorem x190_2_rule {p : Nat → Nat} {v1 : Int32} {L : Nat → Nat → Int64} {I : Nat → Int32 → (Nat → Nat → Int32) → Prop} {Q : (Nat → Nat → Int32) × (Nat → Nat → Int64) → Prop} (h0 : ∀ (v2 : Int32) (J : Nat → Nat → Int32), I 0 v2 J → Q (x190_50 p v1 ((J (p 4) 3).toNatClampNeg) (Int32.ofInt 0) J L)) (h1 : ∀ (c : Nat) (v2 : Int32) (J : Nat → Nat → Int32), I (c + 1) v2 J →
    if (J (p 4) 3) ≤ v2 then (Q (x190_50 p v1 ((J (p 4) 3).toNatClampNeg) (Int32.ofInt 0) J L))
    else if (x180 p v2 (Int32.ofInt 4) J) = (Int32.ofInt 1) then if (x180 p v2 (Int32.ofInt 2) J) = (J (p 4) 4) then (I c (v2 + (Int32.ofInt 1)) (x191 p v2 J))
        else (I c (v2 + (Int32.ofInt 1)) J)
      else (I c (v2 + (Int32.ofInt 1)) J)) : ∀ (c : Nat) (v2 : Int32) (J : Nat → Nat → Int32), I c v2 J → Q (x190_2 p v1 L c v2 J) := by
  intro c
  induction c with
  | zero =>
    intro v2 J hi
    rw [x190_2]
    exact h0 v2 J hi
  | succ c ih =>
    intro v2 J hi
    have hi := h1 c v2 J hi
    rw [x190_2]
    by_cases h : (J (p 4) 3) ≤ v2
    · rw [if_pos h] at hi ⊢
      exact hi
    · rw [if_neg h] at hi ⊢
      by_cases h : (x180 p v2 (Int32.ofInt 4) J) = (Int32.ofInt 1)
      · rw [if_pos h] at hi ⊢
        by_cases h : (x180 p v2 (Int32.ofInt 2) J) = (J (p 4) 4)
        · rw [if_pos h] at hi ⊢
          exact ih _ _ hi
        · rw [if_neg h] at hi ⊢
          exact ih _ _ hi
      · rw [if_neg h] at hi ⊢
        exact ih _ _ hi
def x190 (p : Nat → Nat) (v1 : Int32) (J : Nat → Nat → Int32) (L : Nat → Nat → Int64) : (Nat → Nat → Int32) × (Nat → Nat → Int64) := (x190_2 p v1 L ((J (p 4) 3).toNatClampNeg) (Int32.ofInt 0) J)
theorem xt190 {X : nt_X} {d : Nat} {M : nt_M} {o : Option Value × nt_M} {p : Nat → Nat} {v1 : Int32} {J : Nat → Nat → Int32} {L : Nat → Nat → Int64} (hp : xs_P M p) (hw : xr_W (J (p 4))) (k : nt_ev X d 190 [.ref (p 0), .int v1] (me_w (lw M L) J) o) : o = (none, me_w (lw M ((x190 p v1 J L).2)) ((x190 p v1 J L).1)) := by
  have k : nt_rn X d 190 (0, [(0, .ref (p 0)), (1, .int v1)], [], me_w (lw M L) J) o := k
  have k := ly_revb 2 (c' := (2, [(2, .int (Int32.ofInt 0)), (0, .ref (p 0)), (1, .int v1)], [], me_w (lw M L) J)) rfl k
  have k := nt_rn_w (a := [(2, .int (Int32.ofInt 0)), (0, .ref (p 0)), (1, .int v1)]) (b := [(0, .ref (p 0)), (1, .int v1), (2, .int (Int32.ofInt 0))]) ⟨rfl, rfl, rfl, trivial⟩ rfl k
  have k := xt190_2 hp  ((J (p 4) 3).toNatClampNeg) (Int32.ofInt 0) J (⟨hw, by decide, lx_beg (by decide)⟩) k
  rw [k, x190]
theorem x190_108_frJ {p : Nat → Nat} {L : Nat → Nat → Int64} {b : Nat} : ∀ (c : Nat) (v2 : Int32) (J : Nat → Nat → Int32), b ≠ p 0 → b ≠ p 4 → (x190_108 p L c v2 J).1 b = J b := by
  intro c
  induction c with
  | zero =>
    intro v2 J n0 n1
    rw [x190_108]
    all_goals first | (dsimp only; exact (show (nt_u (nt_u J (p 4) 4 ((J (p 4) 4) + (Int32.ofInt 1))) (p 4) 6 (Int32.ofInt 0)) b = J b from (mu_o n1).trans (mu_o n1))) | exact (show (nt_u (nt_u J (p 4) 4 ((J (p 4) 4) + (Int32.ofInt 1))) (p 4) 6 (Int32.ofInt 0)) b = J b from (mu_o n1).trans (mu_o n1))
  | succ c ih =>
    intro v2 J n0 n1
    rw [x190_108]
    by_cases h : (J (p 4) 1) ≤ v2
    · rw [if_pos h]
      all_goals first | (dsimp only; exact (show (nt_u (nt_u J (p 4) 4 ((J (p 4) 4) + (Int32.ofInt 1))) (p 4) 6 (Int32.ofInt 0)) b = J b from (mu_o n1).trans (mu_o n1))) | exact (show (nt_u (nt_u J (p 4) 4 ((J (p 4) 4) + (Int32.ofInt 1))) (p 4) 6 (Int32.ofInt 0)) b = J b from (mu_o n1).trans (mu_o n1))
    · rw [if_neg h]
      by_cases h : (x169 p v2 (Int32.ofInt 4) J) = (Int32.ofInt 1)
      · rw [if_pos h]
        exact (ih _ _ n0 n1).trans (x202_frJ  n1)
      · rw [if_neg h]
        exact (ih _ _ n0 n1).trans (rfl)
theorem x190_50_frJ {p : Nat → Nat} {v1 : Int32} {b : Nat} : ∀ (c : Nat) (v2 : Int32) (J : Nat → Nat → Int32) (L : Nat → Nat → Int64), b ≠ p 0 → b ≠ p 4 → (x190_50 p v1 c v2 J L).1 b = J b := by
  intro c
  induction c with
  | zero =>
    intro v2 J L n0 n1
    rw [x190_50]
    exact (x190_108_frJ _ _ _ n0 n1).trans (rfl)
  | succ c ih =>
    intro v2 J L n0 n1
    rw [x190_50]
    by_cases h : (J (p 4) 3) ≤ v2
    · rw [if_pos h]
      exact (x190_108_frJ _ _ _ n0 n1).trans (rfl)
    · rw [if_neg h]
      by_cases h : (x180 p v2 (Int32.ofInt 1) J) = (J (p 4) 4)
      · rw [if_pos h]
        by_cases h : (x182 p (x180 p v2 (Int32.ofInt 0) J) J) = 0
        · rw [if_pos h]
          exact (ih _ _ _ n0 n1).trans (rfl)
        · rw [if_neg h]
          exact (ih _ _ _ n0 n1).trans (x192_frJ  n0 n1)
      · rw [if_neg h]
        exact (ih _ _ _ n0 n1).trans (rfl)
theorem x190_2_frJ {p : Nat → Nat} {v1 : Int32} {L : Nat → Nat → Int64} {b : Nat} : ∀ (c : Nat) (v2 : Int32) (J : Nat → Nat → Int32), b ≠ p 0 → b ≠ p 4 → (x190_2 p v1 L c v2 J).1 b = J b := by
  intro c
  induction c with
  | zero =>
    intro v2 J n0 n1
    rw [x190_2]
    exact (x190_50_frJ _ _ _ _ n0 n1).trans (rfl)
  | succ c ih =>
    intro v2 J n0 n1
    rw [x190_2]
    by_cases h : (J (p 4) 3) ≤ v2
    · rw [if_pos h]
      exact (x190_50_frJ _ _ _ _ n0 n1).trans (rfl)
    · rw [if_neg h]
      by_cases h : (x180 p v2 (Int32.ofInt 4) J) = (Int32.ofInt 1)
      · rw [if_pos h]
        by_cases h : (x180 p v2 (Int32.ofInt 2) J) = (J (p 4) 4)
        · rw [if_pos h]
          exact (ih _ _ n0 n1).trans (x191_frJ  n1)
        · rw [if_neg h]
          exact (ih _ _ n0 n1).trans (rfl)
      · rw [if_neg h]
        exact (ih _ _ n0 n1).trans (rfl)
theorem x190_frJ {p : Nat → Nat} {v1 : Int32} {J : Nat → Nat → Int32} {L : Nat → Nat → Int64} {b : Nat} (n0 : b ≠ p 0) (n1 : b ≠ p 4) : (x190 p v1 J L).1 b = J b := by
  unfold x190
  exact (x190_2_frJ _ _ _ n0 n1).trans (rfl)
end
section
/-! calls of one state -/
theorem xs_x31 {M : nt_M} {p : Nat → Nat} (hp : xs_P M p) : xs_X p (fun i => p (31 + i)) := fun i j hi hj => hp.2.1 (31 + i) j (by omega) (by omega) (by omega)
theorem xs_x48 {M : nt_M} {p : Nat → Nat} (hp : xs_P M p) : xs_X p (fun i => p (48 + i)) := fun i j hi hj => hp.2.1 (48 + i) j (by omega) (by omega) (by omega)
/-! Model.in -/
def x145 (v0 : Int64) (v2 : Int64) (v4 : Int64) : Int32 := if (lg_cmp v0 v2) < 0 then (Int32.ofInt 0)
  else if 0 < (lg_cmp v0 v4) then (Int32.ofInt 0)
    else (Int32.ofInt 1)
theorem xt145 {X : nt_X} {d : Nat} {M : nt_M} {o : Option Value × nt_M} {v0 : Int64} {v2 : Int64} {v4 : Int64} {J : Nat → Nat → Int32}  (k : nt_ev X d 145 [.long v0, .long v2, .long v4] (me_w M J) o) : o = (some (.int (x145 v0 v2 v4)), me_w M J) := by
  have k : nt_rn X d 145 (0, [(0, .long v0), (2, .long v2), (4, .long v4)], [], me_w M J) o := k
  have k := ly_revb 4 (c' := (if (lg_cmp v0 v2) < 0 then 17 else 6, [(0, .long v0), (2, .long v2), (4, .long v4)], [], me_w M J)) rfl k
  by_cases h3 : (lg_cmp v0 v2) < 0
  · rw [if_pos h3] at k
    have k := ly_revb 1 (c' := (18, [(0, .long v0), (2, .long v2), (4, .long v4)], [.int (Int32.ofInt 0)], me_w M J)) rfl k
    have k := lz_ri rfl (by decide) k
    rw [k, x145, if_pos h3]
  · rw [if_neg h3] at k
    have k := ly_revb 4 (c' := (if 0 < (lg_cmp v0 v4) then 17 else 13, [(0, .long v0), (2, .long v2), (4, .long v4)], [], me_w M J)) rfl k
    by_cases h10 : 0 < (lg_cmp v0 v4)
    · rw [if_pos h10] at k
      have k := ly_revb 1 (c' := (18, [(0, .long v0), (2, .long v2), (4, .long v4)], [.int (Int32.ofInt 0)], me_w M J)) rfl k
      have k := lz_ri rfl (by decide) k
      rw [k, x145, if_neg h3, if_pos h10]
    · rw [if_neg h10] at k
      have k := ly_revb 2 (c' := (18, [(0, .long v0), (2, .long v2), (4, .long v4)], [.int (Int32.ofInt 1)], me_w M J)) rfl k
      have k := lz_ri rfl (by decide) k
      rw [k, x145, if_neg h3, if_neg h10]
/-! Model.isPlank -/
def x177 (p : Nat → Nat) (v1 : Int32) (J : Nat → Nat → Int32) : Int32 := if v1 < 0 then (Int32.ofInt 0)
  else if (J (p 4) 2) ≤ v1 then (Int32.ofInt 0)
    else (Int32.ofInt 1)
theorem xt177 {X : nt_X} {d : Nat} {M : nt_M} {o : Option Value × nt_M} {p : Nat → Nat} {v1 : Int32} {J : Nat → Nat → Int32} (hp : xs_P M p) (k : nt_ev X d 177 [.ref (p 0), .int v1] (me_w M J) o) : o = (some (.int (x177 p v1 J)), me_w M J) := by
  have k : nt_rn X d 177 (0, [(0, .ref (p 0)), (1, .int v1)], [], me_w M J) o := k
  have k := ly_revb 2 (c' := (if v1 < 0 then 18 else 4, [(0, .ref (p 0)), (1, .int v1)], [], me_w M J)) rfl k
  by_cases h1 : v1 < 0
  · rw [if_pos h1] at k
    have k := ly_revb 1 (c' := (19, [(0, .ref (p 0)), (1, .int v1)], [.int (Int32.ofInt 0)], me_w M J)) rfl k
    have k := lz_ri rfl (by decide) k
    rw [k, x177, if_pos h1]
  · rw [if_neg h1] at k
    have k := ly_revb 2 (c' := (6, [(0, .ref (p 0)), (1, .int v1)], [.ref (p 0), .int v1], me_w M J)) rfl k
    have k := lz_get (a := (p 0)) (g := 1127) (M := me_w M J) (v := .ref (p 4)) rfl (nt_gfR rfl (hp.1 (0, 27, 4) (by decide))) k
    have k := ly_revb 1 (c' := (10, [(0, .ref (p 0)), (1, .int v1)], [.int (Int32.ofInt 2), .ref (p 4), .int v1], me_w M J)) rfl k
    have k := mx_iald (v := J (p 4) 2) rfl (hp.2.2.1 4 (by omega)) ((congrArg (J (p 4)) (show (Int32.ofInt 2).toNatClampNeg = 2 from rfl)).trans (rfl)) k
    have k := ly_revb 1 (c' := (if (J (p 4) 2) ≤ v1 then 18 else 14, [(0, .ref (p 0)), (1, .int v1)], [], me_w M J)) rfl k
    by_cases h11 : (J (p 4) 2) ≤ v1
    · rw [if_pos h11] at k
      have k := ly_revb 1 (c' := (19, [(0, .ref (p 0)), (1, .int v1)], [.int (Int32.ofInt 0)], me_w M J)) rfl k
      have k := lz_ri rfl (by decide) k
      rw [k, x177, if_neg h1, if_pos h11]
    · rw [if_neg h11] at k
      have k := ly_revb 2 (c' := (19, [(0, .ref (p 0)), (1, .int v1)], [.int (Int32.ofInt 1)], me_w M J)) rfl k
      have k := lz_ri rfl (by decide) k
      rw [k, x177, if_neg h1, if_neg h11]
/-! Model.isVoyage -/
def x179 (p : Nat → Nat) (v1 : Int32) (J : Nat → Nat → Int32) : Int32 := if v1 < 0 then (Int32.ofInt 0)
  else if (J (p 4) 3) ≤ v1 then (Int32.ofInt 0)
    else (Int32.ofInt 1)
theorem xt179 {X : nt_X} {d : Nat} {M : nt_M} {o : Option Value × nt_M} {p : Nat → Nat} {v1 : Int32} {J : Nat → Nat → Int32} (hp : xs_P M p) (k : nt_ev X d 179 [.ref (p 0), .int v1] (me_w M J) o) : o = (some (.int (x179 p v1 J)), me_w M J) := by
  have k : nt_rn X d 179 (0, [(0, .ref (p 0)), (1, .int v1)], [], me_w M J) o := k
  have k := ly_revb 2 (c' := (if v1 < 0 then 18 else 4, [(0, .ref (p 0)), (1, .int v1)], [], me_w M J)) rfl k
  by_cases h1 : v1 < 0
  · rw [if_pos h1] at k
    have k := ly_revb 1 (c' := (19, [(0, .ref (p 0)), (1, .int v1)], [.int (Int32.ofInt 0)], me_w M J)) rfl k
    have k := lz_ri rfl (by decide) k
    rw [k, x179, if_pos h1]
  · rw [if_neg h1] at k
    have k := ly_revb 2 (c' := (6, [(0, .ref (p 0)), (1, .int v1)], [.ref (p 0), .int v1], me_w M J)) rfl k
    have k := lz_get (a := (p 0)) (g := 1127) (M := me_w M J) (v := .ref (p 4)) rfl (nt_gfR rfl (hp.1 (0, 27, 4) (by decide))) k
    have k := ly_revb 1 (c' := (10, [(0, .ref (p 0)), (1, .int v1)], [.int (Int32.ofInt 3), .ref (p 4), .int v1], me_w M J)) rfl k
    have k := mx_iald (v := J (p 4) 3) rfl (hp.2.2.1 4 (by omega)) ((congrArg (J (p 4)) (show (Int32.ofInt 3).toNatClampNeg = 3 from rfl)).trans (rfl)) k
    have k := ly_revb 1 (c' := (if (J (p 4) 3) ≤ v1 then 18 else 14, [(0, .ref (p 0)), (1, .int v1)], [], me_w M J)) rfl k
    by_cases h11 : (J (p 4) 3) ≤ v1
    · rw [if_pos h11] at k
      have k := ly_revb 1 (c' := (19, [(0, .ref (p 0)), (1, .int v1)], [.int (Int32.ofInt 0)], me_w M J)) rfl k
      have k := lz_ri rfl (by decide) k
      rw [k, x179, if_neg h1, if_pos h11]
    · rw [if_neg h11] at k
      have k := ly_revb 2 (c' := (19, [(0, .ref (p 0)), (1, .int v1)], [.int (Int32.ofInt 1)], me_w M J)) rfl k
      have k := lz_ri rfl (by decide) k
      rw [k, x179, if_neg h1, if_neg h11]
/-! Model.isShip -/
def x168 (p : Nat → Nat) (v1 : Int32) (J : Nat → Nat → Int32) : Int32 := if v1 < 0 then (Int32.ofInt 0)
  else if (J (p 4) 1) ≤ v1 then (Int32.ofInt 0)
    else (Int32.ofInt 1)
theorem xt168 {X : nt_X} {d : Nat} {M : nt_M} {o : Option Value × nt_M} {p : Nat → Nat} {v1 : Int32} {J : Nat → Nat → Int32} (hp : xs_P M p) (k : nt_ev X d 168 [.ref (p 0), .int v1] (me_w M J) o) : o = (some (.int (x168 p v1 J)), me_w M J) := by
  have k : nt_rn X d 168 (0, [(0, .ref (p 0)), (1, .int v1)], [], me_w M J) o := k
  have k := ly_revb 2 (c' := (if v1 < 0 then 18 else 4, [(0, .ref (p 0)), (1, .int v1)], [], me_w M J)) rfl k
  by_cases h1 : v1 < 0
  · rw [if_pos h1] at k
    have k := ly_revb 1 (c' := (19, [(0, .ref (p 0)), (1, .int v1)], [.int (Int32.ofInt 0)], me_w M J)) rfl k
    have k := lz_ri rfl (by decide) k
    rw [k, x168, if_pos h1]
  · rw [if_neg h1] at k
    have k := ly_revb 2 (c' := (6, [(0, .ref (p 0)), (1, .int v1)], [.ref (p 0), .int v1], me_w M J)) rfl k
    have k := lz_get (a := (p 0)) (g := 1127) (M := me_w M J) (v := .ref (p 4)) rfl (nt_gfR rfl (hp.1 (0, 27, 4) (by decide))) k
    have k := ly_revb 1 (c' := (10, [(0, .ref (p 0)), (1, .int v1)], [.int (Int32.ofInt 1), .ref (p 4), .int v1], me_w M J)) rfl k
    have k := mx_iald (v := J (p 4) 1) rfl (hp.2.2.1 4 (by omega)) ((congrArg (J (p 4)) (show (Int32.ofInt 1).toNatClampNeg = 1 from rfl)).trans (rfl)) k
    have k := ly_revb 1 (c' := (if (J (p 4) 1) ≤ v1 then 18 else 14, [(0, .ref (p 0)), (1, .int v1)], [], me_w M J)) rfl k
    by_cases h11 : (J (p 4) 1) ≤ v1
    · rw [if_pos h11] at k
      have k := ly_revb 1 (c' := (19, [(0, .ref (p 0)), (1, .int v1)], [.int (Int32.ofInt 0)], me_w M J)) rfl k
      have k := lz_ri rfl (by decide) k
      rw [k, x168, if_neg h1, if_pos h11]
    · rw [if_neg h11] at k
      have k := ly_revb 2 (c' := (19, [(0, .ref (p 0)), (1, .int v1)], [.int (Int32.ofInt 1)], me_w M J)) rfl k
      have k := lz_ri rfl (by decide) k
      rw [k, x168, if_neg h1, if_neg h11]
/-! Model.plank -/
def x176 (p : Nat → Nat) (v1 : Int32) (v2 : Int32) (J : Nat → Nat → Int32) : Int32 := if (x177 p v1 J) = 0 then (Int32.ofInt (-2))
  else if (x145 v2.toInt64 (Int64.ofNat 0) 4) = 0 then (Int32.ofInt (-2))
    else (x173 p v1 v2 J)
theorem xt176 {X : nt_X} {d : Nat} {M : nt_M} {o : Option Value × nt_M} {p : Nat → Nat} {v1 : Int32} {v2 : Int32} {J : Nat → Nat → Int32} (hp : xs_P M p) (k : nt_ev X d 176 [.ref (p 0), .int v1, .int v2] (me_w M J) o) : o = (some (.int (x176 p v1 v2 J)), me_w M J) := by
  have k : nt_rn X d 176 (0, [(0, .ref (p 0)), (1, .int v1), (2, .int v2)], [], me_w M J) o := k
  have k := ly_revb 2 (c' := (2, [(0, .ref (p 0)), (1, .int v1), (2, .int v2)], [.int v1, .ref (p 0)], me_w M J)) rfl k
  obtain ⟨d1, o1, ed, kc, k⟩ := lz_c (g := 177) (q := 1) (vs := [.ref (p 0), .int v1]) (rest := []) rfl rfl (by decide) (Or.inr (Or.inl ⟨_, rfl, rfl⟩)) rfl k
  have e1 := xt177 hp kc
  subst e1
  have k : nt_rn X _ 176 (5, [(0, .ref (p 0)), (1, .int v1), (2, .int v2)], [.int (x177 p v1 J)], me_w M J) _ := k
  have k := ly_revb 1 (c' := (if (x177 p v1 J) = 0 then 29 else 8, [(0, .ref (p 0)), (1, .int v1), (2, .int v2)], [], me_w M J)) rfl k
  by_cases h5 : (x177 p v1 J) = 0
  · rw [if_pos h5] at k
    have k := ly_revb 1 (c' := (31, [(0, .ref (p 0)), (1, .int v1), (2, .int v2)], [.int (Int32.ofInt (-2))], me_w M J)) rfl k
    have k := lz_ri rfl (by decide) k
    rw [k, x176, if_pos h5]
  · rw [if_neg h5] at k
    have k := ly_revb 4 (c' := (14, [(0, .ref (p 0)), (1, .int v1), (2, .int v2)], [.long 4, .long (Int64.ofNat 0), .long v2.toInt64], me_w M J)) rfl k
    obtain ⟨d1, o1, ed, kc, k⟩ := lz_c (g := 145) (q := 0) (vs := [.long v2.toInt64, .long (Int64.ofNat 0), .long 4]) (rest := []) rfl rfl (by decide) (Or.inl ⟨_, rfl, rfl⟩) rfl k
    have e1 := xt145  kc
    subst e1
    have k : nt_rn X _ 176 (17, [(0, .ref (p 0)), (1, .int v1), (2, .int v2)], [.int (x145 v2.toInt64 (Int64.ofNat 0) 4)], me_w M J) _ := k
    have k := ly_revb 1 (c' := (if (x145 v2.toInt64 (Int64.ofNat 0) 4) = 0 then 29 else 20, [(0, .ref (p 0)), (1, .int v1), (2, .int v2)], [], me_w M J)) rfl k
    by_cases h17 : (x145 v2.toInt64 (Int64.ofNat 0) 4) = 0
    · rw [if_pos h17] at k
      have k := ly_revb 1 (c' := (31, [(0, .ref (p 0)), (1, .int v1), (2, .int v2)], [.int (Int32.ofInt (-2))], me_w M J)) rfl k
      have k := lz_ri rfl (by decide) k
      rw [k, x176, if_neg h5, if_pos h17]
    · rw [if_neg h17] at k
      have k := ly_revb 3 (c' := (23, [(0, .ref (p 0)), (1, .int v1), (2, .int v2)], [.int v2, .int v1, .ref (p 0)], me_w M J)) rfl k
      obtain ⟨d1, o1, ed, kc, k⟩ := lz_c (g := 173) (q := 1) (vs := [.ref (p 0), .int v1, .int v2]) (rest := []) rfl rfl (by decide) (Or.inr (Or.inl ⟨_, rfl, rfl⟩)) rfl k
      have e1 := xt173 hp kc
      subst e1
      have k : nt_rn X _ 176 (26, [(0, .ref (p 0)), (1, .int v1), (2, .int v2)], [.int (x173 p v1 v2 J)], me_w M J) _ := k
      have k := ly_revb 1 (c' := (31, [(0, .ref (p 0)), (1, .int v1), (2, .int v2)], [.int (x173 p v1 v2 J)], me_w M J)) rfl k
      have k := lz_ri rfl (by decide) k
      rw [k, x176, if_neg h5, if_neg h17]
/-! Model.voyage -/
def x178 (p : Nat → Nat) (v1 : Int32) (v2 : Int32) (J : Nat → Nat → Int32) : Int32 := if (x179 p v1 J) = 0 then (Int32.ofInt (-1))
  else if (x145 v2.toInt64 (Int64.ofNat 0) 4) = 0 then (Int32.ofInt (-1))
    else (x180 p v1 v2 J)
theorem xt178 {X : nt_X} {d : Nat} {M : nt_M} {o : Option Value × nt_M} {p : Nat → Nat} {v1 : Int32} {v2 : Int32} {J : Nat → Nat → Int32} (hp : xs_P M p) (k : nt_ev X d 178 [.ref (p 0), .int v1, .int v2] (me_w M J) o) : o = (some (.int (x178 p v1 v2 J)), me_w M J) := by
  have k : nt_rn X d 178 (0, [(0, .ref (p 0)), (1, .int v1), (2, .int v2)], [], me_w M J) o := k
  have k := ly_revb 2 (c' := (2, [(0, .ref (p 0)), (1, .int v1), (2, .int v2)], [.int v1, .ref (p 0)], me_w M J)) rfl k
  obtain ⟨d1, o1, ed, kc, k⟩ := lz_c (g := 179) (q := 1) (vs := [.ref (p 0), .int v1]) (rest := []) rfl rfl (by decide) (Or.inr (Or.inl ⟨_, rfl, rfl⟩)) rfl k
  have e1 := xt179 hp kc
  subst e1
  have k : nt_rn X _ 178 (5, [(0, .ref (p 0)), (1, .int v1), (2, .int v2)], [.int (x179 p v1 J)], me_w M J) _ := k
  have k := ly_revb 1 (c' := (if (x179 p v1 J) = 0 then 29 else 8, [(0, .ref (p 0)), (1, .int v1), (2, .int v2)], [], me_w M J)) rfl k
  by_cases h5 : (x179 p v1 J) = 0
  · rw [if_pos h5] at k
    have k := ly_revb 1 (c' := (30, [(0, .ref (p 0)), (1, .int v1), (2, .int v2)], [.int (Int32.ofInt (-1))], me_w M J)) rfl k
    have k := lz_ri rfl (by decide) k
    rw [k, x178, if_pos h5]
  · rw [if_neg h5] at k
    have k := ly_revb 4 (c' := (14, [(0, .ref (p 0)), (1, .int v1), (2, .int v2)], [.long 4, .long (Int64.ofNat 0), .long v2.toInt64], me_w M J)) rfl k
    obtain ⟨d1, o1, ed, kc, k⟩ := lz_c (g := 145) (q := 0) (vs := [.long v2.toInt64, .long (Int64.ofNat 0), .long 4]) (rest := []) rfl rfl (by decide) (Or.inl ⟨_, rfl, rfl⟩) rfl k
    have e1 := xt145  kc
    subst e1
    have k : nt_rn X _ 178 (17, [(0, .ref (p 0)), (1, .int v1), (2, .int v2)], [.int (x145 v2.toInt64 (Int64.ofNat 0) 4)], me_w M J) _ := k
    have k := ly_revb 1 (c' := (if (x145 v2.toInt64 (Int64.ofNat 0) 4) = 0 then 29 else 20, [(0, .ref (p 0)), (1, .int v1), (2, .int v2)], [], me_w M J)) rfl k
    by_cases h17 : (x145 v2.toInt64 (Int64.ofNat 0) 4) = 0
    · rw [if_pos h17] at k
      have k := ly_revb 1 (c' := (30, [(0, .ref (p 0)), (1, .int v1), (2, .int v2)], [.int (Int32.ofInt (-1))], me_w M J)) rfl k
      have k := lz_ri rfl (by decide) k
      rw [k, x178, if_neg h5, if_pos h17]
    · rw [if_neg h17] at k
      have k := ly_revb 3 (c' := (23, [(0, .ref (p 0)), (1, .int v1), (2, .int v2)], [.int v2, .int v1, .ref (p 0)], me_w M J)) rfl k
      obtain ⟨d1, o1, ed, kc, k⟩ := lz_c (g := 180) (q := 1) (vs := [.ref (p 0), .int v1, .int v2]) (rest := []) rfl rfl (by decide) (Or.inr (Or.inl ⟨_, rfl, rfl⟩)) rfl k
      have e1 := xt180 hp kc
      subst e1
      have k : nt_rn X _ 178 (26, [(0, .ref (p 0)), (1, .int v1), (2, .int v2)], [.int (x180 p v1 v2 J)], me_w M J) _ := k
      have k := ly_revb 1 (c' := (30, [(0, .ref (p 0)), (1, .int v1), (2, .int v2)], [.int (x180 p v1 v2 J)], me_w M J)) rfl k
      have k := lz_ri rfl (by decide) k
      rw [k, x178, if_neg h5, if_neg h17]
/-! Model.move -/
def x181 (p : Nat → Nat) (v1 : Int32) (v2 : Int32) (J : Nat → Nat → Int32) : Int32 × (Nat → Nat → Int32) := if (x177 p v1 J) = 0 then (Int32.ofInt 0, J)
  else if v2 = (Int32.ofInt (-1)) then if (x183 p v1 J) = 0 then (Int32.ofInt 0, J)
      else if (x173 p v1 (Int32.ofInt 3) J) = v2 then (Int32.ofInt 0, J)
        else if (x184 p J) = 0 then (Int32.ofInt 0, J)
          else (Int32.ofInt 1, x185 p v1 v2 J)
    else if (x168 p v2 J) = 0 then (Int32.ofInt 0, J)
      else if (x182 p v2 J) = 0 then (Int32.ofInt 0, J)
        else if (x183 p v1 J) = 0 then (Int32.ofInt 0, J)
          else if (x173 p v1 (Int32.ofInt 3) J) = v2 then (Int32.ofInt 0, J)
            else if (x184 p J) = 0 then (Int32.ofInt 0, J)
              else (Int32.ofInt 1, x185 p v1 v2 J)
theorem xt181 {X : nt_X} {d : Nat} {M : nt_M} {o : Option Value × nt_M} {p : Nat → Nat} {v1 : Int32} {v2 : Int32} {J : Nat → Nat → Int32} (hp : xs_P M p) (k : nt_ev X d 181 [.ref (p 0), .int v1, .int v2] (me_w M J) o) : o = (some (.int ((x181 p v1 v2 J).1)), me_w M ((x181 p v1 v2 J).2)) := by
  have k : nt_rn X d 181 (0, [(0, .ref (p 0)), (1, .int v1), (2, .int v2)], [], me_w M J) o := k
  have k := ly_revb 2 (c' := (2, [(0, .ref (p 0)), (1, .int v1), (2, .int v2)], [.int v1, .ref (p 0)], me_w M J)) rfl k
  obtain ⟨d1, o1, ed, kc, k⟩ := lz_c (g := 177) (q := 1) (vs := [.ref (p 0), .int v1]) (rest := []) rfl rfl (by decide) (Or.inr (Or.inl ⟨_, rfl, rfl⟩)) rfl k
  have e1 := xt177 hp kc
  subst e1
  have k : nt_rn X _ 181 (5, [(0, .ref (p 0)), (1, .int v1), (2, .int v2)], [.int (x177 p v1 J)], me_w M J) _ := k
  have k := ly_revb 1 (c' := (if (x177 p v1 J) = 0 then 54 else 8, [(0, .ref (p 0)), (1, .int v1), (2, .int v2)], [], me_w M J)) rfl k
  by_cases h5 : (x177 p v1 J) = 0
  · rw [if_pos h5] at k
    have k := ly_revb 1 (c' := (55, [(0, .ref (p 0)), (1, .int v1), (2, .int v2)], [.int (Int32.ofInt 0)], me_w M J)) rfl k
    have k := lz_ri rfl (by decide) k
    rw [k, x181, if_pos h5]
  · rw [if_neg h5] at k
    have k := ly_revb 3 (c' := (if v2 = (Int32.ofInt (-1)) then 29 else 13, [(0, .ref (p 0)), (1, .int v1), (2, .int v2)], [], me_w M J)) rfl k
    by_cases h10 : v2 = (Int32.ofInt (-1))
    · rw [if_pos h10] at k
      have k := ly_revb 2 (c' := (31, [(0, .ref (p 0)), (1, .int v1), (2, .int v2)], [.int v1, .ref (p 0)], me_w M J)) rfl k
      obtain ⟨d1, o1, ed, kc, k⟩ := lz_c (g := 183) (q := 1) (vs := [.ref (p 0), .int v1]) (rest := []) rfl rfl (by decide) (Or.inr (Or.inl ⟨_, rfl, rfl⟩)) rfl k
      have e1 := xt183 hp kc
      subst e1
      have k : nt_rn X _ 181 (34, [(0, .ref (p 0)), (1, .int v1), (2, .int v2)], [.int (x183 p v1 J)], me_w M J) _ := k
      have k := ly_revb 1 (c' := (if (x183 p v1 J) = 0 then 54 else 37, [(0, .ref (p 0)), (1, .int v1), (2, .int v2)], [], me_w M J)) rfl k
      by_cases h34 : (x183 p v1 J) = 0
      · rw [if_pos h34] at k
        have k := ly_revb 1 (c' := (55, [(0, .ref (p 0)), (1, .int v1), (2, .int v2)], [.int (Int32.ofInt 0)], me_w M J)) rfl k
        have k := lz_ri rfl (by decide) k
        rw [k, x181, if_neg h5, if_pos h10, if_pos h34]
      · rw [if_neg h34] at k
        have k := ly_revb 3 (c' := (40, [(0, .ref (p 0)), (1, .int v1), (2, .int v2)], [.int (Int32.ofInt 3), .int v1, .ref (p 0)], me_w M J)) rfl k
        obtain ⟨d1, o1, ed, kc, k⟩ := lz_c (g := 173) (q := 1) (vs := [.ref (p 0), .int v1, .int (Int32.ofInt 3)]) (rest := []) rfl rfl (by decide) (Or.inr (Or.inl ⟨_, rfl, rfl⟩)) rfl k
        have e1 := xt173 hp kc
        subst e1
        have k : nt_rn X _ 181 (43, [(0, .ref (p 0)), (1, .int v1), (2, .int v2)], [.int (x173 p v1 (Int32.ofInt 3) J)], me_w M J) _ := k
        have k := ly_revb 2 (c' := (if (x173 p v1 (Int32.ofInt 3) J) = v2 then 54 else 47, [(0, .ref (p 0)), (1, .int v1), (2, .int v2)], [], me_w M J)) rfl k
        by_cases h44 : (x173 p v1 (Int32.ofInt 3) J) = v2
        · rw [if_pos h44] at k
          have k := ly_revb 1 (c' := (55, [(0, .ref (p 0)), (1, .int v1), (2, .int v2)], [.int (Int32.ofInt 0)], me_w M J)) rfl k
          have k := lz_ri rfl (by decide) k
          rw [k, x181, if_neg h5, if_pos h10, if_neg h34, if_pos h44]
        · rw [if_neg h44] at k
          have k := ly_revb 1 (c' := (48, [(0, .ref (p 0)), (1, .int v1), (2, .int v2)], [.ref (p 0)], me_w M J)) rfl k
          obtain ⟨d1, o1, ed, kc, k⟩ := lz_c (g := 184) (q := 1) (vs := [.ref (p 0)]) (rest := []) rfl rfl (by decide) (Or.inr (Or.inl ⟨_, rfl, rfl⟩)) rfl k
          have e1 := xt184 hp kc
          subst e1
          have k : nt_rn X _ 181 (51, [(0, .ref (p 0)), (1, .int v1), (2, .int v2)], [.int (x184 p J)], me_w M J) _ := k
          have k := ly_revb 1 (c' := (if (x184 p J) = 0 then 54 else 56, [(0, .ref (p 0)), (1, .int v1), (2, .int v2)], [], me_w M J)) rfl k
          by_cases h51 : (x184 p J) = 0
          · rw [if_pos h51] at k
            have k := ly_revb 1 (c' := (55, [(0, .ref (p 0)), (1, .int v1), (2, .int v2)], [.int (Int32.ofInt 0)], me_w M J)) rfl k
            have k := lz_ri rfl (by decide) k
            rw [k, x181, if_neg h5, if_pos h10, if_neg h34, if_neg h44, if_pos h51]
          · rw [if_neg h51] at k
            have k := ly_revb 3 (c' := (59, [(0, .ref (p 0)), (1, .int v1), (2, .int v2)], [.int v2, .int v1, .ref (p 0)], me_w M J)) rfl k
            obtain ⟨d1, o1, ed, kc, k⟩ := lz_c (g := 185) (q := 1) (vs := [.ref (p 0), .int v1, .int v2]) (rest := []) rfl rfl (by decide) (Or.inr (Or.inl ⟨_, rfl, rfl⟩)) rfl k
            have e1 := xt185 hp kc
            subst e1
            have k : nt_rn X _ 181 (62, [(0, .ref (p 0)), (1, .int v1), (2, .int v2)], [], me_w M (x185 p v1 v2 J)) _ := k
            have k := ly_revb 1 (c' := (63, [(0, .ref (p 0)), (1, .int v1), (2, .int v2)], [.int (Int32.ofInt 1)], me_w M (x185 p v1 v2 J))) rfl k
            have k := lz_ri rfl (by decide) k
            rw [k, x181, if_neg h5, if_pos h10, if_neg h34, if_neg h44, if_neg h51]
    · rw [if_neg h10] at k
      have k := ly_revb 2 (c' := (15, [(0, .ref (p 0)), (1, .int v1), (2, .int v2)], [.int v2, .ref (p 0)], me_w M J)) rfl k
      obtain ⟨d1, o1, ed, kc, k⟩ := lz_c (g := 168) (q := 1) (vs := [.ref (p 0), .int v2]) (rest := []) rfl rfl (by decide) (Or.inr (Or.inl ⟨_, rfl, rfl⟩)) rfl k
      have e1 := xt168 hp kc
      subst e1
      have k : nt_rn X _ 181 (18, [(0, .ref (p 0)), (1, .int v1), (2, .int v2)], [.int (x168 p v2 J)], me_w M J) _ := k
      have k := ly_revb 1 (c' := (if (x168 p v2 J) = 0 then 54 else 21, [(0, .ref (p 0)), (1, .int v1), (2, .int v2)], [], me_w M J)) rfl k
      by_cases h18 : (x168 p v2 J) = 0
      · rw [if_pos h18] at k
        have k := ly_revb 1 (c' := (55, [(0, .ref (p 0)), (1, .int v1), (2, .int v2)], [.int (Int32.ofInt 0)], me_w M J)) rfl k
        have k := lz_ri rfl (by decide) k
        rw [k, x181, if_neg h5, if_neg h10, if_pos h18]
      · rw [if_neg h18] at k
        have k := ly_revb 2 (c' := (23, [(0, .ref (p 0)), (1, .int v1), (2, .int v2)], [.int v2, .ref (p 0)], me_w M J)) rfl k
        obtain ⟨d1, o1, ed, kc, k⟩ := lz_c (g := 182) (q := 1) (vs := [.ref (p 0), .int v2]) (rest := []) rfl rfl (by decide) (Or.inr (Or.inl ⟨_, rfl, rfl⟩)) rfl k
        have e1 := xt182 hp kc
        subst e1
        have k : nt_rn X _ 181 (26, [(0, .ref (p 0)), (1, .int v1), (2, .int v2)], [.int (x182 p v2 J)], me_w M J) _ := k
        have k := ly_revb 1 (c' := (if (x182 p v2 J) = 0 then 54 else 29, [(0, .ref (p 0)), (1, .int v1), (2, .int v2)], [], me_w M J)) rfl k
        by_cases h26 : (x182 p v2 J) = 0
        · rw [if_pos h26] at k
          have k := ly_revb 1 (c' := (55, [(0, .ref (p 0)), (1, .int v1), (2, .int v2)], [.int (Int32.ofInt 0)], me_w M J)) rfl k
          have k := lz_ri rfl (by decide) k
          rw [k, x181, if_neg h5, if_neg h10, if_neg h18, if_pos h26]
        · rw [if_neg h26] at k
          have k := ly_revb 2 (c' := (31, [(0, .ref (p 0)), (1, .int v1), (2, .int v2)], [.int v1, .ref (p 0)], me_w M J)) rfl k
          obtain ⟨d1, o1, ed, kc, k⟩ := lz_c (g := 183) (q := 1) (vs := [.ref (p 0), .int v1]) (rest := []) rfl rfl (by decide) (Or.inr (Or.inl ⟨_, rfl, rfl⟩)) rfl k
          have e1 := xt183 hp kc
          subst e1
          have k : nt_rn X _ 181 (34, [(0, .ref (p 0)), (1, .int v1), (2, .int v2)], [.int (x183 p v1 J)], me_w M J) _ := k
          have k := ly_revb 1 (c' := (if (x183 p v1 J) = 0 then 54 else 37, [(0, .ref (p 0)), (1, .int v1), (2, .int v2)], [], me_w M J)) rfl k
          by_cases h34 : (x183 p v1 J) = 0
          · rw [if_pos h34] at k
            have k := ly_revb 1 (c' := (55, [(0, .ref (p 0)), (1, .int v1), (2, .int v2)], [.int (Int32.ofInt 0)], me_w M J)) rfl k
            have k := lz_ri rfl (by decide) k
            rw [k, x181, if_neg h5, if_neg h10, if_neg h18, if_neg h26, if_pos h34]
          · rw [if_neg h34] at k
            have k := ly_revb 3 (c' := (40, [(0, .ref (p 0)), (1, .int v1), (2, .int v2)], [.int (Int32.ofInt 3), .int v1, .ref (p 0)], me_w M J)) rfl k
            obtain ⟨d1, o1, ed, kc, k⟩ := lz_c (g := 173) (q := 1) (vs := [.ref (p 0), .int v1, .int (Int32.ofInt 3)]) (rest := []) rfl rfl (by decide) (Or.inr (Or.inl ⟨_, rfl, rfl⟩)) rfl k
            have e1 := xt173 hp kc
            subst e1
            have k : nt_rn X _ 181 (43, [(0, .ref (p 0)), (1, .int v1), (2, .int v2)], [.int (x173 p v1 (Int32.ofInt 3) J)], me_w M J) _ := k
            have k := ly_revb 2 (c' := (if (x173 p v1 (Int32.ofInt 3) J) = v2 then 54 else 47, [(0, .ref (p 0)), (1, .int v1), (2, .int v2)], [], me_w M J)) rfl k
            by_cases h44 : (x173 p v1 (Int32.ofInt 3) J) = v2
            · rw [if_pos h44] at k
              have k := ly_revb 1 (c' := (55, [(0, .ref (p 0)), (1, .int v1), (2, .int v2)], [.int (Int32.ofInt 0)], me_w M J)) rfl k
              have k := lz_ri rfl (by decide) k
              rw [k, x181, if_neg h5, if_neg h10, if_neg h18, if_neg h26, if_neg h34, if_pos h44]
            · rw [if_neg h44] at k
              have k := ly_revb 1 (c' := (48, [(0, .ref (p 0)), (1, .int v1), (2, .int v2)], [.ref (p 0)], me_w M J)) rfl k
              obtain ⟨d1, o1, ed, kc, k⟩ := lz_c (g := 184) (q := 1) (vs := [.ref (p 0)]) (rest := []) rfl rfl (by decide) (Or.inr (Or.inl ⟨_, rfl, rfl⟩)) rfl k
              have e1 := xt184 hp kc
              subst e1
              have k : nt_rn X _ 181 (51, [(0, .ref (p 0)), (1, .int v1), (2, .int v2)], [.int (x184 p J)], me_w M J) _ := k
              have k := ly_revb 1 (c' := (if (x184 p J) = 0 then 54 else 56, [(0, .ref (p 0)), (1, .int v1), (2, .int v2)], [], me_w M J)) rfl k
              by_cases h51 : (x184 p J) = 0
              · rw [if_pos h51] at k
                have k := ly_revb 1 (c' := (55, [(0, .ref (p 0)), (1, .int v1), (2, .int v2)], [.int (Int32.ofInt 0)], me_w M J)) rfl k
                have k := lz_ri rfl (by decide) k
                rw [k, x181, if_neg h5, if_neg h10, if_neg h18, if_neg h26, if_neg h34, if_neg h44, if_pos h51]
              · rw [if_neg h51] at k
                have k := ly_revb 3 (c' := (59, [(0, .ref (p 0)), (1, .int v1), (2, .int v2)], [.int v2, .int v1, .ref (p 0)], me_w M J)) rfl k
                obtain ⟨d1, o1, ed, kc, k⟩ := lz_c (g := 185) (q := 1) (vs := [.ref (p 0), .int v1, .int v2]) (rest := []) rfl rfl (by decide) (Or.inr (Or.inl ⟨_, rfl, rfl⟩)) rfl k
                have e1 := xt185 hp kc
                subst e1
                have k : nt_rn X _ 181 (62, [(0, .ref (p 0)), (1, .int v1), (2, .int v2)], [], me_w M (x185 p v1 v2 J)) _ := k
                have k := ly_revb 1 (c' := (63, [(0, .ref (p 0)), (1, .int v1), (2, .int v2)], [.int (Int32.ofInt 1)], me_w M (x185 p v1 v2 J))) rfl k
                have k := lz_ri rfl (by decide) k
                rw [k, x181, if_neg h5, if_neg h10, if_neg h18, if_neg h26, if_neg h34, if_neg h44, if_neg h51]
theorem x181_frJ {p : Nat → Nat} {v1 : Int32} {v2 : Int32} {J : Nat → Nat → Int32} {b : Nat} (n0 : b ≠ p 4) : (x181 p v1 v2 J).2 b = J b := by
  unfold x181
  by_cases h : (x177 p v1 J) = 0
  · rw [if_pos h]
    all_goals first | (dsimp only; exact (show J b = J b from rfl)) | exact (show J b = J b from rfl)
  · rw [if_neg h]
    by_cases h : v2 = (Int32.ofInt (-1))
    · rw [if_pos h]
      by_cases h : (x183 p v1 J) = 0
      · rw [if_pos h]
        all_goals first | (dsimp only; exact (show J b = J b from rfl)) | exact (show J b = J b from rfl)
      · rw [if_neg h]
        by_cases h : (x173 p v1 (Int32.ofInt 3) J) = v2
        · rw [if_pos h]
          all_goals first | (dsimp only; exact (show J b = J b from rfl)) | exact (show J b = J b from rfl)
        · rw [if_neg h]
          by_cases h : (x184 p J) = 0
          · rw [if_pos h]
            all_goals first | (dsimp only; exact (show J b = J b from rfl)) | exact (show J b = J b from rfl)
          · rw [if_neg h]
            all_goals first | (dsimp only; exact (show (x185 p v1 v2 J) b = J b from x185_frJ  n0)) | exact (show (x185 p v1 v2 J) b = J b from x185_frJ  n0)
    · rw [if_neg h]
      by_cases h : (x168 p v2 J) = 0
      · rw [if_pos h]
        all_goals first | (dsimp only; exact (show J b = J b from rfl)) | exact (show J b = J b from rfl)
      · rw [if_neg h]
        by_cases h : (x182 p v2 J) = 0
        · rw [if_pos h]
          all_goals first | (dsimp only; exact (show J b = J b from rfl)) | exact (show J b = J b from rfl)
        · rw [if_neg h]
          by_cases h : (x183 p v1 J) = 0
          · rw [if_pos h]
            all_goals first | (dsimp only; exact (show J b = J b from rfl)) | exact (show J b = J b from rfl)
          · rw [if_neg h]
            by_cases h : (x173 p v1 (Int32.ofInt 3) J) = v2
            · rw [if_pos h]
              all_goals first | (dsimp only; exact (show J b = J b from rfl)) | exact (show J b = J b from rfl)
            · rw [if_neg h]
              by_cases h : (x184 p J) = 0
              · rw [if_pos h]
                all_goals first | (dsimp only; exact (show J b = J b from rfl)) | exact (show J b = J b from rfl)
              · rw [if_neg h]
                all_goals first | (dsimp only; exact (show (x185 p v1 v2 J) b = J b from x185_frJ  n0)) | exact (show (x185 p v1 v2 J) b = J b from x185_frJ  n0)
/-! Model.isYard -/
def x188 (p : Nat → Nat) (J : Nat → Nat → Int32) : Int32 := if (J (p 4) 0) ≤ 0 then (Int32.ofInt 0)
  else (Int32.ofInt 1)
theorem xt188 {X : nt_X} {d : Nat} {M : nt_M} {o : Option Value × nt_M} {p : Nat → Nat} {J : Nat → Nat → Int32} (hp : xs_P M p) (k : nt_ev X d 188 [.ref (p 0)] (me_w M J) o) : o = (some (.int (x188 p J)), me_w M J) := by
  have k : nt_rn X d 188 (0, [(0, .ref (p 0))], [], me_w M J) o := k
  have k := ly_revb 1 (c' := (1, [(0, .ref (p 0))], [.ref (p 0)], me_w M J)) rfl k
  have k := lz_get (a := (p 0)) (g := 1127) (M := me_w M J) (v := .ref (p 4)) rfl (nt_gfR rfl (hp.1 (0, 27, 4) (by decide))) k
  have k := ly_revb 1 (c' := (5, [(0, .ref (p 0))], [.int (Int32.ofInt 0), .ref (p 4)], me_w M J)) rfl k
  have k := mx_iald (v := J (p 4) 0) rfl (hp.2.2.1 4 (by omega)) ((congrArg (J (p 4)) (show (Int32.ofInt 0).toNatClampNeg = 0 from rfl)).trans (rfl)) k
  have k := ly_revb 1 (c' := (if (J (p 4) 0) ≤ 0 then 13 else 9, [(0, .ref (p 0))], [], me_w M J)) rfl k
  by_cases h6 : (J (p 4) 0) ≤ 0
  · rw [if_pos h6] at k
    have k := ly_revb 1 (c' := (14, [(0, .ref (p 0))], [.int (Int32.ofInt 0)], me_w M J)) rfl k
    have k := lz_ri rfl (by decide) k
    rw [k, x188, if_pos h6]
  · rw [if_neg h6] at k
    have k := ly_revb 2 (c' := (14, [(0, .ref (p 0))], [.int (Int32.ofInt 1)], me_w M J)) rfl k
    have k := lz_ri rfl (by decide) k
    rw [k, x188, if_neg h6]
/-! Model.isRule -/
def x189 (p : Nat → Nat) (v1 : Int32) (J : Nat → Nat → Int32) : Int32 := if v1 < 0 then (Int32.ofInt 0)
  else if (J (p 0) 2) ≤ v1 then (Int32.ofInt 0)
    else (Int32.ofInt 1)
theorem xt189 {X : nt_X} {d : Nat} {M : nt_M} {o : Option Value × nt_M} {p : Nat → Nat} {v1 : Int32} {J : Nat → Nat → Int32} (hp : xs_P M p) (k : nt_ev X d 189 [.ref (p 0), .int v1] (me_w M J) o) : o = (some (.int (x189 p v1 J)), me_w M J) := by
  have k : nt_rn X d 189 (0, [(0, .ref (p 0)), (1, .int v1)], [], me_w M J) o := k
  have k := ly_revb 2 (c' := (if v1 < 0 then 16 else 4, [(0, .ref (p 0)), (1, .int v1)], [], me_w M J)) rfl k
  by_cases h1 : v1 < 0
  · rw [if_pos h1] at k
    have k := ly_revb 1 (c' := (17, [(0, .ref (p 0)), (1, .int v1)], [.int (Int32.ofInt 0)], me_w M J)) rfl k
    have k := lz_ri rfl (by decide) k
    rw [k, x189, if_pos h1]
  · rw [if_neg h1] at k
    have k := ly_revb 2 (c' := (6, [(0, .ref (p 0)), (1, .int v1)], [.ref (p 0), .int v1], me_w M J)) rfl k
    have k := lz_get (a := (p 0)) (g := 1102) (M := me_w M J) (v := .int (J (p 0) 2)) rfl (congrArg Value.int (rfl)) k
    have k := ly_revb 1 (c' := (if (J (p 0) 2) ≤ v1 then 16 else 12, [(0, .ref (p 0)), (1, .int v1)], [], me_w M J)) rfl k
    by_cases h9 : (J (p 0) 2) ≤ v1
    · rw [if_pos h9] at k
      have k := ly_revb 1 (c' := (17, [(0, .ref (p 0)), (1, .int v1)], [.int (Int32.ofInt 0)], me_w M J)) rfl k
      have k := lz_ri rfl (by decide) k
      rw [k, x189, if_neg h1, if_pos h9]
    · rw [if_neg h9] at k
      have k := ly_revb 2 (c' := (17, [(0, .ref (p 0)), (1, .int v1)], [.int (Int32.ofInt 1)], me_w M J)) rfl k
      have k := lz_ri rfl (by decide) k
      rw [k, x189, if_neg h1, if_neg h9]
/-! Model.mayBe -/
def x187 (p : Nat → Nat) (v1 : Int32) (J : Nat → Nat → Int32) : Int32 := if (x188 p J) = 0 then (Int32.ofInt 0)
  else if v1 = (Int32.ofInt (-1)) then (Int32.ofInt 1)
    else if (x189 p v1 J) = 0 then (Int32.ofInt 0)
      else (Int32.ofInt 1)
theorem xt187 {X : nt_X} {d : Nat} {M : nt_M} {o : Option Value × nt_M} {p : Nat → Nat} {v1 : Int32} {J : Nat → Nat → Int32} (hp : xs_P M p) (k : nt_ev X d 187 [.ref (p 0), .int v1] (me_w M J) o) : o = (some (.int (x187 p v1 J)), me_w M J) := by
  have k : nt_rn X d 187 (0, [(0, .ref (p 0)), (1, .int v1)], [], me_w M J) o := k
  have k := ly_revb 1 (c' := (1, [(0, .ref (p 0)), (1, .int v1)], [.ref (p 0)], me_w M J)) rfl k
  obtain ⟨d1, o1, ed, kc, k⟩ := lz_c (g := 188) (q := 1) (vs := [.ref (p 0)]) (rest := []) rfl rfl (by decide) (Or.inr (Or.inl ⟨_, rfl, rfl⟩)) rfl k
  have e1 := xt188 hp kc
  subst e1
  have k : nt_rn X _ 187 (4, [(0, .ref (p 0)), (1, .int v1)], [.int (x188 p J)], me_w M J) _ := k
  have k := ly_revb 1 (c' := (if (x188 p J) = 0 then 24 else 7, [(0, .ref (p 0)), (1, .int v1)], [], me_w M J)) rfl k
  by_cases h4 : (x188 p J) = 0
  · rw [if_pos h4] at k
    have k := ly_revb 1 (c' := (25, [(0, .ref (p 0)), (1, .int v1)], [.int (Int32.ofInt 0)], me_w M J)) rfl k
    have k := lz_ri rfl (by decide) k
    rw [k, x187, if_pos h4]
  · rw [if_neg h4] at k
    have k := ly_revb 3 (c' := (if v1 = (Int32.ofInt (-1)) then 20 else 12, [(0, .ref (p 0)), (1, .int v1)], [], me_w M J)) rfl k
    by_cases h9 : v1 = (Int32.ofInt (-1))
    · rw [if_pos h9] at k
      have k := ly_revb 2 (c' := (25, [(0, .ref (p 0)), (1, .int v1)], [.int (Int32.ofInt 1)], me_w M J)) rfl k
      have k := lz_ri rfl (by decide) k
      rw [k, x187, if_neg h4, if_pos h9]
    · rw [if_neg h9] at k
      have k := ly_revb 2 (c' := (14, [(0, .ref (p 0)), (1, .int v1)], [.int v1, .ref (p 0)], me_w M J)) rfl k
      obtain ⟨d1, o1, ed, kc, k⟩ := lz_c (g := 189) (q := 1) (vs := [.ref (p 0), .int v1]) (rest := []) rfl rfl (by decide) (Or.inr (Or.inl ⟨_, rfl, rfl⟩)) rfl k
      have e1 := xt189 hp kc
      subst e1
      have k : nt_rn X _ 187 (17, [(0, .ref (p 0)), (1, .int v1)], [.int (x189 p v1 J)], me_w M J) _ := k
      have k := ly_revb 1 (c' := (if (x189 p v1 J) = 0 then 24 else 20, [(0, .ref (p 0)), (1, .int v1)], [], me_w M J)) rfl k
      by_cases h17 : (x189 p v1 J) = 0
      · rw [if_pos h17] at k
        have k := ly_revb 1 (c' := (25, [(0, .ref (p 0)), (1, .int v1)], [.int (Int32.ofInt 0)], me_w M J)) rfl k
        have k := lz_ri rfl (by decide) k
        rw [k, x187, if_neg h4, if_neg h9, if_pos h17]
      · rw [if_neg h17] at k
        have k := ly_revb 2 (c' := (25, [(0, .ref (p 0)), (1, .int v1)], [.int (Int32.ofInt 1)], me_w M J)) rfl k
        have k := lz_ri rfl (by decide) k
        rw [k, x187, if_neg h4, if_neg h9, if_neg h17]
/-! Model.seed -/
def x230 (p : Nat → Nat) (v1 : Int32) (J : Nat → Nat → Int32) : Int32 × (Nat → Nat → Int32) := if 0 ≤ v1 then (J (p 4) 9, nt_u J (p 4) 9 v1)
  else (Int32.ofInt (-1), J)
theorem xt230 {X : nt_X} {d : Nat} {M : nt_M} {o : Option Value × nt_M} {p : Nat → Nat} {v1 : Int32} {J : Nat → Nat → Int32} (hp : xs_P M p) (k : nt_ev X d 230 [.ref (p 0), .int v1] (me_w M J) o) : o = (some (.int ((x230 p v1 J).1)), me_w M ((x230 p v1 J).2)) := by
  have k : nt_rn X d 230 (0, [(0, .ref (p 0)), (1, .int v1)], [], me_w M J) o := k
  have k := ly_revb 2 (c' := (if 0 ≤ v1 then 6 else 4, [(0, .ref (p 0)), (1, .int v1)], [], me_w M J)) rfl k
  by_cases h1 : 0 ≤ v1
  · rw [if_pos h1] at k
    have k := ly_revb 1 (c' := (7, [(0, .ref (p 0)), (1, .int v1)], [.ref (p 0)], me_w M J)) rfl k
    have k := lz_get (a := (p 0)) (g := 1127) (M := me_w M J) (v := .ref (p 4)) rfl (nt_gfR rfl (hp.1 (0, 27, 4) (by decide))) k
    have k := ly_revb 1 (c' := (12, [(0, .ref (p 0)), (1, .int v1)], [.int (Int32.ofInt 9), .ref (p 4)], me_w M J)) rfl k
    have k := mx_iald (v := J (p 4) 9) rfl (hp.2.2.1 4 (by omega)) ((congrArg (J (p 4)) (show (Int32.ofInt 9).toNatClampNeg = 9 from rfl)).trans (rfl)) k
    have k := ly_revb 2 (c' := (15, [(2, .int (J (p 4) 9)), (0, .ref (p 0)), (1, .int v1)], [.ref (p 0)], me_w M J)) rfl k
    have k := lz_get (a := (p 0)) (g := 1127) (M := me_w M J) (v := .ref (p 4)) rfl (nt_gfR rfl (hp.1 (0, 27, 4) (by decide))) k
    have k := ly_revb 2 (c' := (21, [(2, .int (J (p 4) 9)), (0, .ref (p 0)), (1, .int v1)], [.int v1, .int (Int32.ofInt 9), .ref (p 4)], me_w M J)) rfl k
    have k := mx_iast (q := 9) rfl (show (Int32.ofInt 9).toNatClampNeg = 9 from rfl) k
    have k : nt_rn X _ 230 (22, [(2, .int (J (p 4) 9)), (0, .ref (p 0)), (1, .int v1)], [], me_w M (nt_u J (p 4) 9 v1)) _ := k
    have k := ly_revb 1 (c' := (23, [(2, .int (J (p 4) 9)), (0, .ref (p 0)), (1, .int v1)], [.int (J (p 4) 9)], me_w M (nt_u J (p 4) 9 v1))) rfl k
    have k := lz_ri rfl (by decide) k
    rw [k, x230, if_pos h1]
  · rw [if_neg h1] at k
    have k := ly_revb 1 (c' := (5, [(0, .ref (p 0)), (1, .int v1)], [.int (Int32.ofInt (-1))], me_w M J)) rfl k
    have k := lz_ri rfl (by decide) k
    rw [k, x230, if_neg h1]
theorem x230_frJ {p : Nat → Nat} {v1 : Int32} {J : Nat → Nat → Int32} {b : Nat} (n0 : b ≠ p 4) : (x230 p v1 J).2 b = J b := by
  unfold x230
  by_cases h : 0 ≤ v1
  · rw [if_pos h]
    all_goals first | (dsimp only; exact (show (nt_u J (p 4) 9 v1) b = J b from mu_o n0)) | exact (show (nt_u J (p 4) 9 v1) b = J b from mu_o n0)
  · rw [if_neg h]
    all_goals first | (dsimp only; exact (show J b = J b from rfl)) | exact (show J b = J b from rfl)
/-! Model.count -/
def x233_108 (p : Nat → Nat) (J : Nat → Nat → Int32) : Nat → Int32 → Int32 → Int32
  | 0, v2, v3 => v2
  | c + 1, v2, v3 => if (J (p 4) 2) ≤ v3 then v2
    else if (x171 p v3 (Int32.ofInt (-1)) J) = 0 then (x233_108 p J c (v2 + (Int32.ofInt 0)) (v3 + (Int32.ofInt 1)))
      else (x233_108 p J c (v2 + (Int32.ofInt 1)) (v3 + (Int32.ofInt 1)))
theorem xt233_108 {X : nt_X} {d : Nat} {M : nt_M} {o : Option Value × nt_M} {p : Nat → Nat} {v1 : Int32} {J : Nat → Nat → Int32} (hp : xs_P M p) : ∀ (c : Nat) (v2 : Int32) (v3 : Int32), (J (p 4) 2).toInt - v3.toInt ≤ c → nt_rn X d 233 (108, [(0, .ref (p 0)), (1, .int v1), (2, .int v2), (3, .int v3)], [], me_w M J) o → o = (some (.int (x233_108 p J c v2 v3)), me_w M J) := by
  intro c
  induction c with
  | zero =>
    intro v2 v3 hc k
    have k := ly_revb 2 (c' := (110, [(0, .ref (p 0)), (1, .int v1), (2, .int v2), (3, .int v3)], [.ref (p 0), .int v3], me_w M J)) rfl k
    have k := lz_get (a := (p 0)) (g := 1127) (M := me_w M J) (v := .ref (p 4)) rfl (nt_gfR rfl (hp.1 (0, 27, 4) (by decide))) k
    have k := ly_revb 1 (c' := (114, [(0, .ref (p 0)), (1, .int v1), (2, .int v2), (3, .int v3)], [.int (Int32.ofInt 2), .ref (p 4), .int v3], me_w M J)) rfl k
    have k := mx_iald (v := J (p 4) 2) rfl (hp.2.2.1 4 (by omega)) ((congrArg (J (p 4)) (show (Int32.ofInt 2).toNatClampNeg = 2 from rfl)).trans (rfl)) k
    have k := ly_revb 1 (c' := (if (J (p 4) 2) ≤ v3 then 141 else 118, [(0, .ref (p 0)), (1, .int v1), (2, .int v2), (3, .int v3)], [], me_w M J)) rfl k
    have h115 : (J (p 4) 2) ≤ v3 := lx_end hc
    rw [if_pos h115] at k
    have k := ly_revb 1 (c' := (142, [(0, .ref (p 0)), (1, .int v1), (2, .int v2), (3, .int v3)], [.int v2], me_w M J)) rfl k
    have k := lz_ri rfl (by decide) k
    rw [k, x233_108]
  | succ c ih =>
    intro v2 v3 hc k
    have k := ly_revb 2 (c' := (110, [(0, .ref (p 0)), (1, .int v1), (2, .int v2), (3, .int v3)], [.ref (p 0), .int v3], me_w M J)) rfl k
    have k := lz_get (a := (p 0)) (g := 1127) (M := me_w M J) (v := .ref (p 4)) rfl (nt_gfR rfl (hp.1 (0, 27, 4) (by decide))) k
    have k := ly_revb 1 (c' := (114, [(0, .ref (p 0)), (1, .int v1), (2, .int v2), (3, .int v3)], [.int (Int32.ofInt 2), .ref (p 4), .int v3], me_w M J)) rfl k
    have k := mx_iald (v := J (p 4) 2) rfl (hp.2.2.1 4 (by omega)) ((congrArg (J (p 4)) (show (Int32.ofInt 2).toNatClampNeg = 2 from rfl)).trans (rfl)) k
    have k := ly_revb 1 (c' := (if (J (p 4) 2) ≤ v3 then 141 else 118, [(0, .ref (p 0)), (1, .int v1), (2, .int v2), (3, .int v3)], [], me_w M J)) rfl k
    by_cases h115 : (J (p 4) 2) ≤ v3
    · rw [if_pos h115] at k
      have k := ly_revb 1 (c' := (142, [(0, .ref (p 0)), (1, .int v1), (2, .int v2), (3, .int v3)], [.int v2], me_w M J)) rfl k
      have k := lz_ri rfl (by decide) k
      rw [k, x233_108, if_pos h115]
    · rw [if_neg h115] at k
      have k := ly_revb 4 (c' := (122, [(0, .ref (p 0)), (1, .int v1), (2, .int v2), (3, .int v3)], [.int (Int32.ofInt (-1)), .int v3, .ref (p 0), .int v2], me_w M J)) rfl k
      obtain ⟨d1, o1, ed, kc, k⟩ := lz_c (g := 171) (q := 1) (vs := [.ref (p 0), .int v3, .int (Int32.ofInt (-1))]) (rest := [.int v2]) rfl rfl (by decide) (Or.inr (Or.inl ⟨_, rfl, rfl⟩)) rfl k
      have e1 := xt171 hp kc
      subst e1
      have k : nt_rn X _ 233 (125, [(0, .ref (p 0)), (1, .int v1), (2, .int v2), (3, .int v3)], [.int (x171 p v3 (Int32.ofInt (-1)) J), .int v2], me_w M J) _ := k
      have k := ly_revb 1 (c' := (if (x171 p v3 (Int32.ofInt (-1)) J) = 0 then 132 else 128, [(0, .ref (p 0)), (1, .int v1), (2, .int v2), (3, .int v3)], [.int v2], me_w M J)) rfl k
      by_cases h125 : (x171 p v3 (Int32.ofInt (-1)) J) = 0
      · rw [if_pos h125] at k
        have k := ly_revb 5 (c' := (108, [(3, .int (v3 + (Int32.ofInt 1))), (2, .int (v2 + (Int32.ofInt 0))), (0, .ref (p 0)), (1, .int v1)], [], me_w M J)) rfl k
        have k := nt_rn_w (a := [(3, .int (v3 + (Int32.ofInt 1))), (2, .int (v2 + (Int32.ofInt 0))), (0, .ref (p 0)), (1, .int v1)]) (b := [(0, .ref (p 0)), (1, .int v1), (2, .int (v2 + (Int32.ofInt 0))), (3, .int (v3 + (Int32.ofInt 1)))]) ⟨rfl, rfl, rfl, rfl, trivial⟩ rfl k
        have k := ih (v2 + (Int32.ofInt 0)) (v3 + (Int32.ofInt 1)) (lx_dec h115 hc) k
        rw [k, x233_108, if_neg h115, if_pos h125]
      · rw [if_neg h125] at k
        have k := ly_revb 6 (c' := (108, [(3, .int (v3 + (Int32.ofInt 1))), (2, .int (v2 + (Int32.ofInt 1))), (0, .ref (p 0)), (1, .int v1)], [], me_w M J)) rfl k
        have k := nt_rn_w (a := [(3, .int (v3 + (Int32.ofInt 1))), (2, .int (v2 + (Int32.ofInt 1))), (0, .ref (p 0)), (1, .int v1)]) (b := [(0, .ref (p 0)), (1, .int v1), (2, .int (v2 + (Int32.ofInt 1))), (3, .int (v3 + (Int32.ofInt 1)))]) ⟨rfl, rfl, rfl, rfl, trivial⟩ rfl k
        have k := ih (v2 + (Int32.ofInt 1)) (v3 + (Int32.ofInt 1)) (lx_dec h115 hc) k
        rw [k, x233_108, if_neg h115, if_neg h125]
def x233 (p : Nat → Nat) (v1 : Int32) (J : Nat → Nat → Int32) : Int32 := if v1.toInt < 0 ∨ 11 < v1.toInt then (Int32.ofInt (-1))
  else if v1 = Int32.ofInt 0 then (J (p 4) v1.toNatClampNeg)
    else if v1 = Int32.ofInt 1 then (J (p 4) v1.toNatClampNeg)
      else if v1 = Int32.ofInt 2 then (J (p 4) v1.toNatClampNeg)
        else if v1 = Int32.ofInt 3 then (J (p 4) v1.toNatClampNeg)
          else if v1 = Int32.ofInt 4 then (J (p 0) 2)
            else if v1 = Int32.ofInt 5 then (J (p 4) 4)
              else if v1 = Int32.ofInt 6 then ((J (p 4) 5) - (J (p 4) 6))
                else if v1 = Int32.ofInt 7 then (J (p 4) 7)
                  else if v1 = Int32.ofInt 8 then (x233_108 p J ((J (p 4) 2).toNatClampNeg) (Int32.ofInt 0) (Int32.ofInt 0))
                    else if v1 = Int32.ofInt 9 then (J (p 4) 8)
                      else if v1 = Int32.ofInt 10 then (J (p 4) 9)
                        else (J (p 0) 1)
theorem xt233 {X : nt_X} {d : Nat} {M : nt_M} {o : Option Value × nt_M} {p : Nat → Nat} {v1 : Int32} {J : Nat → Nat → Int32} (hp : xs_P M p) (k : nt_ev X d 233 [.ref (p 0), .int v1] (me_w M J) o) : o = (some (.int (x233 p v1 J)), me_w M J) := by
  have k : nt_rn X d 233 (0, [(0, .ref (p 0)), (1, .int v1)], [], me_w M J) o := k
  have k := ly_revb 3 (c' := (3, [(2, .int (Int32.ofInt 0)), (0, .ref (p 0)), (1, .int v1)], [.int v1], me_w M J)) rfl k
  by_cases h3 : v1.toInt < 0 ∨ 11 < v1.toInt
  · have k := mx_tsd (q := 164) rfl h3 (by decide) k
    have k : nt_rn X _ 233 (164, [(2, .int (Int32.ofInt 0)), (0, .ref (p 0)), (1, .int v1)], [], me_w M J) _ := k
    have k := ly_revb 1 (c' := (165, [(2, .int (Int32.ofInt 0)), (0, .ref (p 0)), (1, .int v1)], [.int (Int32.ofInt (-1))], me_w M J)) rfl k
    have k := lz_ri rfl (by decide) k
    rw [k, x233, if_pos h3]
  · by_cases h3_0 : v1 = Int32.ofInt 0
    · have k := mx_tsc (q := 64) (off := 61) rfl h3 (by rw [h3_0]; rfl) (by decide) k
      have k : nt_rn X _ 233 (64, [(2, .int (Int32.ofInt 0)), (0, .ref (p 0)), (1, .int v1)], [], me_w M J) _ := k
      have k := ly_revb 1 (c' := (65, [(2, .int (Int32.ofInt 0)), (0, .ref (p 0)), (1, .int v1)], [.ref (p 0)], me_w M J)) rfl k
      have k := lz_get (a := (p 0)) (g := 1127) (M := me_w M J) (v := .ref (p 4)) rfl (nt_gfR rfl (hp.1 (0, 27, 4) (by decide))) k
      have k := ly_revb 1 (c' := (69, [(2, .int (Int32.ofInt 0)), (0, .ref (p 0)), (1, .int v1)], [.int v1, .ref (p 4)], me_w M J)) rfl k
      have k := mx_iald (v := J (p 4) v1.toNatClampNeg) rfl (hp.2.2.1 4 (by omega)) (rfl) k
      have k := lz_ri rfl (by decide) k
      rw [k, x233, if_neg h3, if_pos h3_0]
    · by_cases h3_1 : v1 = Int32.ofInt 1
      · have k := mx_tsc (q := 64) (off := 61) rfl h3 (by rw [h3_1]; rfl) (by decide) k
        have k : nt_rn X _ 233 (64, [(2, .int (Int32.ofInt 0)), (0, .ref (p 0)), (1, .int v1)], [], me_w M J) _ := k
        have k := ly_revb 1 (c' := (65, [(2, .int (Int32.ofInt 0)), (0, .ref (p 0)), (1, .int v1)], [.ref (p 0)], me_w M J)) rfl k
        have k := lz_get (a := (p 0)) (g := 1127) (M := me_w M J) (v := .ref (p 4)) rfl (nt_gfR rfl (hp.1 (0, 27, 4) (by decide))) k
        have k := ly_revb 1 (c' := (69, [(2, .int (Int32.ofInt 0)), (0, .ref (p 0)), (1, .int v1)], [.int v1, .ref (p 4)], me_w M J)) rfl k
        have k := mx_iald (v := J (p 4) v1.toNatClampNeg) rfl (hp.2.2.1 4 (by omega)) (rfl) k
        have k := lz_ri rfl (by decide) k
        rw [k, x233, if_neg h3, if_neg h3_0, if_pos h3_1]
      · by_cases h3_2 : v1 = Int32.ofInt 2
        · have k := mx_tsc (q := 64) (off := 61) rfl h3 (by rw [h3_2]; rfl) (by decide) k
          have k : nt_rn X _ 233 (64, [(2, .int (Int32.ofInt 0)), (0, .ref (p 0)), (1, .int v1)], [], me_w M J) _ := k
          have k := ly_revb 1 (c' := (65, [(2, .int (Int32.ofInt 0)), (0, .ref (p 0)), (1, .int v1)], [.ref (p 0)], me_w M J)) rfl k
          have k := lz_get (a := (p 0)) (g := 1127) (M := me_w M J) (v := .ref (p 4)) rfl (nt_gfR rfl (hp.1 (0, 27, 4) (by decide))) k
          have k := ly_revb 1 (c' := (69, [(2, .int (Int32.ofInt 0)), (0, .ref (p 0)), (1, .int v1)], [.int v1, .ref (p 4)], me_w M J)) rfl k
          have k := mx_iald (v := J (p 4) v1.toNatClampNeg) rfl (hp.2.2.1 4 (by omega)) (rfl) k
          have k := lz_ri rfl (by decide) k
          rw [k, x233, if_neg h3, if_neg h3_0, if_neg h3_1, if_pos h3_2]
        · by_cases h3_3 : v1 = Int32.ofInt 3
          · have k := mx_tsc (q := 64) (off := 61) rfl h3 (by rw [h3_3]; rfl) (by decide) k
            have k : nt_rn X _ 233 (64, [(2, .int (Int32.ofInt 0)), (0, .ref (p 0)), (1, .int v1)], [], me_w M J) _ := k
            have k := ly_revb 1 (c' := (65, [(2, .int (Int32.ofInt 0)), (0, .ref (p 0)), (1, .int v1)], [.ref (p 0)], me_w M J)) rfl k
            have k := lz_get (a := (p 0)) (g := 1127) (M := me_w M J) (v := .ref (p 4)) rfl (nt_gfR rfl (hp.1 (0, 27, 4) (by decide))) k
            have k := ly_revb 1 (c' := (69, [(2, .int (Int32.ofInt 0)), (0, .ref (p 0)), (1, .int v1)], [.int v1, .ref (p 4)], me_w M J)) rfl k
            have k := mx_iald (v := J (p 4) v1.toNatClampNeg) rfl (hp.2.2.1 4 (by omega)) (rfl) k
            have k := lz_ri rfl (by decide) k
            rw [k, x233, if_neg h3, if_neg h3_0, if_neg h3_1, if_neg h3_2, if_pos h3_3]
          · by_cases h3_4 : v1 = Int32.ofInt 4
            · have k := mx_tsc (q := 71) (off := 68) rfl h3 (by rw [h3_4]; rfl) (by decide) k
              have k : nt_rn X _ 233 (71, [(2, .int (Int32.ofInt 0)), (0, .ref (p 0)), (1, .int v1)], [], me_w M J) _ := k
              have k := ly_revb 1 (c' := (72, [(2, .int (Int32.ofInt 0)), (0, .ref (p 0)), (1, .int v1)], [.ref (p 0)], me_w M J)) rfl k
              have k := lz_get (a := (p 0)) (g := 1102) (M := me_w M J) (v := .int (J (p 0) 2)) rfl (congrArg Value.int (rfl)) k
              have k := lz_ri rfl (by decide) k
              rw [k, x233, if_neg h3, if_neg h3_0, if_neg h3_1, if_neg h3_2, if_neg h3_3, if_pos h3_4]
            · by_cases h3_5 : v1 = Int32.ofInt 5
              · have k := mx_tsc (q := 76) (off := 73) rfl h3 (by rw [h3_5]; rfl) (by decide) k
                have k : nt_rn X _ 233 (76, [(2, .int (Int32.ofInt 0)), (0, .ref (p 0)), (1, .int v1)], [], me_w M J) _ := k
                have k := ly_revb 1 (c' := (77, [(2, .int (Int32.ofInt 0)), (0, .ref (p 0)), (1, .int v1)], [.ref (p 0)], me_w M J)) rfl k
                have k := lz_get (a := (p 0)) (g := 1127) (M := me_w M J) (v := .ref (p 4)) rfl (nt_gfR rfl (hp.1 (0, 27, 4) (by decide))) k
                have k := ly_revb 1 (c' := (81, [(2, .int (Int32.ofInt 0)), (0, .ref (p 0)), (1, .int v1)], [.int (Int32.ofInt 4), .ref (p 4)], me_w M J)) rfl k
                have k := mx_iald (v := J (p 4) 4) rfl (hp.2.2.1 4 (by omega)) ((congrArg (J (p 4)) (show (Int32.ofInt 4).toNatClampNeg = 4 from rfl)).trans (rfl)) k
                have k := lz_ri rfl (by decide) k
                rw [k, x233, if_neg h3, if_neg h3_0, if_neg h3_1, if_neg h3_2, if_neg h3_3, if_neg h3_4, if_pos h3_5]
              · by_cases h3_6 : v1 = Int32.ofInt 6
                · have k := mx_tsc (q := 83) (off := 80) rfl h3 (by rw [h3_6]; rfl) (by decide) k
                  have k : nt_rn X _ 233 (83, [(2, .int (Int32.ofInt 0)), (0, .ref (p 0)), (1, .int v1)], [], me_w M J) _ := k
                  have k := ly_revb 1 (c' := (84, [(2, .int (Int32.ofInt 0)), (0, .ref (p 0)), (1, .int v1)], [.ref (p 0)], me_w M J)) rfl k
                  have k := lz_get (a := (p 0)) (g := 1127) (M := me_w M J) (v := .ref (p 4)) rfl (nt_gfR rfl (hp.1 (0, 27, 4) (by decide))) k
                  have k := ly_revb 1 (c' := (88, [(2, .int (Int32.ofInt 0)), (0, .ref (p 0)), (1, .int v1)], [.int (Int32.ofInt 5), .ref (p 4)], me_w M J)) rfl k
                  have k := mx_iald (v := J (p 4) 5) rfl (hp.2.2.1 4 (by omega)) ((congrArg (J (p 4)) (show (Int32.ofInt 5).toNatClampNeg = 5 from rfl)).trans (rfl)) k
                  have k := ly_revb 1 (c' := (90, [(2, .int (Int32.ofInt 0)), (0, .ref (p 0)), (1, .int v1)], [.ref (p 0), .int (J (p 4) 5)], me_w M J)) rfl k
                  have k := lz_get (a := (p 0)) (g := 1127) (M := me_w M J) (v := .ref (p 4)) rfl (nt_gfR rfl (hp.1 (0, 27, 4) (by decide))) k
                  have k := ly_revb 1 (c' := (95, [(2, .int (Int32.ofInt 0)), (0, .ref (p 0)), (1, .int v1)], [.int (Int32.ofInt 6), .ref (p 4), .int (J (p 4) 5)], me_w M J)) rfl k
                  have k := mx_iald (v := J (p 4) 6) rfl (hp.2.2.1 4 (by omega)) ((congrArg (J (p 4)) (show (Int32.ofInt 6).toNatClampNeg = 6 from rfl)).trans (rfl)) k
                  have k := ly_revb 1 (c' := (97, [(2, .int (Int32.ofInt 0)), (0, .ref (p 0)), (1, .int v1)], [.int ((J (p 4) 5) - (J (p 4) 6))], me_w M J)) rfl k
                  have k := lz_ri rfl (by decide) k
                  rw [k, x233, if_neg h3, if_neg h3_0, if_neg h3_1, if_neg h3_2, if_neg h3_3, if_neg h3_4, if_neg h3_5, if_pos h3_6]
                · by_cases h3_7 : v1 = Int32.ofInt 7
                  · have k := mx_tsc (q := 98) (off := 95) rfl h3 (by rw [h3_7]; rfl) (by decide) k
                    have k : nt_rn X _ 233 (98, [(2, .int (Int32.ofInt 0)), (0, .ref (p 0)), (1, .int v1)], [], me_w M J) _ := k
                    have k := ly_revb 1 (c' := (99, [(2, .int (Int32.ofInt 0)), (0, .ref (p 0)), (1, .int v1)], [.ref (p 0)], me_w M J)) rfl k
                    have k := lz_get (a := (p 0)) (g := 1127) (M := me_w M J) (v := .ref (p 4)) rfl (nt_gfR rfl (hp.1 (0, 27, 4) (by decide))) k
                    have k := ly_revb 1 (c' := (104, [(2, .int (Int32.ofInt 0)), (0, .ref (p 0)), (1, .int v1)], [.int (Int32.ofInt 7), .ref (p 4)], me_w M J)) rfl k
                    have k := mx_iald (v := J (p 4) 7) rfl (hp.2.2.1 4 (by omega)) ((congrArg (J (p 4)) (show (Int32.ofInt 7).toNatClampNeg = 7 from rfl)).trans (rfl)) k
                    have k := lz_ri rfl (by decide) k
                    rw [k, x233, if_neg h3, if_neg h3_0, if_neg h3_1, if_neg h3_2, if_neg h3_3, if_neg h3_4, if_neg h3_5, if_neg h3_6, if_pos h3_7]
                  · by_cases h3_8 : v1 = Int32.ofInt 8
                    · have k := mx_tsc (q := 106) (off := 103) rfl h3 (by rw [h3_8]; rfl) (by decide) k
                      have k : nt_rn X _ 233 (106, [(2, .int (Int32.ofInt 0)), (0, .ref (p 0)), (1, .int v1)], [], me_w M J) _ := k
                      have k := ly_revb 2 (c' := (108, [(3, .int (Int32.ofInt 0)), (2, .int (Int32.ofInt 0)), (0, .ref (p 0)), (1, .int v1)], [], me_w M J)) rfl k
                      have k := nt_rn_w (a := [(3, .int (Int32.ofInt 0)), (2, .int (Int32.ofInt 0)), (0, .ref (p 0)), (1, .int v1)]) (b := [(0, .ref (p 0)), (1, .int v1), (2, .int (Int32.ofInt 0)), (3, .int (Int32.ofInt 0))]) ⟨rfl, rfl, rfl, rfl, trivial⟩ rfl k
                      have k := xt233_108 hp  ((J (p 4) 2).toNatClampNeg) (Int32.ofInt 0) (Int32.ofInt 0) (lx_beg (by decide)) k
                      rw [k, x233, if_neg h3, if_neg h3_0, if_neg h3_1, if_neg h3_2, if_neg h3_3, if_neg h3_4, if_neg h3_5, if_neg h3_6, if_neg h3_7, if_pos h3_8]
                    · by_cases h3_9 : v1 = Int32.ofInt 9
                      · have k := mx_tsc (q := 143) (off := 140) rfl h3 (by rw [h3_9]; rfl) (by decide) k
                        have k : nt_rn X _ 233 (143, [(2, .int (Int32.ofInt 0)), (0, .ref (p 0)), (1, .int v1)], [], me_w M J) _ := k
                        have k := ly_revb 1 (c' := (144, [(2, .int (Int32.ofInt 0)), (0, .ref (p 0)), (1, .int v1)], [.ref (p 0)], me_w M J)) rfl k
                        have k := lz_get (a := (p 0)) (g := 1127) (M := me_w M J) (v := .ref (p 4)) rfl (nt_gfR rfl (hp.1 (0, 27, 4) (by decide))) k
                        have k := ly_revb 1 (c' := (149, [(2, .int (Int32.ofInt 0)), (0, .ref (p 0)), (1, .int v1)], [.int (Int32.ofInt 8), .ref (p 4)], me_w M J)) rfl k
                        have k := mx_iald (v := J (p 4) 8) rfl (hp.2.2.1 4 (by omega)) ((congrArg (J (p 4)) (show (Int32.ofInt 8).toNatClampNeg = 8 from rfl)).trans (rfl)) k
                        have k := lz_ri rfl (by decide) k
                        rw [k, x233, if_neg h3, if_neg h3_0, if_neg h3_1, if_neg h3_2, if_neg h3_3, if_neg h3_4, if_neg h3_5, if_neg h3_6, if_neg h3_7, if_neg h3_8, if_pos h3_9]
                      · by_cases h3_10 : v1 = Int32.ofInt 10
                        · have k := mx_tsc (q := 151) (off := 148) rfl h3 (by rw [h3_10]; rfl) (by decide) k
                          have k : nt_rn X _ 233 (151, [(2, .int (Int32.ofInt 0)), (0, .ref (p 0)), (1, .int v1)], [], me_w M J) _ := k
                          have k := ly_revb 1 (c' := (152, [(2, .int (Int32.ofInt 0)), (0, .ref (p 0)), (1, .int v1)], [.ref (p 0)], me_w M J)) rfl k
                          have k := lz_get (a := (p 0)) (g := 1127) (M := me_w M J) (v := .ref (p 4)) rfl (nt_gfR rfl (hp.1 (0, 27, 4) (by decide))) k
                          have k := ly_revb 1 (c' := (157, [(2, .int (Int32.ofInt 0)), (0, .ref (p 0)), (1, .int v1)], [.int (Int32.ofInt 9), .ref (p 4)], me_w M J)) rfl k
                          have k := mx_iald (v := J (p 4) 9) rfl (hp.2.2.1 4 (by omega)) ((congrArg (J (p 4)) (show (Int32.ofInt 9).toNatClampNeg = 9 from rfl)).trans (rfl)) k
                          have k := lz_ri rfl (by decide) k
                          rw [k, x233, if_neg h3, if_neg h3_0, if_neg h3_1, if_neg h3_2, if_neg h3_3, if_neg h3_4, if_neg h3_5, if_neg h3_6, if_neg h3_7, if_neg h3_8, if_neg h3_9, if_pos h3_10]
                        · have hz : v1 = Int32.ofInt 11 := by
                            have z1 := h3
                            have y0 : v1.toInt ≠ 0 := fun e => h3_0 (Int32.toInt_inj.mp (e.trans (by decide)))
                            have y1 : v1.toInt ≠ 1 := fun e => h3_1 (Int32.toInt_inj.mp (e.trans (by decide)))
                            have y2 : v1.toInt ≠ 2 := fun e => h3_2 (Int32.toInt_inj.mp (e.trans (by decide)))
                            have y3 : v1.toInt ≠ 3 := fun e => h3_3 (Int32.toInt_inj.mp (e.trans (by decide)))
                            have y4 : v1.toInt ≠ 4 := fun e => h3_4 (Int32.toInt_inj.mp (e.trans (by decide)))
                            have y5 : v1.toInt ≠ 5 := fun e => h3_5 (Int32.toInt_inj.mp (e.trans (by decide)))
                            have y6 : v1.toInt ≠ 6 := fun e => h3_6 (Int32.toInt_inj.mp (e.trans (by decide)))
                            have y7 : v1.toInt ≠ 7 := fun e => h3_7 (Int32.toInt_inj.mp (e.trans (by decide)))
                            have y8 : v1.toInt ≠ 8 := fun e => h3_8 (Int32.toInt_inj.mp (e.trans (by decide)))
                            have y9 : v1.toInt ≠ 9 := fun e => h3_9 (Int32.toInt_inj.mp (e.trans (by decide)))
                            have y10 : v1.toInt ≠ 10 := fun e => h3_10 (Int32.toInt_inj.mp (e.trans (by decide)))
                            exact Int32.toInt_inj.mp ((show v1.toInt = 11 by omega).trans (by decide))
                          have k := mx_tsc (q := 159) (off := 156) rfl h3 (by rw [hz]; rfl) (by decide) k
                          have k : nt_rn X _ 233 (159, [(2, .int (Int32.ofInt 0)), (0, .ref (p 0)), (1, .int v1)], [], me_w M J) _ := k
                          have k := ly_revb 1 (c' := (160, [(2, .int (Int32.ofInt 0)), (0, .ref (p 0)), (1, .int v1)], [.ref (p 0)], me_w M J)) rfl k
                          have k := lz_get (a := (p 0)) (g := 1101) (M := me_w M J) (v := .int (J (p 0) 1)) rfl (congrArg Value.int (rfl)) k
                          have k := lz_ri rfl (by decide) k
                          rw [k, x233, if_neg h3, if_neg h3_0, if_neg h3_1, if_neg h3_2, if_neg h3_3, if_neg h3_4, if_neg h3_5, if_neg h3_6, if_neg h3_7, if_neg h3_8, if_neg h3_9, if_neg h3_10]
/-! .plank -/
def x107 (p : Nat → Nat) (v1 : Int32) (v2 : Int32) (J : Nat → Nat → Int32) : Int32 := if (x70 (fun i => p (31 + i)) v1 J) = 0 then (Int32.ofInt (-2))
  else if v2.toInt < 0 ∨ 4 < v2.toInt then (Int32.ofInt (-2))
    else if v2 = Int32.ofInt 0 then (J (p 34) v1.toNatClampNeg)
      else if v2 = Int32.ofInt 1 then (J (p 44) v1.toNatClampNeg)
        else if v2 = Int32.ofInt 2 then (J (p 36) v1.toNatClampNeg)
          else if v2 = Int32.ofInt 3 then (J (p 45) v1.toNatClampNeg)
            else if (J (p 46) v1.toNatClampNeg) = 0 then (Int32.ofInt 0)
              else (Int32.ofInt 1)
theorem xt107 {X : nt_X} {d : Nat} {M : nt_M} {o : Option Value × nt_M} {p : Nat → Nat} {v1 : Int32} {v2 : Int32} {J : Nat → Nat → Int32} (hp : xs_P M p) (hn : xs_Q M (fun i => p (31 + i))) (k : nt_ev X d 107 [.ref (p 16), .int v1, .int v2] (me_w M J) o) : o = (some (.int (x107 p v1 v2 J)), me_w M J) := by
  have k : nt_rn X d 107 (0, [(0, .ref (p 16)), (1, .int v1), (2, .int v2)], [], me_w M J) o := k
  have k := ly_revb 1 (c' := (1, [(0, .ref (p 16)), (1, .int v1), (2, .int v2)], [.ref (p 16)], me_w M J)) rfl k
  have k := lz_get (a := (p 16)) (g := 1007) (M := me_w M J) (v := .ref (p 31)) rfl (nt_gfR rfl (hp.1 (16, 7, 31) (by decide))) k
  have k := ly_revb 1 (c' := (5, [(0, .ref (p 16)), (1, .int v1), (2, .int v2)], [.int v1, .ref (p 31)], me_w M J)) rfl k
  obtain ⟨d1, o1, ed, kc, k⟩ := lz_c (g := 70) (q := 1) (vs := [.ref (p 31), .int v1]) (rest := []) rfl rfl (by decide) (Or.inr (Or.inl ⟨_, rfl, rfl⟩)) rfl k
  have e1 := xt70 hn kc
  subst e1
  have k : nt_rn X _ 107 (8, [(0, .ref (p 16)), (1, .int v1), (2, .int v2)], [.int (x70 (fun i => p (31 + i)) v1 J)], me_w M J) _ := k
  have k := ly_revb 1 (c' := (if (x70 (fun i => p (31 + i)) v1 J) = 0 then 11 else 14, [(0, .ref (p 16)), (1, .int v1), (2, .int v2)], [], me_w M J)) rfl k
  by_cases h8 : (x70 (fun i => p (31 + i)) v1 J) = 0
  · rw [if_pos h8] at k
    have k := ly_revb 1 (c' := (13, [(0, .ref (p 16)), (1, .int v1), (2, .int v2)], [.int (Int32.ofInt (-2))], me_w M J)) rfl k
    have k := lz_ri rfl (by decide) k
    rw [k, x107, if_pos h8]
  · rw [if_neg h8] at k
    have k := ly_revb 1 (c' := (15, [(0, .ref (p 16)), (1, .int v1), (2, .int v2)], [.int v2], me_w M J)) rfl k
    by_cases h15 : v2.toInt < 0 ∨ 4 < v2.toInt
    · have k := mx_tsd (q := 112) rfl h15 (by decide) k
      have k : nt_rn X _ 107 (112, [(0, .ref (p 16)), (1, .int v1), (2, .int v2)], [], me_w M J) _ := k
      have k := ly_revb 1 (c' := (114, [(0, .ref (p 16)), (1, .int v1), (2, .int v2)], [.int (Int32.ofInt (-2))], me_w M J)) rfl k
      have k := lz_ri rfl (by decide) k
      rw [k, x107, if_neg h8, if_pos h15]
    · by_cases h15_0 : v2 = Int32.ofInt 0
      · have k := mx_tsc (q := 48) (off := 33) rfl h15 (by rw [h15_0]; rfl) (by decide) k
        have k : nt_rn X _ 107 (48, [(0, .ref (p 16)), (1, .int v1), (2, .int v2)], [], me_w M J) _ := k
        have k := ly_revb 1 (c' := (49, [(0, .ref (p 16)), (1, .int v1), (2, .int v2)], [.ref (p 16)], me_w M J)) rfl k
        have k := lz_get (a := (p 16)) (g := 1007) (M := me_w M J) (v := .ref (p 31)) rfl (nt_gfR rfl (hp.1 (16, 7, 31) (by decide))) k
        have k := lz_get (a := (p 31)) (g := 600) (M := me_w M J) (v := .ref (p 32)) rfl (nt_gfR rfl (hn.1 (0, 0, 1) (by decide))) k
        have k := lz_get (a := (p 32)) (g := 806) (M := me_w M J) (v := .ref (p 34)) rfl (nt_gfR rfl (hn.1 (1, 6, 3) (by decide))) k
        have k := ly_revb 1 (c' := (59, [(0, .ref (p 16)), (1, .int v1), (2, .int v2)], [.int v1, .ref (p 34)], me_w M J)) rfl k
        have k := mx_iald (v := J (p 34) v1.toNatClampNeg) rfl (hp.2.2.1 34 (by omega)) (rfl) k
        have k := lz_ri rfl (by decide) k
        rw [k, x107, if_neg h8, if_neg h15, if_pos h15_0]
      · by_cases h15_1 : v2 = Int32.ofInt 1
        · have k := mx_tsc (q := 61) (off := 46) rfl h15 (by rw [h15_1]; rfl) (by decide) k
          have k : nt_rn X _ 107 (61, [(0, .ref (p 16)), (1, .int v1), (2, .int v2)], [], me_w M J) _ := k
          have k := ly_revb 1 (c' := (62, [(0, .ref (p 16)), (1, .int v1), (2, .int v2)], [.ref (p 16)], me_w M J)) rfl k
          have k := lz_get (a := (p 16)) (g := 1007) (M := me_w M J) (v := .ref (p 31)) rfl (nt_gfR rfl (hp.1 (16, 7, 31) (by decide))) k
          have k := lz_get (a := (p 31)) (g := 610) (M := me_w M J) (v := .ref (p 44)) rfl (nt_gfR rfl (hn.1 (0, 10, 13) (by decide))) k
          have k := ly_revb 1 (c' := (69, [(0, .ref (p 16)), (1, .int v1), (2, .int v2)], [.int v1, .ref (p 44)], me_w M J)) rfl k
          have k := mx_iald (v := J (p 44) v1.toNatClampNeg) rfl (hp.2.2.1 44 (by omega)) (rfl) k
          have k := lz_ri rfl (by decide) k
          rw [k, x107, if_neg h8, if_neg h15, if_neg h15_0, if_pos h15_1]
        · by_cases h15_2 : v2 = Int32.ofInt 2
          · have k := mx_tsc (q := 71) (off := 56) rfl h15 (by rw [h15_2]; rfl) (by decide) k
            have k : nt_rn X _ 107 (71, [(0, .ref (p 16)), (1, .int v1), (2, .int v2)], [], me_w M J) _ := k
            have k := ly_revb 1 (c' := (72, [(0, .ref (p 16)), (1, .int v1), (2, .int v2)], [.ref (p 16)], me_w M J)) rfl k
            have k := lz_get (a := (p 16)) (g := 1007) (M := me_w M J) (v := .ref (p 31)) rfl (nt_gfR rfl (hp.1 (16, 7, 31) (by decide))) k
            have k := lz_get (a := (p 31)) (g := 600) (M := me_w M J) (v := .ref (p 32)) rfl (nt_gfR rfl (hn.1 (0, 0, 1) (by decide))) k
            have k := lz_get (a := (p 32)) (g := 808) (M := me_w M J) (v := .ref (p 36)) rfl (nt_gfR rfl (hn.1 (1, 8, 5) (by decide))) k
            have k := ly_revb 1 (c' := (82, [(0, .ref (p 16)), (1, .int v1), (2, .int v2)], [.int v1, .ref (p 36)], me_w M J)) rfl k
            have k := mx_iald (v := J (p 36) v1.toNatClampNeg) rfl (hp.2.2.1 36 (by omega)) (rfl) k
            have k := lz_ri rfl (by decide) k
            rw [k, x107, if_neg h8, if_neg h15, if_neg h15_0, if_neg h15_1, if_pos h15_2]
          · by_cases h15_3 : v2 = Int32.ofInt 3
            · have k := mx_tsc (q := 84) (off := 69) rfl h15 (by rw [h15_3]; rfl) (by decide) k
              have k : nt_rn X _ 107 (84, [(0, .ref (p 16)), (1, .int v1), (2, .int v2)], [], me_w M J) _ := k
              have k := ly_revb 1 (c' := (85, [(0, .ref (p 16)), (1, .int v1), (2, .int v2)], [.ref (p 16)], me_w M J)) rfl k
              have k := lz_get (a := (p 16)) (g := 1007) (M := me_w M J) (v := .ref (p 31)) rfl (nt_gfR rfl (hp.1 (16, 7, 31) (by decide))) k
              have k := lz_get (a := (p 31)) (g := 611) (M := me_w M J) (v := .ref (p 45)) rfl (nt_gfR rfl (hn.1 (0, 11, 14) (by decide))) k
              have k := ly_revb 1 (c' := (92, [(0, .ref (p 16)), (1, .int v1), (2, .int v2)], [.int v1, .ref (p 45)], me_w M J)) rfl k
              have k := mx_iald (v := J (p 45) v1.toNatClampNeg) rfl (hp.2.2.1 45 (by omega)) (rfl) k
              have k := lz_ri rfl (by decide) k
              rw [k, x107, if_neg h8, if_neg h15, if_neg h15_0, if_neg h15_1, if_neg h15_2, if_pos h15_3]
            · have hz : v2 = Int32.ofInt 4 := by
                have z1 := h15
                have y0 : v2.toInt ≠ 0 := fun e => h15_0 (Int32.toInt_inj.mp (e.trans (by decide)))
                have y1 : v2.toInt ≠ 1 := fun e => h15_1 (Int32.toInt_inj.mp (e.trans (by decide)))
                have y2 : v2.toInt ≠ 2 := fun e => h15_2 (Int32.toInt_inj.mp (e.trans (by decide)))
                have y3 : v2.toInt ≠ 3 := fun e => h15_3 (Int32.toInt_inj.mp (e.trans (by decide)))
                exact Int32.toInt_inj.mp ((show v2.toInt = 4 by omega).trans (by decide))
              have k := mx_tsc (q := 94) (off := 79) rfl h15 (by rw [hz]; rfl) (by decide) k
              have k : nt_rn X _ 107 (94, [(0, .ref (p 16)), (1, .int v1), (2, .int v2)], [], me_w M J) _ := k
              have k := ly_revb 1 (c' := (95, [(0, .ref (p 16)), (1, .int v1), (2, .int v2)], [.ref (p 16)], me_w M J)) rfl k
              have k := lz_get (a := (p 16)) (g := 1007) (M := me_w M J) (v := .ref (p 31)) rfl (nt_gfR rfl (hp.1 (16, 7, 31) (by decide))) k
              have k := lz_get (a := (p 31)) (g := 612) (M := me_w M J) (v := .ref (p 46)) rfl (nt_gfR rfl (hn.1 (0, 12, 15) (by decide))) k
              have k := ly_revb 1 (c' := (102, [(0, .ref (p 16)), (1, .int v1), (2, .int v2)], [.int v1, .ref (p 46)], me_w M J)) rfl k
              have k := mx_bald (v := J (p 46) v1.toNatClampNeg) rfl (rfl) k
              have k := ly_revb 1 (c' := (if (J (p 46) v1.toNatClampNeg) = 0 then 110 else 106, [(0, .ref (p 16)), (1, .int v1), (2, .int v2)], [], me_w M J)) rfl k
              by_cases h103 : (J (p 46) v1.toNatClampNeg) = 0
              · rw [if_pos h103] at k
                have k := ly_revb 1 (c' := (111, [(0, .ref (p 16)), (1, .int v1), (2, .int v2)], [.int (Int32.ofInt 0)], me_w M J)) rfl k
                have k := lz_ri rfl (by decide) k
                rw [k, x107, if_neg h8, if_neg h15, if_neg h15_0, if_neg h15_1, if_neg h15_2, if_neg h15_3, if_pos h103]
              · rw [if_neg h103] at k
                have k := ly_revb 2 (c' := (111, [(0, .ref (p 16)), (1, .int v1), (2, .int v2)], [.int (Int32.ofInt 1)], me_w M J)) rfl k
                have k := lz_ri rfl (by decide) k
                rw [k, x107, if_neg h8, if_neg h15, if_neg h15_0, if_neg h15_1, if_neg h15_2, if_neg h15_3, if_neg h103]
/-! .voyage -/
def x108 (p : Nat → Nat) (v1 : Int32) (v2 : Int32) (J : Nat → Nat → Int32) : Int32 := if (x71 (fun i => p (31 + i)) v1 J) = 0 then (Int32.ofInt (-1))
  else if v2.toInt < 0 ∨ 4 < v2.toInt then (Int32.ofInt (-1))
    else if v2 = Int32.ofInt 0 then (J (p 37) v1.toNatClampNeg)
      else if v2 = Int32.ofInt 1 then (J (p 38) v1.toNatClampNeg)
        else if v2 = Int32.ofInt 2 then (J (p 39) v1.toNatClampNeg)
          else if v2 = Int32.ofInt 3 then (J (p 40) v1.toNatClampNeg)
            else (J (p 47) v1.toNatClampNeg)
theorem xt108 {X : nt_X} {d : Nat} {M : nt_M} {o : Option Value × nt_M} {p : Nat → Nat} {v1 : Int32} {v2 : Int32} {J : Nat → Nat → Int32} (hp : xs_P M p) (hn : xs_Q M (fun i => p (31 + i))) (k : nt_ev X d 108 [.ref (p 16), .int v1, .int v2] (me_w M J) o) : o = (some (.int (x108 p v1 v2 J)), me_w M J) := by
  have k : nt_rn X d 108 (0, [(0, .ref (p 16)), (1, .int v1), (2, .int v2)], [], me_w M J) o := k
  have k := ly_revb 1 (c' := (1, [(0, .ref (p 16)), (1, .int v1), (2, .int v2)], [.ref (p 16)], me_w M J)) rfl k
  have k := lz_get (a := (p 16)) (g := 1007) (M := me_w M J) (v := .ref (p 31)) rfl (nt_gfR rfl (hp.1 (16, 7, 31) (by decide))) k
  have k := ly_revb 1 (c' := (5, [(0, .ref (p 16)), (1, .int v1), (2, .int v2)], [.int v1, .ref (p 31)], me_w M J)) rfl k
  obtain ⟨d1, o1, ed, kc, k⟩ := lz_c (g := 71) (q := 1) (vs := [.ref (p 31), .int v1]) (rest := []) rfl rfl (by decide) (Or.inr (Or.inl ⟨_, rfl, rfl⟩)) rfl k
  have e1 := xt71 hn kc
  subst e1
  have k : nt_rn X _ 108 (8, [(0, .ref (p 16)), (1, .int v1), (2, .int v2)], [.int (x71 (fun i => p (31 + i)) v1 J)], me_w M J) _ := k
  have k := ly_revb 1 (c' := (if (x71 (fun i => p (31 + i)) v1 J) = 0 then 11 else 13, [(0, .ref (p 16)), (1, .int v1), (2, .int v2)], [], me_w M J)) rfl k
  by_cases h8 : (x71 (fun i => p (31 + i)) v1 J) = 0
  · rw [if_pos h8] at k
    have k := ly_revb 1 (c' := (12, [(0, .ref (p 16)), (1, .int v1), (2, .int v2)], [.int (Int32.ofInt (-1))], me_w M J)) rfl k
    have k := lz_ri rfl (by decide) k
    rw [k, x108, if_pos h8]
  · rw [if_neg h8] at k
    have k := ly_revb 1 (c' := (14, [(0, .ref (p 16)), (1, .int v1), (2, .int v2)], [.int v2], me_w M J)) rfl k
    by_cases h14 : v2.toInt < 0 ∨ 4 < v2.toInt
    · have k := mx_tsd (q := 110) rfl h14 (by decide) k
      have k : nt_rn X _ 108 (110, [(0, .ref (p 16)), (1, .int v1), (2, .int v2)], [], me_w M J) _ := k
      have k := ly_revb 1 (c' := (111, [(0, .ref (p 16)), (1, .int v1), (2, .int v2)], [.int (Int32.ofInt (-1))], me_w M J)) rfl k
      have k := lz_ri rfl (by decide) k
      rw [k, x108, if_neg h8, if_pos h14]
    · by_cases h14_0 : v2 = Int32.ofInt 0
      · have k := mx_tsc (q := 48) (off := 34) rfl h14 (by rw [h14_0]; rfl) (by decide) k
        have k : nt_rn X _ 108 (48, [(0, .ref (p 16)), (1, .int v1), (2, .int v2)], [], me_w M J) _ := k
        have k := ly_revb 1 (c' := (49, [(0, .ref (p 16)), (1, .int v1), (2, .int v2)], [.ref (p 16)], me_w M J)) rfl k
        have k := lz_get (a := (p 16)) (g := 1007) (M := me_w M J) (v := .ref (p 31)) rfl (nt_gfR rfl (hp.1 (16, 7, 31) (by decide))) k
        have k := lz_get (a := (p 31)) (g := 600) (M := me_w M J) (v := .ref (p 32)) rfl (nt_gfR rfl (hn.1 (0, 0, 1) (by decide))) k
        have k := lz_get (a := (p 32)) (g := 809) (M := me_w M J) (v := .ref (p 37)) rfl (nt_gfR rfl (hn.1 (1, 9, 6) (by decide))) k
        have k := ly_revb 1 (c' := (59, [(0, .ref (p 16)), (1, .int v1), (2, .int v2)], [.int v1, .ref (p 37)], me_w M J)) rfl k
        have k := mx_iald (v := J (p 37) v1.toNatClampNeg) rfl (hp.2.2.1 37 (by omega)) (rfl) k
        have k := lz_ri rfl (by decide) k
        rw [k, x108, if_neg h8, if_neg h14, if_pos h14_0]
      · by_cases h14_1 : v2 = Int32.ofInt 1
        · have k := mx_tsc (q := 61) (off := 47) rfl h14 (by rw [h14_1]; rfl) (by decide) k
          have k : nt_rn X _ 108 (61, [(0, .ref (p 16)), (1, .int v1), (2, .int v2)], [], me_w M J) _ := k
          have k := ly_revb 1 (c' := (62, [(0, .ref (p 16)), (1, .int v1), (2, .int v2)], [.ref (p 16)], me_w M J)) rfl k
          have k := lz_get (a := (p 16)) (g := 1007) (M := me_w M J) (v := .ref (p 31)) rfl (nt_gfR rfl (hp.1 (16, 7, 31) (by decide))) k
          have k := lz_get (a := (p 31)) (g := 600) (M := me_w M J) (v := .ref (p 32)) rfl (nt_gfR rfl (hn.1 (0, 0, 1) (by decide))) k
          have k := lz_get (a := (p 32)) (g := 810) (M := me_w M J) (v := .ref (p 38)) rfl (nt_gfR rfl (hn.1 (1, 10, 7) (by decide))) k
          have k := ly_revb 1 (c' := (72, [(0, .ref (p 16)), (1, .int v1), (2, .int v2)], [.int v1, .ref (p 38)], me_w M J)) rfl k
          have k := mx_iald (v := J (p 38) v1.toNatClampNeg) rfl (hp.2.2.1 38 (by omega)) (rfl) k
          have k := lz_ri rfl (by decide) k
          rw [k, x108, if_neg h8, if_neg h14, if_neg h14_0, if_pos h14_1]
        · by_cases h14_2 : v2 = Int32.ofInt 2
          · have k := mx_tsc (q := 74) (off := 60) rfl h14 (by rw [h14_2]; rfl) (by decide) k
            have k : nt_rn X _ 108 (74, [(0, .ref (p 16)), (1, .int v1), (2, .int v2)], [], me_w M J) _ := k
            have k := ly_revb 1 (c' := (75, [(0, .ref (p 16)), (1, .int v1), (2, .int v2)], [.ref (p 16)], me_w M J)) rfl k
            have k := lz_get (a := (p 16)) (g := 1007) (M := me_w M J) (v := .ref (p 31)) rfl (nt_gfR rfl (hp.1 (16, 7, 31) (by decide))) k
            have k := lz_get (a := (p 31)) (g := 600) (M := me_w M J) (v := .ref (p 32)) rfl (nt_gfR rfl (hn.1 (0, 0, 1) (by decide))) k
            have k := lz_get (a := (p 32)) (g := 811) (M := me_w M J) (v := .ref (p 39)) rfl (nt_gfR rfl (hn.1 (1, 11, 8) (by decide))) k
            have k := ly_revb 1 (c' := (85, [(0, .ref (p 16)), (1, .int v1), (2, .int v2)], [.int v1, .ref (p 39)], me_w M J)) rfl k
            have k := mx_iald (v := J (p 39) v1.toNatClampNeg) rfl (hp.2.2.1 39 (by omega)) (rfl) k
            have k := lz_ri rfl (by decide) k
            rw [k, x108, if_neg h8, if_neg h14, if_neg h14_0, if_neg h14_1, if_pos h14_2]
          · by_cases h14_3 : v2 = Int32.ofInt 3
            · have k := mx_tsc (q := 87) (off := 73) rfl h14 (by rw [h14_3]; rfl) (by decide) k
              have k : nt_rn X _ 108 (87, [(0, .ref (p 16)), (1, .int v1), (2, .int v2)], [], me_w M J) _ := k
              have k := ly_revb 1 (c' := (88, [(0, .ref (p 16)), (1, .int v1), (2, .int v2)], [.ref (p 16)], me_w M J)) rfl k
              have k := lz_get (a := (p 16)) (g := 1007) (M := me_w M J) (v := .ref (p 31)) rfl (nt_gfR rfl (hp.1 (16, 7, 31) (by decide))) k
              have k := lz_get (a := (p 31)) (g := 600) (M := me_w M J) (v := .ref (p 32)) rfl (nt_gfR rfl (hn.1 (0, 0, 1) (by decide))) k
              have k := lz_get (a := (p 32)) (g := 812) (M := me_w M J) (v := .ref (p 40)) rfl (nt_gfR rfl (hn.1 (1, 12, 9) (by decide))) k
              have k := ly_revb 1 (c' := (98, [(0, .ref (p 16)), (1, .int v1), (2, .int v2)], [.int v1, .ref (p 40)], me_w M J)) rfl k
              have k := mx_iald (v := J (p 40) v1.toNatClampNeg) rfl (hp.2.2.1 40 (by omega)) (rfl) k
              have k := lz_ri rfl (by decide) k
              rw [k, x108, if_neg h8, if_neg h14, if_neg h14_0, if_neg h14_1, if_neg h14_2, if_pos h14_3]
            · have hz : v2 = Int32.ofInt 4 := by
                have z1 := h14
                have y0 : v2.toInt ≠ 0 := fun e => h14_0 (Int32.toInt_inj.mp (e.trans (by decide)))
                have y1 : v2.toInt ≠ 1 := fun e => h14_1 (Int32.toInt_inj.mp (e.trans (by decide)))
                have y2 : v2.toInt ≠ 2 := fun e => h14_2 (Int32.toInt_inj.mp (e.trans (by decide)))
                have y3 : v2.toInt ≠ 3 := fun e => h14_3 (Int32.toInt_inj.mp (e.trans (by decide)))
                exact Int32.toInt_inj.mp ((show v2.toInt = 4 by omega).trans (by decide))
              have k := mx_tsc (q := 100) (off := 86) rfl h14 (by rw [hz]; rfl) (by decide) k
              have k : nt_rn X _ 108 (100, [(0, .ref (p 16)), (1, .int v1), (2, .int v2)], [], me_w M J) _ := k
              have k := ly_revb 1 (c' := (101, [(0, .ref (p 16)), (1, .int v1), (2, .int v2)], [.ref (p 16)], me_w M J)) rfl k
              have k := lz_get (a := (p 16)) (g := 1007) (M := me_w M J) (v := .ref (p 31)) rfl (nt_gfR rfl (hp.1 (16, 7, 31) (by decide))) k
              have k := lz_get (a := (p 31)) (g := 613) (M := me_w M J) (v := .ref (p 47)) rfl (nt_gfR rfl (hn.1 (0, 13, 16) (by decide))) k
              have k := ly_revb 1 (c' := (108, [(0, .ref (p 16)), (1, .int v1), (2, .int v2)], [.int v1, .ref (p 47)], me_w M J)) rfl k
              have k := mx_iald (v := J (p 47) v1.toNatClampNeg) rfl (hp.2.2.1 47 (by omega)) (rfl) k
              have k := lz_ri rfl (by decide) k
              rw [k, x108, if_neg h8, if_neg h14, if_neg h14_0, if_neg h14_1, if_neg h14_2, if_neg h14_3]
/-! .move -/
def x109 (p : Nat → Nat) (v1 : Int32) (v2 : Int32) (J : Nat → Nat → Int32) : Int32 × (Nat → Nat → Int32) := if (x70 (fun i => p (31 + i)) v1 J) = 0 then (Int32.ofInt 0, J)
  else if v2 = (Int32.ofInt (-1)) then if (x72 (fun i => p (31 + i)) J) ≤ 0 then (Int32.ofInt 0, J)
      else if (J (p 45) v1.toNatClampNeg) = v2 then (Int32.ofInt 0, J)
        else if (x73 (fun i => p (31 + i)) v1 J) = 0 then (Int32.ofInt 0, J)
          else if v2 = (Int32.ofInt (-1)) then (Int32.ofInt 1, x74 (fun i => p (31 + i)) v1 v2 J)
            else if (J (p 41) v2.toNatClampNeg) = 0 then (Int32.ofInt 1, x74 (fun i => p (31 + i)) v1 v2 J)
              else (Int32.ofInt 0, J)
    else if (x65 (fun i => p (31 + i)) v2 J) = 0 then (Int32.ofInt 0, J)
      else if (x72 (fun i => p (31 + i)) J) ≤ 0 then (Int32.ofInt 0, J)
        else if (J (p 45) v1.toNatClampNeg) = v2 then (Int32.ofInt 0, J)
          else if (x73 (fun i => p (31 + i)) v1 J) = 0 then (Int32.ofInt 0, J)
            else if v2 = (Int32.ofInt (-1)) then (Int32.ofInt 1, x74 (fun i => p (31 + i)) v1 v2 J)
              else if (J (p 41) v2.toNatClampNeg) = 0 then (Int32.ofInt 1, x74 (fun i => p (31 + i)) v1 v2 J)
                else (Int32.ofInt 0, J)
theorem xt109 {X : nt_X} {d : Nat} {M : nt_M} {o : Option Value × nt_M} {p : Nat → Nat} {v1 : Int32} {v2 : Int32} {J : Nat → Nat → Int32} (hp : xs_P M p) (hn : xs_Q M (fun i => p (31 + i))) (k : nt_ev X d 109 [.ref (p 16), .int v1, .int v2] (me_w M J) o) : o = (some (.int ((x109 p v1 v2 J).1)), me_w M ((x109 p v1 v2 J).2)) := by
  have k : nt_rn X d 109 (0, [(0, .ref (p 16)), (1, .int v1), (2, .int v2)], [], me_w M J) o := k
  have k := ly_revb 1 (c' := (1, [(0, .ref (p 16)), (1, .int v1), (2, .int v2)], [.ref (p 16)], me_w M J)) rfl k
  have k := lz_get (a := (p 16)) (g := 1007) (M := me_w M J) (v := .ref (p 31)) rfl (nt_gfR rfl (hp.1 (16, 7, 31) (by decide))) k
  have k := ly_revb 1 (c' := (5, [(0, .ref (p 16)), (1, .int v1), (2, .int v2)], [.int v1, .ref (p 31)], me_w M J)) rfl k
  obtain ⟨d1, o1, ed, kc, k⟩ := lz_c (g := 70) (q := 1) (vs := [.ref (p 31), .int v1]) (rest := []) rfl rfl (by decide) (Or.inr (Or.inl ⟨_, rfl, rfl⟩)) rfl k
  have e1 := xt70 hn kc
  subst e1
  have k : nt_rn X _ 109 (8, [(0, .ref (p 16)), (1, .int v1), (2, .int v2)], [.int (x70 (fun i => p (31 + i)) v1 J)], me_w M J) _ := k
  have k := ly_revb 1 (c' := (if (x70 (fun i => p (31 + i)) v1 J) = 0 then 31 else 11, [(0, .ref (p 16)), (1, .int v1), (2, .int v2)], [], me_w M J)) rfl k
  by_cases h8 : (x70 (fun i => p (31 + i)) v1 J) = 0
  · rw [if_pos h8] at k
    have k := ly_revb 4 (c' := (if (Int32.ofInt 0) = 0 then 71 else 37, [(3, .int (Int32.ofInt 0)), (0, .ref (p 16)), (1, .int v1), (2, .int v2)], [], me_w M J)) rfl k
    rw [if_pos (show (Int32.ofInt 0) = 0 from by decide)] at k
    have k := ly_revb 1 (c' := (72, [(3, .int (Int32.ofInt 0)), (0, .ref (p 16)), (1, .int v1), (2, .int v2)], [.int (Int32.ofInt 0)], me_w M J)) rfl k
    have k := lz_ri rfl (by decide) k
    rw [k, x109, if_pos h8]
  · rw [if_neg h8] at k
    have k := ly_revb 3 (c' := (if v2 = (Int32.ofInt (-1)) then 27 else 16, [(0, .ref (p 16)), (1, .int v1), (2, .int v2)], [], me_w M J)) rfl k
    by_cases h13 : v2 = (Int32.ofInt (-1))
    · rw [if_pos h13] at k
      have k := ly_revb 5 (c' := (if (Int32.ofInt 1) = 0 then 71 else 37, [(3, .int (Int32.ofInt 1)), (0, .ref (p 16)), (1, .int v1), (2, .int v2)], [], me_w M J)) rfl k
      rw [if_neg (show ¬ ((Int32.ofInt 1) = 0) from by decide)] at k
      have k := ly_revb 1 (c' := (38, [(3, .int (Int32.ofInt 1)), (0, .ref (p 16)), (1, .int v1), (2, .int v2)], [.ref (p 16)], me_w M J)) rfl k
      have k := lz_get (a := (p 16)) (g := 1007) (M := me_w M J) (v := .ref (p 31)) rfl (nt_gfR rfl (hp.1 (16, 7, 31) (by decide))) k
      obtain ⟨d1, o1, ed, kc, k⟩ := lz_c (g := 72) (q := 1) (vs := [.ref (p 31)]) (rest := []) rfl rfl (by decide) (Or.inr (Or.inl ⟨_, rfl, rfl⟩)) rfl k
      have e1 := xt72 hn kc
      subst e1
      have k : nt_rn X _ 109 (44, [(3, .int (Int32.ofInt 1)), (0, .ref (p 16)), (1, .int v1), (2, .int v2)], [.int (x72 (fun i => p (31 + i)) J)], me_w M J) _ := k
      have k := ly_revb 1 (c' := (if (x72 (fun i => p (31 + i)) J) ≤ 0 then 71 else 47, [(3, .int (Int32.ofInt 1)), (0, .ref (p 16)), (1, .int v1), (2, .int v2)], [], me_w M J)) rfl k
      by_cases h44 : (x72 (fun i => p (31 + i)) J) ≤ 0
      · rw [if_pos h44] at k
        have k := ly_revb 1 (c' := (72, [(3, .int (Int32.ofInt 1)), (0, .ref (p 16)), (1, .int v1), (2, .int v2)], [.int (Int32.ofInt 0)], me_w M J)) rfl k
        have k := lz_ri rfl (by decide) k
        rw [k, x109, if_neg h8, if_pos h13, if_pos h44]
      · rw [if_neg h44] at k
        have k := ly_revb 1 (c' := (48, [(3, .int (Int32.ofInt 1)), (0, .ref (p 16)), (1, .int v1), (2, .int v2)], [.ref (p 16)], me_w M J)) rfl k
        have k := lz_get (a := (p 16)) (g := 1007) (M := me_w M J) (v := .ref (p 31)) rfl (nt_gfR rfl (hp.1 (16, 7, 31) (by decide))) k
        have k := lz_get (a := (p 31)) (g := 611) (M := me_w M J) (v := .ref (p 45)) rfl (nt_gfR rfl (hn.1 (0, 11, 14) (by decide))) k
        have k := ly_revb 1 (c' := (55, [(3, .int (Int32.ofInt 1)), (0, .ref (p 16)), (1, .int v1), (2, .int v2)], [.int v1, .ref (p 45)], me_w M J)) rfl k
        have k := mx_iald (v := J (p 45) v1.toNatClampNeg) rfl (hp.2.2.1 45 (by omega)) (rfl) k
        have k := ly_revb 2 (c' := (if (J (p 45) v1.toNatClampNeg) = v2 then 71 else 60, [(3, .int (Int32.ofInt 1)), (0, .ref (p 16)), (1, .int v1), (2, .int v2)], [], me_w M J)) rfl k
        by_cases h57 : (J (p 45) v1.toNatClampNeg) = v2
        · rw [if_pos h57] at k
          have k := ly_revb 1 (c' := (72, [(3, .int (Int32.ofInt 1)), (0, .ref (p 16)), (1, .int v1), (2, .int v2)], [.int (Int32.ofInt 0)], me_w M J)) rfl k
          have k := lz_ri rfl (by decide) k
          rw [k, x109, if_neg h8, if_pos h13, if_neg h44, if_pos h57]
        · rw [if_neg h57] at k
          have k := ly_revb 1 (c' := (61, [(3, .int (Int32.ofInt 1)), (0, .ref (p 16)), (1, .int v1), (2, .int v2)], [.ref (p 16)], me_w M J)) rfl k
          have k := lz_get (a := (p 16)) (g := 1007) (M := me_w M J) (v := .ref (p 31)) rfl (nt_gfR rfl (hp.1 (16, 7, 31) (by decide))) k
          have k := ly_revb 1 (c' := (65, [(3, .int (Int32.ofInt 1)), (0, .ref (p 16)), (1, .int v1), (2, .int v2)], [.int v1, .ref (p 31)], me_w M J)) rfl k
          obtain ⟨d1, o1, ed, kc, k⟩ := lz_c (g := 73) (q := 1) (vs := [.ref (p 31), .int v1]) (rest := []) rfl rfl (by decide) (Or.inr (Or.inl ⟨_, rfl, rfl⟩)) rfl k
          have e1 := xt73 hn kc
          subst e1
          have k : nt_rn X _ 109 (68, [(3, .int (Int32.ofInt 1)), (0, .ref (p 16)), (1, .int v1), (2, .int v2)], [.int (x73 (fun i => p (31 + i)) v1 J)], me_w M J) _ := k
          have k := ly_revb 1 (c' := (if (x73 (fun i => p (31 + i)) v1 J) = 0 then 71 else 73, [(3, .int (Int32.ofInt 1)), (0, .ref (p 16)), (1, .int v1), (2, .int v2)], [], me_w M J)) rfl k
          by_cases h68 : (x73 (fun i => p (31 + i)) v1 J) = 0
          · rw [if_pos h68] at k
            have k := ly_revb 1 (c' := (72, [(3, .int (Int32.ofInt 1)), (0, .ref (p 16)), (1, .int v1), (2, .int v2)], [.int (Int32.ofInt 0)], me_w M J)) rfl k
            have k := lz_ri rfl (by decide) k
            rw [k, x109, if_neg h8, if_pos h13, if_neg h44, if_neg h57, if_pos h68]
          · rw [if_neg h68] at k
            have k := ly_revb 3 (c' := (if v2 = (Int32.ofInt (-1)) then 92 else 78, [(3, .int (Int32.ofInt 1)), (0, .ref (p 16)), (1, .int v1), (2, .int v2)], [], me_w M J)) rfl k
            by_cases h75 : v2 = (Int32.ofInt (-1))
            · rw [if_pos h75] at k
              have k := ly_revb 1 (c' := (93, [(3, .int (Int32.ofInt 1)), (0, .ref (p 16)), (1, .int v1), (2, .int v2)], [.ref (p 16)], me_w M J)) rfl k
              have k := lz_get (a := (p 16)) (g := 1007) (M := me_w M J) (v := .ref (p 31)) rfl (nt_gfR rfl (hp.1 (16, 7, 31) (by decide))) k
              have k := ly_revb 2 (c' := (98, [(3, .int (Int32.ofInt 1)), (0, .ref (p 16)), (1, .int v1), (2, .int v2)], [.int v2, .int v1, .ref (p 31)], me_w M J)) rfl k
              obtain ⟨d1, o1, ed, kc, k⟩ := lz_c (g := 74) (q := 1) (vs := [.ref (p 31), .int v1, .int v2]) (rest := []) rfl rfl (by decide) (Or.inr (Or.inl ⟨_, rfl, rfl⟩)) rfl k
              have e1 := xt74 hn kc
              subst e1
              have k : nt_rn X _ 109 (101, [(3, .int (Int32.ofInt 1)), (0, .ref (p 16)), (1, .int v1), (2, .int v2)], [], me_w M (x74 (fun i => p (31 + i)) v1 v2 J)) _ := k
              have k := ly_revb 1 (c' := (102, [(3, .int (Int32.ofInt 1)), (0, .ref (p 16)), (1, .int v1), (2, .int v2)], [.int (Int32.ofInt 1)], me_w M (x74 (fun i => p (31 + i)) v1 v2 J))) rfl k
              have k := lz_ri rfl (by decide) k
              rw [k, x109, if_neg h8, if_pos h13, if_neg h44, if_neg h57, if_neg h68, if_pos h75]
            · rw [if_neg h75] at k
              have k := ly_revb 1 (c' := (79, [(3, .int (Int32.ofInt 1)), (0, .ref (p 16)), (1, .int v1), (2, .int v2)], [.ref (p 16)], me_w M J)) rfl k
              have k := lz_get (a := (p 16)) (g := 1007) (M := me_w M J) (v := .ref (p 31)) rfl (nt_gfR rfl (hp.1 (16, 7, 31) (by decide))) k
              have k := lz_get (a := (p 31)) (g := 607) (M := me_w M J) (v := .ref (p 41)) rfl (nt_gfR rfl (hn.1 (0, 7, 10) (by decide))) k
              have k := ly_revb 1 (c' := (86, [(3, .int (Int32.ofInt 1)), (0, .ref (p 16)), (1, .int v1), (2, .int v2)], [.int v2, .ref (p 41)], me_w M J)) rfl k
              have k := mx_iald (v := J (p 41) v2.toNatClampNeg) rfl (hp.2.2.1 41 (by omega)) (rfl) k
              have k := ly_revb 1 (c' := (if (J (p 41) v2.toNatClampNeg) = 0 then 92 else 90, [(3, .int (Int32.ofInt 1)), (0, .ref (p 16)), (1, .int v1), (2, .int v2)], [], me_w M J)) rfl k
              by_cases h87 : (J (p 41) v2.toNatClampNeg) = 0
              · rw [if_pos h87] at k
                have k := ly_revb 1 (c' := (93, [(3, .int (Int32.ofInt 1)), (0, .ref (p 16)), (1, .int v1), (2, .int v2)], [.ref (p 16)], me_w M J)) rfl k
                have k := lz_get (a := (p 16)) (g := 1007) (M := me_w M J) (v := .ref (p 31)) rfl (nt_gfR rfl (hp.1 (16, 7, 31) (by decide))) k
                have k := ly_revb 2 (c' := (98, [(3, .int (Int32.ofInt 1)), (0, .ref (p 16)), (1, .int v1), (2, .int v2)], [.int v2, .int v1, .ref (p 31)], me_w M J)) rfl k
                obtain ⟨d1, o1, ed, kc, k⟩ := lz_c (g := 74) (q := 1) (vs := [.ref (p 31), .int v1, .int v2]) (rest := []) rfl rfl (by decide) (Or.inr (Or.inl ⟨_, rfl, rfl⟩)) rfl k
                have e1 := xt74 hn kc
                subst e1
                have k : nt_rn X _ 109 (101, [(3, .int (Int32.ofInt 1)), (0, .ref (p 16)), (1, .int v1), (2, .int v2)], [], me_w M (x74 (fun i => p (31 + i)) v1 v2 J)) _ := k
                have k := ly_revb 1 (c' := (102, [(3, .int (Int32.ofInt 1)), (0, .ref (p 16)), (1, .int v1), (2, .int v2)], [.int (Int32.ofInt 1)], me_w M (x74 (fun i => p (31 + i)) v1 v2 J))) rfl k
                have k := lz_ri rfl (by decide) k
                rw [k, x109, if_neg h8, if_pos h13, if_neg h44, if_neg h57, if_neg h68, if_neg h75, if_pos h87]
              · rw [if_neg h87] at k
                have k := ly_revb 1 (c' := (91, [(3, .int (Int32.ofInt 1)), (0, .ref (p 16)), (1, .int v1), (2, .int v2)], [.int (Int32.ofInt 0)], me_w M J)) rfl k
                have k := lz_ri rfl (by decide) k
                rw [k, x109, if_neg h8, if_pos h13, if_neg h44, if_neg h57, if_neg h68, if_neg h75, if_neg h87]
    · rw [if_neg h13] at k
      have k := ly_revb 1 (c' := (17, [(0, .ref (p 16)), (1, .int v1), (2, .int v2)], [.ref (p 16)], me_w M J)) rfl k
      have k := lz_get (a := (p 16)) (g := 1007) (M := me_w M J) (v := .ref (p 31)) rfl (nt_gfR rfl (hp.1 (16, 7, 31) (by decide))) k
      have k := ly_revb 1 (c' := (21, [(0, .ref (p 16)), (1, .int v1), (2, .int v2)], [.int v2, .ref (p 31)], me_w M J)) rfl k
      obtain ⟨d1, o1, ed, kc, k⟩ := lz_c (g := 65) (q := 1) (vs := [.ref (p 31), .int v2]) (rest := []) rfl rfl (by decide) (Or.inr (Or.inl ⟨_, rfl, rfl⟩)) rfl k
      have e1 := xt65 hn kc
      subst e1
      have k : nt_rn X _ 109 (24, [(0, .ref (p 16)), (1, .int v1), (2, .int v2)], [.int (x65 (fun i => p (31 + i)) v2 J)], me_w M J) _ := k
      have k := ly_revb 1 (c' := (if (x65 (fun i => p (31 + i)) v2 J) = 0 then 31 else 27, [(0, .ref (p 16)), (1, .int v1), (2, .int v2)], [], me_w M J)) rfl k
      by_cases h24 : (x65 (fun i => p (31 + i)) v2 J) = 0
      · rw [if_pos h24] at k
        have k := ly_revb 4 (c' := (if (Int32.ofInt 0) = 0 then 71 else 37, [(3, .int (Int32.ofInt 0)), (0, .ref (p 16)), (1, .int v1), (2, .int v2)], [], me_w M J)) rfl k
        rw [if_pos (show (Int32.ofInt 0) = 0 from by decide)] at k
        have k := ly_revb 1 (c' := (72, [(3, .int (Int32.ofInt 0)), (0, .ref (p 16)), (1, .int v1), (2, .int v2)], [.int (Int32.ofInt 0)], me_w M J)) rfl k
        have k := lz_ri rfl (by decide) k
        rw [k, x109, if_neg h8, if_neg h13, if_pos h24]
      · rw [if_neg h24] at k
        have k := ly_revb 5 (c' := (if (Int32.ofInt 1) = 0 then 71 else 37, [(3, .int (Int32.ofInt 1)), (0, .ref (p 16)), (1, .int v1), (2, .int v2)], [], me_w M J)) rfl k
        rw [if_neg (show ¬ ((Int32.ofInt 1) = 0) from by decide)] at k
        have k := ly_revb 1 (c' := (38, [(3, .int (Int32.ofInt 1)), (0, .ref (p 16)), (1, .int v1), (2, .int v2)], [.ref (p 16)], me_w M J)) rfl k
        have k := lz_get (a := (p 16)) (g := 1007) (M := me_w M J) (v := .ref (p 31)) rfl (nt_gfR rfl (hp.1 (16, 7, 31) (by decide))) k
        obtain ⟨d1, o1, ed, kc, k⟩ := lz_c (g := 72) (q := 1) (vs := [.ref (p 31)]) (rest := []) rfl rfl (by decide) (Or.inr (Or.inl ⟨_, rfl, rfl⟩)) rfl k
        have e1 := xt72 hn kc
        subst e1
        have k : nt_rn X _ 109 (44, [(3, .int (Int32.ofInt 1)), (0, .ref (p 16)), (1, .int v1), (2, .int v2)], [.int (x72 (fun i => p (31 + i)) J)], me_w M J) _ := k
        have k := ly_revb 1 (c' := (if (x72 (fun i => p (31 + i)) J) ≤ 0 then 71 else 47, [(3, .int (Int32.ofInt 1)), (0, .ref (p 16)), (1, .int v1), (2, .int v2)], [], me_w M J)) rfl k
        by_cases h44 : (x72 (fun i => p (31 + i)) J) ≤ 0
        · rw [if_pos h44] at k
          have k := ly_revb 1 (c' := (72, [(3, .int (Int32.ofInt 1)), (0, .ref (p 16)), (1, .int v1), (2, .int v2)], [.int (Int32.ofInt 0)], me_w M J)) rfl k
          have k := lz_ri rfl (by decide) k
          rw [k, x109, if_neg h8, if_neg h13, if_neg h24, if_pos h44]
        · rw [if_neg h44] at k
          have k := ly_revb 1 (c' := (48, [(3, .int (Int32.ofInt 1)), (0, .ref (p 16)), (1, .int v1), (2, .int v2)], [.ref (p 16)], me_w M J)) rfl k
          have k := lz_get (a := (p 16)) (g := 1007) (M := me_w M J) (v := .ref (p 31)) rfl (nt_gfR rfl (hp.1 (16, 7, 31) (by decide))) k
          have k := lz_get (a := (p 31)) (g := 611) (M := me_w M J) (v := .ref (p 45)) rfl (nt_gfR rfl (hn.1 (0, 11, 14) (by decide))) k
          have k := ly_revb 1 (c' := (55, [(3, .int (Int32.ofInt 1)), (0, .ref (p 16)), (1, .int v1), (2, .int v2)], [.int v1, .ref (p 45)], me_w M J)) rfl k
          have k := mx_iald (v := J (p 45) v1.toNatClampNeg) rfl (hp.2.2.1 45 (by omega)) (rfl) k
          have k := ly_revb 2 (c' := (if (J (p 45) v1.toNatClampNeg) = v2 then 71 else 60, [(3, .int (Int32.ofInt 1)), (0, .ref (p 16)), (1, .int v1), (2, .int v2)], [], me_w M J)) rfl k
          by_cases h57 : (J (p 45) v1.toNatClampNeg) = v2
          · rw [if_pos h57] at k
            have k := ly_revb 1 (c' := (72, [(3, .int (Int32.ofInt 1)), (0, .ref (p 16)), (1, .int v1), (2, .int v2)], [.int (Int32.ofInt 0)], me_w M J)) rfl k
            have k := lz_ri rfl (by decide) k
            rw [k, x109, if_neg h8, if_neg h13, if_neg h24, if_neg h44, if_pos h57]
          · rw [if_neg h57] at k
            have k := ly_revb 1 (c' := (61, [(3, .int (Int32.ofInt 1)), (0, .ref (p 16)), (1, .int v1), (2, .int v2)], [.ref (p 16)], me_w M J)) rfl k
            have k := lz_get (a := (p 16)) (g := 1007) (M := me_w M J) (v := .ref (p 31)) rfl (nt_gfR rfl (hp.1 (16, 7, 31) (by decide))) k
            have k := ly_revb 1 (c' := (65, [(3, .int (Int32.ofInt 1)), (0, .ref (p 16)), (1, .int v1), (2, .int v2)], [.int v1, .ref (p 31)], me_w M J)) rfl k
            obtain ⟨d1, o1, ed, kc, k⟩ := lz_c (g := 73) (q := 1) (vs := [.ref (p 31), .int v1]) (rest := []) rfl rfl (by decide) (Or.inr (Or.inl ⟨_, rfl, rfl⟩)) rfl k
            have e1 := xt73 hn kc
            subst e1
            have k : nt_rn X _ 109 (68, [(3, .int (Int32.ofInt 1)), (0, .ref (p 16)), (1, .int v1), (2, .int v2)], [.int (x73 (fun i => p (31 + i)) v1 J)], me_w M J) _ := k
            have k := ly_revb 1 (c' := (if (x73 (fun i => p (31 + i)) v1 J) = 0 then 71 else 73, [(3, .int (Int32.ofInt 1)), (0, .ref (p 16)), (1, .int v1), (2, .int v2)], [], me_w M J)) rfl k
            by_cases h68 : (x73 (fun i => p (31 + i)) v1 J) = 0
            · rw [if_pos h68] at k
              have k := ly_revb 1 (c' := (72, [(3, .int (Int32.ofInt 1)), (0, .ref (p 16)), (1, .int v1), (2, .int v2)], [.int (Int32.ofInt 0)], me_w M J)) rfl k
              have k := lz_ri rfl (by decide) k
              rw [k, x109, if_neg h8, if_neg h13, if_neg h24, if_neg h44, if_neg h57, if_pos h68]
            · rw [if_neg h68] at k
              have k := ly_revb 3 (c' := (if v2 = (Int32.ofInt (-1)) then 92 else 78, [(3, .int (Int32.ofInt 1)), (0, .ref (p 16)), (1, .int v1), (2, .int v2)], [], me_w M J)) rfl k
              by_cases h75 : v2 = (Int32.ofInt (-1))
              · rw [if_pos h75] at k
                have k := ly_revb 1 (c' := (93, [(3, .int (Int32.ofInt 1)), (0, .ref (p 16)), (1, .int v1), (2, .int v2)], [.ref (p 16)], me_w M J)) rfl k
                have k := lz_get (a := (p 16)) (g := 1007) (M := me_w M J) (v := .ref (p 31)) rfl (nt_gfR rfl (hp.1 (16, 7, 31) (by decide))) k
                have k := ly_revb 2 (c' := (98, [(3, .int (Int32.ofInt 1)), (0, .ref (p 16)), (1, .int v1), (2, .int v2)], [.int v2, .int v1, .ref (p 31)], me_w M J)) rfl k
                obtain ⟨d1, o1, ed, kc, k⟩ := lz_c (g := 74) (q := 1) (vs := [.ref (p 31), .int v1, .int v2]) (rest := []) rfl rfl (by decide) (Or.inr (Or.inl ⟨_, rfl, rfl⟩)) rfl k
                have e1 := xt74 hn kc
                subst e1
                have k : nt_rn X _ 109 (101, [(3, .int (Int32.ofInt 1)), (0, .ref (p 16)), (1, .int v1), (2, .int v2)], [], me_w M (x74 (fun i => p (31 + i)) v1 v2 J)) _ := k
                have k := ly_revb 1 (c' := (102, [(3, .int (Int32.ofInt 1)), (0, .ref (p 16)), (1, .int v1), (2, .int v2)], [.int (Int32.ofInt 1)], me_w M (x74 (fun i => p (31 + i)) v1 v2 J))) rfl k
                have k := lz_ri rfl (by decide) k
                rw [k, x109, if_neg h8, if_neg h13, if_neg h24, if_neg h44, if_neg h57, if_neg h68, if_pos h75]
              · rw [if_neg h75] at k
                have k := ly_revb 1 (c' := (79, [(3, .int (Int32.ofInt 1)), (0, .ref (p 16)), (1, .int v1), (2, .int v2)], [.ref (p 16)], me_w M J)) rfl k
                have k := lz_get (a := (p 16)) (g := 1007) (M := me_w M J) (v := .ref (p 31)) rfl (nt_gfR rfl (hp.1 (16, 7, 31) (by decide))) k
                have k := lz_get (a := (p 31)) (g := 607) (M := me_w M J) (v := .ref (p 41)) rfl (nt_gfR rfl (hn.1 (0, 7, 10) (by decide))) k
                have k := ly_revb 1 (c' := (86, [(3, .int (Int32.ofInt 1)), (0, .ref (p 16)), (1, .int v1), (2, .int v2)], [.int v2, .ref (p 41)], me_w M J)) rfl k
                have k := mx_iald (v := J (p 41) v2.toNatClampNeg) rfl (hp.2.2.1 41 (by omega)) (rfl) k
                have k := ly_revb 1 (c' := (if (J (p 41) v2.toNatClampNeg) = 0 then 92 else 90, [(3, .int (Int32.ofInt 1)), (0, .ref (p 16)), (1, .int v1), (2, .int v2)], [], me_w M J)) rfl k
                by_cases h87 : (J (p 41) v2.toNatClampNeg) = 0
                · rw [if_pos h87] at k
                  have k := ly_revb 1 (c' := (93, [(3, .int (Int32.ofInt 1)), (0, .ref (p 16)), (1, .int v1), (2, .int v2)], [.ref (p 16)], me_w M J)) rfl k
                  have k := lz_get (a := (p 16)) (g := 1007) (M := me_w M J) (v := .ref (p 31)) rfl (nt_gfR rfl (hp.1 (16, 7, 31) (by decide))) k
                  have k := ly_revb 2 (c' := (98, [(3, .int (Int32.ofInt 1)), (0, .ref (p 16)), (1, .int v1), (2, .int v2)], [.int v2, .int v1, .ref (p 31)], me_w M J)) rfl k
                  obtain ⟨d1, o1, ed, kc, k⟩ := lz_c (g := 74) (q := 1) (vs := [.ref (p 31), .int v1, .int v2]) (rest := []) rfl rfl (by decide) (Or.inr (Or.inl ⟨_, rfl, rfl⟩)) rfl k
                  have e1 := xt74 hn kc
                  subst e1
                  have k : nt_rn X _ 109 (101, [(3, .int (Int32.ofInt 1)), (0, .ref (p 16)), (1, .int v1), (2, .int v2)], [], me_w M (x74 (fun i => p (31 + i)) v1 v2 J)) _ := k
                  have k := ly_revb 1 (c' := (102, [(3, .int (Int32.ofInt 1)), (0, .ref (p 16)), (1, .int v1), (2, .int v2)], [.int (Int32.ofInt 1)], me_w M (x74 (fun i => p (31 + i)) v1 v2 J))) rfl k
                  have k := lz_ri rfl (by decide) k
                  rw [k, x109, if_neg h8, if_neg h13, if_neg h24, if_neg h44, if_neg h57, if_neg h68, if_neg h75, if_pos h87]
                · rw [if_neg h87] at k
                  have k := ly_revb 1 (c' := (91, [(3, .int (Int32.ofInt 1)), (0, .ref (p 16)), (1, .int v1), (2, .int v2)], [.int (Int32.ofInt 0)], me_w M J)) rfl k
                  have k := lz_ri rfl (by decide) k
                  rw [k, x109, if_neg h8, if_neg h13, if_neg h24, if_neg h44, if_neg h57, if_neg h68, if_neg h75, if_neg h87]
theorem x109_frJ {p : Nat → Nat} {v1 : Int32} {v2 : Int32} {J : Nat → Nat → Int32} {b : Nat} (n0 : b ≠ p 31) (n1 : b ≠ p 45) : (x109 p v1 v2 J).2 b = J b := by
  unfold x109
  by_cases h : (x70 (fun i => p (31 + i)) v1 J) = 0
  · rw [if_pos h]
    all_goals first | (dsimp only; exact (show J b = J b from rfl)) | exact (show J b = J b from rfl)
  · rw [if_neg h]
    by_cases h : v2 = (Int32.ofInt (-1))
    · rw [if_pos h]
      by_cases h : (x72 (fun i => p (31 + i)) J) ≤ 0
      · rw [if_pos h]
        all_goals first | (dsimp only; exact (show J b = J b from rfl)) | exact (show J b = J b from rfl)
      · rw [if_neg h]
        by_cases h : (J (p 45) v1.toNatClampNeg) = v2
        · rw [if_pos h]
          all_goals first | (dsimp only; exact (show J b = J b from rfl)) | exact (show J b = J b from rfl)
        · rw [if_neg h]
          by_cases h : (x73 (fun i => p (31 + i)) v1 J) = 0
          · rw [if_pos h]
            all_goals first | (dsimp only; exact (show J b = J b from rfl)) | exact (show J b = J b from rfl)
          · rw [if_neg h]
            by_cases h : v2 = (Int32.ofInt (-1))
            · rw [if_pos h]
              all_goals first | (dsimp only; exact (show (x74 (fun i => p (31 + i)) v1 v2 J) b = J b from x74_frJ  n0 n1)) | exact (show (x74 (fun i => p (31 + i)) v1 v2 J) b = J b from x74_frJ  n0 n1)
            · rw [if_neg h]
              by_cases h : (J (p 41) v2.toNatClampNeg) = 0
              · rw [if_pos h]
                all_goals first | (dsimp only; exact (show (x74 (fun i => p (31 + i)) v1 v2 J) b = J b from x74_frJ  n0 n1)) | exact (show (x74 (fun i => p (31 + i)) v1 v2 J) b = J b from x74_frJ  n0 n1)
              · rw [if_neg h]
                all_goals first | (dsimp only; exact (show J b = J b from rfl)) | exact (show J b = J b from rfl)
    · rw [if_neg h]
      by_cases h : (x65 (fun i => p (31 + i)) v2 J) = 0
      · rw [if_pos h]
        all_goals first | (dsimp only; exact (show J b = J b from rfl)) | exact (show J b = J b from rfl)
      · rw [if_neg h]
        by_cases h : (x72 (fun i => p (31 + i)) J) ≤ 0
        · rw [if_pos h]
          all_goals first | (dsimp only; exact (show J b = J b from rfl)) | exact (show J b = J b from rfl)
        · rw [if_neg h]
          by_cases h : (J (p 45) v1.toNatClampNeg) = v2
          · rw [if_pos h]
            all_goals first | (dsimp only; exact (show J b = J b from rfl)) | exact (show J b = J b from rfl)
          · rw [if_neg h]
            by_cases h : (x73 (fun i => p (31 + i)) v1 J) = 0
            · rw [if_pos h]
              all_goals first | (dsimp only; exact (show J b = J b from rfl)) | exact (show J b = J b from rfl)
            · rw [if_neg h]
              by_cases h : v2 = (Int32.ofInt (-1))
              · rw [if_pos h]
                all_goals first | (dsimp only; exact (show (x74 (fun i => p (31 + i)) v1 v2 J) b = J b from x74_frJ  n0 n1)) | exact (show (x74 (fun i => p (31 + i)) v1 v2 J) b = J b from x74_frJ  n0 n1)
              · rw [if_neg h]
                by_cases h : (J (p 41) v2.toNatClampNeg) = 0
                · rw [if_pos h]
                  all_goals first | (dsimp only; exact (show (x74 (fun i => p (31 + i)) v1 v2 J) b = J b from x74_frJ  n0 n1)) | exact (show (x74 (fun i => p (31 + i)) v1 v2 J) b = J b from x74_frJ  n0 n1)
                · rw [if_neg h]
                  all_goals first | (dsimp only; exact (show J b = J b from rfl)) | exact (show J b = J b from rfl)
/-! .seed -/
def x124 (p : Nat → Nat) (v1 : Int32) (J : Nat → Nat → Int32) : Int32 × (Nat → Nat → Int32) := if 0 ≤ v1 then (J (p 31) 6, nt_u J (p 31) 6 v1)
  else (Int32.ofInt (-1), J)
theorem xt124 {X : nt_X} {d : Nat} {M : nt_M} {o : Option Value × nt_M} {p : Nat → Nat} {v1 : Int32} {J : Nat → Nat → Int32} (hp : xs_P M p) (hn : xs_Q M (fun i => p (31 + i))) (k : nt_ev X d 124 [.ref (p 16), .int v1] (me_w M J) o) : o = (some (.int ((x124 p v1 J).1)), me_w M ((x124 p v1 J).2)) := by
  have k : nt_rn X d 124 (0, [(0, .ref (p 16)), (1, .int v1)], [], me_w M J) o := k
  have k := ly_revb 2 (c' := (if 0 ≤ v1 then 6 else 4, [(0, .ref (p 16)), (1, .int v1)], [], me_w M J)) rfl k
  by_cases h1 : 0 ≤ v1
  · rw [if_pos h1] at k
    have k := ly_revb 1 (c' := (7, [(0, .ref (p 16)), (1, .int v1)], [.ref (p 16)], me_w M J)) rfl k
    have k := lz_get (a := (p 16)) (g := 1007) (M := me_w M J) (v := .ref (p 31)) rfl (nt_gfR rfl (hp.1 (16, 7, 31) (by decide))) k
    have k := lz_get (a := (p 31)) (g := 606) (M := me_w M J) (v := .int (J (p 31) 6)) rfl (congrArg Value.int (rfl)) k
    have k := ly_revb 2 (c' := (15, [(2, .int (J (p 31) 6)), (0, .ref (p 16)), (1, .int v1)], [.ref (p 16)], me_w M J)) rfl k
    have k := lz_get (a := (p 16)) (g := 1007) (M := me_w M J) (v := .ref (p 31)) rfl (nt_gfR rfl (hp.1 (16, 7, 31) (by decide))) k
    have k := ly_revb 1 (c' := (19, [(2, .int (J (p 31) 6)), (0, .ref (p 16)), (1, .int v1)], [.int v1, .ref (p 31)], me_w M J)) rfl k
    have k := me_put rfl (by decide) k
    have k : nt_rn X _ 124 (22, [(2, .int (J (p 31) 6)), (0, .ref (p 16)), (1, .int v1)], [], me_w M (nt_u J (p 31) 6 v1)) _ := k
    have k := ly_revb 1 (c' := (23, [(2, .int (J (p 31) 6)), (0, .ref (p 16)), (1, .int v1)], [.int (J (p 31) 6)], me_w M (nt_u J (p 31) 6 v1))) rfl k
    have k := lz_ri rfl (by decide) k
    rw [k, x124, if_pos h1]
  · rw [if_neg h1] at k
    have k := ly_revb 1 (c' := (5, [(0, .ref (p 16)), (1, .int v1)], [.int (Int32.ofInt (-1))], me_w M J)) rfl k
    have k := lz_ri rfl (by decide) k
    rw [k, x124, if_neg h1]
theorem x124_frJ {p : Nat → Nat} {v1 : Int32} {J : Nat → Nat → Int32} {b : Nat} (n0 : b ≠ p 31) : (x124 p v1 J).2 b = J b := by
  unfold x124
  by_cases h : 0 ≤ v1
  · rw [if_pos h]
    all_goals first | (dsimp only; exact (show (nt_u J (p 31) 6 v1) b = J b from mu_o n0)) | exact (show (nt_u J (p 31) 6 v1) b = J b from mu_o n0)
  · rw [if_neg h]
    all_goals first | (dsimp only; exact (show J b = J b from rfl)) | exact (show J b = J b from rfl)
/-! .hasRule -/
def x111 (p : Nat → Nat) (v1 : Int32) (J : Nat → Nat → Int32) : Int32 := if v1 < (Int32.ofInt (-1)) then (Int32.ofInt 0)
  else if (J (p 16) 4) ≤ v1 then (Int32.ofInt 0)
    else (Int32.ofInt 1)
theorem xt111 {X : nt_X} {d : Nat} {M : nt_M} {o : Option Value × nt_M} {p : Nat → Nat} {v1 : Int32} {J : Nat → Nat → Int32} (hp : xs_P M p) (k : nt_ev X d 111 [.ref (p 16), .int v1] (me_w M J) o) : o = (some (.int (x111 p v1 J)), me_w M J) := by
  have k : nt_rn X d 111 (0, [(0, .ref (p 16)), (1, .int v1)], [], me_w M J) o := k
  have k := ly_revb 3 (c' := (if v1 < (Int32.ofInt (-1)) then 17 else 5, [(0, .ref (p 16)), (1, .int v1)], [], me_w M J)) rfl k
  by_cases h2 : v1 < (Int32.ofInt (-1))
  · rw [if_pos h2] at k
    have k := ly_revb 1 (c' := (18, [(0, .ref (p 16)), (1, .int v1)], [.int (Int32.ofInt 0)], me_w M J)) rfl k
    have k := lz_ri rfl (by decide) k
    rw [k, x111, if_pos h2]
  · rw [if_neg h2] at k
    have k := ly_revb 2 (c' := (7, [(0, .ref (p 16)), (1, .int v1)], [.ref (p 16), .int v1], me_w M J)) rfl k
    have k := lz_get (a := (p 16)) (g := 1004) (M := me_w M J) (v := .int (J (p 16) 4)) rfl (congrArg Value.int (rfl)) k
    have k := ly_revb 1 (c' := (if (J (p 16) 4) ≤ v1 then 17 else 13, [(0, .ref (p 16)), (1, .int v1)], [], me_w M J)) rfl k
    by_cases h10 : (J (p 16) 4) ≤ v1
    · rw [if_pos h10] at k
      have k := ly_revb 1 (c' := (18, [(0, .ref (p 16)), (1, .int v1)], [.int (Int32.ofInt 0)], me_w M J)) rfl k
      have k := lz_ri rfl (by decide) k
      rw [k, x111, if_neg h2, if_pos h10]
    · rw [if_neg h10] at k
      have k := ly_revb 2 (c' := (18, [(0, .ref (p 16)), (1, .int v1)], [.int (Int32.ofInt 1)], me_w M J)) rfl k
      have k := lz_ri rfl (by decide) k
      rw [k, x111, if_neg h2, if_neg h10]
/-! .count -/
def x126 (p : Nat → Nat) (v1 : Int32) (J : Nat → Nat → Int32) : Int32 := if v1.toInt < 0 ∨ 11 < v1.toInt then (Int32.ofInt (-1))
  else if v1 = Int32.ofInt 0 then (J (p 32) 0)
    else if v1 = Int32.ofInt 1 then (J (p 32) 1)
      else if v1 = Int32.ofInt 2 then (J (p 32) 2)
        else if v1 = Int32.ofInt 3 then (J (p 32) 3)
          else if v1 = Int32.ofInt 4 then (J (p 16) 4)
            else if v1 = Int32.ofInt 5 then (J (p 31) 2)
              else if v1 = Int32.ofInt 6 then (x72 (fun i => p (31 + i)) J)
                else if v1 = Int32.ofInt 7 then (J (p 31) 5)
                  else if v1 = Int32.ofInt 8 then (x66 (fun i => p (31 + i)) (Int32.ofInt (-1)) J)
                    else if v1 = Int32.ofInt 9 then (J (p 31) 4)
                      else if v1 = Int32.ofInt 10 then (J (p 31) 6)
                        else (J (p 17) 1)
theorem xt126 {X : nt_X} {d : Nat} {M : nt_M} {o : Option Value × nt_M} {p : Nat → Nat} {v1 : Int32} {J : Nat → Nat → Int32} (hp : xs_P M p) (hn : xs_Q M (fun i => p (31 + i))) (k : nt_ev X d 126 [.ref (p 16), .int v1] (me_w M J) o) : o = (some (.int (x126 p v1 J)), me_w M J) := by
  have k : nt_rn X d 126 (0, [(0, .ref (p 16)), (1, .int v1)], [], me_w M J) o := k
  have k := ly_revb 1 (c' := (1, [(0, .ref (p 16)), (1, .int v1)], [.int v1], me_w M J)) rfl k
  by_cases h1 : v1.toInt < 0 ∨ 11 < v1.toInt
  · have k := mx_tsd (q := 170) rfl h1 (by decide) k
    have k : nt_rn X _ 126 (170, [(0, .ref (p 16)), (1, .int v1)], [], me_w M J) _ := k
    have k := ly_revb 1 (c' := (171, [(0, .ref (p 16)), (1, .int v1)], [.int (Int32.ofInt (-1))], me_w M J)) rfl k
    have k := lz_ri rfl (by decide) k
    rw [k, x126, if_pos h1]
  · by_cases h1_0 : v1 = Int32.ofInt 0
    · have k := mx_tsc (q := 64) (off := 63) rfl h1 (by rw [h1_0]; rfl) (by decide) k
      have k : nt_rn X _ 126 (64, [(0, .ref (p 16)), (1, .int v1)], [], me_w M J) _ := k
      have k := ly_revb 1 (c' := (65, [(0, .ref (p 16)), (1, .int v1)], [.ref (p 16)], me_w M J)) rfl k
      have k := lz_get (a := (p 16)) (g := 1007) (M := me_w M J) (v := .ref (p 31)) rfl (nt_gfR rfl (hp.1 (16, 7, 31) (by decide))) k
      have k := lz_get (a := (p 31)) (g := 600) (M := me_w M J) (v := .ref (p 32)) rfl (nt_gfR rfl (hn.1 (0, 0, 1) (by decide))) k
      have k := lz_get (a := (p 32)) (g := 800) (M := me_w M J) (v := .int (J (p 32) 0)) rfl (congrArg Value.int (rfl)) k
      have k := lz_ri rfl (by decide) k
      rw [k, x126, if_neg h1, if_pos h1_0]
    · by_cases h1_1 : v1 = Int32.ofInt 1
      · have k := mx_tsc (q := 75) (off := 74) rfl h1 (by rw [h1_1]; rfl) (by decide) k
        have k : nt_rn X _ 126 (75, [(0, .ref (p 16)), (1, .int v1)], [], me_w M J) _ := k
        have k := ly_revb 1 (c' := (76, [(0, .ref (p 16)), (1, .int v1)], [.ref (p 16)], me_w M J)) rfl k
        have k := lz_get (a := (p 16)) (g := 1007) (M := me_w M J) (v := .ref (p 31)) rfl (nt_gfR rfl (hp.1 (16, 7, 31) (by decide))) k
        have k := lz_get (a := (p 31)) (g := 600) (M := me_w M J) (v := .ref (p 32)) rfl (nt_gfR rfl (hn.1 (0, 0, 1) (by decide))) k
        have k := lz_get (a := (p 32)) (g := 801) (M := me_w M J) (v := .int (J (p 32) 1)) rfl (congrArg Value.int (rfl)) k
        have k := lz_ri rfl (by decide) k
        rw [k, x126, if_neg h1, if_neg h1_0, if_pos h1_1]
      · by_cases h1_2 : v1 = Int32.ofInt 2
        · have k := mx_tsc (q := 86) (off := 85) rfl h1 (by rw [h1_2]; rfl) (by decide) k
          have k : nt_rn X _ 126 (86, [(0, .ref (p 16)), (1, .int v1)], [], me_w M J) _ := k
          have k := ly_revb 1 (c' := (87, [(0, .ref (p 16)), (1, .int v1)], [.ref (p 16)], me_w M J)) rfl k
          have k := lz_get (a := (p 16)) (g := 1007) (M := me_w M J) (v := .ref (p 31)) rfl (nt_gfR rfl (hp.1 (16, 7, 31) (by decide))) k
          have k := lz_get (a := (p 31)) (g := 600) (M := me_w M J) (v := .ref (p 32)) rfl (nt_gfR rfl (hn.1 (0, 0, 1) (by decide))) k
          have k := lz_get (a := (p 32)) (g := 802) (M := me_w M J) (v := .int (J (p 32) 2)) rfl (congrArg Value.int (rfl)) k
          have k := lz_ri rfl (by decide) k
          rw [k, x126, if_neg h1, if_neg h1_0, if_neg h1_1, if_pos h1_2]
        · by_cases h1_3 : v1 = Int32.ofInt 3
          · have k := mx_tsc (q := 97) (off := 96) rfl h1 (by rw [h1_3]; rfl) (by decide) k
            have k : nt_rn X _ 126 (97, [(0, .ref (p 16)), (1, .int v1)], [], me_w M J) _ := k
            have k := ly_revb 1 (c' := (98, [(0, .ref (p 16)), (1, .int v1)], [.ref (p 16)], me_w M J)) rfl k
            have k := lz_get (a := (p 16)) (g := 1007) (M := me_w M J) (v := .ref (p 31)) rfl (nt_gfR rfl (hp.1 (16, 7, 31) (by decide))) k
            have k := lz_get (a := (p 31)) (g := 600) (M := me_w M J) (v := .ref (p 32)) rfl (nt_gfR rfl (hn.1 (0, 0, 1) (by decide))) k
            have k := lz_get (a := (p 32)) (g := 803) (M := me_w M J) (v := .int (J (p 32) 3)) rfl (congrArg Value.int (rfl)) k
            have k := lz_ri rfl (by decide) k
            rw [k, x126, if_neg h1, if_neg h1_0, if_neg h1_1, if_neg h1_2, if_pos h1_3]
          · by_cases h1_4 : v1 = Int32.ofInt 4
            · have k := mx_tsc (q := 108) (off := 107) rfl h1 (by rw [h1_4]; rfl) (by decide) k
              have k : nt_rn X _ 126 (108, [(0, .ref (p 16)), (1, .int v1)], [], me_w M J) _ := k
              have k := ly_revb 1 (c' := (109, [(0, .ref (p 16)), (1, .int v1)], [.ref (p 16)], me_w M J)) rfl k
              have k := lz_get (a := (p 16)) (g := 1004) (M := me_w M J) (v := .int (J (p 16) 4)) rfl (congrArg Value.int (rfl)) k
              have k := lz_ri rfl (by decide) k
              rw [k, x126, if_neg h1, if_neg h1_0, if_neg h1_1, if_neg h1_2, if_neg h1_3, if_pos h1_4]
            · by_cases h1_5 : v1 = Int32.ofInt 5
              · have k := mx_tsc (q := 113) (off := 112) rfl h1 (by rw [h1_5]; rfl) (by decide) k
                have k : nt_rn X _ 126 (113, [(0, .ref (p 16)), (1, .int v1)], [], me_w M J) _ := k
                have k := ly_revb 1 (c' := (114, [(0, .ref (p 16)), (1, .int v1)], [.ref (p 16)], me_w M J)) rfl k
                have k := lz_get (a := (p 16)) (g := 1007) (M := me_w M J) (v := .ref (p 31)) rfl (nt_gfR rfl (hp.1 (16, 7, 31) (by decide))) k
                have k := lz_get (a := (p 31)) (g := 602) (M := me_w M J) (v := .int (J (p 31) 2)) rfl (congrArg Value.int (rfl)) k
                have k := lz_ri rfl (by decide) k
                rw [k, x126, if_neg h1, if_neg h1_0, if_neg h1_1, if_neg h1_2, if_neg h1_3, if_neg h1_4, if_pos h1_5]
              · by_cases h1_6 : v1 = Int32.ofInt 6
                · have k := mx_tsc (q := 121) (off := 120) rfl h1 (by rw [h1_6]; rfl) (by decide) k
                  have k : nt_rn X _ 126 (121, [(0, .ref (p 16)), (1, .int v1)], [], me_w M J) _ := k
                  have k := ly_revb 1 (c' := (122, [(0, .ref (p 16)), (1, .int v1)], [.ref (p 16)], me_w M J)) rfl k
                  have k := lz_get (a := (p 16)) (g := 1007) (M := me_w M J) (v := .ref (p 31)) rfl (nt_gfR rfl (hp.1 (16, 7, 31) (by decide))) k
                  obtain ⟨d1, o1, ed, kc, k⟩ := lz_c (g := 72) (q := 1) (vs := [.ref (p 31)]) (rest := []) rfl rfl (by decide) (Or.inr (Or.inl ⟨_, rfl, rfl⟩)) rfl k
                  have e1 := xt72 hn kc
                  subst e1
                  have k : nt_rn X _ 126 (128, [(0, .ref (p 16)), (1, .int v1)], [.int (x72 (fun i => p (31 + i)) J)], me_w M J) _ := k
                  have k := lz_ri rfl (by decide) k
                  rw [k, x126, if_neg h1, if_neg h1_0, if_neg h1_1, if_neg h1_2, if_neg h1_3, if_neg h1_4, if_neg h1_5, if_pos h1_6]
                · by_cases h1_7 : v1 = Int32.ofInt 7
                  · have k := mx_tsc (q := 129) (off := 128) rfl h1 (by rw [h1_7]; rfl) (by decide) k
                    have k : nt_rn X _ 126 (129, [(0, .ref (p 16)), (1, .int v1)], [], me_w M J) _ := k
                    have k := ly_revb 1 (c' := (130, [(0, .ref (p 16)), (1, .int v1)], [.ref (p 16)], me_w M J)) rfl k
                    have k := lz_get (a := (p 16)) (g := 1007) (M := me_w M J) (v := .ref (p 31)) rfl (nt_gfR rfl (hp.1 (16, 7, 31) (by decide))) k
                    have k := lz_get (a := (p 31)) (g := 605) (M := me_w M J) (v := .int (J (p 31) 5)) rfl (congrArg Value.int (rfl)) k
                    have k := lz_ri rfl (by decide) k
                    rw [k, x126, if_neg h1, if_neg h1_0, if_neg h1_1, if_neg h1_2, if_neg h1_3, if_neg h1_4, if_neg h1_5, if_neg h1_6, if_pos h1_7]
                  · by_cases h1_8 : v1 = Int32.ofInt 8
                    · have k := mx_tsc (q := 137) (off := 136) rfl h1 (by rw [h1_8]; rfl) (by decide) k
                      have k : nt_rn X _ 126 (137, [(0, .ref (p 16)), (1, .int v1)], [], me_w M J) _ := k
                      have k := ly_revb 1 (c' := (138, [(0, .ref (p 16)), (1, .int v1)], [.ref (p 16)], me_w M J)) rfl k
                      have k := lz_get (a := (p 16)) (g := 1007) (M := me_w M J) (v := .ref (p 31)) rfl (nt_gfR rfl (hp.1 (16, 7, 31) (by decide))) k
                      have k := ly_revb 1 (c' := (142, [(0, .ref (p 16)), (1, .int v1)], [.int (Int32.ofInt (-1)), .ref (p 31)], me_w M J)) rfl k
                      obtain ⟨d1, o1, ed, kc, k⟩ := lz_c (g := 66) (q := 1) (vs := [.ref (p 31), .int (Int32.ofInt (-1))]) (rest := []) rfl rfl (by decide) (Or.inr (Or.inl ⟨_, rfl, rfl⟩)) rfl k
                      have e1 := xt66 hn kc
                      subst e1
                      have k : nt_rn X _ 126 (145, [(0, .ref (p 16)), (1, .int v1)], [.int (x66 (fun i => p (31 + i)) (Int32.ofInt (-1)) J)], me_w M J) _ := k
                      have k := lz_ri rfl (by decide) k
                      rw [k, x126, if_neg h1, if_neg h1_0, if_neg h1_1, if_neg h1_2, if_neg h1_3, if_neg h1_4, if_neg h1_5, if_neg h1_6, if_neg h1_7, if_pos h1_8]
                    · by_cases h1_9 : v1 = Int32.ofInt 9
                      · have k := mx_tsc (q := 146) (off := 145) rfl h1 (by rw [h1_9]; rfl) (by decide) k
                        have k : nt_rn X _ 126 (146, [(0, .ref (p 16)), (1, .int v1)], [], me_w M J) _ := k
                        have k := ly_revb 1 (c' := (147, [(0, .ref (p 16)), (1, .int v1)], [.ref (p 16)], me_w M J)) rfl k
                        have k := lz_get (a := (p 16)) (g := 1007) (M := me_w M J) (v := .ref (p 31)) rfl (nt_gfR rfl (hp.1 (16, 7, 31) (by decide))) k
                        have k := lz_get (a := (p 31)) (g := 604) (M := me_w M J) (v := .int (J (p 31) 4)) rfl (congrArg Value.int (rfl)) k
                        have k := lz_ri rfl (by decide) k
                        rw [k, x126, if_neg h1, if_neg h1_0, if_neg h1_1, if_neg h1_2, if_neg h1_3, if_neg h1_4, if_neg h1_5, if_neg h1_6, if_neg h1_7, if_neg h1_8, if_pos h1_9]
                      · by_cases h1_10 : v1 = Int32.ofInt 10
                        · have k := mx_tsc (q := 154) (off := 153) rfl h1 (by rw [h1_10]; rfl) (by decide) k
                          have k : nt_rn X _ 126 (154, [(0, .ref (p 16)), (1, .int v1)], [], me_w M J) _ := k
                          have k := ly_revb 1 (c' := (155, [(0, .ref (p 16)), (1, .int v1)], [.ref (p 16)], me_w M J)) rfl k
                          have k := lz_get (a := (p 16)) (g := 1007) (M := me_w M J) (v := .ref (p 31)) rfl (nt_gfR rfl (hp.1 (16, 7, 31) (by decide))) k
                          have k := lz_get (a := (p 31)) (g := 606) (M := me_w M J) (v := .int (J (p 31) 6)) rfl (congrArg Value.int (rfl)) k
                          have k := lz_ri rfl (by decide) k
                          rw [k, x126, if_neg h1, if_neg h1_0, if_neg h1_1, if_neg h1_2, if_neg h1_3, if_neg h1_4, if_neg h1_5, if_neg h1_6, if_neg h1_7, if_neg h1_8, if_neg h1_9, if_pos h1_10]
                        · have hz : v1 = Int32.ofInt 11 := by
                            have z1 := h1
                            have y0 : v1.toInt ≠ 0 := fun e => h1_0 (Int32.toInt_inj.mp (e.trans (by decide)))
                            have y1 : v1.toInt ≠ 1 := fun e => h1_1 (Int32.toInt_inj.mp (e.trans (by decide)))
                            have y2 : v1.toInt ≠ 2 := fun e => h1_2 (Int32.toInt_inj.mp (e.trans (by decide)))
                            have y3 : v1.toInt ≠ 3 := fun e => h1_3 (Int32.toInt_inj.mp (e.trans (by decide)))
                            have y4 : v1.toInt ≠ 4 := fun e => h1_4 (Int32.toInt_inj.mp (e.trans (by decide)))
                            have y5 : v1.toInt ≠ 5 := fun e => h1_5 (Int32.toInt_inj.mp (e.trans (by decide)))
                            have y6 : v1.toInt ≠ 6 := fun e => h1_6 (Int32.toInt_inj.mp (e.trans (by decide)))
                            have y7 : v1.toInt ≠ 7 := fun e => h1_7 (Int32.toInt_inj.mp (e.trans (by decide)))
                            have y8 : v1.toInt ≠ 8 := fun e => h1_8 (Int32.toInt_inj.mp (e.trans (by decide)))
                            have y9 : v1.toInt ≠ 9 := fun e => h1_9 (Int32.toInt_inj.mp (e.trans (by decide)))
                            have y10 : v1.toInt ≠ 10 := fun e => h1_10 (Int32.toInt_inj.mp (e.trans (by decide)))
                            exact Int32.toInt_inj.mp ((show v1.toInt = 11 by omega).trans (by decide))
                          have k := mx_tsc (q := 162) (off := 161) rfl h1 (by rw [hz]; rfl) (by decide) k
                          have k : nt_rn X _ 126 (162, [(0, .ref (p 16)), (1, .int v1)], [], me_w M J) _ := k
                          have k := ly_revb 1 (c' := (163, [(0, .ref (p 16)), (1, .int v1)], [.ref (p 16)], me_w M J)) rfl k
                          have k := lz_get (a := (p 16)) (g := 1000) (M := me_w M J) (v := .ref (p 17)) rfl (nt_gfR rfl (hp.1 (16, 0, 17) (by decide))) k
                          have k := lz_get (a := (p 17)) (g := 701) (M := me_w M J) (v := .int (J (p 17) 1)) rfl (congrArg Value.int (rfl)) k
                          have k := lz_ri rfl (by decide) k
                          rw [k, x126, if_neg h1, if_neg h1_0, if_neg h1_1, if_neg h1_2, if_neg h1_3, if_neg h1_4, if_neg h1_5, if_neg h1_6, if_neg h1_7, if_neg h1_8, if_neg h1_9, if_neg h1_10]
end
section
/-! days -/
theorem mx_aald {X : nt_X} {d mi pc a g t : Nat} {ls : nt_V} {st : List Value} {M : nt_M} {o : Option Value × nt_M} {i : Int32} (hat : nt_at mi pc = some (pc, .aaload, g, t)) (k : nt_rn X d mi (pc, ls, .int i :: .ref a :: st, M) o) : nt_rn X d mi (pc + 1, ls, nt_rv (nt_R M a i.toNatClampNeg) :: st, M) o := by
  obtain ⟨c', hs, k⟩ := lz_s hat rfl k
  have hs : (if nt_k M a = 17 then nt_in M a 17 i (some (pc + 1, ls, nt_rv (nt_R M a i.toNatClampNeg) :: st, M)) else nt_in M a 16 i (some (pc + 1, ls, nt_rv (nt_R M a i.toNatClampNeg) :: st, M))) = some c' := hs
  by_cases h : nt_k M a = 17
  · rw [if_pos h] at hs
    have e := lz_in (y := none) hs
    cases e
    exact k
  · rw [if_neg h] at hs
    have e := lz_in (y := none) hs
    cases e
    exact k
theorem mx_ran {X : nt_X} {d mi pc g t : Nat} {ls : nt_V} {M : nt_M} {o : Option Value × nt_M} {q : String} (hat : nt_at mi pc = some (pc, .areturn, g, t)) (hm : (nt_m mi).2.2.2.1 = some (.object q)) (k : nt_rn X d mi (pc, ls, [.null], M) o) : o = (some .null, M) := by
  have h := lz_ret hat (Or.inr (Or.inr (Or.inl rfl))) k
  unfold nt_re at h
  rw [hm] at h
  have h : some (some Value.null, M) = some o := h
  cases h
  rfl
theorem xr112 {X : nt_X} {d ru : Nat} {M : nt_M} {o : Option Value × nt_M} {p : Nat → Nat} {v1 : Int32} {J : Nat → Nat → Int32} (hp : xs_P M p) (h0 : ¬ v1 < 0) (h1 : ¬ J (p 16) 4 ≤ v1) (hr : nt_R M (p 23) v1.toNatClampNeg = some ru) (k : nt_ev X d 112 [.ref (p 16), .int v1] (me_w M J) o) : o = (some (.ref ru), me_w M J) := by
  have k : nt_rn X d 112 (0, [(0, .ref (p 16)), (1, .int v1)], [], me_w M J) o := k
  have k := ly_revb 2 (c' := (if v1 < 0 then 21 else 4, [(0, .ref (p 16)), (1, .int v1)], [], me_w M J)) rfl k
  rw [if_neg h0] at k
  have k := ly_revb 2 (c' := (6, [(0, .ref (p 16)), (1, .int v1)], [.ref (p 16), .int v1], me_w M J)) rfl k
  have k := lz_get (a := (p 16)) (g := 1004) (M := me_w M J) (v := .int (J (p 16) 4)) rfl rfl k
  have k := ly_revb 1 (c' := (if J (p 16) 4 ≤ v1 then 21 else 12, [(0, .ref (p 16)), (1, .int v1)], [], me_w M J)) rfl k
  rw [if_neg h1] at k
  have k := ly_revb 1 (c' := (13, [(0, .ref (p 16)), (1, .int v1)], [.ref (p 16)], me_w M J)) rfl k
  have k := lz_get (a := (p 16)) (g := 1003) (M := me_w M J) (v := .ref (p 23)) rfl (nt_gfR rfl (hp.1 (16, 3, 23) (by decide))) k
  have k := ly_revb 1 (c' := (17, [(0, .ref (p 16)), (1, .int v1)], [.int v1, .ref (p 23)], me_w M J)) rfl k
  have k := mx_aald rfl k
  rw [show nt_R (me_w M J) (p 23) v1.toNatClampNeg = some ru from hr] at k
  have k := ly_revb 1 (c' := (22, [(0, .ref (p 16)), (1, .int v1)], [.ref ru], me_w M J)) rfl k
  exact lz_ra rfl rfl k
theorem xr112N {X : nt_X} {d : Nat} {M : nt_M} {o : Option Value × nt_M} {p : Nat → Nat} {v1 : Int32} {J : Nat → Nat → Int32} (h0 : v1 < 0) (k : nt_ev X d 112 [.ref (p 16), .int v1] (me_w M J) o) : o = (some .null, me_w M J) := by
  have k : nt_rn X d 112 (0, [(0, .ref (p 16)), (1, .int v1)], [], me_w M J) o := k
  have k := ly_revb 2 (c' := (if v1 < 0 then 21 else 4, [(0, .ref (p 16)), (1, .int v1)], [], me_w M J)) rfl k
  rw [if_pos h0] at k
  have k := ly_revb 1 (c' := (22, [(0, .ref (p 16)), (1, .int v1)], [.null], me_w M J)) rfl k
  exact mx_ran rfl rfl k
theorem xw_108 {p : Nat → Nat} {L : Nat → Nat → Int64} {e : Nat → Int32} {c : Nat} {v : Int32} {J : Nat → Nat → Int32} (h : xk_K e (J (p 4))) (h0 : 0 ≤ v.toInt) : xr_W ((x190_108 p L c v J).1 (p 4)) := by
  have fin : ∀ J1 : Nat → Nat → Int32, xk_K e (J1 (p 4)) → xr_W ((nt_u (nt_u J1 (p 4) 4 ((J1 (p 4) 4) + (Int32.ofInt 1))) (p 4) 6 (Int32.ofInt 0)) (p 4)) := fun J1 h => xr_up (xr_up h.1 (xr_any rfl)) (xr_any rfl)
  refine x190_108_rule (I := fun _ v2 J1 => xk_K e (J1 (p 4)) ∧ 0 ≤ v2.toInt) (Q := fun r => xr_W (r.1 (p 4))) ?_ ?_ _ _ _ ⟨h, h0⟩
  · intro v2 J1 h
    exact fin J1 h.1
  · intro c v2 J1 h
    by_cases h1 : J1 (p 4) 1 ≤ v2
    · rw [if_pos h1]
      exact fin J1 h.1
    · rw [if_neg h1]
      split
      · exact ⟨xk_t h.1 (xw_202 h.1.1 (xi_l5 h.1.1 h1 h.2)), xi_nn h1 h.2⟩
      · exact ⟨h.1, xi_nn h1 h.2⟩
theorem xw_50 {p : Nat → Nat} {v1 : Int32} {e : Nat → Int32} {c : Nat} {v : Int32} {J : Nat → Nat → Int32} {L : Nat → Nat → Int64} (hd : p 4 ≠ p 0) (h : xk_K e (J (p 4))) (h0 : 0 ≤ v.toInt) : xr_W ((x190_50 p v1 c v J L).1 (p 4)) := by
  refine x190_50_rule (I := fun _ v2 J1 _ => xk_K e (J1 (p 4)) ∧ 0 ≤ v2.toInt) (Q := fun r => xr_W (r.1 (p 4))) ?_ ?_ _ _ _ _ ⟨h, h0⟩
  · intro v2 J1 L1 h
    exact xw_108 h.1 (by decide)
  · intro c v2 J1 L1 h
    by_cases h1 : J1 (p 4) 3 ≤ v2
    · rw [if_pos h1]
      exact xw_108 h.1 (by decide)
    · rw [if_neg h1]
      have l7 := xi_l7 h.1.1 h1 h.2
      split
      · split
        · exact ⟨h.1, xi_nn h1 h.2⟩
        · exact ⟨xk_t h.1 (xw_192 hd (xi_va h.1.1 l7) l7 h.1.1), xi_nn h1 h.2⟩
      · exact ⟨h.1, xi_nn h1 h.2⟩
theorem xw_190 {p : Nat → Nat} {v1 : Int32} {J : Nat → Nat → Int32} {L : Nat → Nat → Int64} (hd : p 4 ≠ p 0) (h : xr_W (J (p 4))) : xr_W ((x190 p v1 J L).1 (p 4)) := by
  unfold x190
  refine x190_2_rule (I := fun _ v2 J1 => xk_K (J (p 4)) (J1 (p 4)) ∧ 0 ≤ v2.toInt) (Q := fun r => xr_W (r.1 (p 4))) ?_ ?_ _ _ _ ⟨xk_r h, by decide⟩
  · intro v2 J1 h
    exact xw_50 hd h.1 (by decide)
  · intro c v2 J1 h
    by_cases h1 : J1 (p 4) 3 ≤ v2
    · rw [if_pos h1]
      exact xw_50 hd h.1 (by decide)
    · rw [if_neg h1]
      split
      · split
        · exact ⟨xk_t h.1 (xw_191 h.1.1 (xi_l7 h.1.1 h1 h.2)), xi_nn h1 h.2⟩
        · exact ⟨h.1, xi_nn h1 h.2⟩
      · exact ⟨h.1, xi_nn h1 h.2⟩
/-! Model.days -/
def x186_38 (p : Nat → Nat) (v1 : Int32) (v2 : Int32) : Nat → Int32 → (Nat → Nat → Int32) → (Nat → Nat → Int64) → Int32 × (Nat → Nat → Int32) × (Nat → Nat → Int64)
  | 0, v3, J, L => (J (p 4) 4, J, L)
  | c + 1, v3, J, L => if v2 ≤ v3 then (J (p 4) 4, J, L)
    else (x186_38 p v1 v2 c (v3 + (Int32.ofInt 1)) ((x190 p v1 J L).1) ((x190 p v1 J L).2))
theorem xt186_38 {X : nt_X} {d : Nat} {M : nt_M} {o : Option Value × nt_M} {p : Nat → Nat} {v1 : Int32} {v2 : Int32} (hp : xs_P M p) : ∀ (c : Nat) (v3 : Int32) (J : Nat → Nat → Int32) (L : Nat → Nat → Int64), (xr_W (J (p 4)) ∧ v2.toInt - v3.toInt ≤ c) → nt_rn X d 186 (38, [(0, .ref (p 0)), (1, .int v1), (2, .int v2), (3, .int v3)], [], me_w (lw M L) J) o → o = (some (.int ((x186_38 p v1 v2 c v3 J L).1)), me_w (lw M ((x186_38 p v1 v2 c v3 J L).2.2)) ((x186_38 p v1 v2 c v3 J L).2.1)) := by
  intro c
  induction c with
  | zero =>
    intro v3 J L hc k
    have k := ly_revb 3 (c' := (if v2 ≤ v3 then 54 else 43, [(0, .ref (p 0)), (1, .int v1), (2, .int v2), (3, .int v3)], [], me_w (lw M L) J)) rfl k
    have h40 : v2 ≤ v3 := lx_end hc.2
    rw [if_pos h40] at k
    have k := ly_revb 1 (c' := (55, [(0, .ref (p 0)), (1, .int v1), (2, .int v2), (3, .int v3)], [.ref (p 0)], me_w (lw M L) J)) rfl k
    have k := lz_get (a := (p 0)) (g := 1127) (M := me_w (lw M L) J) (v := .ref (p 4)) rfl (nt_gfR rfl (hp.1 (0, 27, 4) (by decide))) k
    have k := ly_revb 1 (c' := (59, [(0, .ref (p 0)), (1, .int v1), (2, .int v2), (3, .int v3)], [.int (Int32.ofInt 4), .ref (p 4)], me_w (lw M L) J)) rfl k
    have k := mx_iald (v := J (p 4) 4) rfl (hp.2.2.1 4 (by omega)) ((congrArg (J (p 4)) (show (Int32.ofInt 4).toNatClampNeg = 4 from rfl)).trans (rfl)) k
    have k := lz_ri rfl (by decide) k
    rw [k, x186_38]
  | succ c ih =>
    intro v3 J L hc k
    have k := ly_revb 3 (c' := (if v2 ≤ v3 then 54 else 43, [(0, .ref (p 0)), (1, .int v1), (2, .int v2), (3, .int v3)], [], me_w (lw M L) J)) rfl k
    by_cases h40 : v2 ≤ v3
    · rw [if_pos h40] at k
      have k := ly_revb 1 (c' := (55, [(0, .ref (p 0)), (1, .int v1), (2, .int v2), (3, .int v3)], [.ref (p 0)], me_w (lw M L) J)) rfl k
      have k := lz_get (a := (p 0)) (g := 1127) (M := me_w (lw M L) J) (v := .ref (p 4)) rfl (nt_gfR rfl (hp.1 (0, 27, 4) (by decide))) k
      have k := ly_revb 1 (c' := (59, [(0, .ref (p 0)), (1, .int v1), (2, .int v2), (3, .int v3)], [.int (Int32.ofInt 4), .ref (p 4)], me_w (lw M L) J)) rfl k
      have k := mx_iald (v := J (p 4) 4) rfl (hp.2.2.1 4 (by omega)) ((congrArg (J (p 4)) (show (Int32.ofInt 4).toNatClampNeg = 4 from rfl)).trans (rfl)) k
      have k := lz_ri rfl (by decide) k
      rw [k, x186_38, if_pos h40]
    · rw [if_neg h40] at k
      have k := ly_revb 2 (c' := (45, [(0, .ref (p 0)), (1, .int v1), (2, .int v2), (3, .int v3)], [.int v1, .ref (p 0)], me_w (lw M L) J)) rfl k
      obtain ⟨d1, o1, ed, kc, k⟩ := lz_c (g := 190) (q := 1) (vs := [.ref (p 0), .int v1]) (rest := []) rfl rfl (by decide) (Or.inr (Or.inl ⟨_, rfl, rfl⟩)) rfl k
      have e1 := xt190 hp hc.1 kc
      subst e1
      have k : nt_rn X _ 186 (48, [(0, .ref (p 0)), (1, .int v1), (2, .int v2), (3, .int v3)], [], me_w (lw M ((x190 p v1 J L).2)) ((x190 p v1 J L).1)) _ := k
      have k := ly_revb 2 (c' := (38, [(3, .int (v3 + (Int32.ofInt 1))), (0, .ref (p 0)), (1, .int v1), (2, .int v2)], [], me_w (lw M ((x190 p v1 J L).2)) ((x190 p v1 J L).1))) rfl k
      have k := nt_rn_w (a := [(3, .int (v3 + (Int32.ofInt 1))), (0, .ref (p 0)), (1, .int v1), (2, .int v2)]) (b := [(0, .ref (p 0)), (1, .int v1), (2, .int v2), (3, .int (v3 + (Int32.ofInt 1)))]) ⟨rfl, rfl, rfl, rfl, trivial⟩ rfl k
      have k := ih (v3 + (Int32.ofInt 1)) ((x190 p v1 J L).1) ((x190 p v1 J L).2) (⟨xw_190 (hp.2.1 4 0 (by omega) (by omega) (by decide)) hc.1, lx_dec h40 hc.2⟩) k
      rw [k, x186_38, if_neg h40]
def x186 (p : Nat → Nat) (v1 : Int32) (v2 : Int32) (J : Nat → Nat → Int32) (L : Nat → Nat → Int64) : Int32 × (Nat → Nat → Int32) × (Nat → Nat → Int64) := if (x187 p v1 J) = 0 then (Int32.ofInt (-1), J, L)
  else if (x145 v2.toInt64 (Int64.ofNat 1) 100) = 0 then (Int32.ofInt (-1), J, L)
    else if ((J (p 4) 4) + v2) ≤ (Int32.ofInt 200) then (x186_38 p v1 v2 v2.toNatClampNeg (Int32.ofInt 0) J L)
      else (Int32.ofInt (-1), J, L)
theorem xt186 {X : nt_X} {d : Nat} {M : nt_M} {o : Option Value × nt_M} {p : Nat → Nat} {v1 : Int32} {v2 : Int32} {J : Nat → Nat → Int32} {L : Nat → Nat → Int64} (hp : xs_P M p) (hw : xr_W (J (p 4))) (k : nt_ev X d 186 [.ref (p 0), .int v1, .int v2] (me_w (lw M L) J) o) : o = (some (.int ((x186 p v1 v2 J L).1)), me_w (lw M ((x186 p v1 v2 J L).2.2)) ((x186 p v1 v2 J L).2.1)) := by
  have k : nt_rn X d 186 (0, [(0, .ref (p 0)), (1, .int v1), (2, .int v2)], [], me_w (lw M L) J) o := k
  have k := ly_revb 2 (c' := (2, [(0, .ref (p 0)), (1, .int v1), (2, .int v2)], [.int v1, .ref (p 0)], me_w (lw M L) J)) rfl k
  obtain ⟨d1, o1, ed, kc, k⟩ := lz_c (g := 187) (q := 1) (vs := [.ref (p 0), .int v1]) (rest := []) rfl rfl (by decide) (Or.inr (Or.inl ⟨_, rfl, rfl⟩)) rfl k
  have e1 := xt187 (xs_lp hp) kc
  subst e1
  have k : nt_rn X _ 186 (5, [(0, .ref (p 0)), (1, .int v1), (2, .int v2)], [.int (x187 p v1 J)], me_w (lw M L) J) _ := k
  have k := ly_revb 1 (c' := (if (x187 p v1 J) = 0 then 34 else 8, [(0, .ref (p 0)), (1, .int v1), (2, .int v2)], [], me_w (lw M L) J)) rfl k
  by_cases h5 : (x187 p v1 J) = 0
  · rw [if_pos h5] at k
    have k := ly_revb 1 (c' := (35, [(0, .ref (p 0)), (1, .int v1), (2, .int v2)], [.int (Int32.ofInt (-1))], me_w (lw M L) J)) rfl k
    have k := lz_ri rfl (by decide) k
    rw [k, x186, if_pos h5]
  · rw [if_neg h5] at k
    have k := ly_revb 4 (c' := (14, [(0, .ref (p 0)), (1, .int v1), (2, .int v2)], [.long 100, .long (Int64.ofNat 1), .long v2.toInt64], me_w (lw M L) J)) rfl k
    obtain ⟨d1, o1, ed, kc, k⟩ := lz_c (g := 145) (q := 0) (vs := [.long v2.toInt64, .long (Int64.ofNat 1), .long 100]) (rest := []) rfl rfl (by decide) (Or.inl ⟨_, rfl, rfl⟩) rfl k
    have e1 := xt145  kc
    subst e1
    have k : nt_rn X _ 186 (17, [(0, .ref (p 0)), (1, .int v1), (2, .int v2)], [.int (x145 v2.toInt64 (Int64.ofNat 1) 100)], me_w (lw M L) J) _ := k
    have k := ly_revb 1 (c' := (if (x145 v2.toInt64 (Int64.ofNat 1) 100) = 0 then 34 else 20, [(0, .ref (p 0)), (1, .int v1), (2, .int v2)], [], me_w (lw M L) J)) rfl k
    by_cases h17 : (x145 v2.toInt64 (Int64.ofNat 1) 100) = 0
    · rw [if_pos h17] at k
      have k := ly_revb 1 (c' := (35, [(0, .ref (p 0)), (1, .int v1), (2, .int v2)], [.int (Int32.ofInt (-1))], me_w (lw M L) J)) rfl k
      have k := lz_ri rfl (by decide) k
      rw [k, x186, if_neg h5, if_pos h17]
    · rw [if_neg h17] at k
      have k := ly_revb 1 (c' := (21, [(0, .ref (p 0)), (1, .int v1), (2, .int v2)], [.ref (p 0)], me_w (lw M L) J)) rfl k
      have k := lz_get (a := (p 0)) (g := 1127) (M := me_w (lw M L) J) (v := .ref (p 4)) rfl (nt_gfR rfl (hp.1 (0, 27, 4) (by decide))) k
      have k := ly_revb 1 (c' := (25, [(0, .ref (p 0)), (1, .int v1), (2, .int v2)], [.int (Int32.ofInt 4), .ref (p 4)], me_w (lw M L) J)) rfl k
      have k := mx_iald (v := J (p 4) 4) rfl (hp.2.2.1 4 (by omega)) ((congrArg (J (p 4)) (show (Int32.ofInt 4).toNatClampNeg = 4 from rfl)).trans (rfl)) k
      have k := ly_revb 4 (c' := (if ((J (p 4) 4) + v2) ≤ (Int32.ofInt 200) then 36 else 34, [(0, .ref (p 0)), (1, .int v1), (2, .int v2)], [], me_w (lw M L) J)) rfl k
      by_cases h31 : ((J (p 4) 4) + v2) ≤ (Int32.ofInt 200)
      · rw [if_pos h31] at k
        have k := ly_revb 2 (c' := (38, [(3, .int (Int32.ofInt 0)), (0, .ref (p 0)), (1, .int v1), (2, .int v2)], [], me_w (lw M L) J)) rfl k
        have k := nt_rn_w (a := [(3, .int (Int32.ofInt 0)), (0, .ref (p 0)), (1, .int v1), (2, .int v2)]) (b := [(0, .ref (p 0)), (1, .int v1), (2, .int v2), (3, .int (Int32.ofInt 0))]) ⟨rfl, rfl, rfl, rfl, trivial⟩ rfl k
        have k := xt186_38 hp  v2.toNatClampNeg (Int32.ofInt 0) J L (⟨hw, lx_beg (by decide)⟩) k
        rw [k, x186, if_neg h5, if_neg h17, if_pos h31]
      · rw [if_neg h31] at k
        have k := ly_revb 1 (c' := (35, [(0, .ref (p 0)), (1, .int v1), (2, .int v2)], [.int (Int32.ofInt (-1))], me_w (lw M L) J)) rfl k
        have k := lz_ri rfl (by decide) k
        rw [k, x186, if_neg h5, if_neg h17, if_neg h31]
/-! .days -/
def x110_48 (p : Nat → Nat) (sp : Nat) (ln : Nat) (v1 : Int32) (v2 : Int32) : Nat → Int32 → (Nat → Nat → Int32) → (Nat → Nat → Int64) → Int32 × (Nat → Nat → Int32) × (Nat → Nat → Int64)
  | 0, v3, J, L => (J (p 31) 2, J, L)
  | c + 1, v3, J, L => if v2 ≤ v3 then (J (p 31) 2, J, L)
    else (x110_48 p sp ln v1 v2 c (v3 + (Int32.ofInt 1)) ((x1 p (fun i => p (31 + i)) sp ln J L).1) ((x1 p (fun i => p (31 + i)) sp ln J L).2))
theorem xt110_48 {X : nt_X} {d : Nat} {M : nt_M} {o : Option Value × nt_M} {p : Nat → Nat} {sp : Nat} {ln : Nat} {ru : Nat} {v1 : Int32} {v2 : Int32} (hp : xs_P M p) (hn : xs_Q M (fun i => p (31 + i))) (hs : xs_S M p ru sp ln) (h0 : ¬ v1 < 0) (hr : nt_R M (p 23) v1.toNatClampNeg = some ru) : ∀ (c : Nat) (v3 : Int32) (J : Nat → Nat → Int32) (L : Nat → Nat → Int64), (¬ J (p 16) 4 ≤ v1 ∧ v2.toInt - v3.toInt ≤ c) → nt_rn X d 110 (48, [(0, .ref (p 16)), (1, .int v1), (2, .int v2), (3, .int v3)], [], me_w (lw M L) J) o → o = (some (.int ((x110_48 p sp ln v1 v2 c v3 J L).1)), me_w (lw M ((x110_48 p sp ln v1 v2 c v3 J L).2.2)) ((x110_48 p sp ln v1 v2 c v3 J L).2.1)) := by
  intro c
  induction c with
  | zero =>
    intro v3 J L hc k
    have k := ly_revb 3 (c' := (if v2 ≤ v3 then 75 else 53, [(0, .ref (p 16)), (1, .int v1), (2, .int v2), (3, .int v3)], [], me_w (lw M L) J)) rfl k
    have h50 : v2 ≤ v3 := lx_end hc.2
    rw [if_pos h50] at k
    have k := ly_revb 1 (c' := (76, [(0, .ref (p 16)), (1, .int v1), (2, .int v2), (3, .int v3)], [.ref (p 16)], me_w (lw M L) J)) rfl k
    have k := lz_get (a := (p 16)) (g := 1007) (M := me_w (lw M L) J) (v := .ref (p 31)) rfl (nt_gfR rfl (hp.1 (16, 7, 31) (by decide))) k
    have k := lz_get (a := (p 31)) (g := 602) (M := me_w (lw M L) J) (v := .int (J (p 31) 2)) rfl (congrArg Value.int (rfl)) k
    have k := lz_ri rfl (by decide) k
    rw [k, x110_48]
  | succ c ih =>
    intro v3 J L hc k
    have k := ly_revb 3 (c' := (if v2 ≤ v3 then 75 else 53, [(0, .ref (p 16)), (1, .int v1), (2, .int v2), (3, .int v3)], [], me_w (lw M L) J)) rfl k
    by_cases h50 : v2 ≤ v3
    · rw [if_pos h50] at k
      have k := ly_revb 1 (c' := (76, [(0, .ref (p 16)), (1, .int v1), (2, .int v2), (3, .int v3)], [.ref (p 16)], me_w (lw M L) J)) rfl k
      have k := lz_get (a := (p 16)) (g := 1007) (M := me_w (lw M L) J) (v := .ref (p 31)) rfl (nt_gfR rfl (hp.1 (16, 7, 31) (by decide))) k
      have k := lz_get (a := (p 31)) (g := 602) (M := me_w (lw M L) J) (v := .int (J (p 31) 2)) rfl (congrArg Value.int (rfl)) k
      have k := lz_ri rfl (by decide) k
      rw [k, x110_48, if_pos h50]
    · rw [if_neg h50] at k
      have k := ly_revb 1 (c' := (54, [(0, .ref (p 16)), (1, .int v1), (2, .int v2), (3, .int v3)], [.ref (p 16)], me_w (lw M L) J)) rfl k
      have k := lz_get (a := (p 16)) (g := 1005) (M := me_w (lw M L) J) (v := .ref (p 24)) rfl (nt_gfR rfl (hp.1 (16, 5, 24) (by decide))) k
      have k := ly_revb 1 (c' := (58, [(0, .ref (p 16)), (1, .int v1), (2, .int v2), (3, .int v3)], [.ref (p 16), .ref (p 24)], me_w (lw M L) J)) rfl k
      have k := lz_get (a := (p 16)) (g := 1007) (M := me_w (lw M L) J) (v := .ref (p 31)) rfl (nt_gfR rfl (hp.1 (16, 7, 31) (by decide))) k
      have k := ly_revb 2 (c' := (63, [(0, .ref (p 16)), (1, .int v1), (2, .int v2), (3, .int v3)], [.int v1, .ref (p 16), .ref (p 31), .ref (p 24)], me_w (lw M L) J)) rfl k
      obtain ⟨d1, o1, ed, kc, k⟩ := lz_c (g := 112) (q := 1) (vs := [.ref (p 16), .int v1]) (rest := [.ref (p 31), .ref (p 24)]) rfl rfl (by decide) (Or.inr (Or.inl ⟨_, rfl, rfl⟩)) rfl k
      have e1 := xr112 (M := lw M L) (xs_lp hp) h0 hc.1 hr kc
      subst e1
      have k : nt_rn X _ 110 (66, [(0, .ref (p 16)), (1, .int v1), (2, .int v2), (3, .int v3)], [.ref ru, .ref (p 31), .ref (p 24)], me_w (lw M L) J) _ := k
      obtain ⟨d1, o1, ed, kc, k⟩ := lz_c (g := 1) (q := 1) (vs := [.ref (p 24), .ref (p 31), .ref ru]) (rest := []) rfl rfl (by decide) (Or.inr (Or.inl ⟨_, rfl, rfl⟩)) rfl k
      have e1 := xt1 hp hn (xs_x31 hp) hs kc
      subst e1
      have k : nt_rn X _ 110 (69, [(0, .ref (p 16)), (1, .int v1), (2, .int v2), (3, .int v3)], [], me_w (lw M ((x1 p (fun i => p (31 + i)) sp ln J L).2)) ((x1 p (fun i => p (31 + i)) sp ln J L).1)) _ := k
      have k := ly_revb 2 (c' := (48, [(3, .int (v3 + (Int32.ofInt 1))), (0, .ref (p 16)), (1, .int v1), (2, .int v2)], [], me_w (lw M ((x1 p (fun i => p (31 + i)) sp ln J L).2)) ((x1 p (fun i => p (31 + i)) sp ln J L).1))) rfl k
      have k := nt_rn_w (a := [(3, .int (v3 + (Int32.ofInt 1))), (0, .ref (p 16)), (1, .int v1), (2, .int v2)]) (b := [(0, .ref (p 16)), (1, .int v1), (2, .int v2), (3, .int (v3 + (Int32.ofInt 1)))]) ⟨rfl, rfl, rfl, rfl, trivial⟩ rfl k
      have k := ih (v3 + (Int32.ofInt 1)) ((x1 p (fun i => p (31 + i)) sp ln J L).1) ((x1 p (fun i => p (31 + i)) sp ln J L).2) (⟨by rw [x1_frJ (hp.2.1 16 25 (by omega) (by omega) (by decide)) (hp.2.1 16 31 (by omega) (by omega) (by decide)) (hp.2.1 16 41 (by omega) (by omega) (by decide)) (hp.2.1 16 42 (by omega) (by omega) (by decide)) (hp.2.1 16 43 (by omega) (by omega) (by decide)) (hp.2.1 16 44 (by omega) (by omega) (by decide)) (hp.2.1 16 45 (by omega) (by omega) (by decide)) (hp.2.1 16 46 (by omega) (by omega) (by decide)) (hp.2.1 16 47 (by omega) (by omega) (by decide))]; exact hc.1, lx_dec h50 hc.2⟩) k
      rw [k, x110_48, if_neg h50]
def x110 (p : Nat → Nat) (sp : Nat) (ln : Nat) (v1 : Int32) (v2 : Int32) (J : Nat → Nat → Int32) (L : Nat → Nat → Int64) : Int32 × (Nat → Nat → Int32) × (Nat → Nat → Int64) := if (J (p 31) 1) = 0 then (Int32.ofInt (-1), J, L)
  else if (x111 p v1 J) = 0 then (Int32.ofInt (-1), J, L)
    else if v2 < (Int32.ofInt 1) then (Int32.ofInt (-1), J, L)
      else if (Int32.ofInt 100) < v2 then (Int32.ofInt (-1), J, L)
        else if ((J (p 31) 2) + v2) ≤ (Int32.ofInt 200) then (x110_48 p sp ln v1 v2 v2.toNatClampNeg (Int32.ofInt 0) J L)
          else (Int32.ofInt (-1), J, L)
theorem xt110 {X : nt_X} {d : Nat} {M : nt_M} {o : Option Value × nt_M} {p : Nat → Nat} {sp : Nat} {ln : Nat} {ru : Nat} {v1 : Int32} {v2 : Int32} {J : Nat → Nat → Int32} {L : Nat → Nat → Int64} (hp : xs_P M p) (hn : xs_Q M (fun i => p (31 + i))) (hs : xs_S M p ru sp ln) (h0 : ¬ v1 < 0) (hr : nt_R M (p 23) v1.toNatClampNeg = some ru) (h1 : ¬ J (p 16) 4 ≤ v1) (k : nt_ev X d 110 [.ref (p 16), .int v1, .int v2] (me_w (lw M L) J) o) : o = (some (.int ((x110 p sp ln v1 v2 J L).1)), me_w (lw M ((x110 p sp ln v1 v2 J L).2.2)) ((x110 p sp ln v1 v2 J L).2.1)) := by
  have k : nt_rn X d 110 (0, [(0, .ref (p 16)), (1, .int v1), (2, .int v2)], [], me_w (lw M L) J) o := k
  have k := ly_revb 1 (c' := (1, [(0, .ref (p 16)), (1, .int v1), (2, .int v2)], [.ref (p 16)], me_w (lw M L) J)) rfl k
  have k := lz_get (a := (p 16)) (g := 1007) (M := me_w (lw M L) J) (v := .ref (p 31)) rfl (nt_gfR rfl (hp.1 (16, 7, 31) (by decide))) k
  have k := lz_get (a := (p 31)) (g := 601) (M := me_w (lw M L) J) (v := .int (J (p 31) 1)) rfl (congrArg Value.int (rfl)) k
  have k := ly_revb 1 (c' := (if (J (p 31) 1) = 0 then 44 else 10, [(0, .ref (p 16)), (1, .int v1), (2, .int v2)], [], me_w (lw M L) J)) rfl k
  by_cases h7 : (J (p 31) 1) = 0
  · rw [if_pos h7] at k
    have k := ly_revb 1 (c' := (45, [(0, .ref (p 16)), (1, .int v1), (2, .int v2)], [.int (Int32.ofInt (-1))], me_w (lw M L) J)) rfl k
    have k := lz_ri rfl (by decide) k
    rw [k, x110, if_pos h7]
  · rw [if_neg h7] at k
    have k := ly_revb 2 (c' := (12, [(0, .ref (p 16)), (1, .int v1), (2, .int v2)], [.int v1, .ref (p 16)], me_w (lw M L) J)) rfl k
    obtain ⟨d1, o1, ed, kc, k⟩ := lz_c (g := 111) (q := 1) (vs := [.ref (p 16), .int v1]) (rest := []) rfl rfl (by decide) (Or.inr (Or.inl ⟨_, rfl, rfl⟩)) rfl k
    have e1 := xt111 (xs_lp hp) kc
    subst e1
    have k : nt_rn X _ 110 (15, [(0, .ref (p 16)), (1, .int v1), (2, .int v2)], [.int (x111 p v1 J)], me_w (lw M L) J) _ := k
    have k := ly_revb 1 (c' := (if (x111 p v1 J) = 0 then 44 else 18, [(0, .ref (p 16)), (1, .int v1), (2, .int v2)], [], me_w (lw M L) J)) rfl k
    by_cases h15 : (x111 p v1 J) = 0
    · rw [if_pos h15] at k
      have k := ly_revb 1 (c' := (45, [(0, .ref (p 16)), (1, .int v1), (2, .int v2)], [.int (Int32.ofInt (-1))], me_w (lw M L) J)) rfl k
      have k := lz_ri rfl (by decide) k
      rw [k, x110, if_neg h7, if_pos h15]
    · rw [if_neg h15] at k
      have k := ly_revb 3 (c' := (if v2 < (Int32.ofInt 1) then 44 else 23, [(0, .ref (p 16)), (1, .int v1), (2, .int v2)], [], me_w (lw M L) J)) rfl k
      by_cases h20 : v2 < (Int32.ofInt 1)
      · rw [if_pos h20] at k
        have k := ly_revb 1 (c' := (45, [(0, .ref (p 16)), (1, .int v1), (2, .int v2)], [.int (Int32.ofInt (-1))], me_w (lw M L) J)) rfl k
        have k := lz_ri rfl (by decide) k
        rw [k, x110, if_neg h7, if_neg h15, if_pos h20]
      · rw [if_neg h20] at k
        have k := ly_revb 3 (c' := (if (Int32.ofInt 100) < v2 then 44 else 29, [(0, .ref (p 16)), (1, .int v1), (2, .int v2)], [], me_w (lw M L) J)) rfl k
        by_cases h26 : (Int32.ofInt 100) < v2
        · rw [if_pos h26] at k
          have k := ly_revb 1 (c' := (45, [(0, .ref (p 16)), (1, .int v1), (2, .int v2)], [.int (Int32.ofInt (-1))], me_w (lw M L) J)) rfl k
          have k := lz_ri rfl (by decide) k
          rw [k, x110, if_neg h7, if_neg h15, if_neg h20, if_pos h26]
        · rw [if_neg h26] at k
          have k := ly_revb 1 (c' := (30, [(0, .ref (p 16)), (1, .int v1), (2, .int v2)], [.ref (p 16)], me_w (lw M L) J)) rfl k
          have k := lz_get (a := (p 16)) (g := 1007) (M := me_w (lw M L) J) (v := .ref (p 31)) rfl (nt_gfR rfl (hp.1 (16, 7, 31) (by decide))) k
          have k := lz_get (a := (p 31)) (g := 602) (M := me_w (lw M L) J) (v := .int (J (p 31) 2)) rfl (congrArg Value.int (rfl)) k
          have k := ly_revb 4 (c' := (if ((J (p 31) 2) + v2) ≤ (Int32.ofInt 200) then 46 else 44, [(0, .ref (p 16)), (1, .int v1), (2, .int v2)], [], me_w (lw M L) J)) rfl k
          by_cases h41 : ((J (p 31) 2) + v2) ≤ (Int32.ofInt 200)
          · rw [if_pos h41] at k
            have k := ly_revb 2 (c' := (48, [(3, .int (Int32.ofInt 0)), (0, .ref (p 16)), (1, .int v1), (2, .int v2)], [], me_w (lw M L) J)) rfl k
            have k := nt_rn_w (a := [(3, .int (Int32.ofInt 0)), (0, .ref (p 16)), (1, .int v1), (2, .int v2)]) (b := [(0, .ref (p 16)), (1, .int v1), (2, .int v2), (3, .int (Int32.ofInt 0))]) ⟨rfl, rfl, rfl, rfl, trivial⟩ rfl k
            have k := xt110_48 hp hn hs h0 hr  v2.toNatClampNeg (Int32.ofInt 0) J L (⟨h1, lx_beg (by decide)⟩) k
            rw [k, x110, if_neg h7, if_neg h15, if_neg h20, if_neg h26, if_pos h41]
          · rw [if_neg h41] at k
            have k := ly_revb 1 (c' := (45, [(0, .ref (p 16)), (1, .int v1), (2, .int v2)], [.int (Int32.ofInt (-1))], me_w (lw M L) J)) rfl k
            have k := lz_ri rfl (by decide) k
            rw [k, x110, if_neg h7, if_neg h15, if_neg h20, if_neg h26, if_neg h41]
theorem x110_48_frJ {p : Nat → Nat} {sp : Nat} {ln : Nat} {v1 : Int32} {v2 : Int32} {b : Nat} : ∀ (c : Nat) (v3 : Int32) (J : Nat → Nat → Int32) (L : Nat → Nat → Int64), b ≠ p 25 → b ≠ p 31 → b ≠ p 41 → b ≠ p 42 → b ≠ p 43 → b ≠ p 44 → b ≠ p 45 → b ≠ p 46 → b ≠ p 47 → (x110_48 p sp ln v1 v2 c v3 J L).2.1 b = J b := by
  intro c
  induction c with
  | zero =>
    intro v3 J L n0 n1 n2 n3 n4 n5 n6 n7 n8
    rw [x110_48]
    all_goals first | (dsimp only; exact (show J b = J b from rfl)) | exact (show J b = J b from rfl)
  | succ c ih =>
    intro v3 J L n0 n1 n2 n3 n4 n5 n6 n7 n8
    rw [x110_48]
    by_cases h : v2 ≤ v3
    · rw [if_pos h]
      all_goals first | (dsimp only; exact (show J b = J b from rfl)) | exact (show J b = J b from rfl)
    · rw [if_neg h]
      exact (ih _ _ _ n0 n1 n2 n3 n4 n5 n6 n7 n8).trans (x1_frJ  n0 n1 n2 n3 n4 n5 n6 n7 n8)
theorem x110_frJ {p : Nat → Nat} {sp : Nat} {ln : Nat} {v1 : Int32} {v2 : Int32} {J : Nat → Nat → Int32} {L : Nat → Nat → Int64} {b : Nat} (n0 : b ≠ p 25) (n1 : b ≠ p 31) (n2 : b ≠ p 41) (n3 : b ≠ p 42) (n4 : b ≠ p 43) (n5 : b ≠ p 44) (n6 : b ≠ p 45) (n7 : b ≠ p 46) (n8 : b ≠ p 47) : (x110 p sp ln v1 v2 J L).2.1 b = J b := by
  unfold x110
  by_cases h : (J (p 31) 1) = 0
  · rw [if_pos h]
    all_goals first | (dsimp only; exact (show J b = J b from rfl)) | exact (show J b = J b from rfl)
  · rw [if_neg h]
    by_cases h : (x111 p v1 J) = 0
    · rw [if_pos h]
      all_goals first | (dsimp only; exact (show J b = J b from rfl)) | exact (show J b = J b from rfl)
    · rw [if_neg h]
      by_cases h : v2 < (Int32.ofInt 1)
      · rw [if_pos h]
        all_goals first | (dsimp only; exact (show J b = J b from rfl)) | exact (show J b = J b from rfl)
      · rw [if_neg h]
        by_cases h : (Int32.ofInt 100) < v2
        · rw [if_pos h]
          all_goals first | (dsimp only; exact (show J b = J b from rfl)) | exact (show J b = J b from rfl)
        · rw [if_neg h]
          by_cases h : ((J (p 31) 2) + v2) ≤ (Int32.ofInt 200)
          · rw [if_pos h]
            exact (x110_48_frJ _ _ _ _ n0 n1 n2 n3 n4 n5 n6 n7 n8).trans (rfl)
          · rw [if_neg h]
            all_goals first | (dsimp only; exact (show J b = J b from rfl)) | exact (show J b = J b from rfl)
/-! .days -/
def x110N_48 (p : Nat → Nat) (v1 : Int32) (v2 : Int32) : Nat → Int32 → (Nat → Nat → Int32) → Int32 × (Nat → Nat → Int32)
  | 0, v3, J => (J (p 31) 2, J)
  | c + 1, v3, J => if v2 ≤ v3 then (J (p 31) 2, J)
    else (x110N_48 p v1 v2 c (v3 + (Int32.ofInt 1)) (x1N p (fun i => p (31 + i)) J))
theorem xt110N_48 {X : nt_X} {d : Nat} {M : nt_M} {o : Option Value × nt_M} {p : Nat → Nat} {v1 : Int32} {v2 : Int32} (hp : xs_P M p) (hn : xs_Q M (fun i => p (31 + i))) (h0 : v1 < 0) : ∀ (c : Nat) (v3 : Int32) (J : Nat → Nat → Int32), v2.toInt - v3.toInt ≤ c → nt_rn X d 110 (48, [(0, .ref (p 16)), (1, .int v1), (2, .int v2), (3, .int v3)], [], me_w M J) o → o = (some (.int ((x110N_48 p v1 v2 c v3 J).1)), me_w M ((x110N_48 p v1 v2 c v3 J).2)) := by
  intro c
  induction c with
  | zero =>
    intro v3 J hc k
    have k := ly_revb 3 (c' := (if v2 ≤ v3 then 75 else 53, [(0, .ref (p 16)), (1, .int v1), (2, .int v2), (3, .int v3)], [], me_w M J)) rfl k
    have h50 : v2 ≤ v3 := lx_end hc
    rw [if_pos h50] at k
    have k := ly_revb 1 (c' := (76, [(0, .ref (p 16)), (1, .int v1), (2, .int v2), (3, .int v3)], [.ref (p 16)], me_w M J)) rfl k
    have k := lz_get (a := (p 16)) (g := 1007) (M := me_w M J) (v := .ref (p 31)) rfl (nt_gfR rfl (hp.1 (16, 7, 31) (by decide))) k
    have k := lz_get (a := (p 31)) (g := 602) (M := me_w M J) (v := .int (J (p 31) 2)) rfl (congrArg Value.int (rfl)) k
    have k := lz_ri rfl (by decide) k
    rw [k, x110N_48]
  | succ c ih =>
    intro v3 J hc k
    have k := ly_revb 3 (c' := (if v2 ≤ v3 then 75 else 53, [(0, .ref (p 16)), (1, .int v1), (2, .int v2), (3, .int v3)], [], me_w M J)) rfl k
    by_cases h50 : v2 ≤ v3
    · rw [if_pos h50] at k
      have k := ly_revb 1 (c' := (76, [(0, .ref (p 16)), (1, .int v1), (2, .int v2), (3, .int v3)], [.ref (p 16)], me_w M J)) rfl k
      have k := lz_get (a := (p 16)) (g := 1007) (M := me_w M J) (v := .ref (p 31)) rfl (nt_gfR rfl (hp.1 (16, 7, 31) (by decide))) k
      have k := lz_get (a := (p 31)) (g := 602) (M := me_w M J) (v := .int (J (p 31) 2)) rfl (congrArg Value.int (rfl)) k
      have k := lz_ri rfl (by decide) k
      rw [k, x110N_48, if_pos h50]
    · rw [if_neg h50] at k
      have k := ly_revb 1 (c' := (54, [(0, .ref (p 16)), (1, .int v1), (2, .int v2), (3, .int v3)], [.ref (p 16)], me_w M J)) rfl k
      have k := lz_get (a := (p 16)) (g := 1005) (M := me_w M J) (v := .ref (p 24)) rfl (nt_gfR rfl (hp.1 (16, 5, 24) (by decide))) k
      have k := ly_revb 1 (c' := (58, [(0, .ref (p 16)), (1, .int v1), (2, .int v2), (3, .int v3)], [.ref (p 16), .ref (p 24)], me_w M J)) rfl k
      have k := lz_get (a := (p 16)) (g := 1007) (M := me_w M J) (v := .ref (p 31)) rfl (nt_gfR rfl (hp.1 (16, 7, 31) (by decide))) k
      have k := ly_revb 2 (c' := (63, [(0, .ref (p 16)), (1, .int v1), (2, .int v2), (3, .int v3)], [.int v1, .ref (p 16), .ref (p 31), .ref (p 24)], me_w M J)) rfl k
      obtain ⟨d1, o1, ed, kc, k⟩ := lz_c (g := 112) (q := 1) (vs := [.ref (p 16), .int v1]) (rest := [.ref (p 31), .ref (p 24)]) rfl rfl (by decide) (Or.inr (Or.inl ⟨_, rfl, rfl⟩)) rfl k
      have e1 := xr112N h0 kc
      subst e1
      have k : nt_rn X _ 110 (66, [(0, .ref (p 16)), (1, .int v1), (2, .int v2), (3, .int v3)], [.null, .ref (p 31), .ref (p 24)], me_w M J) _ := k
      obtain ⟨d1, o1, ed, kc, k⟩ := lz_c (g := 1) (q := 1) (vs := [.ref (p 24), .ref (p 31), .null]) (rest := []) rfl rfl (by decide) (Or.inr (Or.inl ⟨_, rfl, rfl⟩)) rfl k
      have e1 := xt1N hp hn (xs_x31 hp) kc
      subst e1
      have k : nt_rn X _ 110 (69, [(0, .ref (p 16)), (1, .int v1), (2, .int v2), (3, .int v3)], [], me_w M (x1N p (fun i => p (31 + i)) J)) _ := k
      have k := ly_revb 2 (c' := (48, [(3, .int (v3 + (Int32.ofInt 1))), (0, .ref (p 16)), (1, .int v1), (2, .int v2)], [], me_w M (x1N p (fun i => p (31 + i)) J))) rfl k
      have k := nt_rn_w (a := [(3, .int (v3 + (Int32.ofInt 1))), (0, .ref (p 16)), (1, .int v1), (2, .int v2)]) (b := [(0, .ref (p 16)), (1, .int v1), (2, .int v2), (3, .int (v3 + (Int32.ofInt 1)))]) ⟨rfl, rfl, rfl, rfl, trivial⟩ rfl k
      have k := ih (v3 + (Int32.ofInt 1)) (x1N p (fun i => p (31 + i)) J) (lx_dec h50 hc) k
      rw [k, x110N_48, if_neg h50]
def x110N (p : Nat → Nat) (v1 : Int32) (v2 : Int32) (J : Nat → Nat → Int32) : Int32 × (Nat → Nat → Int32) := if (J (p 31) 1) = 0 then (Int32.ofInt (-1), J)
  else if (x111 p v1 J) = 0 then (Int32.ofInt (-1), J)
    else if v2 < (Int32.ofInt 1) then (Int32.ofInt (-1), J)
      else if (Int32.ofInt 100) < v2 then (Int32.ofInt (-1), J)
        else if ((J (p 31) 2) + v2) ≤ (Int32.ofInt 200) then (x110N_48 p v1 v2 v2.toNatClampNeg (Int32.ofInt 0) J)
          else (Int32.ofInt (-1), J)
theorem xt110N {X : nt_X} {d : Nat} {M : nt_M} {o : Option Value × nt_M} {p : Nat → Nat} {v1 : Int32} {v2 : Int32} {J : Nat → Nat → Int32} (hp : xs_P M p) (hn : xs_Q M (fun i => p (31 + i))) (h0 : v1 < 0) (k : nt_ev X d 110 [.ref (p 16), .int v1, .int v2] (me_w M J) o) : o = (some (.int ((x110N p v1 v2 J).1)), me_w M ((x110N p v1 v2 J).2)) := by
  have k : nt_rn X d 110 (0, [(0, .ref (p 16)), (1, .int v1), (2, .int v2)], [], me_w M J) o := k
  have k := ly_revb 1 (c' := (1, [(0, .ref (p 16)), (1, .int v1), (2, .int v2)], [.ref (p 16)], me_w M J)) rfl k
  have k := lz_get (a := (p 16)) (g := 1007) (M := me_w M J) (v := .ref (p 31)) rfl (nt_gfR rfl (hp.1 (16, 7, 31) (by decide))) k
  have k := lz_get (a := (p 31)) (g := 601) (M := me_w M J) (v := .int (J (p 31) 1)) rfl (congrArg Value.int (rfl)) k
  have k := ly_revb 1 (c' := (if (J (p 31) 1) = 0 then 44 else 10, [(0, .ref (p 16)), (1, .int v1), (2, .int v2)], [], me_w M J)) rfl k
  by_cases h7 : (J (p 31) 1) = 0
  · rw [if_pos h7] at k
    have k := ly_revb 1 (c' := (45, [(0, .ref (p 16)), (1, .int v1), (2, .int v2)], [.int (Int32.ofInt (-1))], me_w M J)) rfl k
    have k := lz_ri rfl (by decide) k
    rw [k, x110N, if_pos h7]
  · rw [if_neg h7] at k
    have k := ly_revb 2 (c' := (12, [(0, .ref (p 16)), (1, .int v1), (2, .int v2)], [.int v1, .ref (p 16)], me_w M J)) rfl k
    obtain ⟨d1, o1, ed, kc, k⟩ := lz_c (g := 111) (q := 1) (vs := [.ref (p 16), .int v1]) (rest := []) rfl rfl (by decide) (Or.inr (Or.inl ⟨_, rfl, rfl⟩)) rfl k
    have e1 := xt111 hp kc
    subst e1
    have k : nt_rn X _ 110 (15, [(0, .ref (p 16)), (1, .int v1), (2, .int v2)], [.int (x111 p v1 J)], me_w M J) _ := k
    have k := ly_revb 1 (c' := (if (x111 p v1 J) = 0 then 44 else 18, [(0, .ref (p 16)), (1, .int v1), (2, .int v2)], [], me_w M J)) rfl k
    by_cases h15 : (x111 p v1 J) = 0
    · rw [if_pos h15] at k
      have k := ly_revb 1 (c' := (45, [(0, .ref (p 16)), (1, .int v1), (2, .int v2)], [.int (Int32.ofInt (-1))], me_w M J)) rfl k
      have k := lz_ri rfl (by decide) k
      rw [k, x110N, if_neg h7, if_pos h15]
    · rw [if_neg h15] at k
      have k := ly_revb 3 (c' := (if v2 < (Int32.ofInt 1) then 44 else 23, [(0, .ref (p 16)), (1, .int v1), (2, .int v2)], [], me_w M J)) rfl k
      by_cases h20 : v2 < (Int32.ofInt 1)
      · rw [if_pos h20] at k
        have k := ly_revb 1 (c' := (45, [(0, .ref (p 16)), (1, .int v1), (2, .int v2)], [.int (Int32.ofInt (-1))], me_w M J)) rfl k
        have k := lz_ri rfl (by decide) k
        rw [k, x110N, if_neg h7, if_neg h15, if_pos h20]
      · rw [if_neg h20] at k
        have k := ly_revb 3 (c' := (if (Int32.ofInt 100) < v2 then 44 else 29, [(0, .ref (p 16)), (1, .int v1), (2, .int v2)], [], me_w M J)) rfl k
        by_cases h26 : (Int32.ofInt 100) < v2
        · rw [if_pos h26] at k
          have k := ly_revb 1 (c' := (45, [(0, .ref (p 16)), (1, .int v1), (2, .int v2)], [.int (Int32.ofInt (-1))], me_w M J)) rfl k
          have k := lz_ri rfl (by decide) k
          rw [k, x110N, if_neg h7, if_neg h15, if_neg h20, if_pos h26]
        · rw [if_neg h26] at k
          have k := ly_revb 1 (c' := (30, [(0, .ref (p 16)), (1, .int v1), (2, .int v2)], [.ref (p 16)], me_w M J)) rfl k
          have k := lz_get (a := (p 16)) (g := 1007) (M := me_w M J) (v := .ref (p 31)) rfl (nt_gfR rfl (hp.1 (16, 7, 31) (by decide))) k
          have k := lz_get (a := (p 31)) (g := 602) (M := me_w M J) (v := .int (J (p 31) 2)) rfl (congrArg Value.int (rfl)) k
          have k := ly_revb 4 (c' := (if ((J (p 31) 2) + v2) ≤ (Int32.ofInt 200) then 46 else 44, [(0, .ref (p 16)), (1, .int v1), (2, .int v2)], [], me_w M J)) rfl k
          by_cases h41 : ((J (p 31) 2) + v2) ≤ (Int32.ofInt 200)
          · rw [if_pos h41] at k
            have k := ly_revb 2 (c' := (48, [(3, .int (Int32.ofInt 0)), (0, .ref (p 16)), (1, .int v1), (2, .int v2)], [], me_w M J)) rfl k
            have k := nt_rn_w (a := [(3, .int (Int32.ofInt 0)), (0, .ref (p 16)), (1, .int v1), (2, .int v2)]) (b := [(0, .ref (p 16)), (1, .int v1), (2, .int v2), (3, .int (Int32.ofInt 0))]) ⟨rfl, rfl, rfl, rfl, trivial⟩ rfl k
            have k := xt110N_48 hp hn h0  v2.toNatClampNeg (Int32.ofInt 0) J (lx_beg (by decide)) k
            rw [k, x110N, if_neg h7, if_neg h15, if_neg h20, if_neg h26, if_pos h41]
          · rw [if_neg h41] at k
            have k := ly_revb 1 (c' := (45, [(0, .ref (p 16)), (1, .int v1), (2, .int v2)], [.int (Int32.ofInt (-1))], me_w M J)) rfl k
            have k := lz_ri rfl (by decide) k
            rw [k, x110N, if_neg h7, if_neg h15, if_neg h20, if_neg h26, if_neg h41]
theorem x110N_48_frJ {p : Nat → Nat} {v1 : Int32} {v2 : Int32} {b : Nat} : ∀ (c : Nat) (v3 : Int32) (J : Nat → Nat → Int32), b ≠ p 31 → b ≠ p 41 → b ≠ p 42 → b ≠ p 43 → b ≠ p 44 → b ≠ p 46 → b ≠ p 47 → (x110N_48 p v1 v2 c v3 J).2 b = J b := by
  intro c
  induction c with
  | zero =>
    intro v3 J n0 n1 n2 n3 n4 n5 n6
    rw [x110N_48]
    all_goals first | (dsimp only; exact (show J b = J b from rfl)) | exact (show J b = J b from rfl)
  | succ c ih =>
    intro v3 J n0 n1 n2 n3 n4 n5 n6
    rw [x110N_48]
    by_cases h : v2 ≤ v3
    · rw [if_pos h]
      all_goals first | (dsimp only; exact (show J b = J b from rfl)) | exact (show J b = J b from rfl)
    · rw [if_neg h]
      exact (ih _ _ n0 n1 n2 n3 n4 n5 n6).trans (x1N_frJ  n0 n1 n2 n3 n4 n5 n6)
theorem x110N_frJ {p : Nat → Nat} {v1 : Int32} {v2 : Int32} {J : Nat → Nat → Int32} {b : Nat} (n0 : b ≠ p 31) (n1 : b ≠ p 41) (n2 : b ≠ p 42) (n3 : b ≠ p 43) (n4 : b ≠ p 44) (n5 : b ≠ p 46) (n6 : b ≠ p 47) : (x110N p v1 v2 J).2 b = J b := by
  unfold x110N
  by_cases h : (J (p 31) 1) = 0
  · rw [if_pos h]
    all_goals first | (dsimp only; exact (show J b = J b from rfl)) | exact (show J b = J b from rfl)
  · rw [if_neg h]
    by_cases h : (x111 p v1 J) = 0
    · rw [if_pos h]
      all_goals first | (dsimp only; exact (show J b = J b from rfl)) | exact (show J b = J b from rfl)
    · rw [if_neg h]
      by_cases h : v2 < (Int32.ofInt 1)
      · rw [if_pos h]
        all_goals first | (dsimp only; exact (show J b = J b from rfl)) | exact (show J b = J b from rfl)
      · rw [if_neg h]
        by_cases h : (Int32.ofInt 100) < v2
        · rw [if_pos h]
          all_goals first | (dsimp only; exact (show J b = J b from rfl)) | exact (show J b = J b from rfl)
        · rw [if_neg h]
          by_cases h : ((J (p 31) 2) + v2) ≤ (Int32.ofInt 200)
          · rw [if_pos h]
            exact (x110N_48_frJ _ _ _ n0 n1 n2 n3 n4 n5 n6).trans (rfl)
          · rw [if_neg h]
            all_goals first | (dsimp only; exact (show J b = J b from rfl)) | exact (show J b = J b from rfl)
end
section
/-! copies of a state -/
def xs_NL : List (Nat × Nat) := [(2, 24), (3, 24), (4, 24), (5, 24), (6, 8), (7, 8), (8, 8), (9, 8), (10, 6), (11, 6), (12, 6), (13, 24), (14, 24), (15, 24), (16, 8)]
def xs_N (M : nt_M) (q : Nat → Nat) : Prop := ∀ t ∈ xs_NL, nt_l M (q t.1) = t.2
theorem mu_1 {J : Nat → Nat → Int32} {D b : Nat} {f : Nat → Int32} (h : b ≠ D) : nt_u1 J D f b = J b := if_neg h
theorem mx_cpy {X : nt_X} {d mi pc i t D S N : Nat} {ls : nt_V} {st : List Value} {M : nt_M} {J : Nat → Nat → Int32} {o : Option Value × nt_M} {n : Int32} {fS fD : Nat → Int32} (hat : nt_at mi pc = some (pc, .invokestatic i, 1001, t)) (hS : J S = fS) (hD : J D = fD) (hn : n.toNatClampNeg = N) (k : nt_rn X d mi (pc, ls, .int n :: .int (Int32.ofInt 0) :: .ref D :: .int (Int32.ofInt 0) :: .ref S :: st, me_w M J) o) : nt_rn X d mi (pc + 3, ls, st, me_w M (nt_u1 J D (va_cpy fS fD 0 0 N))) o := by
  obtain ⟨c', hs, k⟩ := lz_n (g := 1001) hat rfl (by decide) (Or.inl ⟨_, rfl, rfl⟩) k
  have hs : (if 1 ≤ d ∧ nt_ct st ≤ 8 ∧ S < nt_n M ∧ D < nt_n M ∧ nt_k M S = nt_k M D ∧ (nt_k M S = 13 ∨ nt_k M S = 15) ∧ ¬ Int32.ofInt 0 < 0 ∧ ¬ Int32.ofInt 0 < 0 ∧ ¬ n < 0 ∧ (Int32.ofInt 0).toNatClampNeg + n.toNatClampNeg ≤ nt_l M S ∧ (Int32.ofInt 0).toNatClampNeg + n.toNatClampNeg ≤ nt_l M D then some (pc + 3, ls, st, nt_wI (me_w M J) D (va_cpy (J S) (J D) (Int32.ofInt 0).toNatClampNeg (Int32.ofInt 0).toNatClampNeg n.toNatClampNeg)) else none) = some c' := hs
  obtain ⟨_, e⟩ := nt_if_some hs
  rw [hS, hD, hn] at e
  cases e
  exact k
/-! $Yard.copy -/
def x90 (q : Nat → Nat) (r : Nat → Nat) (J : Nat → Nat → Int32) : (Nat → Nat → Int32) := (nt_u1 (nt_u1 (nt_u1 (nt_u1 (nt_u1 (nt_u1 (nt_u1 (nt_u1 (nt_u (nt_u (nt_u (nt_u (nt_u J (q 1) 0 (J (r 1) 0)) (q 1) 1 (J (r 1) 1)) (q 1) 2 (J (r 1) 2)) (q 1) 3 (J (r 1) 3)) (q 1) 4 (J (r 1) 4)) (q 2) (va_cpy (J (r 2)) (J (q 2)) 0 0 24)) (q 3) (va_cpy (J (r 3)) (J (q 3)) 0 0 24)) (q 4) (va_cpy (J (r 4)) (J (q 4)) 0 0 24)) (q 5) (va_cpy (J (r 5)) (J (q 5)) 0 0 24)) (q 6) (va_cpy (J (r 6)) (J (q 6)) 0 0 8)) (q 7) (va_cpy (J (r 7)) (J (q 7)) 0 0 8)) (q 8) (va_cpy (J (r 8)) (J (q 8)) 0 0 8)) (q 9) (va_cpy (J (r 9)) (J (q 9)) 0 0 8))
theorem xt90 {X : nt_X} {d : Nat} {M : nt_M} {o : Option Value × nt_M} {q : Nat → Nat} {r : Nat → Nat} {J : Nat → Nat → Int32} (hq : xs_Q M q) (hr : xs_Q M r) (hd : ∀ i j, i < 17 → j < 17 → q i ≠ r j) (hl : xs_N M q) (k : nt_ev X d 90 [.ref (q 1), .ref (r 1)] (me_w M J) o) : o = (none, me_w M (x90 q r J)) := by
  have k : nt_rn X d 90 (0, [(0, .ref (q 1)), (1, .ref (r 1))], [], me_w M J) o := k
  have k := ly_revb 2 (c' := (2, [(0, .ref (q 1)), (1, .ref (r 1))], [.ref (r 1), .ref (q 1)], me_w M J)) rfl k
  have k := lz_get (a := (r 1)) (g := 800) (M := me_w M J) (v := .int (J (r 1) 0)) rfl (congrArg Value.int (rfl)) k
  have k := me_put rfl (by decide) k
  have k : nt_rn X _ 90 (8, [(0, .ref (q 1)), (1, .ref (r 1))], [], me_w M (nt_u J (q 1) 0 (J (r 1) 0))) _ := k
  have k := ly_revb 2 (c' := (10, [(0, .ref (q 1)), (1, .ref (r 1))], [.ref (r 1), .ref (q 1)], me_w M (nt_u J (q 1) 0 (J (r 1) 0)))) rfl k
  have k := lz_get (a := (r 1)) (g := 801) (M := me_w M (nt_u J (q 1) 0 (J (r 1) 0))) (v := .int (J (r 1) 1)) rfl (congrArg Value.int (mu_j (Ne.symm (hd 1 1 (by omega) (by omega))))) k
  have k := me_put rfl (by decide) k
  have k : nt_rn X _ 90 (16, [(0, .ref (q 1)), (1, .ref (r 1))], [], me_w M (nt_u (nt_u J (q 1) 0 (J (r 1) 0)) (q 1) 1 (J (r 1) 1))) _ := k
  have k := ly_revb 2 (c' := (18, [(0, .ref (q 1)), (1, .ref (r 1))], [.ref (r 1), .ref (q 1)], me_w M (nt_u (nt_u J (q 1) 0 (J (r 1) 0)) (q 1) 1 (J (r 1) 1)))) rfl k
  have k := lz_get (a := (r 1)) (g := 802) (M := me_w M (nt_u (nt_u J (q 1) 0 (J (r 1) 0)) (q 1) 1 (J (r 1) 1))) (v := .int (J (r 1) 2)) rfl (congrArg Value.int ((mu_j (Ne.symm (hd 1 1 (by omega) (by omega)))).trans (mu_j (Ne.symm (hd 1 1 (by omega) (by omega)))))) k
  have k := me_put rfl (by decide) k
  have k : nt_rn X _ 90 (24, [(0, .ref (q 1)), (1, .ref (r 1))], [], me_w M (nt_u (nt_u (nt_u J (q 1) 0 (J (r 1) 0)) (q 1) 1 (J (r 1) 1)) (q 1) 2 (J (r 1) 2))) _ := k
  have k := ly_revb 2 (c' := (26, [(0, .ref (q 1)), (1, .ref (r 1))], [.ref (r 1), .ref (q 1)], me_w M (nt_u (nt_u (nt_u J (q 1) 0 (J (r 1) 0)) (q 1) 1 (J (r 1) 1)) (q 1) 2 (J (r 1) 2)))) rfl k
  have k := lz_get (a := (r 1)) (g := 803) (M := me_w M (nt_u (nt_u (nt_u J (q 1) 0 (J (r 1) 0)) (q 1) 1 (J (r 1) 1)) (q 1) 2 (J (r 1) 2))) (v := .int (J (r 1) 3)) rfl (congrArg Value.int ((mu_j (Ne.symm (hd 1 1 (by omega) (by omega)))).trans ((mu_j (Ne.symm (hd 1 1 (by omega) (by omega)))).trans (mu_j (Ne.symm (hd 1 1 (by omega) (by omega))))))) k
  have k := me_put rfl (by decide) k
  have k : nt_rn X _ 90 (32, [(0, .ref (q 1)), (1, .ref (r 1))], [], me_w M (nt_u (nt_u (nt_u (nt_u J (q 1) 0 (J (r 1) 0)) (q 1) 1 (J (r 1) 1)) (q 1) 2 (J (r 1) 2)) (q 1) 3 (J (r 1) 3))) _ := k
  have k := ly_revb 2 (c' := (34, [(0, .ref (q 1)), (1, .ref (r 1))], [.ref (r 1), .ref (q 1)], me_w M (nt_u (nt_u (nt_u (nt_u J (q 1) 0 (J (r 1) 0)) (q 1) 1 (J (r 1) 1)) (q 1) 2 (J (r 1) 2)) (q 1) 3 (J (r 1) 3)))) rfl k
  have k := lz_get (a := (r 1)) (g := 804) (M := me_w M (nt_u (nt_u (nt_u (nt_u J (q 1) 0 (J (r 1) 0)) (q 1) 1 (J (r 1) 1)) (q 1) 2 (J (r 1) 2)) (q 1) 3 (J (r 1) 3))) (v := .int (J (r 1) 4)) rfl (congrArg Value.int ((mu_j (Ne.symm (hd 1 1 (by omega) (by omega)))).trans ((mu_j (Ne.symm (hd 1 1 (by omega) (by omega)))).trans ((mu_j (Ne.symm (hd 1 1 (by omega) (by omega)))).trans (mu_j (Ne.symm (hd 1 1 (by omega) (by omega)))))))) k
  have k := me_put rfl (by decide) k
  have k : nt_rn X _ 90 (40, [(0, .ref (q 1)), (1, .ref (r 1))], [], me_w M (nt_u (nt_u (nt_u (nt_u (nt_u J (q 1) 0 (J (r 1) 0)) (q 1) 1 (J (r 1) 1)) (q 1) 2 (J (r 1) 2)) (q 1) 3 (J (r 1) 3)) (q 1) 4 (J (r 1) 4))) _ := k
  have k := ly_revb 1 (c' := (41, [(0, .ref (q 1)), (1, .ref (r 1))], [.ref (r 1)], me_w M (nt_u (nt_u (nt_u (nt_u (nt_u J (q 1) 0 (J (r 1) 0)) (q 1) 1 (J (r 1) 1)) (q 1) 2 (J (r 1) 2)) (q 1) 3 (J (r 1) 3)) (q 1) 4 (J (r 1) 4)))) rfl k
  have k := lz_get (a := (r 1)) (g := 805) (M := me_w M (nt_u (nt_u (nt_u (nt_u (nt_u J (q 1) 0 (J (r 1) 0)) (q 1) 1 (J (r 1) 1)) (q 1) 2 (J (r 1) 2)) (q 1) 3 (J (r 1) 3)) (q 1) 4 (J (r 1) 4))) (v := .ref (r 2)) rfl (nt_gfR rfl (hr.1 (1, 5, 2) (by decide))) k
  have k := ly_revb 2 (c' := (46, [(0, .ref (q 1)), (1, .ref (r 1))], [.ref (q 1), .int (Int32.ofInt 0), .ref (r 2)], me_w M (nt_u (nt_u (nt_u (nt_u (nt_u J (q 1) 0 (J (r 1) 0)) (q 1) 1 (J (r 1) 1)) (q 1) 2 (J (r 1) 2)) (q 1) 3 (J (r 1) 3)) (q 1) 4 (J (r 1) 4)))) rfl k
  have k := lz_get (a := (q 1)) (g := 805) (M := me_w M (nt_u (nt_u (nt_u (nt_u (nt_u J (q 1) 0 (J (r 1) 0)) (q 1) 1 (J (r 1) 1)) (q 1) 2 (J (r 1) 2)) (q 1) 3 (J (r 1) 3)) (q 1) 4 (J (r 1) 4))) (v := .ref (q 2)) rfl (nt_gfR rfl (hq.1 (1, 5, 2) (by decide))) k
  have k := ly_revb 2 (c' := (51, [(0, .ref (q 1)), (1, .ref (r 1))], [.ref (q 1), .int (Int32.ofInt 0), .ref (q 2), .int (Int32.ofInt 0), .ref (r 2)], me_w M (nt_u (nt_u (nt_u (nt_u (nt_u J (q 1) 0 (J (r 1) 0)) (q 1) 1 (J (r 1) 1)) (q 1) 2 (J (r 1) 2)) (q 1) 3 (J (r 1) 3)) (q 1) 4 (J (r 1) 4)))) rfl k
  have k := lz_get (a := (q 1)) (g := 805) (M := me_w M (nt_u (nt_u (nt_u (nt_u (nt_u J (q 1) 0 (J (r 1) 0)) (q 1) 1 (J (r 1) 1)) (q 1) 2 (J (r 1) 2)) (q 1) 3 (J (r 1) 3)) (q 1) 4 (J (r 1) 4))) (v := .ref (q 2)) rfl (nt_gfR rfl (hq.1 (1, 5, 2) (by decide))) k
  have k := lz_len rfl (hq.2.2.1 2 (by omega)) k
  rw [show nt_l (me_w M (nt_u (nt_u (nt_u (nt_u (nt_u J (q 1) 0 (J (r 1) 0)) (q 1) 1 (J (r 1) 1)) (q 1) 2 (J (r 1) 2)) (q 1) 3 (J (r 1) 3)) (q 1) 4 (J (r 1) 4))) (q 2) = 24 from (hl (2, 24) (by decide))] at k
  have k : nt_rn X _ 90 (55, [(0, .ref (q 1)), (1, .ref (r 1))], [.int (Int32.ofNat 24), .int (Int32.ofInt 0), .ref (q 2), .int (Int32.ofInt 0), .ref (r 2)], me_w M (nt_u (nt_u (nt_u (nt_u (nt_u J (q 1) 0 (J (r 1) 0)) (q 1) 1 (J (r 1) 1)) (q 1) 2 (J (r 1) 2)) (q 1) 3 (J (r 1) 3)) (q 1) 4 (J (r 1) 4))) _ := k
  have k := mx_cpy (N := 24) (fS := J (r 2)) (fD := J (q 2)) rfl ((mu_o (Ne.symm (hd 1 2 (by omega) (by omega)))).trans ((mu_o (Ne.symm (hd 1 2 (by omega) (by omega)))).trans ((mu_o (Ne.symm (hd 1 2 (by omega) (by omega)))).trans ((mu_o (Ne.symm (hd 1 2 (by omega) (by omega)))).trans (mu_o (Ne.symm (hd 1 2 (by omega) (by omega)))))))) ((mu_o (hq.2.1 2 1 (by omega) (by omega) (by decide))).trans ((mu_o (hq.2.1 2 1 (by omega) (by omega) (by decide))).trans ((mu_o (hq.2.1 2 1 (by omega) (by omega) (by decide))).trans ((mu_o (hq.2.1 2 1 (by omega) (by omega) (by decide))).trans (mu_o (hq.2.1 2 1 (by omega) (by omega) (by decide))))))) rfl k
  have k : nt_rn X _ 90 (58, [(0, .ref (q 1)), (1, .ref (r 1))], [], me_w M (nt_u1 (nt_u (nt_u (nt_u (nt_u (nt_u J (q 1) 0 (J (r 1) 0)) (q 1) 1 (J (r 1) 1)) (q 1) 2 (J (r 1) 2)) (q 1) 3 (J (r 1) 3)) (q 1) 4 (J (r 1) 4)) (q 2) (va_cpy (J (r 2)) (J (q 2)) 0 0 24))) _ := k
  have k := ly_revb 1 (c' := (59, [(0, .ref (q 1)), (1, .ref (r 1))], [.ref (r 1)], me_w M (nt_u1 (nt_u (nt_u (nt_u (nt_u (nt_u J (q 1) 0 (J (r 1) 0)) (q 1) 1 (J (r 1) 1)) (q 1) 2 (J (r 1) 2)) (q 1) 3 (J (r 1) 3)) (q 1) 4 (J (r 1) 4)) (q 2) (va_cpy (J (r 2)) (J (q 2)) 0 0 24)))) rfl k
  have k := lz_get (a := (r 1)) (g := 806) (M := me_w M (nt_u1 (nt_u (nt_u (nt_u (nt_u (nt_u J (q 1) 0 (J (r 1) 0)) (q 1) 1 (J (r 1) 1)) (q 1) 2 (J (r 1) 2)) (q 1) 3 (J (r 1) 3)) (q 1) 4 (J (r 1) 4)) (q 2) (va_cpy (J (r 2)) (J (q 2)) 0 0 24))) (v := .ref (r 3)) rfl (nt_gfR rfl (hr.1 (1, 6, 3) (by decide))) k
  have k := ly_revb 2 (c' := (64, [(0, .ref (q 1)), (1, .ref (r 1))], [.ref (q 1), .int (Int32.ofInt 0), .ref (r 3)], me_w M (nt_u1 (nt_u (nt_u (nt_u (nt_u (nt_u J (q 1) 0 (J (r 1) 0)) (q 1) 1 (J (r 1) 1)) (q 1) 2 (J (r 1) 2)) (q 1) 3 (J (r 1) 3)) (q 1) 4 (J (r 1) 4)) (q 2) (va_cpy (J (r 2)) (J (q 2)) 0 0 24)))) rfl k
  have k := lz_get (a := (q 1)) (g := 806) (M := me_w M (nt_u1 (nt_u (nt_u (nt_u (nt_u (nt_u J (q 1) 0 (J (r 1) 0)) (q 1) 1 (J (r 1) 1)) (q 1) 2 (J (r 1) 2)) (q 1) 3 (J (r 1) 3)) (q 1) 4 (J (r 1) 4)) (q 2) (va_cpy (J (r 2)) (J (q 2)) 0 0 24))) (v := .ref (q 3)) rfl (nt_gfR rfl (hq.1 (1, 6, 3) (by decide))) k
  have k := ly_revb 2 (c' := (69, [(0, .ref (q 1)), (1, .ref (r 1))], [.ref (q 1), .int (Int32.ofInt 0), .ref (q 3), .int (Int32.ofInt 0), .ref (r 3)], me_w M (nt_u1 (nt_u (nt_u (nt_u (nt_u (nt_u J (q 1) 0 (J (r 1) 0)) (q 1) 1 (J (r 1) 1)) (q 1) 2 (J (r 1) 2)) (q 1) 3 (J (r 1) 3)) (q 1) 4 (J (r 1) 4)) (q 2) (va_cpy (J (r 2)) (J (q 2)) 0 0 24)))) rfl k
  have k := lz_get (a := (q 1)) (g := 806) (M := me_w M (nt_u1 (nt_u (nt_u (nt_u (nt_u (nt_u J (q 1) 0 (J (r 1) 0)) (q 1) 1 (J (r 1) 1)) (q 1) 2 (J (r 1) 2)) (q 1) 3 (J (r 1) 3)) (q 1) 4 (J (r 1) 4)) (q 2) (va_cpy (J (r 2)) (J (q 2)) 0 0 24))) (v := .ref (q 3)) rfl (nt_gfR rfl (hq.1 (1, 6, 3) (by decide))) k
  have k := lz_len rfl (hq.2.2.1 3 (by omega)) k
  rw [show nt_l (me_w M (nt_u1 (nt_u (nt_u (nt_u (nt_u (nt_u J (q 1) 0 (J (r 1) 0)) (q 1) 1 (J (r 1) 1)) (q 1) 2 (J (r 1) 2)) (q 1) 3 (J (r 1) 3)) (q 1) 4 (J (r 1) 4)) (q 2) (va_cpy (J (r 2)) (J (q 2)) 0 0 24))) (q 3) = 24 from (hl (3, 24) (by decide))] at k
  have k : nt_rn X _ 90 (73, [(0, .ref (q 1)), (1, .ref (r 1))], [.int (Int32.ofNat 24), .int (Int32.ofInt 0), .ref (q 3), .int (Int32.ofInt 0), .ref (r 3)], me_w M (nt_u1 (nt_u (nt_u (nt_u (nt_u (nt_u J (q 1) 0 (J (r 1) 0)) (q 1) 1 (J (r 1) 1)) (q 1) 2 (J (r 1) 2)) (q 1) 3 (J (r 1) 3)) (q 1) 4 (J (r 1) 4)) (q 2) (va_cpy (J (r 2)) (J (q 2)) 0 0 24))) _ := k
  have k := mx_cpy (N := 24) (fS := J (r 3)) (fD := J (q 3)) rfl ((mu_1 (Ne.symm (hd 2 3 (by omega) (by omega)))).trans ((mu_o (Ne.symm (hd 1 3 (by omega) (by omega)))).trans ((mu_o (Ne.symm (hd 1 3 (by omega) (by omega)))).trans ((mu_o (Ne.symm (hd 1 3 (by omega) (by omega)))).trans ((mu_o (Ne.symm (hd 1 3 (by omega) (by omega)))).trans (mu_o (Ne.symm (hd 1 3 (by omega) (by omega))))))))) ((mu_1 (hq.2.1 3 2 (by omega) (by omega) (by decide))).trans ((mu_o (hq.2.1 3 1 (by omega) (by omega) (by decide))).trans ((mu_o (hq.2.1 3 1 (by omega) (by omega) (by decide))).trans ((mu_o (hq.2.1 3 1 (by omega) (by omega) (by decide))).trans ((mu_o (hq.2.1 3 1 (by omega) (by omega) (by decide))).trans (mu_o (hq.2.1 3 1 (by omega) (by omega) (by decide)))))))) rfl k
  have k : nt_rn X _ 90 (76, [(0, .ref (q 1)), (1, .ref (r 1))], [], me_w M (nt_u1 (nt_u1 (nt_u (nt_u (nt_u (nt_u (nt_u J (q 1) 0 (J (r 1) 0)) (q 1) 1 (J (r 1) 1)) (q 1) 2 (J (r 1) 2)) (q 1) 3 (J (r 1) 3)) (q 1) 4 (J (r 1) 4)) (q 2) (va_cpy (J (r 2)) (J (q 2)) 0 0 24)) (q 3) (va_cpy (J (r 3)) (J (q 3)) 0 0 24))) _ := k
  have k := ly_revb 1 (c' := (77, [(0, .ref (q 1)), (1, .ref (r 1))], [.ref (r 1)], me_w M (nt_u1 (nt_u1 (nt_u (nt_u (nt_u (nt_u (nt_u J (q 1) 0 (J (r 1) 0)) (q 1) 1 (J (r 1) 1)) (q 1) 2 (J (r 1) 2)) (q 1) 3 (J (r 1) 3)) (q 1) 4 (J (r 1) 4)) (q 2) (va_cpy (J (r 2)) (J (q 2)) 0 0 24)) (q 3) (va_cpy (J (r 3)) (J (q 3)) 0 0 24)))) rfl k
  have k := lz_get (a := (r 1)) (g := 807) (M := me_w M (nt_u1 (nt_u1 (nt_u (nt_u (nt_u (nt_u (nt_u J (q 1) 0 (J (r 1) 0)) (q 1) 1 (J (r 1) 1)) (q 1) 2 (J (r 1) 2)) (q 1) 3 (J (r 1) 3)) (q 1) 4 (J (r 1) 4)) (q 2) (va_cpy (J (r 2)) (J (q 2)) 0 0 24)) (q 3) (va_cpy (J (r 3)) (J (q 3)) 0 0 24))) (v := .ref (r 4)) rfl (nt_gfR rfl (hr.1 (1, 7, 4) (by decide))) k
  have k := ly_revb 2 (c' := (82, [(0, .ref (q 1)), (1, .ref (r 1))], [.ref (q 1), .int (Int32.ofInt 0), .ref (r 4)], me_w M (nt_u1 (nt_u1 (nt_u (nt_u (nt_u (nt_u (nt_u J (q 1) 0 (J (r 1) 0)) (q 1) 1 (J (r 1) 1)) (q 1) 2 (J (r 1) 2)) (q 1) 3 (J (r 1) 3)) (q 1) 4 (J (r 1) 4)) (q 2) (va_cpy (J (r 2)) (J (q 2)) 0 0 24)) (q 3) (va_cpy (J (r 3)) (J (q 3)) 0 0 24)))) rfl k
  have k := lz_get (a := (q 1)) (g := 807) (M := me_w M (nt_u1 (nt_u1 (nt_u (nt_u (nt_u (nt_u (nt_u J (q 1) 0 (J (r 1) 0)) (q 1) 1 (J (r 1) 1)) (q 1) 2 (J (r 1) 2)) (q 1) 3 (J (r 1) 3)) (q 1) 4 (J (r 1) 4)) (q 2) (va_cpy (J (r 2)) (J (q 2)) 0 0 24)) (q 3) (va_cpy (J (r 3)) (J (q 3)) 0 0 24))) (v := .ref (q 4)) rfl (nt_gfR rfl (hq.1 (1, 7, 4) (by decide))) k
  have k := ly_revb 2 (c' := (87, [(0, .ref (q 1)), (1, .ref (r 1))], [.ref (q 1), .int (Int32.ofInt 0), .ref (q 4), .int (Int32.ofInt 0), .ref (r 4)], me_w M (nt_u1 (nt_u1 (nt_u (nt_u (nt_u (nt_u (nt_u J (q 1) 0 (J (r 1) 0)) (q 1) 1 (J (r 1) 1)) (q 1) 2 (J (r 1) 2)) (q 1) 3 (J (r 1) 3)) (q 1) 4 (J (r 1) 4)) (q 2) (va_cpy (J (r 2)) (J (q 2)) 0 0 24)) (q 3) (va_cpy (J (r 3)) (J (q 3)) 0 0 24)))) rfl k
  have k := lz_get (a := (q 1)) (g := 807) (M := me_w M (nt_u1 (nt_u1 (nt_u (nt_u (nt_u (nt_u (nt_u J (q 1) 0 (J (r 1) 0)) (q 1) 1 (J (r 1) 1)) (q 1) 2 (J (r 1) 2)) (q 1) 3 (J (r 1) 3)) (q 1) 4 (J (r 1) 4)) (q 2) (va_cpy (J (r 2)) (J (q 2)) 0 0 24)) (q 3) (va_cpy (J (r 3)) (J (q 3)) 0 0 24))) (v := .ref (q 4)) rfl (nt_gfR rfl (hq.1 (1, 7, 4) (by decide))) k
  have k := lz_len rfl (hq.2.2.1 4 (by omega)) k
  rw [show nt_l (me_w M (nt_u1 (nt_u1 (nt_u (nt_u (nt_u (nt_u (nt_u J (q 1) 0 (J (r 1) 0)) (q 1) 1 (J (r 1) 1)) (q 1) 2 (J (r 1) 2)) (q 1) 3 (J (r 1) 3)) (q 1) 4 (J (r 1) 4)) (q 2) (va_cpy (J (r 2)) (J (q 2)) 0 0 24)) (q 3) (va_cpy (J (r 3)) (J (q 3)) 0 0 24))) (q 4) = 24 from (hl (4, 24) (by decide))] at k
  have k : nt_rn X _ 90 (91, [(0, .ref (q 1)), (1, .ref (r 1))], [.int (Int32.ofNat 24), .int (Int32.ofInt 0), .ref (q 4), .int (Int32.ofInt 0), .ref (r 4)], me_w M (nt_u1 (nt_u1 (nt_u (nt_u (nt_u (nt_u (nt_u J (q 1) 0 (J (r 1) 0)) (q 1) 1 (J (r 1) 1)) (q 1) 2 (J (r 1) 2)) (q 1) 3 (J (r 1) 3)) (q 1) 4 (J (r 1) 4)) (q 2) (va_cpy (J (r 2)) (J (q 2)) 0 0 24)) (q 3) (va_cpy (J (r 3)) (J (q 3)) 0 0 24))) _ := k
  have k := mx_cpy (N := 24) (fS := J (r 4)) (fD := J (q 4)) rfl ((mu_1 (Ne.symm (hd 3 4 (by omega) (by omega)))).trans ((mu_1 (Ne.symm (hd 2 4 (by omega) (by omega)))).trans ((mu_o (Ne.symm (hd 1 4 (by omega) (by omega)))).trans ((mu_o (Ne.symm (hd 1 4 (by omega) (by omega)))).trans ((mu_o (Ne.symm (hd 1 4 (by omega) (by omega)))).trans ((mu_o (Ne.symm (hd 1 4 (by omega) (by omega)))).trans (mu_o (Ne.symm (hd 1 4 (by omega) (by omega)))))))))) ((mu_1 (hq.2.1 4 3 (by omega) (by omega) (by decide))).trans ((mu_1 (hq.2.1 4 2 (by omega) (by omega) (by decide))).trans ((mu_o (hq.2.1 4 1 (by omega) (by omega) (by decide))).trans ((mu_o (hq.2.1 4 1 (by omega) (by omega) (by decide))).trans ((mu_o (hq.2.1 4 1 (by omega) (by omega) (by decide))).trans ((mu_o (hq.2.1 4 1 (by omega) (by omega) (by decide))).trans (mu_o (hq.2.1 4 1 (by omega) (by omega) (by decide))))))))) rfl k
  have k : nt_rn X _ 90 (94, [(0, .ref (q 1)), (1, .ref (r 1))], [], me_w M (nt_u1 (nt_u1 (nt_u1 (nt_u (nt_u (nt_u (nt_u (nt_u J (q 1) 0 (J (r 1) 0)) (q 1) 1 (J (r 1) 1)) (q 1) 2 (J (r 1) 2)) (q 1) 3 (J (r 1) 3)) (q 1) 4 (J (r 1) 4)) (q 2) (va_cpy (J (r 2)) (J (q 2)) 0 0 24)) (q 3) (va_cpy (J (r 3)) (J (q 3)) 0 0 24)) (q 4) (va_cpy (J (r 4)) (J (q 4)) 0 0 24))) _ := k
  have k := ly_revb 1 (c' := (95, [(0, .ref (q 1)), (1, .ref (r 1))], [.ref (r 1)], me_w M (nt_u1 (nt_u1 (nt_u1 (nt_u (nt_u (nt_u (nt_u (nt_u J (q 1) 0 (J (r 1) 0)) (q 1) 1 (J (r 1) 1)) (q 1) 2 (J (r 1) 2)) (q 1) 3 (J (r 1) 3)) (q 1) 4 (J (r 1) 4)) (q 2) (va_cpy (J (r 2)) (J (q 2)) 0 0 24)) (q 3) (va_cpy (J (r 3)) (J (q 3)) 0 0 24)) (q 4) (va_cpy (J (r 4)) (J (q 4)) 0 0 24)))) rfl k
  have k := lz_get (a := (r 1)) (g := 808) (M := me_w M (nt_u1 (nt_u1 (nt_u1 (nt_u (nt_u (nt_u (nt_u (nt_u J (q 1) 0 (J (r 1) 0)) (q 1) 1 (J (r 1) 1)) (q 1) 2 (J (r 1) 2)) (q 1) 3 (J (r 1) 3)) (q 1) 4 (J (r 1) 4)) (q 2) (va_cpy (J (r 2)) (J (q 2)) 0 0 24)) (q 3) (va_cpy (J (r 3)) (J (q 3)) 0 0 24)) (q 4) (va_cpy (J (r 4)) (J (q 4)) 0 0 24))) (v := .ref (r 5)) rfl (nt_gfR rfl (hr.1 (1, 8, 5) (by decide))) k
  have k := ly_revb 2 (c' := (100, [(0, .ref (q 1)), (1, .ref (r 1))], [.ref (q 1), .int (Int32.ofInt 0), .ref (r 5)], me_w M (nt_u1 (nt_u1 (nt_u1 (nt_u (nt_u (nt_u (nt_u (nt_u J (q 1) 0 (J (r 1) 0)) (q 1) 1 (J (r 1) 1)) (q 1) 2 (J (r 1) 2)) (q 1) 3 (J (r 1) 3)) (q 1) 4 (J (r 1) 4)) (q 2) (va_cpy (J (r 2)) (J (q 2)) 0 0 24)) (q 3) (va_cpy (J (r 3)) (J (q 3)) 0 0 24)) (q 4) (va_cpy (J (r 4)) (J (q 4)) 0 0 24)))) rfl k
  have k := lz_get (a := (q 1)) (g := 808) (M := me_w M (nt_u1 (nt_u1 (nt_u1 (nt_u (nt_u (nt_u (nt_u (nt_u J (q 1) 0 (J (r 1) 0)) (q 1) 1 (J (r 1) 1)) (q 1) 2 (J (r 1) 2)) (q 1) 3 (J (r 1) 3)) (q 1) 4 (J (r 1) 4)) (q 2) (va_cpy (J (r 2)) (J (q 2)) 0 0 24)) (q 3) (va_cpy (J (r 3)) (J (q 3)) 0 0 24)) (q 4) (va_cpy (J (r 4)) (J (q 4)) 0 0 24))) (v := .ref (q 5)) rfl (nt_gfR rfl (hq.1 (1, 8, 5) (by decide))) k
  have k := ly_revb 2 (c' := (105, [(0, .ref (q 1)), (1, .ref (r 1))], [.ref (q 1), .int (Int32.ofInt 0), .ref (q 5), .int (Int32.ofInt 0), .ref (r 5)], me_w M (nt_u1 (nt_u1 (nt_u1 (nt_u (nt_u (nt_u (nt_u (nt_u J (q 1) 0 (J (r 1) 0)) (q 1) 1 (J (r 1) 1)) (q 1) 2 (J (r 1) 2)) (q 1) 3 (J (r 1) 3)) (q 1) 4 (J (r 1) 4)) (q 2) (va_cpy (J (r 2)) (J (q 2)) 0 0 24)) (q 3) (va_cpy (J (r 3)) (J (q 3)) 0 0 24)) (q 4) (va_cpy (J (r 4)) (J (q 4)) 0 0 24)))) rfl k
  have k := lz_get (a := (q 1)) (g := 808) (M := me_w M (nt_u1 (nt_u1 (nt_u1 (nt_u (nt_u (nt_u (nt_u (nt_u J (q 1) 0 (J (r 1) 0)) (q 1) 1 (J (r 1) 1)) (q 1) 2 (J (r 1) 2)) (q 1) 3 (J (r 1) 3)) (q 1) 4 (J (r 1) 4)) (q 2) (va_cpy (J (r 2)) (J (q 2)) 0 0 24)) (q 3) (va_cpy (J (r 3)) (J (q 3)) 0 0 24)) (q 4) (va_cpy (J (r 4)) (J (q 4)) 0 0 24))) (v := .ref (q 5)) rfl (nt_gfR rfl (hq.1 (1, 8, 5) (by decide))) k
  have k := lz_len rfl (hq.2.2.1 5 (by omega)) k
  rw [show nt_l (me_w M (nt_u1 (nt_u1 (nt_u1 (nt_u (nt_u (nt_u (nt_u (nt_u J (q 1) 0 (J (r 1) 0)) (q 1) 1 (J (r 1) 1)) (q 1) 2 (J (r 1) 2)) (q 1) 3 (J (r 1) 3)) (q 1) 4 (J (r 1) 4)) (q 2) (va_cpy (J (r 2)) (J (q 2)) 0 0 24)) (q 3) (va_cpy (J (r 3)) (J (q 3)) 0 0 24)) (q 4) (va_cpy (J (r 4)) (J (q 4)) 0 0 24))) (q 5) = 24 from (hl (5, 24) (by decide))] at k
  have k : nt_rn X _ 90 (109, [(0, .ref (q 1)), (1, .ref (r 1))], [.int (Int32.ofNat 24), .int (Int32.ofInt 0), .ref (q 5), .int (Int32.ofInt 0), .ref (r 5)], me_w M (nt_u1 (nt_u1 (nt_u1 (nt_u (nt_u (nt_u (nt_u (nt_u J (q 1) 0 (J (r 1) 0)) (q 1) 1 (J (r 1) 1)) (q 1) 2 (J (r 1) 2)) (q 1) 3 (J (r 1) 3)) (q 1) 4 (J (r 1) 4)) (q 2) (va_cpy (J (r 2)) (J (q 2)) 0 0 24)) (q 3) (va_cpy (J (r 3)) (J (q 3)) 0 0 24)) (q 4) (va_cpy (J (r 4)) (J (q 4)) 0 0 24))) _ := k
  have k := mx_cpy (N := 24) (fS := J (r 5)) (fD := J (q 5)) rfl ((mu_1 (Ne.symm (hd 4 5 (by omega) (by omega)))).trans ((mu_1 (Ne.symm (hd 3 5 (by omega) (by omega)))).trans ((mu_1 (Ne.symm (hd 2 5 (by omega) (by omega)))).trans ((mu_o (Ne.symm (hd 1 5 (by omega) (by omega)))).trans ((mu_o (Ne.symm (hd 1 5 (by omega) (by omega)))).trans ((mu_o (Ne.symm (hd 1 5 (by omega) (by omega)))).trans ((mu_o (Ne.symm (hd 1 5 (by omega) (by omega)))).trans (mu_o (Ne.symm (hd 1 5 (by omega) (by omega))))))))))) ((mu_1 (hq.2.1 5 4 (by omega) (by omega) (by decide))).trans ((mu_1 (hq.2.1 5 3 (by omega) (by omega) (by decide))).trans ((mu_1 (hq.2.1 5 2 (by omega) (by omega) (by decide))).trans ((mu_o (hq.2.1 5 1 (by omega) (by omega) (by decide))).trans ((mu_o (hq.2.1 5 1 (by omega) (by omega) (by decide))).trans ((mu_o (hq.2.1 5 1 (by omega) (by omega) (by decide))).trans ((mu_o (hq.2.1 5 1 (by omega) (by omega) (by decide))).trans (mu_o (hq.2.1 5 1 (by omega) (by omega) (by decide)))))))))) rfl k
  have k : nt_rn X _ 90 (112, [(0, .ref (q 1)), (1, .ref (r 1))], [], me_w M (nt_u1 (nt_u1 (nt_u1 (nt_u1 (nt_u (nt_u (nt_u (nt_u (nt_u J (q 1) 0 (J (r 1) 0)) (q 1) 1 (J (r 1) 1)) (q 1) 2 (J (r 1) 2)) (q 1) 3 (J (r 1) 3)) (q 1) 4 (J (r 1) 4)) (q 2) (va_cpy (J (r 2)) (J (q 2)) 0 0 24)) (q 3) (va_cpy (J (r 3)) (J (q 3)) 0 0 24)) (q 4) (va_cpy (J (r 4)) (J (q 4)) 0 0 24)) (q 5) (va_cpy (J (r 5)) (J (q 5)) 0 0 24))) _ := k
  have k := ly_revb 1 (c' := (113, [(0, .ref (q 1)), (1, .ref (r 1))], [.ref (r 1)], me_w M (nt_u1 (nt_u1 (nt_u1 (nt_u1 (nt_u (nt_u (nt_u (nt_u (nt_u J (q 1) 0 (J (r 1) 0)) (q 1) 1 (J (r 1) 1)) (q 1) 2 (J (r 1) 2)) (q 1) 3 (J (r 1) 3)) (q 1) 4 (J (r 1) 4)) (q 2) (va_cpy (J (r 2)) (J (q 2)) 0 0 24)) (q 3) (va_cpy (J (r 3)) (J (q 3)) 0 0 24)) (q 4) (va_cpy (J (r 4)) (J (q 4)) 0 0 24)) (q 5) (va_cpy (J (r 5)) (J (q 5)) 0 0 24)))) rfl k
  have k := lz_get (a := (r 1)) (g := 809) (M := me_w M (nt_u1 (nt_u1 (nt_u1 (nt_u1 (nt_u (nt_u (nt_u (nt_u (nt_u J (q 1) 0 (J (r 1) 0)) (q 1) 1 (J (r 1) 1)) (q 1) 2 (J (r 1) 2)) (q 1) 3 (J (r 1) 3)) (q 1) 4 (J (r 1) 4)) (q 2) (va_cpy (J (r 2)) (J (q 2)) 0 0 24)) (q 3) (va_cpy (J (r 3)) (J (q 3)) 0 0 24)) (q 4) (va_cpy (J (r 4)) (J (q 4)) 0 0 24)) (q 5) (va_cpy (J (r 5)) (J (q 5)) 0 0 24))) (v := .ref (r 6)) rfl (nt_gfR rfl (hr.1 (1, 9, 6) (by decide))) k
  have k := ly_revb 2 (c' := (118, [(0, .ref (q 1)), (1, .ref (r 1))], [.ref (q 1), .int (Int32.ofInt 0), .ref (r 6)], me_w M (nt_u1 (nt_u1 (nt_u1 (nt_u1 (nt_u (nt_u (nt_u (nt_u (nt_u J (q 1) 0 (J (r 1) 0)) (q 1) 1 (J (r 1) 1)) (q 1) 2 (J (r 1) 2)) (q 1) 3 (J (r 1) 3)) (q 1) 4 (J (r 1) 4)) (q 2) (va_cpy (J (r 2)) (J (q 2)) 0 0 24)) (q 3) (va_cpy (J (r 3)) (J (q 3)) 0 0 24)) (q 4) (va_cpy (J (r 4)) (J (q 4)) 0 0 24)) (q 5) (va_cpy (J (r 5)) (J (q 5)) 0 0 24)))) rfl k
  have k := lz_get (a := (q 1)) (g := 809) (M := me_w M (nt_u1 (nt_u1 (nt_u1 (nt_u1 (nt_u (nt_u (nt_u (nt_u (nt_u J (q 1) 0 (J (r 1) 0)) (q 1) 1 (J (r 1) 1)) (q 1) 2 (J (r 1) 2)) (q 1) 3 (J (r 1) 3)) (q 1) 4 (J (r 1) 4)) (q 2) (va_cpy (J (r 2)) (J (q 2)) 0 0 24)) (q 3) (va_cpy (J (r 3)) (J (q 3)) 0 0 24)) (q 4) (va_cpy (J (r 4)) (J (q 4)) 0 0 24)) (q 5) (va_cpy (J (r 5)) (J (q 5)) 0 0 24))) (v := .ref (q 6)) rfl (nt_gfR rfl (hq.1 (1, 9, 6) (by decide))) k
  have k := ly_revb 2 (c' := (123, [(0, .ref (q 1)), (1, .ref (r 1))], [.ref (q 1), .int (Int32.ofInt 0), .ref (q 6), .int (Int32.ofInt 0), .ref (r 6)], me_w M (nt_u1 (nt_u1 (nt_u1 (nt_u1 (nt_u (nt_u (nt_u (nt_u (nt_u J (q 1) 0 (J (r 1) 0)) (q 1) 1 (J (r 1) 1)) (q 1) 2 (J (r 1) 2)) (q 1) 3 (J (r 1) 3)) (q 1) 4 (J (r 1) 4)) (q 2) (va_cpy (J (r 2)) (J (q 2)) 0 0 24)) (q 3) (va_cpy (J (r 3)) (J (q 3)) 0 0 24)) (q 4) (va_cpy (J (r 4)) (J (q 4)) 0 0 24)) (q 5) (va_cpy (J (r 5)) (J (q 5)) 0 0 24)))) rfl k
  have k := lz_get (a := (q 1)) (g := 809) (M := me_w M (nt_u1 (nt_u1 (nt_u1 (nt_u1 (nt_u (nt_u (nt_u (nt_u (nt_u J (q 1) 0 (J (r 1) 0)) (q 1) 1 (J (r 1) 1)) (q 1) 2 (J (r 1) 2)) (q 1) 3 (J (r 1) 3)) (q 1) 4 (J (r 1) 4)) (q 2) (va_cpy (J (r 2)) (J (q 2)) 0 0 24)) (q 3) (va_cpy (J (r 3)) (J (q 3)) 0 0 24)) (q 4) (va_cpy (J (r 4)) (J (q 4)) 0 0 24)) (q 5) (va_cpy (J (r 5)) (J (q 5)) 0 0 24))) (v := .ref (q 6)) rfl (nt_gfR rfl (hq.1 (1, 9, 6) (by decide))) k
  have k := lz_len rfl (hq.2.2.1 6 (by omega)) k
  rw [show nt_l (me_w M (nt_u1 (nt_u1 (nt_u1 (nt_u1 (nt_u (nt_u (nt_u (nt_u (nt_u J (q 1) 0 (J (r 1) 0)) (q 1) 1 (J (r 1) 1)) (q 1) 2 (J (r 1) 2)) (q 1) 3 (J (r 1) 3)) (q 1) 4 (J (r 1) 4)) (q 2) (va_cpy (J (r 2)) (J (q 2)) 0 0 24)) (q 3) (va_cpy (J (r 3)) (J (q 3)) 0 0 24)) (q 4) (va_cpy (J (r 4)) (J (q 4)) 0 0 24)) (q 5) (va_cpy (J (r 5)) (J (q 5)) 0 0 24))) (q 6) = 8 from (hl (6, 8) (by decide))] at k
  have k : nt_rn X _ 90 (127, [(0, .ref (q 1)), (1, .ref (r 1))], [.int (Int32.ofNat 8), .int (Int32.ofInt 0), .ref (q 6), .int (Int32.ofInt 0), .ref (r 6)], me_w M (nt_u1 (nt_u1 (nt_u1 (nt_u1 (nt_u (nt_u (nt_u (nt_u (nt_u J (q 1) 0 (J (r 1) 0)) (q 1) 1 (J (r 1) 1)) (q 1) 2 (J (r 1) 2)) (q 1) 3 (J (r 1) 3)) (q 1) 4 (J (r 1) 4)) (q 2) (va_cpy (J (r 2)) (J (q 2)) 0 0 24)) (q 3) (va_cpy (J (r 3)) (J (q 3)) 0 0 24)) (q 4) (va_cpy (J (r 4)) (J (q 4)) 0 0 24)) (q 5) (va_cpy (J (r 5)) (J (q 5)) 0 0 24))) _ := k
  have k := mx_cpy (N := 8) (fS := J (r 6)) (fD := J (q 6)) rfl ((mu_1 (Ne.symm (hd 5 6 (by omega) (by omega)))).trans ((mu_1 (Ne.symm (hd 4 6 (by omega) (by omega)))).trans ((mu_1 (Ne.symm (hd 3 6 (by omega) (by omega)))).trans ((mu_1 (Ne.symm (hd 2 6 (by omega) (by omega)))).trans ((mu_o (Ne.symm (hd 1 6 (by omega) (by omega)))).trans ((mu_o (Ne.symm (hd 1 6 (by omega) (by omega)))).trans ((mu_o (Ne.symm (hd 1 6 (by omega) (by omega)))).trans ((mu_o (Ne.symm (hd 1 6 (by omega) (by omega)))).trans (mu_o (Ne.symm (hd 1 6 (by omega) (by omega)))))))))))) ((mu_1 (hq.2.1 6 5 (by omega) (by omega) (by decide))).trans ((mu_1 (hq.2.1 6 4 (by omega) (by omega) (by decide))).trans ((mu_1 (hq.2.1 6 3 (by omega) (by omega) (by decide))).trans ((mu_1 (hq.2.1 6 2 (by omega) (by omega) (by decide))).trans ((mu_o (hq.2.1 6 1 (by omega) (by omega) (by decide))).trans ((mu_o (hq.2.1 6 1 (by omega) (by omega) (by decide))).trans ((mu_o (hq.2.1 6 1 (by omega) (by omega) (by decide))).trans ((mu_o (hq.2.1 6 1 (by omega) (by omega) (by decide))).trans (mu_o (hq.2.1 6 1 (by omega) (by omega) (by decide))))))))))) rfl k
  have k : nt_rn X _ 90 (130, [(0, .ref (q 1)), (1, .ref (r 1))], [], me_w M (nt_u1 (nt_u1 (nt_u1 (nt_u1 (nt_u1 (nt_u (nt_u (nt_u (nt_u (nt_u J (q 1) 0 (J (r 1) 0)) (q 1) 1 (J (r 1) 1)) (q 1) 2 (J (r 1) 2)) (q 1) 3 (J (r 1) 3)) (q 1) 4 (J (r 1) 4)) (q 2) (va_cpy (J (r 2)) (J (q 2)) 0 0 24)) (q 3) (va_cpy (J (r 3)) (J (q 3)) 0 0 24)) (q 4) (va_cpy (J (r 4)) (J (q 4)) 0 0 24)) (q 5) (va_cpy (J (r 5)) (J (q 5)) 0 0 24)) (q 6) (va_cpy (J (r 6)) (J (q 6)) 0 0 8))) _ := k
  have k := ly_revb 1 (c' := (131, [(0, .ref (q 1)), (1, .ref (r 1))], [.ref (r 1)], me_w M (nt_u1 (nt_u1 (nt_u1 (nt_u1 (nt_u1 (nt_u (nt_u (nt_u (nt_u (nt_u J (q 1) 0 (J (r 1) 0)) (q 1) 1 (J (r 1) 1)) (q 1) 2 (J (r 1) 2)) (q 1) 3 (J (r 1) 3)) (q 1) 4 (J (r 1) 4)) (q 2) (va_cpy (J (r 2)) (J (q 2)) 0 0 24)) (q 3) (va_cpy (J (r 3)) (J (q 3)) 0 0 24)) (q 4) (va_cpy (J (r 4)) (J (q 4)) 0 0 24)) (q 5) (va_cpy (J (r 5)) (J (q 5)) 0 0 24)) (q 6) (va_cpy (J (r 6)) (J (q 6)) 0 0 8)))) rfl k
  have k := lz_get (a := (r 1)) (g := 810) (M := me_w M (nt_u1 (nt_u1 (nt_u1 (nt_u1 (nt_u1 (nt_u (nt_u (nt_u (nt_u (nt_u J (q 1) 0 (J (r 1) 0)) (q 1) 1 (J (r 1) 1)) (q 1) 2 (J (r 1) 2)) (q 1) 3 (J (r 1) 3)) (q 1) 4 (J (r 1) 4)) (q 2) (va_cpy (J (r 2)) (J (q 2)) 0 0 24)) (q 3) (va_cpy (J (r 3)) (J (q 3)) 0 0 24)) (q 4) (va_cpy (J (r 4)) (J (q 4)) 0 0 24)) (q 5) (va_cpy (J (r 5)) (J (q 5)) 0 0 24)) (q 6) (va_cpy (J (r 6)) (J (q 6)) 0 0 8))) (v := .ref (r 7)) rfl (nt_gfR rfl (hr.1 (1, 10, 7) (by decide))) k
  have k := ly_revb 2 (c' := (136, [(0, .ref (q 1)), (1, .ref (r 1))], [.ref (q 1), .int (Int32.ofInt 0), .ref (r 7)], me_w M (nt_u1 (nt_u1 (nt_u1 (nt_u1 (nt_u1 (nt_u (nt_u (nt_u (nt_u (nt_u J (q 1) 0 (J (r 1) 0)) (q 1) 1 (J (r 1) 1)) (q 1) 2 (J (r 1) 2)) (q 1) 3 (J (r 1) 3)) (q 1) 4 (J (r 1) 4)) (q 2) (va_cpy (J (r 2)) (J (q 2)) 0 0 24)) (q 3) (va_cpy (J (r 3)) (J (q 3)) 0 0 24)) (q 4) (va_cpy (J (r 4)) (J (q 4)) 0 0 24)) (q 5) (va_cpy (J (r 5)) (J (q 5)) 0 0 24)) (q 6) (va_cpy (J (r 6)) (J (q 6)) 0 0 8)))) rfl k
  have k := lz_get (a := (q 1)) (g := 810) (M := me_w M (nt_u1 (nt_u1 (nt_u1 (nt_u1 (nt_u1 (nt_u (nt_u (nt_u (nt_u (nt_u J (q 1) 0 (J (r 1) 0)) (q 1) 1 (J (r 1) 1)) (q 1) 2 (J (r 1) 2)) (q 1) 3 (J (r 1) 3)) (q 1) 4 (J (r 1) 4)) (q 2) (va_cpy (J (r 2)) (J (q 2)) 0 0 24)) (q 3) (va_cpy (J (r 3)) (J (q 3)) 0 0 24)) (q 4) (va_cpy (J (r 4)) (J (q 4)) 0 0 24)) (q 5) (va_cpy (J (r 5)) (J (q 5)) 0 0 24)) (q 6) (va_cpy (J (r 6)) (J (q 6)) 0 0 8))) (v := .ref (q 7)) rfl (nt_gfR rfl (hq.1 (1, 10, 7) (by decide))) k
  have k := ly_revb 2 (c' := (141, [(0, .ref (q 1)), (1, .ref (r 1))], [.ref (q 1), .int (Int32.ofInt 0), .ref (q 7), .int (Int32.ofInt 0), .ref (r 7)], me_w M (nt_u1 (nt_u1 (nt_u1 (nt_u1 (nt_u1 (nt_u (nt_u (nt_u (nt_u (nt_u J (q 1) 0 (J (r 1) 0)) (q 1) 1 (J (r 1) 1)) (q 1) 2 (J (r 1) 2)) (q 1) 3 (J (r 1) 3)) (q 1) 4 (J (r 1) 4)) (q 2) (va_cpy (J (r 2)) (J (q 2)) 0 0 24)) (q 3) (va_cpy (J (r 3)) (J (q 3)) 0 0 24)) (q 4) (va_cpy (J (r 4)) (J (q 4)) 0 0 24)) (q 5) (va_cpy (J (r 5)) (J (q 5)) 0 0 24)) (q 6) (va_cpy (J (r 6)) (J (q 6)) 0 0 8)))) rfl k
  have k := lz_get (a := (q 1)) (g := 810) (M := me_w M (nt_u1 (nt_u1 (nt_u1 (nt_u1 (nt_u1 (nt_u (nt_u (nt_u (nt_u (nt_u J (q 1) 0 (J (r 1) 0)) (q 1) 1 (J (r 1) 1)) (q 1) 2 (J (r 1) 2)) (q 1) 3 (J (r 1) 3)) (q 1) 4 (J (r 1) 4)) (q 2) (va_cpy (J (r 2)) (J (q 2)) 0 0 24)) (q 3) (va_cpy (J (r 3)) (J (q 3)) 0 0 24)) (q 4) (va_cpy (J (r 4)) (J (q 4)) 0 0 24)) (q 5) (va_cpy (J (r 5)) (J (q 5)) 0 0 24)) (q 6) (va_cpy (J (r 6)) (J (q 6)) 0 0 8))) (v := .ref (q 7)) rfl (nt_gfR rfl (hq.1 (1, 10, 7) (by decide))) k
  have k := lz_len rfl (hq.2.2.1 7 (by omega)) k
  rw [show nt_l (me_w M (nt_u1 (nt_u1 (nt_u1 (nt_u1 (nt_u1 (nt_u (nt_u (nt_u (nt_u (nt_u J (q 1) 0 (J (r 1) 0)) (q 1) 1 (J (r 1) 1)) (q 1) 2 (J (r 1) 2)) (q 1) 3 (J (r 1) 3)) (q 1) 4 (J (r 1) 4)) (q 2) (va_cpy (J (r 2)) (J (q 2)) 0 0 24)) (q 3) (va_cpy (J (r 3)) (J (q 3)) 0 0 24)) (q 4) (va_cpy (J (r 4)) (J (q 4)) 0 0 24)) (q 5) (va_cpy (J (r 5)) (J (q 5)) 0 0 24)) (q 6) (va_cpy (J (r 6)) (J (q 6)) 0 0 8))) (q 7) = 8 from (hl (7, 8) (by decide))] at k
  have k : nt_rn X _ 90 (145, [(0, .ref (q 1)), (1, .ref (r 1))], [.int (Int32.ofNat 8), .int (Int32.ofInt 0), .ref (q 7), .int (Int32.ofInt 0), .ref (r 7)], me_w M (nt_u1 (nt_u1 (nt_u1 (nt_u1 (nt_u1 (nt_u (nt_u (nt_u (nt_u (nt_u J (q 1) 0 (J (r 1) 0)) (q 1) 1 (J (r 1) 1)) (q 1) 2 (J (r 1) 2)) (q 1) 3 (J (r 1) 3)) (q 1) 4 (J (r 1) 4)) (q 2) (va_cpy (J (r 2)) (J (q 2)) 0 0 24)) (q 3) (va_cpy (J (r 3)) (J (q 3)) 0 0 24)) (q 4) (va_cpy (J (r 4)) (J (q 4)) 0 0 24)) (q 5) (va_cpy (J (r 5)) (J (q 5)) 0 0 24)) (q 6) (va_cpy (J (r 6)) (J (q 6)) 0 0 8))) _ := k
  have k := mx_cpy (N := 8) (fS := J (r 7)) (fD := J (q 7)) rfl ((mu_1 (Ne.symm (hd 6 7 (by omega) (by omega)))).trans ((mu_1 (Ne.symm (hd 5 7 (by omega) (by omega)))).trans ((mu_1 (Ne.symm (hd 4 7 (by omega) (by omega)))).trans ((mu_1 (Ne.symm (hd 3 7 (by omega) (by omega)))).trans ((mu_1 (Ne.symm (hd 2 7 (by omega) (by omega)))).trans ((mu_o (Ne.symm (hd 1 7 (by omega) (by omega)))).trans ((mu_o (Ne.symm (hd 1 7 (by omega) (by omega)))).trans ((mu_o (Ne.symm (hd 1 7 (by omega) (by omega)))).trans ((mu_o (Ne.symm (hd 1 7 (by omega) (by omega)))).trans (mu_o (Ne.symm (hd 1 7 (by omega) (by omega))))))))))))) ((mu_1 (hq.2.1 7 6 (by omega) (by omega) (by decide))).trans ((mu_1 (hq.2.1 7 5 (by omega) (by omega) (by decide))).trans ((mu_1 (hq.2.1 7 4 (by omega) (by omega) (by decide))).trans ((mu_1 (hq.2.1 7 3 (by omega) (by omega) (by decide))).trans ((mu_1 (hq.2.1 7 2 (by omega) (by omega) (by decide))).trans ((mu_o (hq.2.1 7 1 (by omega) (by omega) (by decide))).trans ((mu_o (hq.2.1 7 1 (by omega) (by omega) (by decide))).trans ((mu_o (hq.2.1 7 1 (by omega) (by omega) (by decide))).trans ((mu_o (hq.2.1 7 1 (by omega) (by omega) (by decide))).trans (mu_o (hq.2.1 7 1 (by omega) (by omega) (by decide)))))))))))) rfl k
  have k : nt_rn X _ 90 (148, [(0, .ref (q 1)), (1, .ref (r 1))], [], me_w M (nt_u1 (nt_u1 (nt_u1 (nt_u1 (nt_u1 (nt_u1 (nt_u (nt_u (nt_u (nt_u (nt_u J (q 1) 0 (J (r 1) 0)) (q 1) 1 (J (r 1) 1)) (q 1) 2 (J (r 1) 2)) (q 1) 3 (J (r 1) 3)) (q 1) 4 (J (r 1) 4)) (q 2) (va_cpy (J (r 2)) (J (q 2)) 0 0 24)) (q 3) (va_cpy (J (r 3)) (J (q 3)) 0 0 24)) (q 4) (va_cpy (J (r 4)) (J (q 4)) 0 0 24)) (q 5) (va_cpy (J (r 5)) (J (q 5)) 0 0 24)) (q 6) (va_cpy (J (r 6)) (J (q 6)) 0 0 8)) (q 7) (va_cpy (J (r 7)) (J (q 7)) 0 0 8))) _ := k
  have k := ly_revb 1 (c' := (149, [(0, .ref (q 1)), (1, .ref (r 1))], [.ref (r 1)], me_w M (nt_u1 (nt_u1 (nt_u1 (nt_u1 (nt_u1 (nt_u1 (nt_u (nt_u (nt_u (nt_u (nt_u J (q 1) 0 (J (r 1) 0)) (q 1) 1 (J (r 1) 1)) (q 1) 2 (J (r 1) 2)) (q 1) 3 (J (r 1) 3)) (q 1) 4 (J (r 1) 4)) (q 2) (va_cpy (J (r 2)) (J (q 2)) 0 0 24)) (q 3) (va_cpy (J (r 3)) (J (q 3)) 0 0 24)) (q 4) (va_cpy (J (r 4)) (J (q 4)) 0 0 24)) (q 5) (va_cpy (J (r 5)) (J (q 5)) 0 0 24)) (q 6) (va_cpy (J (r 6)) (J (q 6)) 0 0 8)) (q 7) (va_cpy (J (r 7)) (J (q 7)) 0 0 8)))) rfl k
  have k := lz_get (a := (r 1)) (g := 811) (M := me_w M (nt_u1 (nt_u1 (nt_u1 (nt_u1 (nt_u1 (nt_u1 (nt_u (nt_u (nt_u (nt_u (nt_u J (q 1) 0 (J (r 1) 0)) (q 1) 1 (J (r 1) 1)) (q 1) 2 (J (r 1) 2)) (q 1) 3 (J (r 1) 3)) (q 1) 4 (J (r 1) 4)) (q 2) (va_cpy (J (r 2)) (J (q 2)) 0 0 24)) (q 3) (va_cpy (J (r 3)) (J (q 3)) 0 0 24)) (q 4) (va_cpy (J (r 4)) (J (q 4)) 0 0 24)) (q 5) (va_cpy (J (r 5)) (J (q 5)) 0 0 24)) (q 6) (va_cpy (J (r 6)) (J (q 6)) 0 0 8)) (q 7) (va_cpy (J (r 7)) (J (q 7)) 0 0 8))) (v := .ref (r 8)) rfl (nt_gfR rfl (hr.1 (1, 11, 8) (by decide))) k
  have k := ly_revb 2 (c' := (154, [(0, .ref (q 1)), (1, .ref (r 1))], [.ref (q 1), .int (Int32.ofInt 0), .ref (r 8)], me_w M (nt_u1 (nt_u1 (nt_u1 (nt_u1 (nt_u1 (nt_u1 (nt_u (nt_u (nt_u (nt_u (nt_u J (q 1) 0 (J (r 1) 0)) (q 1) 1 (J (r 1) 1)) (q 1) 2 (J (r 1) 2)) (q 1) 3 (J (r 1) 3)) (q 1) 4 (J (r 1) 4)) (q 2) (va_cpy (J (r 2)) (J (q 2)) 0 0 24)) (q 3) (va_cpy (J (r 3)) (J (q 3)) 0 0 24)) (q 4) (va_cpy (J (r 4)) (J (q 4)) 0 0 24)) (q 5) (va_cpy (J (r 5)) (J (q 5)) 0 0 24)) (q 6) (va_cpy (J (r 6)) (J (q 6)) 0 0 8)) (q 7) (va_cpy (J (r 7)) (J (q 7)) 0 0 8)))) rfl k
  have k := lz_get (a := (q 1)) (g := 811) (M := me_w M (nt_u1 (nt_u1 (nt_u1 (nt_u1 (nt_u1 (nt_u1 (nt_u (nt_u (nt_u (nt_u (nt_u J (q 1) 0 (J (r 1) 0)) (q 1) 1 (J (r 1) 1)) (q 1) 2 (J (r 1) 2)) (q 1) 3 (J (r 1) 3)) (q 1) 4 (J (r 1) 4)) (q 2) (va_cpy (J (r 2)) (J (q 2)) 0 0 24)) (q 3) (va_cpy (J (r 3)) (J (q 3)) 0 0 24)) (q 4) (va_cpy (J (r 4)) (J (q 4)) 0 0 24)) (q 5) (va_cpy (J (r 5)) (J (q 5)) 0 0 24)) (q 6) (va_cpy (J (r 6)) (J (q 6)) 0 0 8)) (q 7) (va_cpy (J (r 7)) (J (q 7)) 0 0 8))) (v := .ref (q 8)) rfl (nt_gfR rfl (hq.1 (1, 11, 8) (by decide))) k
  have k := ly_revb 2 (c' := (159, [(0, .ref (q 1)), (1, .ref (r 1))], [.ref (q 1), .int (Int32.ofInt 0), .ref (q 8), .int (Int32.ofInt 0), .ref (r 8)], me_w M (nt_u1 (nt_u1 (nt_u1 (nt_u1 (nt_u1 (nt_u1 (nt_u (nt_u (nt_u (nt_u (nt_u J (q 1) 0 (J (r 1) 0)) (q 1) 1 (J (r 1) 1)) (q 1) 2 (J (r 1) 2)) (q 1) 3 (J (r 1) 3)) (q 1) 4 (J (r 1) 4)) (q 2) (va_cpy (J (r 2)) (J (q 2)) 0 0 24)) (q 3) (va_cpy (J (r 3)) (J (q 3)) 0 0 24)) (q 4) (va_cpy (J (r 4)) (J (q 4)) 0 0 24)) (q 5) (va_cpy (J (r 5)) (J (q 5)) 0 0 24)) (q 6) (va_cpy (J (r 6)) (J (q 6)) 0 0 8)) (q 7) (va_cpy (J (r 7)) (J (q 7)) 0 0 8)))) rfl k
  have k := lz_get (a := (q 1)) (g := 811) (M := me_w M (nt_u1 (nt_u1 (nt_u1 (nt_u1 (nt_u1 (nt_u1 (nt_u (nt_u (nt_u (nt_u (nt_u J (q 1) 0 (J (r 1) 0)) (q 1) 1 (J (r 1) 1)) (q 1) 2 (J (r 1) 2)) (q 1) 3 (J (r 1) 3)) (q 1) 4 (J (r 1) 4)) (q 2) (va_cpy (J (r 2)) (J (q 2)) 0 0 24)) (q 3) (va_cpy (J (r 3)) (J (q 3)) 0 0 24)) (q 4) (va_cpy (J (r 4)) (J (q 4)) 0 0 24)) (q 5) (va_cpy (J (r 5)) (J (q 5)) 0 0 24)) (q 6) (va_cpy (J (r 6)) (J (q 6)) 0 0 8)) (q 7) (va_cpy (J (r 7)) (J (q 7)) 0 0 8))) (v := .ref (q 8)) rfl (nt_gfR rfl (hq.1 (1, 11, 8) (by decide))) k
  have k := lz_len rfl (hq.2.2.1 8 (by omega)) k
  rw [show nt_l (me_w M (nt_u1 (nt_u1 (nt_u1 (nt_u1 (nt_u1 (nt_u1 (nt_u (nt_u (nt_u (nt_u (nt_u J (q 1) 0 (J (r 1) 0)) (q 1) 1 (J (r 1) 1)) (q 1) 2 (J (r 1) 2)) (q 1) 3 (J (r 1) 3)) (q 1) 4 (J (r 1) 4)) (q 2) (va_cpy (J (r 2)) (J (q 2)) 0 0 24)) (q 3) (va_cpy (J (r 3)) (J (q 3)) 0 0 24)) (q 4) (va_cpy (J (r 4)) (J (q 4)) 0 0 24)) (q 5) (va_cpy (J (r 5)) (J (q 5)) 0 0 24)) (q 6) (va_cpy (J (r 6)) (J (q 6)) 0 0 8)) (q 7) (va_cpy (J (r 7)) (J (q 7)) 0 0 8))) (q 8) = 8 from (hl (8, 8) (by decide))] at k
  have k : nt_rn X _ 90 (163, [(0, .ref (q 1)), (1, .ref (r 1))], [.int (Int32.ofNat 8), .int (Int32.ofInt 0), .ref (q 8), .int (Int32.ofInt 0), .ref (r 8)], me_w M (nt_u1 (nt_u1 (nt_u1 (nt_u1 (nt_u1 (nt_u1 (nt_u (nt_u (nt_u (nt_u (nt_u J (q 1) 0 (J (r 1) 0)) (q 1) 1 (J (r 1) 1)) (q 1) 2 (J (r 1) 2)) (q 1) 3 (J (r 1) 3)) (q 1) 4 (J (r 1) 4)) (q 2) (va_cpy (J (r 2)) (J (q 2)) 0 0 24)) (q 3) (va_cpy (J (r 3)) (J (q 3)) 0 0 24)) (q 4) (va_cpy (J (r 4)) (J (q 4)) 0 0 24)) (q 5) (va_cpy (J (r 5)) (J (q 5)) 0 0 24)) (q 6) (va_cpy (J (r 6)) (J (q 6)) 0 0 8)) (q 7) (va_cpy (J (r 7)) (J (q 7)) 0 0 8))) _ := k
  have k := mx_cpy (N := 8) (fS := J (r 8)) (fD := J (q 8)) rfl ((mu_1 (Ne.symm (hd 7 8 (by omega) (by omega)))).trans ((mu_1 (Ne.symm (hd 6 8 (by omega) (by omega)))).trans ((mu_1 (Ne.symm (hd 5 8 (by omega) (by omega)))).trans ((mu_1 (Ne.symm (hd 4 8 (by omega) (by omega)))).trans ((mu_1 (Ne.symm (hd 3 8 (by omega) (by omega)))).trans ((mu_1 (Ne.symm (hd 2 8 (by omega) (by omega)))).trans ((mu_o (Ne.symm (hd 1 8 (by omega) (by omega)))).trans ((mu_o (Ne.symm (hd 1 8 (by omega) (by omega)))).trans ((mu_o (Ne.symm (hd 1 8 (by omega) (by omega)))).trans ((mu_o (Ne.symm (hd 1 8 (by omega) (by omega)))).trans (mu_o (Ne.symm (hd 1 8 (by omega) (by omega)))))))))))))) ((mu_1 (hq.2.1 8 7 (by omega) (by omega) (by decide))).trans ((mu_1 (hq.2.1 8 6 (by omega) (by omega) (by decide))).trans ((mu_1 (hq.2.1 8 5 (by omega) (by omega) (by decide))).trans ((mu_1 (hq.2.1 8 4 (by omega) (by omega) (by decide))).trans ((mu_1 (hq.2.1 8 3 (by omega) (by omega) (by decide))).trans ((mu_1 (hq.2.1 8 2 (by omega) (by omega) (by decide))).trans ((mu_o (hq.2.1 8 1 (by omega) (by omega) (by decide))).trans ((mu_o (hq.2.1 8 1 (by omega) (by omega) (by decide))).trans ((mu_o (hq.2.1 8 1 (by omega) (by omega) (by decide))).trans ((mu_o (hq.2.1 8 1 (by omega) (by omega) (by decide))).trans (mu_o (hq.2.1 8 1 (by omega) (by omega) (by decide))))))))))))) rfl k
  have k : nt_rn X _ 90 (166, [(0, .ref (q 1)), (1, .ref (r 1))], [], me_w M (nt_u1 (nt_u1 (nt_u1 (nt_u1 (nt_u1 (nt_u1 (nt_u1 (nt_u (nt_u (nt_u (nt_u (nt_u J (q 1) 0 (J (r 1) 0)) (q 1) 1 (J (r 1) 1)) (q 1) 2 (J (r 1) 2)) (q 1) 3 (J (r 1) 3)) (q 1) 4 (J (r 1) 4)) (q 2) (va_cpy (J (r 2)) (J (q 2)) 0 0 24)) (q 3) (va_cpy (J (r 3)) (J (q 3)) 0 0 24)) (q 4) (va_cpy (J (r 4)) (J (q 4)) 0 0 24)) (q 5) (va_cpy (J (r 5)) (J (q 5)) 0 0 24)) (q 6) (va_cpy (J (r 6)) (J (q 6)) 0 0 8)) (q 7) (va_cpy (J (r 7)) (J (q 7)) 0 0 8)) (q 8) (va_cpy (J (r 8)) (J (q 8)) 0 0 8))) _ := k
  have k := ly_revb 1 (c' := (167, [(0, .ref (q 1)), (1, .ref (r 1))], [.ref (r 1)], me_w M (nt_u1 (nt_u1 (nt_u1 (nt_u1 (nt_u1 (nt_u1 (nt_u1 (nt_u (nt_u (nt_u (nt_u (nt_u J (q 1) 0 (J (r 1) 0)) (q 1) 1 (J (r 1) 1)) (q 1) 2 (J (r 1) 2)) (q 1) 3 (J (r 1) 3)) (q 1) 4 (J (r 1) 4)) (q 2) (va_cpy (J (r 2)) (J (q 2)) 0 0 24)) (q 3) (va_cpy (J (r 3)) (J (q 3)) 0 0 24)) (q 4) (va_cpy (J (r 4)) (J (q 4)) 0 0 24)) (q 5) (va_cpy (J (r 5)) (J (q 5)) 0 0 24)) (q 6) (va_cpy (J (r 6)) (J (q 6)) 0 0 8)) (q 7) (va_cpy (J (r 7)) (J (q 7)) 0 0 8)) (q 8) (va_cpy (J (r 8)) (J (q 8)) 0 0 8)))) rfl k
  have k := lz_get (a := (r 1)) (g := 812) (M := me_w M (nt_u1 (nt_u1 (nt_u1 (nt_u1 (nt_u1 (nt_u1 (nt_u1 (nt_u (nt_u (nt_u (nt_u (nt_u J (q 1) 0 (J (r 1) 0)) (q 1) 1 (J (r 1) 1)) (q 1) 2 (J (r 1) 2)) (q 1) 3 (J (r 1) 3)) (q 1) 4 (J (r 1) 4)) (q 2) (va_cpy (J (r 2)) (J (q 2)) 0 0 24)) (q 3) (va_cpy (J (r 3)) (J (q 3)) 0 0 24)) (q 4) (va_cpy (J (r 4)) (J (q 4)) 0 0 24)) (q 5) (va_cpy (J (r 5)) (J (q 5)) 0 0 24)) (q 6) (va_cpy (J (r 6)) (J (q 6)) 0 0 8)) (q 7) (va_cpy (J (r 7)) (J (q 7)) 0 0 8)) (q 8) (va_cpy (J (r 8)) (J (q 8)) 0 0 8))) (v := .ref (r 9)) rfl (nt_gfR rfl (hr.1 (1, 12, 9) (by decide))) k
  have k := ly_revb 2 (c' := (172, [(0, .ref (q 1)), (1, .ref (r 1))], [.ref (q 1), .int (Int32.ofInt 0), .ref (r 9)], me_w M (nt_u1 (nt_u1 (nt_u1 (nt_u1 (nt_u1 (nt_u1 (nt_u1 (nt_u (nt_u (nt_u (nt_u (nt_u J (q 1) 0 (J (r 1) 0)) (q 1) 1 (J (r 1) 1)) (q 1) 2 (J (r 1) 2)) (q 1) 3 (J (r 1) 3)) (q 1) 4 (J (r 1) 4)) (q 2) (va_cpy (J (r 2)) (J (q 2)) 0 0 24)) (q 3) (va_cpy (J (r 3)) (J (q 3)) 0 0 24)) (q 4) (va_cpy (J (r 4)) (J (q 4)) 0 0 24)) (q 5) (va_cpy (J (r 5)) (J (q 5)) 0 0 24)) (q 6) (va_cpy (J (r 6)) (J (q 6)) 0 0 8)) (q 7) (va_cpy (J (r 7)) (J (q 7)) 0 0 8)) (q 8) (va_cpy (J (r 8)) (J (q 8)) 0 0 8)))) rfl k
  have k := lz_get (a := (q 1)) (g := 812) (M := me_w M (nt_u1 (nt_u1 (nt_u1 (nt_u1 (nt_u1 (nt_u1 (nt_u1 (nt_u (nt_u (nt_u (nt_u (nt_u J (q 1) 0 (J (r 1) 0)) (q 1) 1 (J (r 1) 1)) (q 1) 2 (J (r 1) 2)) (q 1) 3 (J (r 1) 3)) (q 1) 4 (J (r 1) 4)) (q 2) (va_cpy (J (r 2)) (J (q 2)) 0 0 24)) (q 3) (va_cpy (J (r 3)) (J (q 3)) 0 0 24)) (q 4) (va_cpy (J (r 4)) (J (q 4)) 0 0 24)) (q 5) (va_cpy (J (r 5)) (J (q 5)) 0 0 24)) (q 6) (va_cpy (J (r 6)) (J (q 6)) 0 0 8)) (q 7) (va_cpy (J (r 7)) (J (q 7)) 0 0 8)) (q 8) (va_cpy (J (r 8)) (J (q 8)) 0 0 8))) (v := .ref (q 9)) rfl (nt_gfR rfl (hq.1 (1, 12, 9) (by decide))) k
  have k := ly_revb 2 (c' := (177, [(0, .ref (q 1)), (1, .ref (r 1))], [.ref (q 1), .int (Int32.ofInt 0), .ref (q 9), .int (Int32.ofInt 0), .ref (r 9)], me_w M (nt_u1 (nt_u1 (nt_u1 (nt_u1 (nt_u1 (nt_u1 (nt_u1 (nt_u (nt_u (nt_u (nt_u (nt_u J (q 1) 0 (J (r 1) 0)) (q 1) 1 (J (r 1) 1)) (q 1) 2 (J (r 1) 2)) (q 1) 3 (J (r 1) 3)) (q 1) 4 (J (r 1) 4)) (q 2) (va_cpy (J (r 2)) (J (q 2)) 0 0 24)) (q 3) (va_cpy (J (r 3)) (J (q 3)) 0 0 24)) (q 4) (va_cpy (J (r 4)) (J (q 4)) 0 0 24)) (q 5) (va_cpy (J (r 5)) (J (q 5)) 0 0 24)) (q 6) (va_cpy (J (r 6)) (J (q 6)) 0 0 8)) (q 7) (va_cpy (J (r 7)) (J (q 7)) 0 0 8)) (q 8) (va_cpy (J (r 8)) (J (q 8)) 0 0 8)))) rfl k
  have k := lz_get (a := (q 1)) (g := 812) (M := me_w M (nt_u1 (nt_u1 (nt_u1 (nt_u1 (nt_u1 (nt_u1 (nt_u1 (nt_u (nt_u (nt_u (nt_u (nt_u J (q 1) 0 (J (r 1) 0)) (q 1) 1 (J (r 1) 1)) (q 1) 2 (J (r 1) 2)) (q 1) 3 (J (r 1) 3)) (q 1) 4 (J (r 1) 4)) (q 2) (va_cpy (J (r 2)) (J (q 2)) 0 0 24)) (q 3) (va_cpy (J (r 3)) (J (q 3)) 0 0 24)) (q 4) (va_cpy (J (r 4)) (J (q 4)) 0 0 24)) (q 5) (va_cpy (J (r 5)) (J (q 5)) 0 0 24)) (q 6) (va_cpy (J (r 6)) (J (q 6)) 0 0 8)) (q 7) (va_cpy (J (r 7)) (J (q 7)) 0 0 8)) (q 8) (va_cpy (J (r 8)) (J (q 8)) 0 0 8))) (v := .ref (q 9)) rfl (nt_gfR rfl (hq.1 (1, 12, 9) (by decide))) k
  have k := lz_len rfl (hq.2.2.1 9 (by omega)) k
  rw [show nt_l (me_w M (nt_u1 (nt_u1 (nt_u1 (nt_u1 (nt_u1 (nt_u1 (nt_u1 (nt_u (nt_u (nt_u (nt_u (nt_u J (q 1) 0 (J (r 1) 0)) (q 1) 1 (J (r 1) 1)) (q 1) 2 (J (r 1) 2)) (q 1) 3 (J (r 1) 3)) (q 1) 4 (J (r 1) 4)) (q 2) (va_cpy (J (r 2)) (J (q 2)) 0 0 24)) (q 3) (va_cpy (J (r 3)) (J (q 3)) 0 0 24)) (q 4) (va_cpy (J (r 4)) (J (q 4)) 0 0 24)) (q 5) (va_cpy (J (r 5)) (J (q 5)) 0 0 24)) (q 6) (va_cpy (J (r 6)) (J (q 6)) 0 0 8)) (q 7) (va_cpy (J (r 7)) (J (q 7)) 0 0 8)) (q 8) (va_cpy (J (r 8)) (J (q 8)) 0 0 8))) (q 9) = 8 from (hl (9, 8) (by decide))] at k
  have k : nt_rn X _ 90 (181, [(0, .ref (q 1)), (1, .ref (r 1))], [.int (Int32.ofNat 8), .int (Int32.ofInt 0), .ref (q 9), .int (Int32.ofInt 0), .ref (r 9)], me_w M (nt_u1 (nt_u1 (nt_u1 (nt_u1 (nt_u1 (nt_u1 (nt_u1 (nt_u (nt_u (nt_u (nt_u (nt_u J (q 1) 0 (J (r 1) 0)) (q 1) 1 (J (r 1) 1)) (q 1) 2 (J (r 1) 2)) (q 1) 3 (J (r 1) 3)) (q 1) 4 (J (r 1) 4)) (q 2) (va_cpy (J (r 2)) (J (q 2)) 0 0 24)) (q 3) (va_cpy (J (r 3)) (J (q 3)) 0 0 24)) (q 4) (va_cpy (J (r 4)) (J (q 4)) 0 0 24)) (q 5) (va_cpy (J (r 5)) (J (q 5)) 0 0 24)) (q 6) (va_cpy (J (r 6)) (J (q 6)) 0 0 8)) (q 7) (va_cpy (J (r 7)) (J (q 7)) 0 0 8)) (q 8) (va_cpy (J (r 8)) (J (q 8)) 0 0 8))) _ := k
  have k := mx_cpy (N := 8) (fS := J (r 9)) (fD := J (q 9)) rfl ((mu_1 (Ne.symm (hd 8 9 (by omega) (by omega)))).trans ((mu_1 (Ne.symm (hd 7 9 (by omega) (by omega)))).trans ((mu_1 (Ne.symm (hd 6 9 (by omega) (by omega)))).trans ((mu_1 (Ne.symm (hd 5 9 (by omega) (by omega)))).trans ((mu_1 (Ne.symm (hd 4 9 (by omega) (by omega)))).trans ((mu_1 (Ne.symm (hd 3 9 (by omega) (by omega)))).trans ((mu_1 (Ne.symm (hd 2 9 (by omega) (by omega)))).trans ((mu_o (Ne.symm (hd 1 9 (by omega) (by omega)))).trans ((mu_o (Ne.symm (hd 1 9 (by omega) (by omega)))).trans ((mu_o (Ne.symm (hd 1 9 (by omega) (by omega)))).trans ((mu_o (Ne.symm (hd 1 9 (by omega) (by omega)))).trans (mu_o (Ne.symm (hd 1 9 (by omega) (by omega))))))))))))))) ((mu_1 (hq.2.1 9 8 (by omega) (by omega) (by decide))).trans ((mu_1 (hq.2.1 9 7 (by omega) (by omega) (by decide))).trans ((mu_1 (hq.2.1 9 6 (by omega) (by omega) (by decide))).trans ((mu_1 (hq.2.1 9 5 (by omega) (by omega) (by decide))).trans ((mu_1 (hq.2.1 9 4 (by omega) (by omega) (by decide))).trans ((mu_1 (hq.2.1 9 3 (by omega) (by omega) (by decide))).trans ((mu_1 (hq.2.1 9 2 (by omega) (by omega) (by decide))).trans ((mu_o (hq.2.1 9 1 (by omega) (by omega) (by decide))).trans ((mu_o (hq.2.1 9 1 (by omega) (by omega) (by decide))).trans ((mu_o (hq.2.1 9 1 (by omega) (by omega) (by decide))).trans ((mu_o (hq.2.1 9 1 (by omega) (by omega) (by decide))).trans (mu_o (hq.2.1 9 1 (by omega) (by omega) (by decide)))))))))))))) rfl k
  have k : nt_rn X _ 90 (184, [(0, .ref (q 1)), (1, .ref (r 1))], [], me_w M (nt_u1 (nt_u1 (nt_u1 (nt_u1 (nt_u1 (nt_u1 (nt_u1 (nt_u1 (nt_u (nt_u (nt_u (nt_u (nt_u J (q 1) 0 (J (r 1) 0)) (q 1) 1 (J (r 1) 1)) (q 1) 2 (J (r 1) 2)) (q 1) 3 (J (r 1) 3)) (q 1) 4 (J (r 1) 4)) (q 2) (va_cpy (J (r 2)) (J (q 2)) 0 0 24)) (q 3) (va_cpy (J (r 3)) (J (q 3)) 0 0 24)) (q 4) (va_cpy (J (r 4)) (J (q 4)) 0 0 24)) (q 5) (va_cpy (J (r 5)) (J (q 5)) 0 0 24)) (q 6) (va_cpy (J (r 6)) (J (q 6)) 0 0 8)) (q 7) (va_cpy (J (r 7)) (J (q 7)) 0 0 8)) (q 8) (va_cpy (J (r 8)) (J (q 8)) 0 0 8)) (q 9) (va_cpy (J (r 9)) (J (q 9)) 0 0 8))) _ := k
  have k := lz_rv rfl rfl k
  rw [k, x90]
theorem x90_frJ {q : Nat → Nat} {r : Nat → Nat} {J : Nat → Nat → Int32} {b : Nat} (n0 : b ≠ q 1) (n1 : b ≠ q 2) (n2 : b ≠ q 3) (n3 : b ≠ q 4) (n4 : b ≠ q 5) (n5 : b ≠ q 6) (n6 : b ≠ q 7) (n7 : b ≠ q 8) (n8 : b ≠ q 9) : x90 q r J b = J b := by
  unfold x90
  all_goals first | (dsimp only; exact (show (nt_u1 (nt_u1 (nt_u1 (nt_u1 (nt_u1 (nt_u1 (nt_u1 (nt_u1 (nt_u (nt_u (nt_u (nt_u (nt_u J (q 1) 0 (J (r 1) 0)) (q 1) 1 (J (r 1) 1)) (q 1) 2 (J (r 1) 2)) (q 1) 3 (J (r 1) 3)) (q 1) 4 (J (r 1) 4)) (q 2) (va_cpy (J (r 2)) (J (q 2)) 0 0 24)) (q 3) (va_cpy (J (r 3)) (J (q 3)) 0 0 24)) (q 4) (va_cpy (J (r 4)) (J (q 4)) 0 0 24)) (q 5) (va_cpy (J (r 5)) (J (q 5)) 0 0 24)) (q 6) (va_cpy (J (r 6)) (J (q 6)) 0 0 8)) (q 7) (va_cpy (J (r 7)) (J (q 7)) 0 0 8)) (q 8) (va_cpy (J (r 8)) (J (q 8)) 0 0 8)) (q 9) (va_cpy (J (r 9)) (J (q 9)) 0 0 8)) b = J b from (mu_1 n8).trans ((mu_1 n7).trans ((mu_1 n6).trans ((mu_1 n5).trans ((mu_1 n4).trans ((mu_1 n3).trans ((mu_1 n2).trans ((mu_1 n1).trans ((mu_o n0).trans ((mu_o n0).trans ((mu_o n0).trans ((mu_o n0).trans (mu_o n0)))))))))))))) | exact (show (nt_u1 (nt_u1 (nt_u1 (nt_u1 (nt_u1 (nt_u1 (nt_u1 (nt_u1 (nt_u (nt_u (nt_u (nt_u (nt_u J (q 1) 0 (J (r 1) 0)) (q 1) 1 (J (r 1) 1)) (q 1) 2 (J (r 1) 2)) (q 1) 3 (J (r 1) 3)) (q 1) 4 (J (r 1) 4)) (q 2) (va_cpy (J (r 2)) (J (q 2)) 0 0 24)) (q 3) (va_cpy (J (r 3)) (J (q 3)) 0 0 24)) (q 4) (va_cpy (J (r 4)) (J (q 4)) 0 0 24)) (q 5) (va_cpy (J (r 5)) (J (q 5)) 0 0 24)) (q 6) (va_cpy (J (r 6)) (J (q 6)) 0 0 8)) (q 7) (va_cpy (J (r 7)) (J (q 7)) 0 0 8)) (q 8) (va_cpy (J (r 8)) (J (q 8)) 0 0 8)) (q 9) (va_cpy (J (r 9)) (J (q 9)) 0 0 8)) b = J b from (mu_1 n8).trans ((mu_1 n7).trans ((mu_1 n6).trans ((mu_1 n5).trans ((mu_1 n4).trans ((mu_1 n3).trans ((mu_1 n2).trans ((mu_1 n1).trans ((mu_o n0).trans ((mu_o n0).trans ((mu_o n0).trans ((mu_o n0).trans (mu_o n0)))))))))))))
/-! $State.copy -/
def x80 (q : Nat → Nat) (r : Nat → Nat) (J : Nat → Nat → Int32) : (Nat → Nat → Int32) := (nt_u1 (nt_u1 (nt_u1 (nt_u1 (nt_u1 (nt_u1 (nt_u1 (nt_u (nt_u (nt_u (nt_u (nt_u (nt_u (x90 q r J) (q 0) 1 (J (r 0) 1)) (q 0) 2 (J (r 0) 2)) (q 0) 3 (J (r 0) 3)) (q 0) 4 (J (r 0) 4)) (q 0) 5 (J (r 0) 5)) (q 0) 6 (J (r 0) 6)) (q 10) (va_cpy (J (r 10)) (J (q 10)) 0 0 6)) (q 11) (va_cpy (J (r 11)) (J (q 11)) 0 0 6)) (q 12) (va_cpy (J (r 12)) (J (q 12)) 0 0 6)) (q 13) (va_cpy (J (r 13)) (J (q 13)) 0 0 24)) (q 14) (va_cpy (J (r 14)) (J (q 14)) 0 0 24)) (q 15) (va_cpy (J (r 15)) (J (q 15)) 0 0 24)) (q 16) (va_cpy (J (r 16)) (J (q 16)) 0 0 8))
theorem xt80 {X : nt_X} {d : Nat} {M : nt_M} {o : Option Value × nt_M} {q : Nat → Nat} {r : Nat → Nat} {J : Nat → Nat → Int32} (hq : xs_Q M q) (hr : xs_Q M r) (hd : ∀ i j, i < 17 → j < 17 → q i ≠ r j) (hl : xs_N M q) (k : nt_ev X d 80 [.ref (q 0), .ref (r 0)] (me_w M J) o) : o = (none, me_w M (x80 q r J)) := by
  have k : nt_rn X d 80 (0, [(0, .ref (q 0)), (1, .ref (r 0))], [], me_w M J) o := k
  have k := ly_revb 1 (c' := (1, [(0, .ref (q 0)), (1, .ref (r 0))], [.ref (q 0)], me_w M J)) rfl k
  have k := lz_get (a := (q 0)) (g := 600) (M := me_w M J) (v := .ref (q 1)) rfl (nt_gfR rfl (hq.1 (0, 0, 1) (by decide))) k
  have k := ly_revb 1 (c' := (5, [(0, .ref (q 0)), (1, .ref (r 0))], [.ref (r 0), .ref (q 1)], me_w M J)) rfl k
  have k := lz_get (a := (r 0)) (g := 600) (M := me_w M J) (v := .ref (r 1)) rfl (nt_gfR rfl (hr.1 (0, 0, 1) (by decide))) k
  obtain ⟨d1, o1, ed, kc, k⟩ := lz_c (g := 90) (q := 1) (vs := [.ref (q 1), .ref (r 1)]) (rest := []) rfl rfl (by decide) (Or.inr (Or.inl ⟨_, rfl, rfl⟩)) rfl k
  have e1 := xt90 hq hr hd hl kc
  subst e1
  have k : nt_rn X _ 80 (11, [(0, .ref (q 0)), (1, .ref (r 0))], [], me_w M (x90 q r J)) _ := k
  have k := ly_revb 2 (c' := (13, [(0, .ref (q 0)), (1, .ref (r 0))], [.ref (r 0), .ref (q 0)], me_w M (x90 q r J))) rfl k
  have k := lz_get (a := (r 0)) (g := 601) (M := me_w M (x90 q r J)) (v := .int (J (r 0) 1)) rfl (congrArg Value.int (congrFun (x90_frJ  (Ne.symm (hd 1 0 (by omega) (by omega))) (Ne.symm (hd 2 0 (by omega) (by omega))) (Ne.symm (hd 3 0 (by omega) (by omega))) (Ne.symm (hd 4 0 (by omega) (by omega))) (Ne.symm (hd 5 0 (by omega) (by omega))) (Ne.symm (hd 6 0 (by omega) (by omega))) (Ne.symm (hd 7 0 (by omega) (by omega))) (Ne.symm (hd 8 0 (by omega) (by omega))) (Ne.symm (hd 9 0 (by omega) (by omega)))) 1)) k
  have k := me_put rfl (by decide) k
  have k : nt_rn X _ 80 (19, [(0, .ref (q 0)), (1, .ref (r 0))], [], me_w M (nt_u (x90 q r J) (q 0) 1 (J (r 0) 1))) _ := k
  have k := ly_revb 2 (c' := (21, [(0, .ref (q 0)), (1, .ref (r 0))], [.ref (r 0), .ref (q 0)], me_w M (nt_u (x90 q r J) (q 0) 1 (J (r 0) 1)))) rfl k
  have k := lz_get (a := (r 0)) (g := 602) (M := me_w M (nt_u (x90 q r J) (q 0) 1 (J (r 0) 1))) (v := .int (J (r 0) 2)) rfl (congrArg Value.int ((mu_j (Ne.symm (hd 0 0 (by omega) (by omega)))).trans (congrFun (x90_frJ  (Ne.symm (hd 1 0 (by omega) (by omega))) (Ne.symm (hd 2 0 (by omega) (by omega))) (Ne.symm (hd 3 0 (by omega) (by omega))) (Ne.symm (hd 4 0 (by omega) (by omega))) (Ne.symm (hd 5 0 (by omega) (by omega))) (Ne.symm (hd 6 0 (by omega) (by omega))) (Ne.symm (hd 7 0 (by omega) (by omega))) (Ne.symm (hd 8 0 (by omega) (by omega))) (Ne.symm (hd 9 0 (by omega) (by omega)))) 2))) k
  have k := me_put rfl (by decide) k
  have k : nt_rn X _ 80 (27, [(0, .ref (q 0)), (1, .ref (r 0))], [], me_w M (nt_u (nt_u (x90 q r J) (q 0) 1 (J (r 0) 1)) (q 0) 2 (J (r 0) 2))) _ := k
  have k := ly_revb 2 (c' := (29, [(0, .ref (q 0)), (1, .ref (r 0))], [.ref (r 0), .ref (q 0)], me_w M (nt_u (nt_u (x90 q r J) (q 0) 1 (J (r 0) 1)) (q 0) 2 (J (r 0) 2)))) rfl k
  have k := lz_get (a := (r 0)) (g := 603) (M := me_w M (nt_u (nt_u (x90 q r J) (q 0) 1 (J (r 0) 1)) (q 0) 2 (J (r 0) 2))) (v := .int (J (r 0) 3)) rfl (congrArg Value.int ((mu_j (Ne.symm (hd 0 0 (by omega) (by omega)))).trans ((mu_j (Ne.symm (hd 0 0 (by omega) (by omega)))).trans (congrFun (x90_frJ  (Ne.symm (hd 1 0 (by omega) (by omega))) (Ne.symm (hd 2 0 (by omega) (by omega))) (Ne.symm (hd 3 0 (by omega) (by omega))) (Ne.symm (hd 4 0 (by omega) (by omega))) (Ne.symm (hd 5 0 (by omega) (by omega))) (Ne.symm (hd 6 0 (by omega) (by omega))) (Ne.symm (hd 7 0 (by omega) (by omega))) (Ne.symm (hd 8 0 (by omega) (by omega))) (Ne.symm (hd 9 0 (by omega) (by omega)))) 3)))) k
  have k := me_put rfl (by decide) k
  have k : nt_rn X _ 80 (35, [(0, .ref (q 0)), (1, .ref (r 0))], [], me_w M (nt_u (nt_u (nt_u (x90 q r J) (q 0) 1 (J (r 0) 1)) (q 0) 2 (J (r 0) 2)) (q 0) 3 (J (r 0) 3))) _ := k
  have k := ly_revb 2 (c' := (37, [(0, .ref (q 0)), (1, .ref (r 0))], [.ref (r 0), .ref (q 0)], me_w M (nt_u (nt_u (nt_u (x90 q r J) (q 0) 1 (J (r 0) 1)) (q 0) 2 (J (r 0) 2)) (q 0) 3 (J (r 0) 3)))) rfl k
  have k := lz_get (a := (r 0)) (g := 604) (M := me_w M (nt_u (nt_u (nt_u (x90 q r J) (q 0) 1 (J (r 0) 1)) (q 0) 2 (J (r 0) 2)) (q 0) 3 (J (r 0) 3))) (v := .int (J (r 0) 4)) rfl (congrArg Value.int ((mu_j (Ne.symm (hd 0 0 (by omega) (by omega)))).trans ((mu_j (Ne.symm (hd 0 0 (by omega) (by omega)))).trans ((mu_j (Ne.symm (hd 0 0 (by omega) (by omega)))).trans (congrFun (x90_frJ  (Ne.symm (hd 1 0 (by omega) (by omega))) (Ne.symm (hd 2 0 (by omega) (by omega))) (Ne.symm (hd 3 0 (by omega) (by omega))) (Ne.symm (hd 4 0 (by omega) (by omega))) (Ne.symm (hd 5 0 (by omega) (by omega))) (Ne.symm (hd 6 0 (by omega) (by omega))) (Ne.symm (hd 7 0 (by omega) (by omega))) (Ne.symm (hd 8 0 (by omega) (by omega))) (Ne.symm (hd 9 0 (by omega) (by omega)))) 4))))) k
  have k := me_put rfl (by decide) k
  have k : nt_rn X _ 80 (43, [(0, .ref (q 0)), (1, .ref (r 0))], [], me_w M (nt_u (nt_u (nt_u (nt_u (x90 q r J) (q 0) 1 (J (r 0) 1)) (q 0) 2 (J (r 0) 2)) (q 0) 3 (J (r 0) 3)) (q 0) 4 (J (r 0) 4))) _ := k
  have k := ly_revb 2 (c' := (45, [(0, .ref (q 0)), (1, .ref (r 0))], [.ref (r 0), .ref (q 0)], me_w M (nt_u (nt_u (nt_u (nt_u (x90 q r J) (q 0) 1 (J (r 0) 1)) (q 0) 2 (J (r 0) 2)) (q 0) 3 (J (r 0) 3)) (q 0) 4 (J (r 0) 4)))) rfl k
  have k := lz_get (a := (r 0)) (g := 605) (M := me_w M (nt_u (nt_u (nt_u (nt_u (x90 q r J) (q 0) 1 (J (r 0) 1)) (q 0) 2 (J (r 0) 2)) (q 0) 3 (J (r 0) 3)) (q 0) 4 (J (r 0) 4))) (v := .int (J (r 0) 5)) rfl (congrArg Value.int ((mu_j (Ne.symm (hd 0 0 (by omega) (by omega)))).trans ((mu_j (Ne.symm (hd 0 0 (by omega) (by omega)))).trans ((mu_j (Ne.symm (hd 0 0 (by omega) (by omega)))).trans ((mu_j (Ne.symm (hd 0 0 (by omega) (by omega)))).trans (congrFun (x90_frJ  (Ne.symm (hd 1 0 (by omega) (by omega))) (Ne.symm (hd 2 0 (by omega) (by omega))) (Ne.symm (hd 3 0 (by omega) (by omega))) (Ne.symm (hd 4 0 (by omega) (by omega))) (Ne.symm (hd 5 0 (by omega) (by omega))) (Ne.symm (hd 6 0 (by omega) (by omega))) (Ne.symm (hd 7 0 (by omega) (by omega))) (Ne.symm (hd 8 0 (by omega) (by omega))) (Ne.symm (hd 9 0 (by omega) (by omega)))) 5)))))) k
  have k := me_put rfl (by decide) k
  have k : nt_rn X _ 80 (51, [(0, .ref (q 0)), (1, .ref (r 0))], [], me_w M (nt_u (nt_u (nt_u (nt_u (nt_u (x90 q r J) (q 0) 1 (J (r 0) 1)) (q 0) 2 (J (r 0) 2)) (q 0) 3 (J (r 0) 3)) (q 0) 4 (J (r 0) 4)) (q 0) 5 (J (r 0) 5))) _ := k
  have k := ly_revb 2 (c' := (53, [(0, .ref (q 0)), (1, .ref (r 0))], [.ref (r 0), .ref (q 0)], me_w M (nt_u (nt_u (nt_u (nt_u (nt_u (x90 q r J) (q 0) 1 (J (r 0) 1)) (q 0) 2 (J (r 0) 2)) (q 0) 3 (J (r 0) 3)) (q 0) 4 (J (r 0) 4)) (q 0) 5 (J (r 0) 5)))) rfl k
  have k := lz_get (a := (r 0)) (g := 606) (M := me_w M (nt_u (nt_u (nt_u (nt_u (nt_u (x90 q r J) (q 0) 1 (J (r 0) 1)) (q 0) 2 (J (r 0) 2)) (q 0) 3 (J (r 0) 3)) (q 0) 4 (J (r 0) 4)) (q 0) 5 (J (r 0) 5))) (v := .int (J (r 0) 6)) rfl (congrArg Value.int ((mu_j (Ne.symm (hd 0 0 (by omega) (by omega)))).trans ((mu_j (Ne.symm (hd 0 0 (by omega) (by omega)))).trans ((mu_j (Ne.symm (hd 0 0 (by omega) (by omega)))).trans ((mu_j (Ne.symm (hd 0 0 (by omega) (by omega)))).trans ((mu_j (Ne.symm (hd 0 0 (by omega) (by omega)))).trans (congrFun (x90_frJ  (Ne.symm (hd 1 0 (by omega) (by omega))) (Ne.symm (hd 2 0 (by omega) (by omega))) (Ne.symm (hd 3 0 (by omega) (by omega))) (Ne.symm (hd 4 0 (by omega) (by omega))) (Ne.symm (hd 5 0 (by omega) (by omega))) (Ne.symm (hd 6 0 (by omega) (by omega))) (Ne.symm (hd 7 0 (by omega) (by omega))) (Ne.symm (hd 8 0 (by omega) (by omega))) (Ne.symm (hd 9 0 (by omega) (by omega)))) 6))))))) k
  have k := me_put rfl (by decide) k
  have k : nt_rn X _ 80 (59, [(0, .ref (q 0)), (1, .ref (r 0))], [], me_w M (nt_u (nt_u (nt_u (nt_u (nt_u (nt_u (x90 q r J) (q 0) 1 (J (r 0) 1)) (q 0) 2 (J (r 0) 2)) (q 0) 3 (J (r 0) 3)) (q 0) 4 (J (r 0) 4)) (q 0) 5 (J (r 0) 5)) (q 0) 6 (J (r 0) 6))) _ := k
  have k := ly_revb 1 (c' := (60, [(0, .ref (q 0)), (1, .ref (r 0))], [.ref (r 0)], me_w M (nt_u (nt_u (nt_u (nt_u (nt_u (nt_u (x90 q r J) (q 0) 1 (J (r 0) 1)) (q 0) 2 (J (r 0) 2)) (q 0) 3 (J (r 0) 3)) (q 0) 4 (J (r 0) 4)) (q 0) 5 (J (r 0) 5)) (q 0) 6 (J (r 0) 6)))) rfl k
  have k := lz_get (a := (r 0)) (g := 607) (M := me_w M (nt_u (nt_u (nt_u (nt_u (nt_u (nt_u (x90 q r J) (q 0) 1 (J (r 0) 1)) (q 0) 2 (J (r 0) 2)) (q 0) 3 (J (r 0) 3)) (q 0) 4 (J (r 0) 4)) (q 0) 5 (J (r 0) 5)) (q 0) 6 (J (r 0) 6))) (v := .ref (r 10)) rfl (nt_gfR rfl (hr.1 (0, 7, 10) (by decide))) k
  have k := ly_revb 2 (c' := (65, [(0, .ref (q 0)), (1, .ref (r 0))], [.ref (q 0), .int (Int32.ofInt 0), .ref (r 10)], me_w M (nt_u (nt_u (nt_u (nt_u (nt_u (nt_u (x90 q r J) (q 0) 1 (J (r 0) 1)) (q 0) 2 (J (r 0) 2)) (q 0) 3 (J (r 0) 3)) (q 0) 4 (J (r 0) 4)) (q 0) 5 (J (r 0) 5)) (q 0) 6 (J (r 0) 6)))) rfl k
  have k := lz_get (a := (q 0)) (g := 607) (M := me_w M (nt_u (nt_u (nt_u (nt_u (nt_u (nt_u (x90 q r J) (q 0) 1 (J (r 0) 1)) (q 0) 2 (J (r 0) 2)) (q 0) 3 (J (r 0) 3)) (q 0) 4 (J (r 0) 4)) (q 0) 5 (J (r 0) 5)) (q 0) 6 (J (r 0) 6))) (v := .ref (q 10)) rfl (nt_gfR rfl (hq.1 (0, 7, 10) (by decide))) k
  have k := ly_revb 2 (c' := (70, [(0, .ref (q 0)), (1, .ref (r 0))], [.ref (q 0), .int (Int32.ofInt 0), .ref (q 10), .int (Int32.ofInt 0), .ref (r 10)], me_w M (nt_u (nt_u (nt_u (nt_u (nt_u (nt_u (x90 q r J) (q 0) 1 (J (r 0) 1)) (q 0) 2 (J (r 0) 2)) (q 0) 3 (J (r 0) 3)) (q 0) 4 (J (r 0) 4)) (q 0) 5 (J (r 0) 5)) (q 0) 6 (J (r 0) 6)))) rfl k
  have k := lz_get (a := (q 0)) (g := 607) (M := me_w M (nt_u (nt_u (nt_u (nt_u (nt_u (nt_u (x90 q r J) (q 0) 1 (J (r 0) 1)) (q 0) 2 (J (r 0) 2)) (q 0) 3 (J (r 0) 3)) (q 0) 4 (J (r 0) 4)) (q 0) 5 (J (r 0) 5)) (q 0) 6 (J (r 0) 6))) (v := .ref (q 10)) rfl (nt_gfR rfl (hq.1 (0, 7, 10) (by decide))) k
  have k := lz_len rfl (hq.2.2.1 10 (by omega)) k
  rw [show nt_l (me_w M (nt_u (nt_u (nt_u (nt_u (nt_u (nt_u (x90 q r J) (q 0) 1 (J (r 0) 1)) (q 0) 2 (J (r 0) 2)) (q 0) 3 (J (r 0) 3)) (q 0) 4 (J (r 0) 4)) (q 0) 5 (J (r 0) 5)) (q 0) 6 (J (r 0) 6))) (q 10) = 6 from (hl (10, 6) (by decide))] at k
  have k : nt_rn X _ 80 (74, [(0, .ref (q 0)), (1, .ref (r 0))], [.int (Int32.ofNat 6), .int (Int32.ofInt 0), .ref (q 10), .int (Int32.ofInt 0), .ref (r 10)], me_w M (nt_u (nt_u (nt_u (nt_u (nt_u (nt_u (x90 q r J) (q 0) 1 (J (r 0) 1)) (q 0) 2 (J (r 0) 2)) (q 0) 3 (J (r 0) 3)) (q 0) 4 (J (r 0) 4)) (q 0) 5 (J (r 0) 5)) (q 0) 6 (J (r 0) 6))) _ := k
  have k := mx_cpy (N := 6) (fS := J (r 10)) (fD := J (q 10)) rfl ((mu_o (Ne.symm (hd 0 10 (by omega) (by omega)))).trans ((mu_o (Ne.symm (hd 0 10 (by omega) (by omega)))).trans ((mu_o (Ne.symm (hd 0 10 (by omega) (by omega)))).trans ((mu_o (Ne.symm (hd 0 10 (by omega) (by omega)))).trans ((mu_o (Ne.symm (hd 0 10 (by omega) (by omega)))).trans ((mu_o (Ne.symm (hd 0 10 (by omega) (by omega)))).trans (x90_frJ  (Ne.symm (hd 1 10 (by omega) (by omega))) (Ne.symm (hd 2 10 (by omega) (by omega))) (Ne.symm (hd 3 10 (by omega) (by omega))) (Ne.symm (hd 4 10 (by omega) (by omega))) (Ne.symm (hd 5 10 (by omega) (by omega))) (Ne.symm (hd 6 10 (by omega) (by omega))) (Ne.symm (hd 7 10 (by omega) (by omega))) (Ne.symm (hd 8 10 (by omega) (by omega))) (Ne.symm (hd 9 10 (by omega) (by omega)))))))))) ((mu_o (hq.2.1 10 0 (by omega) (by omega) (by decide))).trans ((mu_o (hq.2.1 10 0 (by omega) (by omega) (by decide))).trans ((mu_o (hq.2.1 10 0 (by omega) (by omega) (by decide))).trans ((mu_o (hq.2.1 10 0 (by omega) (by omega) (by decide))).trans ((mu_o (hq.2.1 10 0 (by omega) (by omega) (by decide))).trans ((mu_o (hq.2.1 10 0 (by omega) (by omega) (by decide))).trans (x90_frJ  (hq.2.1 10 1 (by omega) (by omega) (by decide)) (hq.2.1 10 2 (by omega) (by omega) (by decide)) (hq.2.1 10 3 (by omega) (by omega) (by decide)) (hq.2.1 10 4 (by omega) (by omega) (by decide)) (hq.2.1 10 5 (by omega) (by omega) (by decide)) (hq.2.1 10 6 (by omega) (by omega) (by decide)) (hq.2.1 10 7 (by omega) (by omega) (by decide)) (hq.2.1 10 8 (by omega) (by omega) (by decide)) (hq.2.1 10 9 (by omega) (by omega) (by decide))))))))) rfl k
  have k : nt_rn X _ 80 (77, [(0, .ref (q 0)), (1, .ref (r 0))], [], me_w M (nt_u1 (nt_u (nt_u (nt_u (nt_u (nt_u (nt_u (x90 q r J) (q 0) 1 (J (r 0) 1)) (q 0) 2 (J (r 0) 2)) (q 0) 3 (J (r 0) 3)) (q 0) 4 (J (r 0) 4)) (q 0) 5 (J (r 0) 5)) (q 0) 6 (J (r 0) 6)) (q 10) (va_cpy (J (r 10)) (J (q 10)) 0 0 6))) _ := k
  have k := ly_revb 1 (c' := (78, [(0, .ref (q 0)), (1, .ref (r 0))], [.ref (r 0)], me_w M (nt_u1 (nt_u (nt_u (nt_u (nt_u (nt_u (nt_u (x90 q r J) (q 0) 1 (J (r 0) 1)) (q 0) 2 (J (r 0) 2)) (q 0) 3 (J (r 0) 3)) (q 0) 4 (J (r 0) 4)) (q 0) 5 (J (r 0) 5)) (q 0) 6 (J (r 0) 6)) (q 10) (va_cpy (J (r 10)) (J (q 10)) 0 0 6)))) rfl k
  have k := lz_get (a := (r 0)) (g := 608) (M := me_w M (nt_u1 (nt_u (nt_u (nt_u (nt_u (nt_u (nt_u (x90 q r J) (q 0) 1 (J (r 0) 1)) (q 0) 2 (J (r 0) 2)) (q 0) 3 (J (r 0) 3)) (q 0) 4 (J (r 0) 4)) (q 0) 5 (J (r 0) 5)) (q 0) 6 (J (r 0) 6)) (q 10) (va_cpy (J (r 10)) (J (q 10)) 0 0 6))) (v := .ref (r 11)) rfl (nt_gfR rfl (hr.1 (0, 8, 11) (by decide))) k
  have k := ly_revb 2 (c' := (83, [(0, .ref (q 0)), (1, .ref (r 0))], [.ref (q 0), .int (Int32.ofInt 0), .ref (r 11)], me_w M (nt_u1 (nt_u (nt_u (nt_u (nt_u (nt_u (nt_u (x90 q r J) (q 0) 1 (J (r 0) 1)) (q 0) 2 (J (r 0) 2)) (q 0) 3 (J (r 0) 3)) (q 0) 4 (J (r 0) 4)) (q 0) 5 (J (r 0) 5)) (q 0) 6 (J (r 0) 6)) (q 10) (va_cpy (J (r 10)) (J (q 10)) 0 0 6)))) rfl k
  have k := lz_get (a := (q 0)) (g := 608) (M := me_w M (nt_u1 (nt_u (nt_u (nt_u (nt_u (nt_u (nt_u (x90 q r J) (q 0) 1 (J (r 0) 1)) (q 0) 2 (J (r 0) 2)) (q 0) 3 (J (r 0) 3)) (q 0) 4 (J (r 0) 4)) (q 0) 5 (J (r 0) 5)) (q 0) 6 (J (r 0) 6)) (q 10) (va_cpy (J (r 10)) (J (q 10)) 0 0 6))) (v := .ref (q 11)) rfl (nt_gfR rfl (hq.1 (0, 8, 11) (by decide))) k
  have k := ly_revb 2 (c' := (88, [(0, .ref (q 0)), (1, .ref (r 0))], [.ref (q 0), .int (Int32.ofInt 0), .ref (q 11), .int (Int32.ofInt 0), .ref (r 11)], me_w M (nt_u1 (nt_u (nt_u (nt_u (nt_u (nt_u (nt_u (x90 q r J) (q 0) 1 (J (r 0) 1)) (q 0) 2 (J (r 0) 2)) (q 0) 3 (J (r 0) 3)) (q 0) 4 (J (r 0) 4)) (q 0) 5 (J (r 0) 5)) (q 0) 6 (J (r 0) 6)) (q 10) (va_cpy (J (r 10)) (J (q 10)) 0 0 6)))) rfl k
  have k := lz_get (a := (q 0)) (g := 608) (M := me_w M (nt_u1 (nt_u (nt_u (nt_u (nt_u (nt_u (nt_u (x90 q r J) (q 0) 1 (J (r 0) 1)) (q 0) 2 (J (r 0) 2)) (q 0) 3 (J (r 0) 3)) (q 0) 4 (J (r 0) 4)) (q 0) 5 (J (r 0) 5)) (q 0) 6 (J (r 0) 6)) (q 10) (va_cpy (J (r 10)) (J (q 10)) 0 0 6))) (v := .ref (q 11)) rfl (nt_gfR rfl (hq.1 (0, 8, 11) (by decide))) k
  have k := lz_len rfl (hq.2.2.1 11 (by omega)) k
  rw [show nt_l (me_w M (nt_u1 (nt_u (nt_u (nt_u (nt_u (nt_u (nt_u (x90 q r J) (q 0) 1 (J (r 0) 1)) (q 0) 2 (J (r 0) 2)) (q 0) 3 (J (r 0) 3)) (q 0) 4 (J (r 0) 4)) (q 0) 5 (J (r 0) 5)) (q 0) 6 (J (r 0) 6)) (q 10) (va_cpy (J (r 10)) (J (q 10)) 0 0 6))) (q 11) = 6 from (hl (11, 6) (by decide))] at k
  have k : nt_rn X _ 80 (92, [(0, .ref (q 0)), (1, .ref (r 0))], [.int (Int32.ofNat 6), .int (Int32.ofInt 0), .ref (q 11), .int (Int32.ofInt 0), .ref (r 11)], me_w M (nt_u1 (nt_u (nt_u (nt_u (nt_u (nt_u (nt_u (x90 q r J) (q 0) 1 (J (r 0) 1)) (q 0) 2 (J (r 0) 2)) (q 0) 3 (J (r 0) 3)) (q 0) 4 (J (r 0) 4)) (q 0) 5 (J (r 0) 5)) (q 0) 6 (J (r 0) 6)) (q 10) (va_cpy (J (r 10)) (J (q 10)) 0 0 6))) _ := k
  have k := mx_cpy (N := 6) (fS := J (r 11)) (fD := J (q 11)) rfl ((mu_1 (Ne.symm (hd 10 11 (by omega) (by omega)))).trans ((mu_o (Ne.symm (hd 0 11 (by omega) (by omega)))).trans ((mu_o (Ne.symm (hd 0 11 (by omega) (by omega)))).trans ((mu_o (Ne.symm (hd 0 11 (by omega) (by omega)))).trans ((mu_o (Ne.symm (hd 0 11 (by omega) (by omega)))).trans ((mu_o (Ne.symm (hd 0 11 (by omega) (by omega)))).trans ((mu_o (Ne.symm (hd 0 11 (by omega) (by omega)))).trans (x90_frJ  (Ne.symm (hd 1 11 (by omega) (by omega))) (Ne.symm (hd 2 11 (by omega) (by omega))) (Ne.symm (hd 3 11 (by omega) (by omega))) (Ne.symm (hd 4 11 (by omega) (by omega))) (Ne.symm (hd 5 11 (by omega) (by omega))) (Ne.symm (hd 6 11 (by omega) (by omega))) (Ne.symm (hd 7 11 (by omega) (by omega))) (Ne.symm (hd 8 11 (by omega) (by omega))) (Ne.symm (hd 9 11 (by omega) (by omega))))))))))) ((mu_1 (hq.2.1 11 10 (by omega) (by omega) (by decide))).trans ((mu_o (hq.2.1 11 0 (by omega) (by omega) (by decide))).trans ((mu_o (hq.2.1 11 0 (by omega) (by omega) (by decide))).trans ((mu_o (hq.2.1 11 0 (by omega) (by omega) (by decide))).trans ((mu_o (hq.2.1 11 0 (by omega) (by omega) (by decide))).trans ((mu_o (hq.2.1 11 0 (by omega) (by omega) (by decide))).trans ((mu_o (hq.2.1 11 0 (by omega) (by omega) (by decide))).trans (x90_frJ  (hq.2.1 11 1 (by omega) (by omega) (by decide)) (hq.2.1 11 2 (by omega) (by omega) (by decide)) (hq.2.1 11 3 (by omega) (by omega) (by decide)) (hq.2.1 11 4 (by omega) (by omega) (by decide)) (hq.2.1 11 5 (by omega) (by omega) (by decide)) (hq.2.1 11 6 (by omega) (by omega) (by decide)) (hq.2.1 11 7 (by omega) (by omega) (by decide)) (hq.2.1 11 8 (by omega) (by omega) (by decide)) (hq.2.1 11 9 (by omega) (by omega) (by decide)))))))))) rfl k
  have k : nt_rn X _ 80 (95, [(0, .ref (q 0)), (1, .ref (r 0))], [], me_w M (nt_u1 (nt_u1 (nt_u (nt_u (nt_u (nt_u (nt_u (nt_u (x90 q r J) (q 0) 1 (J (r 0) 1)) (q 0) 2 (J (r 0) 2)) (q 0) 3 (J (r 0) 3)) (q 0) 4 (J (r 0) 4)) (q 0) 5 (J (r 0) 5)) (q 0) 6 (J (r 0) 6)) (q 10) (va_cpy (J (r 10)) (J (q 10)) 0 0 6)) (q 11) (va_cpy (J (r 11)) (J (q 11)) 0 0 6))) _ := k
  have k := ly_revb 1 (c' := (96, [(0, .ref (q 0)), (1, .ref (r 0))], [.ref (r 0)], me_w M (nt_u1 (nt_u1 (nt_u (nt_u (nt_u (nt_u (nt_u (nt_u (x90 q r J) (q 0) 1 (J (r 0) 1)) (q 0) 2 (J (r 0) 2)) (q 0) 3 (J (r 0) 3)) (q 0) 4 (J (r 0) 4)) (q 0) 5 (J (r 0) 5)) (q 0) 6 (J (r 0) 6)) (q 10) (va_cpy (J (r 10)) (J (q 10)) 0 0 6)) (q 11) (va_cpy (J (r 11)) (J (q 11)) 0 0 6)))) rfl k
  have k := lz_get (a := (r 0)) (g := 609) (M := me_w M (nt_u1 (nt_u1 (nt_u (nt_u (nt_u (nt_u (nt_u (nt_u (x90 q r J) (q 0) 1 (J (r 0) 1)) (q 0) 2 (J (r 0) 2)) (q 0) 3 (J (r 0) 3)) (q 0) 4 (J (r 0) 4)) (q 0) 5 (J (r 0) 5)) (q 0) 6 (J (r 0) 6)) (q 10) (va_cpy (J (r 10)) (J (q 10)) 0 0 6)) (q 11) (va_cpy (J (r 11)) (J (q 11)) 0 0 6))) (v := .ref (r 12)) rfl (nt_gfR rfl (hr.1 (0, 9, 12) (by decide))) k
  have k := ly_revb 2 (c' := (101, [(0, .ref (q 0)), (1, .ref (r 0))], [.ref (q 0), .int (Int32.ofInt 0), .ref (r 12)], me_w M (nt_u1 (nt_u1 (nt_u (nt_u (nt_u (nt_u (nt_u (nt_u (x90 q r J) (q 0) 1 (J (r 0) 1)) (q 0) 2 (J (r 0) 2)) (q 0) 3 (J (r 0) 3)) (q 0) 4 (J (r 0) 4)) (q 0) 5 (J (r 0) 5)) (q 0) 6 (J (r 0) 6)) (q 10) (va_cpy (J (r 10)) (J (q 10)) 0 0 6)) (q 11) (va_cpy (J (r 11)) (J (q 11)) 0 0 6)))) rfl k
  have k := lz_get (a := (q 0)) (g := 609) (M := me_w M (nt_u1 (nt_u1 (nt_u (nt_u (nt_u (nt_u (nt_u (nt_u (x90 q r J) (q 0) 1 (J (r 0) 1)) (q 0) 2 (J (r 0) 2)) (q 0) 3 (J (r 0) 3)) (q 0) 4 (J (r 0) 4)) (q 0) 5 (J (r 0) 5)) (q 0) 6 (J (r 0) 6)) (q 10) (va_cpy (J (r 10)) (J (q 10)) 0 0 6)) (q 11) (va_cpy (J (r 11)) (J (q 11)) 0 0 6))) (v := .ref (q 12)) rfl (nt_gfR rfl (hq.1 (0, 9, 12) (by decide))) k
  have k := ly_revb 2 (c' := (106, [(0, .ref (q 0)), (1, .ref (r 0))], [.ref (q 0), .int (Int32.ofInt 0), .ref (q 12), .int (Int32.ofInt 0), .ref (r 12)], me_w M (nt_u1 (nt_u1 (nt_u (nt_u (nt_u (nt_u (nt_u (nt_u (x90 q r J) (q 0) 1 (J (r 0) 1)) (q 0) 2 (J (r 0) 2)) (q 0) 3 (J (r 0) 3)) (q 0) 4 (J (r 0) 4)) (q 0) 5 (J (r 0) 5)) (q 0) 6 (J (r 0) 6)) (q 10) (va_cpy (J (r 10)) (J (q 10)) 0 0 6)) (q 11) (va_cpy (J (r 11)) (J (q 11)) 0 0 6)))) rfl k
  have k := lz_get (a := (q 0)) (g := 609) (M := me_w M (nt_u1 (nt_u1 (nt_u (nt_u (nt_u (nt_u (nt_u (nt_u (x90 q r J) (q 0) 1 (J (r 0) 1)) (q 0) 2 (J (r 0) 2)) (q 0) 3 (J (r 0) 3)) (q 0) 4 (J (r 0) 4)) (q 0) 5 (J (r 0) 5)) (q 0) 6 (J (r 0) 6)) (q 10) (va_cpy (J (r 10)) (J (q 10)) 0 0 6)) (q 11) (va_cpy (J (r 11)) (J (q 11)) 0 0 6))) (v := .ref (q 12)) rfl (nt_gfR rfl (hq.1 (0, 9, 12) (by decide))) k
  have k := lz_len rfl (hq.2.2.1 12 (by omega)) k
  rw [show nt_l (me_w M (nt_u1 (nt_u1 (nt_u (nt_u (nt_u (nt_u (nt_u (nt_u (x90 q r J) (q 0) 1 (J (r 0) 1)) (q 0) 2 (J (r 0) 2)) (q 0) 3 (J (r 0) 3)) (q 0) 4 (J (r 0) 4)) (q 0) 5 (J (r 0) 5)) (q 0) 6 (J (r 0) 6)) (q 10) (va_cpy (J (r 10)) (J (q 10)) 0 0 6)) (q 11) (va_cpy (J (r 11)) (J (q 11)) 0 0 6))) (q 12) = 6 from (hl (12, 6) (by decide))] at k
  have k : nt_rn X _ 80 (110, [(0, .ref (q 0)), (1, .ref (r 0))], [.int (Int32.ofNat 6), .int (Int32.ofInt 0), .ref (q 12), .int (Int32.ofInt 0), .ref (r 12)], me_w M (nt_u1 (nt_u1 (nt_u (nt_u (nt_u (nt_u (nt_u (nt_u (x90 q r J) (q 0) 1 (J (r 0) 1)) (q 0) 2 (J (r 0) 2)) (q 0) 3 (J (r 0) 3)) (q 0) 4 (J (r 0) 4)) (q 0) 5 (J (r 0) 5)) (q 0) 6 (J (r 0) 6)) (q 10) (va_cpy (J (r 10)) (J (q 10)) 0 0 6)) (q 11) (va_cpy (J (r 11)) (J (q 11)) 0 0 6))) _ := k
  have k := mx_cpy (N := 6) (fS := J (r 12)) (fD := J (q 12)) rfl ((mu_1 (Ne.symm (hd 11 12 (by omega) (by omega)))).trans ((mu_1 (Ne.symm (hd 10 12 (by omega) (by omega)))).trans ((mu_o (Ne.symm (hd 0 12 (by omega) (by omega)))).trans ((mu_o (Ne.symm (hd 0 12 (by omega) (by omega)))).trans ((mu_o (Ne.symm (hd 0 12 (by omega) (by omega)))).trans ((mu_o (Ne.symm (hd 0 12 (by omega) (by omega)))).trans ((mu_o (Ne.symm (hd 0 12 (by omega) (by omega)))).trans ((mu_o (Ne.symm (hd 0 12 (by omega) (by omega)))).trans (x90_frJ  (Ne.symm (hd 1 12 (by omega) (by omega))) (Ne.symm (hd 2 12 (by omega) (by omega))) (Ne.symm (hd 3 12 (by omega) (by omega))) (Ne.symm (hd 4 12 (by omega) (by omega))) (Ne.symm (hd 5 12 (by omega) (by omega))) (Ne.symm (hd 6 12 (by omega) (by omega))) (Ne.symm (hd 7 12 (by omega) (by omega))) (Ne.symm (hd 8 12 (by omega) (by omega))) (Ne.symm (hd 9 12 (by omega) (by omega)))))))))))) ((mu_1 (hq.2.1 12 11 (by omega) (by omega) (by decide))).trans ((mu_1 (hq.2.1 12 10 (by omega) (by omega) (by decide))).trans ((mu_o (hq.2.1 12 0 (by omega) (by omega) (by decide))).trans ((mu_o (hq.2.1 12 0 (by omega) (by omega) (by decide))).trans ((mu_o (hq.2.1 12 0 (by omega) (by omega) (by decide))).trans ((mu_o (hq.2.1 12 0 (by omega) (by omega) (by decide))).trans ((mu_o (hq.2.1 12 0 (by omega) (by omega) (by decide))).trans ((mu_o (hq.2.1 12 0 (by omega) (by omega) (by decide))).trans (x90_frJ  (hq.2.1 12 1 (by omega) (by omega) (by decide)) (hq.2.1 12 2 (by omega) (by omega) (by decide)) (hq.2.1 12 3 (by omega) (by omega) (by decide)) (hq.2.1 12 4 (by omega) (by omega) (by decide)) (hq.2.1 12 5 (by omega) (by omega) (by decide)) (hq.2.1 12 6 (by omega) (by omega) (by decide)) (hq.2.1 12 7 (by omega) (by omega) (by decide)) (hq.2.1 12 8 (by omega) (by omega) (by decide)) (hq.2.1 12 9 (by omega) (by omega) (by decide))))))))))) rfl k
  have k : nt_rn X _ 80 (113, [(0, .ref (q 0)), (1, .ref (r 0))], [], me_w M (nt_u1 (nt_u1 (nt_u1 (nt_u (nt_u (nt_u (nt_u (nt_u (nt_u (x90 q r J) (q 0) 1 (J (r 0) 1)) (q 0) 2 (J (r 0) 2)) (q 0) 3 (J (r 0) 3)) (q 0) 4 (J (r 0) 4)) (q 0) 5 (J (r 0) 5)) (q 0) 6 (J (r 0) 6)) (q 10) (va_cpy (J (r 10)) (J (q 10)) 0 0 6)) (q 11) (va_cpy (J (r 11)) (J (q 11)) 0 0 6)) (q 12) (va_cpy (J (r 12)) (J (q 12)) 0 0 6))) _ := k
  have k := ly_revb 1 (c' := (114, [(0, .ref (q 0)), (1, .ref (r 0))], [.ref (r 0)], me_w M (nt_u1 (nt_u1 (nt_u1 (nt_u (nt_u (nt_u (nt_u (nt_u (nt_u (x90 q r J) (q 0) 1 (J (r 0) 1)) (q 0) 2 (J (r 0) 2)) (q 0) 3 (J (r 0) 3)) (q 0) 4 (J (r 0) 4)) (q 0) 5 (J (r 0) 5)) (q 0) 6 (J (r 0) 6)) (q 10) (va_cpy (J (r 10)) (J (q 10)) 0 0 6)) (q 11) (va_cpy (J (r 11)) (J (q 11)) 0 0 6)) (q 12) (va_cpy (J (r 12)) (J (q 12)) 0 0 6)))) rfl k
  have k := lz_get (a := (r 0)) (g := 610) (M := me_w M (nt_u1 (nt_u1 (nt_u1 (nt_u (nt_u (nt_u (nt_u (nt_u (nt_u (x90 q r J) (q 0) 1 (J (r 0) 1)) (q 0) 2 (J (r 0) 2)) (q 0) 3 (J (r 0) 3)) (q 0) 4 (J (r 0) 4)) (q 0) 5 (J (r 0) 5)) (q 0) 6 (J (r 0) 6)) (q 10) (va_cpy (J (r 10)) (J (q 10)) 0 0 6)) (q 11) (va_cpy (J (r 11)) (J (q 11)) 0 0 6)) (q 12) (va_cpy (J (r 12)) (J (q 12)) 0 0 6))) (v := .ref (r 13)) rfl (nt_gfR rfl (hr.1 (0, 10, 13) (by decide))) k
  have k := ly_revb 2 (c' := (119, [(0, .ref (q 0)), (1, .ref (r 0))], [.ref (q 0), .int (Int32.ofInt 0), .ref (r 13)], me_w M (nt_u1 (nt_u1 (nt_u1 (nt_u (nt_u (nt_u (nt_u (nt_u (nt_u (x90 q r J) (q 0) 1 (J (r 0) 1)) (q 0) 2 (J (r 0) 2)) (q 0) 3 (J (r 0) 3)) (q 0) 4 (J (r 0) 4)) (q 0) 5 (J (r 0) 5)) (q 0) 6 (J (r 0) 6)) (q 10) (va_cpy (J (r 10)) (J (q 10)) 0 0 6)) (q 11) (va_cpy (J (r 11)) (J (q 11)) 0 0 6)) (q 12) (va_cpy (J (r 12)) (J (q 12)) 0 0 6)))) rfl k
  have k := lz_get (a := (q 0)) (g := 610) (M := me_w M (nt_u1 (nt_u1 (nt_u1 (nt_u (nt_u (nt_u (nt_u (nt_u (nt_u (x90 q r J) (q 0) 1 (J (r 0) 1)) (q 0) 2 (J (r 0) 2)) (q 0) 3 (J (r 0) 3)) (q 0) 4 (J (r 0) 4)) (q 0) 5 (J (r 0) 5)) (q 0) 6 (J (r 0) 6)) (q 10) (va_cpy (J (r 10)) (J (q 10)) 0 0 6)) (q 11) (va_cpy (J (r 11)) (J (q 11)) 0 0 6)) (q 12) (va_cpy (J (r 12)) (J (q 12)) 0 0 6))) (v := .ref (q 13)) rfl (nt_gfR rfl (hq.1 (0, 10, 13) (by decide))) k
  have k := ly_revb 2 (c' := (124, [(0, .ref (q 0)), (1, .ref (r 0))], [.ref (q 0), .int (Int32.ofInt 0), .ref (q 13), .int (Int32.ofInt 0), .ref (r 13)], me_w M (nt_u1 (nt_u1 (nt_u1 (nt_u (nt_u (nt_u (nt_u (nt_u (nt_u (x90 q r J) (q 0) 1 (J (r 0) 1)) (q 0) 2 (J (r 0) 2)) (q 0) 3 (J (r 0) 3)) (q 0) 4 (J (r 0) 4)) (q 0) 5 (J (r 0) 5)) (q 0) 6 (J (r 0) 6)) (q 10) (va_cpy (J (r 10)) (J (q 10)) 0 0 6)) (q 11) (va_cpy (J (r 11)) (J (q 11)) 0 0 6)) (q 12) (va_cpy (J (r 12)) (J (q 12)) 0 0 6)))) rfl k
  have k := lz_get (a := (q 0)) (g := 610) (M := me_w M (nt_u1 (nt_u1 (nt_u1 (nt_u (nt_u (nt_u (nt_u (nt_u (nt_u (x90 q r J) (q 0) 1 (J (r 0) 1)) (q 0) 2 (J (r 0) 2)) (q 0) 3 (J (r 0) 3)) (q 0) 4 (J (r 0) 4)) (q 0) 5 (J (r 0) 5)) (q 0) 6 (J (r 0) 6)) (q 10) (va_cpy (J (r 10)) (J (q 10)) 0 0 6)) (q 11) (va_cpy (J (r 11)) (J (q 11)) 0 0 6)) (q 12) (va_cpy (J (r 12)) (J (q 12)) 0 0 6))) (v := .ref (q 13)) rfl (nt_gfR rfl (hq.1 (0, 10, 13) (by decide))) k
  have k := lz_len rfl (hq.2.2.1 13 (by omega)) k
  rw [show nt_l (me_w M (nt_u1 (nt_u1 (nt_u1 (nt_u (nt_u (nt_u (nt_u (nt_u (nt_u (x90 q r J) (q 0) 1 (J (r 0) 1)) (q 0) 2 (J (r 0) 2)) (q 0) 3 (J (r 0) 3)) (q 0) 4 (J (r 0) 4)) (q 0) 5 (J (r 0) 5)) (q 0) 6 (J (r 0) 6)) (q 10) (va_cpy (J (r 10)) (J (q 10)) 0 0 6)) (q 11) (va_cpy (J (r 11)) (J (q 11)) 0 0 6)) (q 12) (va_cpy (J (r 12)) (J (q 12)) 0 0 6))) (q 13) = 24 from (hl (13, 24) (by decide))] at k
  have k : nt_rn X _ 80 (128, [(0, .ref (q 0)), (1, .ref (r 0))], [.int (Int32.ofNat 24), .int (Int32.ofInt 0), .ref (q 13), .int (Int32.ofInt 0), .ref (r 13)], me_w M (nt_u1 (nt_u1 (nt_u1 (nt_u (nt_u (nt_u (nt_u (nt_u (nt_u (x90 q r J) (q 0) 1 (J (r 0) 1)) (q 0) 2 (J (r 0) 2)) (q 0) 3 (J (r 0) 3)) (q 0) 4 (J (r 0) 4)) (q 0) 5 (J (r 0) 5)) (q 0) 6 (J (r 0) 6)) (q 10) (va_cpy (J (r 10)) (J (q 10)) 0 0 6)) (q 11) (va_cpy (J (r 11)) (J (q 11)) 0 0 6)) (q 12) (va_cpy (J (r 12)) (J (q 12)) 0 0 6))) _ := k
  have k := mx_cpy (N := 24) (fS := J (r 13)) (fD := J (q 13)) rfl ((mu_1 (Ne.symm (hd 12 13 (by omega) (by omega)))).trans ((mu_1 (Ne.symm (hd 11 13 (by omega) (by omega)))).trans ((mu_1 (Ne.symm (hd 10 13 (by omega) (by omega)))).trans ((mu_o (Ne.symm (hd 0 13 (by omega) (by omega)))).trans ((mu_o (Ne.symm (hd 0 13 (by omega) (by omega)))).trans ((mu_o (Ne.symm (hd 0 13 (by omega) (by omega)))).trans ((mu_o (Ne.symm (hd 0 13 (by omega) (by omega)))).trans ((mu_o (Ne.symm (hd 0 13 (by omega) (by omega)))).trans ((mu_o (Ne.symm (hd 0 13 (by omega) (by omega)))).trans (x90_frJ  (Ne.symm (hd 1 13 (by omega) (by omega))) (Ne.symm (hd 2 13 (by omega) (by omega))) (Ne.symm (hd 3 13 (by omega) (by omega))) (Ne.symm (hd 4 13 (by omega) (by omega))) (Ne.symm (hd 5 13 (by omega) (by omega))) (Ne.symm (hd 6 13 (by omega) (by omega))) (Ne.symm (hd 7 13 (by omega) (by omega))) (Ne.symm (hd 8 13 (by omega) (by omega))) (Ne.symm (hd 9 13 (by omega) (by omega))))))))))))) ((mu_1 (hq.2.1 13 12 (by omega) (by omega) (by decide))).trans ((mu_1 (hq.2.1 13 11 (by omega) (by omega) (by decide))).trans ((mu_1 (hq.2.1 13 10 (by omega) (by omega) (by decide))).trans ((mu_o (hq.2.1 13 0 (by omega) (by omega) (by decide))).trans ((mu_o (hq.2.1 13 0 (by omega) (by omega) (by decide))).trans ((mu_o (hq.2.1 13 0 (by omega) (by omega) (by decide))).trans ((mu_o (hq.2.1 13 0 (by omega) (by omega) (by decide))).trans ((mu_o (hq.2.1 13 0 (by omega) (by omega) (by decide))).trans ((mu_o (hq.2.1 13 0 (by omega) (by omega) (by decide))).trans (x90_frJ  (hq.2.1 13 1 (by omega) (by omega) (by decide)) (hq.2.1 13 2 (by omega) (by omega) (by decide)) (hq.2.1 13 3 (by omega) (by omega) (by decide)) (hq.2.1 13 4 (by omega) (by omega) (by decide)) (hq.2.1 13 5 (by omega) (by omega) (by decide)) (hq.2.1 13 6 (by omega) (by omega) (by decide)) (hq.2.1 13 7 (by omega) (by omega) (by decide)) (hq.2.1 13 8 (by omega) (by omega) (by decide)) (hq.2.1 13 9 (by omega) (by omega) (by decide)))))))))))) rfl k
  have k : nt_rn X _ 80 (131, [(0, .ref (q 0)), (1, .ref (r 0))], [], me_w M (nt_u1 (nt_u1 (nt_u1 (nt_u1 (nt_u (nt_u (nt_u (nt_u (nt_u (nt_u (x90 q r J) (q 0) 1 (J (r 0) 1)) (q 0) 2 (J (r 0) 2)) (q 0) 3 (J (r 0) 3)) (q 0) 4 (J (r 0) 4)) (q 0) 5 (J (r 0) 5)) (q 0) 6 (J (r 0) 6)) (q 10) (va_cpy (J (r 10)) (J (q 10)) 0 0 6)) (q 11) (va_cpy (J (r 11)) (J (q 11)) 0 0 6)) (q 12) (va_cpy (J (r 12)) (J (q 12)) 0 0 6)) (q 13) (va_cpy (J (r 13)) (J (q 13)) 0 0 24))) _ := k
  have k := ly_revb 1 (c' := (132, [(0, .ref (q 0)), (1, .ref (r 0))], [.ref (r 0)], me_w M (nt_u1 (nt_u1 (nt_u1 (nt_u1 (nt_u (nt_u (nt_u (nt_u (nt_u (nt_u (x90 q r J) (q 0) 1 (J (r 0) 1)) (q 0) 2 (J (r 0) 2)) (q 0) 3 (J (r 0) 3)) (q 0) 4 (J (r 0) 4)) (q 0) 5 (J (r 0) 5)) (q 0) 6 (J (r 0) 6)) (q 10) (va_cpy (J (r 10)) (J (q 10)) 0 0 6)) (q 11) (va_cpy (J (r 11)) (J (q 11)) 0 0 6)) (q 12) (va_cpy (J (r 12)) (J (q 12)) 0 0 6)) (q 13) (va_cpy (J (r 13)) (J (q 13)) 0 0 24)))) rfl k
  have k := lz_get (a := (r 0)) (g := 611) (M := me_w M (nt_u1 (nt_u1 (nt_u1 (nt_u1 (nt_u (nt_u (nt_u (nt_u (nt_u (nt_u (x90 q r J) (q 0) 1 (J (r 0) 1)) (q 0) 2 (J (r 0) 2)) (q 0) 3 (J (r 0) 3)) (q 0) 4 (J (r 0) 4)) (q 0) 5 (J (r 0) 5)) (q 0) 6 (J (r 0) 6)) (q 10) (va_cpy (J (r 10)) (J (q 10)) 0 0 6)) (q 11) (va_cpy (J (r 11)) (J (q 11)) 0 0 6)) (q 12) (va_cpy (J (r 12)) (J (q 12)) 0 0 6)) (q 13) (va_cpy (J (r 13)) (J (q 13)) 0 0 24))) (v := .ref (r 14)) rfl (nt_gfR rfl (hr.1 (0, 11, 14) (by decide))) k
  have k := ly_revb 2 (c' := (137, [(0, .ref (q 0)), (1, .ref (r 0))], [.ref (q 0), .int (Int32.ofInt 0), .ref (r 14)], me_w M (nt_u1 (nt_u1 (nt_u1 (nt_u1 (nt_u (nt_u (nt_u (nt_u (nt_u (nt_u (x90 q r J) (q 0) 1 (J (r 0) 1)) (q 0) 2 (J (r 0) 2)) (q 0) 3 (J (r 0) 3)) (q 0) 4 (J (r 0) 4)) (q 0) 5 (J (r 0) 5)) (q 0) 6 (J (r 0) 6)) (q 10) (va_cpy (J (r 10)) (J (q 10)) 0 0 6)) (q 11) (va_cpy (J (r 11)) (J (q 11)) 0 0 6)) (q 12) (va_cpy (J (r 12)) (J (q 12)) 0 0 6)) (q 13) (va_cpy (J (r 13)) (J (q 13)) 0 0 24)))) rfl k
  have k := lz_get (a := (q 0)) (g := 611) (M := me_w M (nt_u1 (nt_u1 (nt_u1 (nt_u1 (nt_u (nt_u (nt_u (nt_u (nt_u (nt_u (x90 q r J) (q 0) 1 (J (r 0) 1)) (q 0) 2 (J (r 0) 2)) (q 0) 3 (J (r 0) 3)) (q 0) 4 (J (r 0) 4)) (q 0) 5 (J (r 0) 5)) (q 0) 6 (J (r 0) 6)) (q 10) (va_cpy (J (r 10)) (J (q 10)) 0 0 6)) (q 11) (va_cpy (J (r 11)) (J (q 11)) 0 0 6)) (q 12) (va_cpy (J (r 12)) (J (q 12)) 0 0 6)) (q 13) (va_cpy (J (r 13)) (J (q 13)) 0 0 24))) (v := .ref (q 14)) rfl (nt_gfR rfl (hq.1 (0, 11, 14) (by decide))) k
  have k := ly_revb 2 (c' := (142, [(0, .ref (q 0)), (1, .ref (r 0))], [.ref (q 0), .int (Int32.ofInt 0), .ref (q 14), .int (Int32.ofInt 0), .ref (r 14)], me_w M (nt_u1 (nt_u1 (nt_u1 (nt_u1 (nt_u (nt_u (nt_u (nt_u (nt_u (nt_u (x90 q r J) (q 0) 1 (J (r 0) 1)) (q 0) 2 (J (r 0) 2)) (q 0) 3 (J (r 0) 3)) (q 0) 4 (J (r 0) 4)) (q 0) 5 (J (r 0) 5)) (q 0) 6 (J (r 0) 6)) (q 10) (va_cpy (J (r 10)) (J (q 10)) 0 0 6)) (q 11) (va_cpy (J (r 11)) (J (q 11)) 0 0 6)) (q 12) (va_cpy (J (r 12)) (J (q 12)) 0 0 6)) (q 13) (va_cpy (J (r 13)) (J (q 13)) 0 0 24)))) rfl k
  have k := lz_get (a := (q 0)) (g := 611) (M := me_w M (nt_u1 (nt_u1 (nt_u1 (nt_u1 (nt_u (nt_u (nt_u (nt_u (nt_u (nt_u (x90 q r J) (q 0) 1 (J (r 0) 1)) (q 0) 2 (J (r 0) 2)) (q 0) 3 (J (r 0) 3)) (q 0) 4 (J (r 0) 4)) (q 0) 5 (J (r 0) 5)) (q 0) 6 (J (r 0) 6)) (q 10) (va_cpy (J (r 10)) (J (q 10)) 0 0 6)) (q 11) (va_cpy (J (r 11)) (J (q 11)) 0 0 6)) (q 12) (va_cpy (J (r 12)) (J (q 12)) 0 0 6)) (q 13) (va_cpy (J (r 13)) (J (q 13)) 0 0 24))) (v := .ref (q 14)) rfl (nt_gfR rfl (hq.1 (0, 11, 14) (by decide))) k
  have k := lz_len rfl (hq.2.2.1 14 (by omega)) k
  rw [show nt_l (me_w M (nt_u1 (nt_u1 (nt_u1 (nt_u1 (nt_u (nt_u (nt_u (nt_u (nt_u (nt_u (x90 q r J) (q 0) 1 (J (r 0) 1)) (q 0) 2 (J (r 0) 2)) (q 0) 3 (J (r 0) 3)) (q 0) 4 (J (r 0) 4)) (q 0) 5 (J (r 0) 5)) (q 0) 6 (J (r 0) 6)) (q 10) (va_cpy (J (r 10)) (J (q 10)) 0 0 6)) (q 11) (va_cpy (J (r 11)) (J (q 11)) 0 0 6)) (q 12) (va_cpy (J (r 12)) (J (q 12)) 0 0 6)) (q 13) (va_cpy (J (r 13)) (J (q 13)) 0 0 24))) (q 14) = 24 from (hl (14, 24) (by decide))] at k
  have k : nt_rn X _ 80 (146, [(0, .ref (q 0)), (1, .ref (r 0))], [.int (Int32.ofNat 24), .int (Int32.ofInt 0), .ref (q 14), .int (Int32.ofInt 0), .ref (r 14)], me_w M (nt_u1 (nt_u1 (nt_u1 (nt_u1 (nt_u (nt_u (nt_u (nt_u (nt_u (nt_u (x90 q r J) (q 0) 1 (J (r 0) 1)) (q 0) 2 (J (r 0) 2)) (q 0) 3 (J (r 0) 3)) (q 0) 4 (J (r 0) 4)) (q 0) 5 (J (r 0) 5)) (q 0) 6 (J (r 0) 6)) (q 10) (va_cpy (J (r 10)) (J (q 10)) 0 0 6)) (q 11) (va_cpy (J (r 11)) (J (q 11)) 0 0 6)) (q 12) (va_cpy (J (r 12)) (J (q 12)) 0 0 6)) (q 13) (va_cpy (J (r 13)) (J (q 13)) 0 0 24))) _ := k
  have k := mx_cpy (N := 24) (fS := J (r 14)) (fD := J (q 14)) rfl ((mu_1 (Ne.symm (hd 13 14 (by omega) (by omega)))).trans ((mu_1 (Ne.symm (hd 12 14 (by omega) (by omega)))).trans ((mu_1 (Ne.symm (hd 11 14 (by omega) (by omega)))).trans ((mu_1 (Ne.symm (hd 10 14 (by omega) (by omega)))).trans ((mu_o (Ne.symm (hd 0 14 (by omega) (by omega)))).trans ((mu_o (Ne.symm (hd 0 14 (by omega) (by omega)))).trans ((mu_o (Ne.symm (hd 0 14 (by omega) (by omega)))).trans ((mu_o (Ne.symm (hd 0 14 (by omega) (by omega)))).trans ((mu_o (Ne.symm (hd 0 14 (by omega) (by omega)))).trans ((mu_o (Ne.symm (hd 0 14 (by omega) (by omega)))).trans (x90_frJ  (Ne.symm (hd 1 14 (by omega) (by omega))) (Ne.symm (hd 2 14 (by omega) (by omega))) (Ne.symm (hd 3 14 (by omega) (by omega))) (Ne.symm (hd 4 14 (by omega) (by omega))) (Ne.symm (hd 5 14 (by omega) (by omega))) (Ne.symm (hd 6 14 (by omega) (by omega))) (Ne.symm (hd 7 14 (by omega) (by omega))) (Ne.symm (hd 8 14 (by omega) (by omega))) (Ne.symm (hd 9 14 (by omega) (by omega)))))))))))))) ((mu_1 (hq.2.1 14 13 (by omega) (by omega) (by decide))).trans ((mu_1 (hq.2.1 14 12 (by omega) (by omega) (by decide))).trans ((mu_1 (hq.2.1 14 11 (by omega) (by omega) (by decide))).trans ((mu_1 (hq.2.1 14 10 (by omega) (by omega) (by decide))).trans ((mu_o (hq.2.1 14 0 (by omega) (by omega) (by decide))).trans ((mu_o (hq.2.1 14 0 (by omega) (by omega) (by decide))).trans ((mu_o (hq.2.1 14 0 (by omega) (by omega) (by decide))).trans ((mu_o (hq.2.1 14 0 (by omega) (by omega) (by decide))).trans ((mu_o (hq.2.1 14 0 (by omega) (by omega) (by decide))).trans ((mu_o (hq.2.1 14 0 (by omega) (by omega) (by decide))).trans (x90_frJ  (hq.2.1 14 1 (by omega) (by omega) (by decide)) (hq.2.1 14 2 (by omega) (by omega) (by decide)) (hq.2.1 14 3 (by omega) (by omega) (by decide)) (hq.2.1 14 4 (by omega) (by omega) (by decide)) (hq.2.1 14 5 (by omega) (by omega) (by decide)) (hq.2.1 14 6 (by omega) (by omega) (by decide)) (hq.2.1 14 7 (by omega) (by omega) (by decide)) (hq.2.1 14 8 (by omega) (by omega) (by decide)) (hq.2.1 14 9 (by omega) (by omega) (by decide))))))))))))) rfl k
  have k : nt_rn X _ 80 (149, [(0, .ref (q 0)), (1, .ref (r 0))], [], me_w M (nt_u1 (nt_u1 (nt_u1 (nt_u1 (nt_u1 (nt_u (nt_u (nt_u (nt_u (nt_u (nt_u (x90 q r J) (q 0) 1 (J (r 0) 1)) (q 0) 2 (J (r 0) 2)) (q 0) 3 (J (r 0) 3)) (q 0) 4 (J (r 0) 4)) (q 0) 5 (J (r 0) 5)) (q 0) 6 (J (r 0) 6)) (q 10) (va_cpy (J (r 10)) (J (q 10)) 0 0 6)) (q 11) (va_cpy (J (r 11)) (J (q 11)) 0 0 6)) (q 12) (va_cpy (J (r 12)) (J (q 12)) 0 0 6)) (q 13) (va_cpy (J (r 13)) (J (q 13)) 0 0 24)) (q 14) (va_cpy (J (r 14)) (J (q 14)) 0 0 24))) _ := k
  have k := ly_revb 1 (c' := (150, [(0, .ref (q 0)), (1, .ref (r 0))], [.ref (r 0)], me_w M (nt_u1 (nt_u1 (nt_u1 (nt_u1 (nt_u1 (nt_u (nt_u (nt_u (nt_u (nt_u (nt_u (x90 q r J) (q 0) 1 (J (r 0) 1)) (q 0) 2 (J (r 0) 2)) (q 0) 3 (J (r 0) 3)) (q 0) 4 (J (r 0) 4)) (q 0) 5 (J (r 0) 5)) (q 0) 6 (J (r 0) 6)) (q 10) (va_cpy (J (r 10)) (J (q 10)) 0 0 6)) (q 11) (va_cpy (J (r 11)) (J (q 11)) 0 0 6)) (q 12) (va_cpy (J (r 12)) (J (q 12)) 0 0 6)) (q 13) (va_cpy (J (r 13)) (J (q 13)) 0 0 24)) (q 14) (va_cpy (J (r 14)) (J (q 14)) 0 0 24)))) rfl k
  have k := lz_get (a := (r 0)) (g := 612) (M := me_w M (nt_u1 (nt_u1 (nt_u1 (nt_u1 (nt_u1 (nt_u (nt_u (nt_u (nt_u (nt_u (nt_u (x90 q r J) (q 0) 1 (J (r 0) 1)) (q 0) 2 (J (r 0) 2)) (q 0) 3 (J (r 0) 3)) (q 0) 4 (J (r 0) 4)) (q 0) 5 (J (r 0) 5)) (q 0) 6 (J (r 0) 6)) (q 10) (va_cpy (J (r 10)) (J (q 10)) 0 0 6)) (q 11) (va_cpy (J (r 11)) (J (q 11)) 0 0 6)) (q 12) (va_cpy (J (r 12)) (J (q 12)) 0 0 6)) (q 13) (va_cpy (J (r 13)) (J (q 13)) 0 0 24)) (q 14) (va_cpy (J (r 14)) (J (q 14)) 0 0 24))) (v := .ref (r 15)) rfl (nt_gfR rfl (hr.1 (0, 12, 15) (by decide))) k
  have k := ly_revb 2 (c' := (155, [(0, .ref (q 0)), (1, .ref (r 0))], [.ref (q 0), .int (Int32.ofInt 0), .ref (r 15)], me_w M (nt_u1 (nt_u1 (nt_u1 (nt_u1 (nt_u1 (nt_u (nt_u (nt_u (nt_u (nt_u (nt_u (x90 q r J) (q 0) 1 (J (r 0) 1)) (q 0) 2 (J (r 0) 2)) (q 0) 3 (J (r 0) 3)) (q 0) 4 (J (r 0) 4)) (q 0) 5 (J (r 0) 5)) (q 0) 6 (J (r 0) 6)) (q 10) (va_cpy (J (r 10)) (J (q 10)) 0 0 6)) (q 11) (va_cpy (J (r 11)) (J (q 11)) 0 0 6)) (q 12) (va_cpy (J (r 12)) (J (q 12)) 0 0 6)) (q 13) (va_cpy (J (r 13)) (J (q 13)) 0 0 24)) (q 14) (va_cpy (J (r 14)) (J (q 14)) 0 0 24)))) rfl k
  have k := lz_get (a := (q 0)) (g := 612) (M := me_w M (nt_u1 (nt_u1 (nt_u1 (nt_u1 (nt_u1 (nt_u (nt_u (nt_u (nt_u (nt_u (nt_u (x90 q r J) (q 0) 1 (J (r 0) 1)) (q 0) 2 (J (r 0) 2)) (q 0) 3 (J (r 0) 3)) (q 0) 4 (J (r 0) 4)) (q 0) 5 (J (r 0) 5)) (q 0) 6 (J (r 0) 6)) (q 10) (va_cpy (J (r 10)) (J (q 10)) 0 0 6)) (q 11) (va_cpy (J (r 11)) (J (q 11)) 0 0 6)) (q 12) (va_cpy (J (r 12)) (J (q 12)) 0 0 6)) (q 13) (va_cpy (J (r 13)) (J (q 13)) 0 0 24)) (q 14) (va_cpy (J (r 14)) (J (q 14)) 0 0 24))) (v := .ref (q 15)) rfl (nt_gfR rfl (hq.1 (0, 12, 15) (by decide))) k
  have k := ly_revb 2 (c' := (160, [(0, .ref (q 0)), (1, .ref (r 0))], [.ref (q 0), .int (Int32.ofInt 0), .ref (q 15), .int (Int32.ofInt 0), .ref (r 15)], me_w M (nt_u1 (nt_u1 (nt_u1 (nt_u1 (nt_u1 (nt_u (nt_u (nt_u (nt_u (nt_u (nt_u (x90 q r J) (q 0) 1 (J (r 0) 1)) (q 0) 2 (J (r 0) 2)) (q 0) 3 (J (r 0) 3)) (q 0) 4 (J (r 0) 4)) (q 0) 5 (J (r 0) 5)) (q 0) 6 (J (r 0) 6)) (q 10) (va_cpy (J (r 10)) (J (q 10)) 0 0 6)) (q 11) (va_cpy (J (r 11)) (J (q 11)) 0 0 6)) (q 12) (va_cpy (J (r 12)) (J (q 12)) 0 0 6)) (q 13) (va_cpy (J (r 13)) (J (q 13)) 0 0 24)) (q 14) (va_cpy (J (r 14)) (J (q 14)) 0 0 24)))) rfl k
  have k := lz_get (a := (q 0)) (g := 612) (M := me_w M (nt_u1 (nt_u1 (nt_u1 (nt_u1 (nt_u1 (nt_u (nt_u (nt_u (nt_u (nt_u (nt_u (x90 q r J) (q 0) 1 (J (r 0) 1)) (q 0) 2 (J (r 0) 2)) (q 0) 3 (J (r 0) 3)) (q 0) 4 (J (r 0) 4)) (q 0) 5 (J (r 0) 5)) (q 0) 6 (J (r 0) 6)) (q 10) (va_cpy (J (r 10)) (J (q 10)) 0 0 6)) (q 11) (va_cpy (J (r 11)) (J (q 11)) 0 0 6)) (q 12) (va_cpy (J (r 12)) (J (q 12)) 0 0 6)) (q 13) (va_cpy (J (r 13)) (J (q 13)) 0 0 24)) (q 14) (va_cpy (J (r 14)) (J (q 14)) 0 0 24))) (v := .ref (q 15)) rfl (nt_gfR rfl (hq.1 (0, 12, 15) (by decide))) k
  have k := lz_len rfl (hq.2.2.1 15 (by omega)) k
  rw [show nt_l (me_w M (nt_u1 (nt_u1 (nt_u1 (nt_u1 (nt_u1 (nt_u (nt_u (nt_u (nt_u (nt_u (nt_u (x90 q r J) (q 0) 1 (J (r 0) 1)) (q 0) 2 (J (r 0) 2)) (q 0) 3 (J (r 0) 3)) (q 0) 4 (J (r 0) 4)) (q 0) 5 (J (r 0) 5)) (q 0) 6 (J (r 0) 6)) (q 10) (va_cpy (J (r 10)) (J (q 10)) 0 0 6)) (q 11) (va_cpy (J (r 11)) (J (q 11)) 0 0 6)) (q 12) (va_cpy (J (r 12)) (J (q 12)) 0 0 6)) (q 13) (va_cpy (J (r 13)) (J (q 13)) 0 0 24)) (q 14) (va_cpy (J (r 14)) (J (q 14)) 0 0 24))) (q 15) = 24 from (hl (15, 24) (by decide))] at k
  have k : nt_rn X _ 80 (164, [(0, .ref (q 0)), (1, .ref (r 0))], [.int (Int32.ofNat 24), .int (Int32.ofInt 0), .ref (q 15), .int (Int32.ofInt 0), .ref (r 15)], me_w M (nt_u1 (nt_u1 (nt_u1 (nt_u1 (nt_u1 (nt_u (nt_u (nt_u (nt_u (nt_u (nt_u (x90 q r J) (q 0) 1 (J (r 0) 1)) (q 0) 2 (J (r 0) 2)) (q 0) 3 (J (r 0) 3)) (q 0) 4 (J (r 0) 4)) (q 0) 5 (J (r 0) 5)) (q 0) 6 (J (r 0) 6)) (q 10) (va_cpy (J (r 10)) (J (q 10)) 0 0 6)) (q 11) (va_cpy (J (r 11)) (J (q 11)) 0 0 6)) (q 12) (va_cpy (J (r 12)) (J (q 12)) 0 0 6)) (q 13) (va_cpy (J (r 13)) (J (q 13)) 0 0 24)) (q 14) (va_cpy (J (r 14)) (J (q 14)) 0 0 24))) _ := k
  have k := mx_cpy (N := 24) (fS := J (r 15)) (fD := J (q 15)) rfl ((mu_1 (Ne.symm (hd 14 15 (by omega) (by omega)))).trans ((mu_1 (Ne.symm (hd 13 15 (by omega) (by omega)))).trans ((mu_1 (Ne.symm (hd 12 15 (by omega) (by omega)))).trans ((mu_1 (Ne.symm (hd 11 15 (by omega) (by omega)))).trans ((mu_1 (Ne.symm (hd 10 15 (by omega) (by omega)))).trans ((mu_o (Ne.symm (hd 0 15 (by omega) (by omega)))).trans ((mu_o (Ne.symm (hd 0 15 (by omega) (by omega)))).trans ((mu_o (Ne.symm (hd 0 15 (by omega) (by omega)))).trans ((mu_o (Ne.symm (hd 0 15 (by omega) (by omega)))).trans ((mu_o (Ne.symm (hd 0 15 (by omega) (by omega)))).trans ((mu_o (Ne.symm (hd 0 15 (by omega) (by omega)))).trans (x90_frJ  (Ne.symm (hd 1 15 (by omega) (by omega))) (Ne.symm (hd 2 15 (by omega) (by omega))) (Ne.symm (hd 3 15 (by omega) (by omega))) (Ne.symm (hd 4 15 (by omega) (by omega))) (Ne.symm (hd 5 15 (by omega) (by omega))) (Ne.symm (hd 6 15 (by omega) (by omega))) (Ne.symm (hd 7 15 (by omega) (by omega))) (Ne.symm (hd 8 15 (by omega) (by omega))) (Ne.symm (hd 9 15 (by omega) (by omega))))))))))))))) ((mu_1 (hq.2.1 15 14 (by omega) (by omega) (by decide))).trans ((mu_1 (hq.2.1 15 13 (by omega) (by omega) (by decide))).trans ((mu_1 (hq.2.1 15 12 (by omega) (by omega) (by decide))).trans ((mu_1 (hq.2.1 15 11 (by omega) (by omega) (by decide))).trans ((mu_1 (hq.2.1 15 10 (by omega) (by omega) (by decide))).trans ((mu_o (hq.2.1 15 0 (by omega) (by omega) (by decide))).trans ((mu_o (hq.2.1 15 0 (by omega) (by omega) (by decide))).trans ((mu_o (hq.2.1 15 0 (by omega) (by omega) (by decide))).trans ((mu_o (hq.2.1 15 0 (by omega) (by omega) (by decide))).trans ((mu_o (hq.2.1 15 0 (by omega) (by omega) (by decide))).trans ((mu_o (hq.2.1 15 0 (by omega) (by omega) (by decide))).trans (x90_frJ  (hq.2.1 15 1 (by omega) (by omega) (by decide)) (hq.2.1 15 2 (by omega) (by omega) (by decide)) (hq.2.1 15 3 (by omega) (by omega) (by decide)) (hq.2.1 15 4 (by omega) (by omega) (by decide)) (hq.2.1 15 5 (by omega) (by omega) (by decide)) (hq.2.1 15 6 (by omega) (by omega) (by decide)) (hq.2.1 15 7 (by omega) (by omega) (by decide)) (hq.2.1 15 8 (by omega) (by omega) (by decide)) (hq.2.1 15 9 (by omega) (by omega) (by decide)))))))))))))) rfl k
  have k : nt_rn X _ 80 (167, [(0, .ref (q 0)), (1, .ref (r 0))], [], me_w M (nt_u1 (nt_u1 (nt_u1 (nt_u1 (nt_u1 (nt_u1 (nt_u (nt_u (nt_u (nt_u (nt_u (nt_u (x90 q r J) (q 0) 1 (J (r 0) 1)) (q 0) 2 (J (r 0) 2)) (q 0) 3 (J (r 0) 3)) (q 0) 4 (J (r 0) 4)) (q 0) 5 (J (r 0) 5)) (q 0) 6 (J (r 0) 6)) (q 10) (va_cpy (J (r 10)) (J (q 10)) 0 0 6)) (q 11) (va_cpy (J (r 11)) (J (q 11)) 0 0 6)) (q 12) (va_cpy (J (r 12)) (J (q 12)) 0 0 6)) (q 13) (va_cpy (J (r 13)) (J (q 13)) 0 0 24)) (q 14) (va_cpy (J (r 14)) (J (q 14)) 0 0 24)) (q 15) (va_cpy (J (r 15)) (J (q 15)) 0 0 24))) _ := k
  have k := ly_revb 1 (c' := (168, [(0, .ref (q 0)), (1, .ref (r 0))], [.ref (r 0)], me_w M (nt_u1 (nt_u1 (nt_u1 (nt_u1 (nt_u1 (nt_u1 (nt_u (nt_u (nt_u (nt_u (nt_u (nt_u (x90 q r J) (q 0) 1 (J (r 0) 1)) (q 0) 2 (J (r 0) 2)) (q 0) 3 (J (r 0) 3)) (q 0) 4 (J (r 0) 4)) (q 0) 5 (J (r 0) 5)) (q 0) 6 (J (r 0) 6)) (q 10) (va_cpy (J (r 10)) (J (q 10)) 0 0 6)) (q 11) (va_cpy (J (r 11)) (J (q 11)) 0 0 6)) (q 12) (va_cpy (J (r 12)) (J (q 12)) 0 0 6)) (q 13) (va_cpy (J (r 13)) (J (q 13)) 0 0 24)) (q 14) (va_cpy (J (r 14)) (J (q 14)) 0 0 24)) (q 15) (va_cpy (J (r 15)) (J (q 15)) 0 0 24)))) rfl k
  have k := lz_get (a := (r 0)) (g := 613) (M := me_w M (nt_u1 (nt_u1 (nt_u1 (nt_u1 (nt_u1 (nt_u1 (nt_u (nt_u (nt_u (nt_u (nt_u (nt_u (x90 q r J) (q 0) 1 (J (r 0) 1)) (q 0) 2 (J (r 0) 2)) (q 0) 3 (J (r 0) 3)) (q 0) 4 (J (r 0) 4)) (q 0) 5 (J (r 0) 5)) (q 0) 6 (J (r 0) 6)) (q 10) (va_cpy (J (r 10)) (J (q 10)) 0 0 6)) (q 11) (va_cpy (J (r 11)) (J (q 11)) 0 0 6)) (q 12) (va_cpy (J (r 12)) (J (q 12)) 0 0 6)) (q 13) (va_cpy (J (r 13)) (J (q 13)) 0 0 24)) (q 14) (va_cpy (J (r 14)) (J (q 14)) 0 0 24)) (q 15) (va_cpy (J (r 15)) (J (q 15)) 0 0 24))) (v := .ref (r 16)) rfl (nt_gfR rfl (hr.1 (0, 13, 16) (by decide))) k
  have k := ly_revb 2 (c' := (173, [(0, .ref (q 0)), (1, .ref (r 0))], [.ref (q 0), .int (Int32.ofInt 0), .ref (r 16)], me_w M (nt_u1 (nt_u1 (nt_u1 (nt_u1 (nt_u1 (nt_u1 (nt_u (nt_u (nt_u (nt_u (nt_u (nt_u (x90 q r J) (q 0) 1 (J (r 0) 1)) (q 0) 2 (J (r 0) 2)) (q 0) 3 (J (r 0) 3)) (q 0) 4 (J (r 0) 4)) (q 0) 5 (J (r 0) 5)) (q 0) 6 (J (r 0) 6)) (q 10) (va_cpy (J (r 10)) (J (q 10)) 0 0 6)) (q 11) (va_cpy (J (r 11)) (J (q 11)) 0 0 6)) (q 12) (va_cpy (J (r 12)) (J (q 12)) 0 0 6)) (q 13) (va_cpy (J (r 13)) (J (q 13)) 0 0 24)) (q 14) (va_cpy (J (r 14)) (J (q 14)) 0 0 24)) (q 15) (va_cpy (J (r 15)) (J (q 15)) 0 0 24)))) rfl k
  have k := lz_get (a := (q 0)) (g := 613) (M := me_w M (nt_u1 (nt_u1 (nt_u1 (nt_u1 (nt_u1 (nt_u1 (nt_u (nt_u (nt_u (nt_u (nt_u (nt_u (x90 q r J) (q 0) 1 (J (r 0) 1)) (q 0) 2 (J (r 0) 2)) (q 0) 3 (J (r 0) 3)) (q 0) 4 (J (r 0) 4)) (q 0) 5 (J (r 0) 5)) (q 0) 6 (J (r 0) 6)) (q 10) (va_cpy (J (r 10)) (J (q 10)) 0 0 6)) (q 11) (va_cpy (J (r 11)) (J (q 11)) 0 0 6)) (q 12) (va_cpy (J (r 12)) (J (q 12)) 0 0 6)) (q 13) (va_cpy (J (r 13)) (J (q 13)) 0 0 24)) (q 14) (va_cpy (J (r 14)) (J (q 14)) 0 0 24)) (q 15) (va_cpy (J (r 15)) (J (q 15)) 0 0 24))) (v := .ref (q 16)) rfl (nt_gfR rfl (hq.1 (0, 13, 16) (by decide))) k
  have k := ly_revb 2 (c' := (178, [(0, .ref (q 0)), (1, .ref (r 0))], [.ref (q 0), .int (Int32.ofInt 0), .ref (q 16), .int (Int32.ofInt 0), .ref (r 16)], me_w M (nt_u1 (nt_u1 (nt_u1 (nt_u1 (nt_u1 (nt_u1 (nt_u (nt_u (nt_u (nt_u (nt_u (nt_u (x90 q r J) (q 0) 1 (J (r 0) 1)) (q 0) 2 (J (r 0) 2)) (q 0) 3 (J (r 0) 3)) (q 0) 4 (J (r 0) 4)) (q 0) 5 (J (r 0) 5)) (q 0) 6 (J (r 0) 6)) (q 10) (va_cpy (J (r 10)) (J (q 10)) 0 0 6)) (q 11) (va_cpy (J (r 11)) (J (q 11)) 0 0 6)) (q 12) (va_cpy (J (r 12)) (J (q 12)) 0 0 6)) (q 13) (va_cpy (J (r 13)) (J (q 13)) 0 0 24)) (q 14) (va_cpy (J (r 14)) (J (q 14)) 0 0 24)) (q 15) (va_cpy (J (r 15)) (J (q 15)) 0 0 24)))) rfl k
  have k := lz_get (a := (q 0)) (g := 613) (M := me_w M (nt_u1 (nt_u1 (nt_u1 (nt_u1 (nt_u1 (nt_u1 (nt_u (nt_u (nt_u (nt_u (nt_u (nt_u (x90 q r J) (q 0) 1 (J (r 0) 1)) (q 0) 2 (J (r 0) 2)) (q 0) 3 (J (r 0) 3)) (q 0) 4 (J (r 0) 4)) (q 0) 5 (J (r 0) 5)) (q 0) 6 (J (r 0) 6)) (q 10) (va_cpy (J (r 10)) (J (q 10)) 0 0 6)) (q 11) (va_cpy (J (r 11)) (J (q 11)) 0 0 6)) (q 12) (va_cpy (J (r 12)) (J (q 12)) 0 0 6)) (q 13) (va_cpy (J (r 13)) (J (q 13)) 0 0 24)) (q 14) (va_cpy (J (r 14)) (J (q 14)) 0 0 24)) (q 15) (va_cpy (J (r 15)) (J (q 15)) 0 0 24))) (v := .ref (q 16)) rfl (nt_gfR rfl (hq.1 (0, 13, 16) (by decide))) k
  have k := lz_len rfl (hq.2.2.1 16 (by omega)) k
  rw [show nt_l (me_w M (nt_u1 (nt_u1 (nt_u1 (nt_u1 (nt_u1 (nt_u1 (nt_u (nt_u (nt_u (nt_u (nt_u (nt_u (x90 q r J) (q 0) 1 (J (r 0) 1)) (q 0) 2 (J (r 0) 2)) (q 0) 3 (J (r 0) 3)) (q 0) 4 (J (r 0) 4)) (q 0) 5 (J (r 0) 5)) (q 0) 6 (J (r 0) 6)) (q 10) (va_cpy (J (r 10)) (J (q 10)) 0 0 6)) (q 11) (va_cpy (J (r 11)) (J (q 11)) 0 0 6)) (q 12) (va_cpy (J (r 12)) (J (q 12)) 0 0 6)) (q 13) (va_cpy (J (r 13)) (J (q 13)) 0 0 24)) (q 14) (va_cpy (J (r 14)) (J (q 14)) 0 0 24)) (q 15) (va_cpy (J (r 15)) (J (q 15)) 0 0 24))) (q 16) = 8 from (hl (16, 8) (by decide))] at k
  have k : nt_rn X _ 80 (182, [(0, .ref (q 0)), (1, .ref (r 0))], [.int (Int32.ofNat 8), .int (Int32.ofInt 0), .ref (q 16), .int (Int32.ofInt 0), .ref (r 16)], me_w M (nt_u1 (nt_u1 (nt_u1 (nt_u1 (nt_u1 (nt_u1 (nt_u (nt_u (nt_u (nt_u (nt_u (nt_u (x90 q r J) (q 0) 1 (J (r 0) 1)) (q 0) 2 (J (r 0) 2)) (q 0) 3 (J (r 0) 3)) (q 0) 4 (J (r 0) 4)) (q 0) 5 (J (r 0) 5)) (q 0) 6 (J (r 0) 6)) (q 10) (va_cpy (J (r 10)) (J (q 10)) 0 0 6)) (q 11) (va_cpy (J (r 11)) (J (q 11)) 0 0 6)) (q 12) (va_cpy (J (r 12)) (J (q 12)) 0 0 6)) (q 13) (va_cpy (J (r 13)) (J (q 13)) 0 0 24)) (q 14) (va_cpy (J (r 14)) (J (q 14)) 0 0 24)) (q 15) (va_cpy (J (r 15)) (J (q 15)) 0 0 24))) _ := k
  have k := mx_cpy (N := 8) (fS := J (r 16)) (fD := J (q 16)) rfl ((mu_1 (Ne.symm (hd 15 16 (by omega) (by omega)))).trans ((mu_1 (Ne.symm (hd 14 16 (by omega) (by omega)))).trans ((mu_1 (Ne.symm (hd 13 16 (by omega) (by omega)))).trans ((mu_1 (Ne.symm (hd 12 16 (by omega) (by omega)))).trans ((mu_1 (Ne.symm (hd 11 16 (by omega) (by omega)))).trans ((mu_1 (Ne.symm (hd 10 16 (by omega) (by omega)))).trans ((mu_o (Ne.symm (hd 0 16 (by omega) (by omega)))).trans ((mu_o (Ne.symm (hd 0 16 (by omega) (by omega)))).trans ((mu_o (Ne.symm (hd 0 16 (by omega) (by omega)))).trans ((mu_o (Ne.symm (hd 0 16 (by omega) (by omega)))).trans ((mu_o (Ne.symm (hd 0 16 (by omega) (by omega)))).trans ((mu_o (Ne.symm (hd 0 16 (by omega) (by omega)))).trans (x90_frJ  (Ne.symm (hd 1 16 (by omega) (by omega))) (Ne.symm (hd 2 16 (by omega) (by omega))) (Ne.symm (hd 3 16 (by omega) (by omega))) (Ne.symm (hd 4 16 (by omega) (by omega))) (Ne.symm (hd 5 16 (by omega) (by omega))) (Ne.symm (hd 6 16 (by omega) (by omega))) (Ne.symm (hd 7 16 (by omega) (by omega))) (Ne.symm (hd 8 16 (by omega) (by omega))) (Ne.symm (hd 9 16 (by omega) (by omega)))))))))))))))) ((mu_1 (hq.2.1 16 15 (by omega) (by omega) (by decide))).trans ((mu_1 (hq.2.1 16 14 (by omega) (by omega) (by decide))).trans ((mu_1 (hq.2.1 16 13 (by omega) (by omega) (by decide))).trans ((mu_1 (hq.2.1 16 12 (by omega) (by omega) (by decide))).trans ((mu_1 (hq.2.1 16 11 (by omega) (by omega) (by decide))).trans ((mu_1 (hq.2.1 16 10 (by omega) (by omega) (by decide))).trans ((mu_o (hq.2.1 16 0 (by omega) (by omega) (by decide))).trans ((mu_o (hq.2.1 16 0 (by omega) (by omega) (by decide))).trans ((mu_o (hq.2.1 16 0 (by omega) (by omega) (by decide))).trans ((mu_o (hq.2.1 16 0 (by omega) (by omega) (by decide))).trans ((mu_o (hq.2.1 16 0 (by omega) (by omega) (by decide))).trans ((mu_o (hq.2.1 16 0 (by omega) (by omega) (by decide))).trans (x90_frJ  (hq.2.1 16 1 (by omega) (by omega) (by decide)) (hq.2.1 16 2 (by omega) (by omega) (by decide)) (hq.2.1 16 3 (by omega) (by omega) (by decide)) (hq.2.1 16 4 (by omega) (by omega) (by decide)) (hq.2.1 16 5 (by omega) (by omega) (by decide)) (hq.2.1 16 6 (by omega) (by omega) (by decide)) (hq.2.1 16 7 (by omega) (by omega) (by decide)) (hq.2.1 16 8 (by omega) (by omega) (by decide)) (hq.2.1 16 9 (by omega) (by omega) (by decide))))))))))))))) rfl k
  have k : nt_rn X _ 80 (185, [(0, .ref (q 0)), (1, .ref (r 0))], [], me_w M (nt_u1 (nt_u1 (nt_u1 (nt_u1 (nt_u1 (nt_u1 (nt_u1 (nt_u (nt_u (nt_u (nt_u (nt_u (nt_u (x90 q r J) (q 0) 1 (J (r 0) 1)) (q 0) 2 (J (r 0) 2)) (q 0) 3 (J (r 0) 3)) (q 0) 4 (J (r 0) 4)) (q 0) 5 (J (r 0) 5)) (q 0) 6 (J (r 0) 6)) (q 10) (va_cpy (J (r 10)) (J (q 10)) 0 0 6)) (q 11) (va_cpy (J (r 11)) (J (q 11)) 0 0 6)) (q 12) (va_cpy (J (r 12)) (J (q 12)) 0 0 6)) (q 13) (va_cpy (J (r 13)) (J (q 13)) 0 0 24)) (q 14) (va_cpy (J (r 14)) (J (q 14)) 0 0 24)) (q 15) (va_cpy (J (r 15)) (J (q 15)) 0 0 24)) (q 16) (va_cpy (J (r 16)) (J (q 16)) 0 0 8))) _ := k
  have k := lz_rv rfl rfl k
  rw [k, x80]
theorem x80_frJ {q : Nat → Nat} {r : Nat → Nat} {J : Nat → Nat → Int32} {b : Nat} (n0 : b ≠ q 0) (n1 : b ≠ q 1) (n2 : b ≠ q 2) (n3 : b ≠ q 3) (n4 : b ≠ q 4) (n5 : b ≠ q 5) (n6 : b ≠ q 6) (n7 : b ≠ q 7) (n8 : b ≠ q 8) (n9 : b ≠ q 9) (n10 : b ≠ q 10) (n11 : b ≠ q 11) (n12 : b ≠ q 12) (n13 : b ≠ q 13) (n14 : b ≠ q 14) (n15 : b ≠ q 15) (n16 : b ≠ q 16) : x80 q r J b = J b := by
  unfold x80
  all_goals first | (dsimp only; exact (show (nt_u1 (nt_u1 (nt_u1 (nt_u1 (nt_u1 (nt_u1 (nt_u1 (nt_u (nt_u (nt_u (nt_u (nt_u (nt_u (x90 q r J) (q 0) 1 (J (r 0) 1)) (q 0) 2 (J (r 0) 2)) (q 0) 3 (J (r 0) 3)) (q 0) 4 (J (r 0) 4)) (q 0) 5 (J (r 0) 5)) (q 0) 6 (J (r 0) 6)) (q 10) (va_cpy (J (r 10)) (J (q 10)) 0 0 6)) (q 11) (va_cpy (J (r 11)) (J (q 11)) 0 0 6)) (q 12) (va_cpy (J (r 12)) (J (q 12)) 0 0 6)) (q 13) (va_cpy (J (r 13)) (J (q 13)) 0 0 24)) (q 14) (va_cpy (J (r 14)) (J (q 14)) 0 0 24)) (q 15) (va_cpy (J (r 15)) (J (q 15)) 0 0 24)) (q 16) (va_cpy (J (r 16)) (J (q 16)) 0 0 8)) b = J b from (mu_1 n16).trans ((mu_1 n15).trans ((mu_1 n14).trans ((mu_1 n13).trans ((mu_1 n12).trans ((mu_1 n11).trans ((mu_1 n10).trans ((mu_o n0).trans ((mu_o n0).trans ((mu_o n0).trans ((mu_o n0).trans ((mu_o n0).trans ((mu_o n0).trans (x90_frJ  n1 n2 n3 n4 n5 n6 n7 n8 n9))))))))))))))) | exact (show (nt_u1 (nt_u1 (nt_u1 (nt_u1 (nt_u1 (nt_u1 (nt_u1 (nt_u (nt_u (nt_u (nt_u (nt_u (nt_u (x90 q r J) (q 0) 1 (J (r 0) 1)) (q 0) 2 (J (r 0) 2)) (q 0) 3 (J (r 0) 3)) (q 0) 4 (J (r 0) 4)) (q 0) 5 (J (r 0) 5)) (q 0) 6 (J (r 0) 6)) (q 10) (va_cpy (J (r 10)) (J (q 10)) 0 0 6)) (q 11) (va_cpy (J (r 11)) (J (q 11)) 0 0 6)) (q 12) (va_cpy (J (r 12)) (J (q 12)) 0 0 6)) (q 13) (va_cpy (J (r 13)) (J (q 13)) 0 0 24)) (q 14) (va_cpy (J (r 14)) (J (q 14)) 0 0 24)) (q 15) (va_cpy (J (r 15)) (J (q 15)) 0 0 24)) (q 16) (va_cpy (J (r 16)) (J (q 16)) 0 0 8)) b = J b from (mu_1 n16).trans ((mu_1 n15).trans ((mu_1 n14).trans ((mu_1 n13).trans ((mu_1 n12).trans ((mu_1 n11).trans ((mu_1 n10).trans ((mu_o n0).trans ((mu_o n0).trans ((mu_o n0).trans ((mu_o n0).trans ((mu_o n0).trans ((mu_o n0).trans (x90_frJ  n1 n2 n3 n4 n5 n6 n7 n8 n9))))))))))))))
end
section
/-! whose ship is whose -/
/-! $State.heaviestLoser -/
def x77_7 (q : Nat → Nat) (v1 : Int32) (J : Nat → Nat → Int32) : Nat → Int32 → Int32 → Int32 → Int32
  | 0, v2, v3, v4 => v2
  | c + 1, v2, v3, v4 => if (J (q 1) 1) ≤ v4 then v2
    else if (x75 q v1 v4 J) ≤ v3 then (x77_7 q v1 J c v2 v3 (v4 + (Int32.ofInt 1)))
      else (x77_7 q v1 J c v4 (x75 q v1 v4 J) (v4 + (Int32.ofInt 1)))
theorem xt77_7 {X : nt_X} {d : Nat} {M : nt_M} {o : Option Value × nt_M} {q : Nat → Nat} {v1 : Int32} {J : Nat → Nat → Int32} (hq : xs_Q M q) : ∀ (c : Nat) (v2 : Int32) (v3 : Int32) (v4 : Int32) (v5 : Int32), (J (q 1) 1).toInt - v4.toInt ≤ c → nt_rn X d 77 (7, [(0, .ref (q 0)), (1, .int v1), (2, .int v2), (3, .int v3), (4, .int v4), (5, .int v5)], [], me_w M J) o → o = (some (.int (x77_7 q v1 J c v2 v3 v4)), me_w M J) := by
  intro c
  induction c with
  | zero =>
    intro v2 v3 v4 v5 hc k
    have k := ly_revb 2 (c' := (10, [(0, .ref (q 0)), (1, .int v1), (2, .int v2), (3, .int v3), (4, .int v4), (5, .int v5)], [.ref (q 0), .int v4], me_w M J)) rfl k
    have k := lz_get (a := (q 0)) (g := 600) (M := me_w M J) (v := .ref (q 1)) rfl (nt_gfR rfl (hq.1 (0, 0, 1) (by decide))) k
    have k := lz_get (a := (q 1)) (g := 801) (M := me_w M J) (v := .int (J (q 1) 1)) rfl (congrArg Value.int (rfl)) k
    have k := ly_revb 1 (c' := (if (J (q 1) 1) ≤ v4 then 46 else 19, [(0, .ref (q 0)), (1, .int v1), (2, .int v2), (3, .int v3), (4, .int v4), (5, .int v5)], [], me_w M J)) rfl k
    have h16 : (J (q 1) 1) ≤ v4 := lx_end hc
    rw [if_pos h16] at k
    have k := ly_revb 1 (c' := (47, [(0, .ref (q 0)), (1, .int v1), (2, .int v2), (3, .int v3), (4, .int v4), (5, .int v5)], [.int v2], me_w M J)) rfl k
    have k := lz_ri rfl (by decide) k
    rw [k, x77_7]
  | succ c ih =>
    intro v2 v3 v4 v5 hc k
    have k := ly_revb 2 (c' := (10, [(0, .ref (q 0)), (1, .int v1), (2, .int v2), (3, .int v3), (4, .int v4), (5, .int v5)], [.ref (q 0), .int v4], me_w M J)) rfl k
    have k := lz_get (a := (q 0)) (g := 600) (M := me_w M J) (v := .ref (q 1)) rfl (nt_gfR rfl (hq.1 (0, 0, 1) (by decide))) k
    have k := lz_get (a := (q 1)) (g := 801) (M := me_w M J) (v := .int (J (q 1) 1)) rfl (congrArg Value.int (rfl)) k
    have k := ly_revb 1 (c' := (if (J (q 1) 1) ≤ v4 then 46 else 19, [(0, .ref (q 0)), (1, .int v1), (2, .int v2), (3, .int v3), (4, .int v4), (5, .int v5)], [], me_w M J)) rfl k
    by_cases h16 : (J (q 1) 1) ≤ v4
    · rw [if_pos h16] at k
      have k := ly_revb 1 (c' := (47, [(0, .ref (q 0)), (1, .int v1), (2, .int v2), (3, .int v3), (4, .int v4), (5, .int v5)], [.int v2], me_w M J)) rfl k
      have k := lz_ri rfl (by decide) k
      rw [k, x77_7, if_pos h16]
    · rw [if_neg h16] at k
      have k := ly_revb 3 (c' := (23, [(0, .ref (q 0)), (1, .int v1), (2, .int v2), (3, .int v3), (4, .int v4), (5, .int v5)], [.int v4, .int v1, .ref (q 0)], me_w M J)) rfl k
      obtain ⟨d1, o1, ed, kc, k⟩ := lz_c (g := 75) (q := 1) (vs := [.ref (q 0), .int v1, .int v4]) (rest := []) rfl rfl (by decide) (Or.inr (Or.inl ⟨_, rfl, rfl⟩)) rfl k
      have e1 := xt75 hq kc
      subst e1
      have k : nt_rn X _ 77 (26, [(0, .ref (q 0)), (1, .int v1), (2, .int v2), (3, .int v3), (4, .int v4), (5, .int v5)], [.int (x75 q v1 v4 J)], me_w M J) _ := k
      have k := ly_revb 4 (c' := (if (x75 q v1 v4 J) ≤ v3 then 40 else 34, [(5, .int (x75 q v1 v4 J)), (0, .ref (q 0)), (1, .int v1), (2, .int v2), (3, .int v3), (4, .int v4)], [], me_w M J)) rfl k
      by_cases h31 : (x75 q v1 v4 J) ≤ v3
      · rw [if_pos h31] at k
        have k := ly_revb 2 (c' := (7, [(4, .int (v4 + (Int32.ofInt 1))), (5, .int (x75 q v1 v4 J)), (0, .ref (q 0)), (1, .int v1), (2, .int v2), (3, .int v3)], [], me_w M J)) rfl k
        have k := nt_rn_w (a := [(4, .int (v4 + (Int32.ofInt 1))), (5, .int (x75 q v1 v4 J)), (0, .ref (q 0)), (1, .int v1), (2, .int v2), (3, .int v3)]) (b := [(0, .ref (q 0)), (1, .int v1), (2, .int v2), (3, .int v3), (4, .int (v4 + (Int32.ofInt 1))), (5, .int (x75 q v1 v4 J))]) ⟨rfl, rfl, rfl, rfl, rfl, rfl, trivial⟩ rfl k
        have k := ih v2 v3 (v4 + (Int32.ofInt 1)) (x75 q v1 v4 J) (lx_dec h16 hc) k
        rw [k, x77_7, if_neg h16, if_pos h31]
      · rw [if_neg h31] at k
        have k := ly_revb 6 (c' := (7, [(4, .int (v4 + (Int32.ofInt 1))), (2, .int v4), (3, .int (x75 q v1 v4 J)), (5, .int (x75 q v1 v4 J)), (0, .ref (q 0)), (1, .int v1)], [], me_w M J)) rfl k
        have k := nt_rn_w (a := [(4, .int (v4 + (Int32.ofInt 1))), (2, .int v4), (3, .int (x75 q v1 v4 J)), (5, .int (x75 q v1 v4 J)), (0, .ref (q 0)), (1, .int v1)]) (b := [(0, .ref (q 0)), (1, .int v1), (2, .int v4), (3, .int (x75 q v1 v4 J)), (4, .int (v4 + (Int32.ofInt 1))), (5, .int (x75 q v1 v4 J))]) ⟨rfl, rfl, rfl, rfl, rfl, rfl, trivial⟩ rfl k
        have k := ih v4 (x75 q v1 v4 J) (v4 + (Int32.ofInt 1)) (x75 q v1 v4 J) (lx_dec h16 hc) k
        rw [k, x77_7, if_neg h16, if_neg h31]
def x77 (q : Nat → Nat) (v1 : Int32) (J : Nat → Nat → Int32) : Int32 := (x77_7 q v1 J ((J (q 1) 1).toNatClampNeg) (Int32.ofInt (-1)) (Int32.ofInt 0) (Int32.ofInt 0))
theorem xt77 {X : nt_X} {d : Nat} {M : nt_M} {o : Option Value × nt_M} {q : Nat → Nat} {v1 : Int32} {J : Nat → Nat → Int32} (hq : xs_Q M q) (k : nt_ev X d 77 [.ref (q 0), .int v1] (me_w M J) o) : o = (some (.int (x77 q v1 J)), me_w M J) := by
  have k : nt_rn X d 77 (0, [(0, .ref (q 0)), (1, .int v1)], [], me_w M J) o := k
  have k := ly_revb 6 (c' := (7, [(4, .int (Int32.ofInt 0)), (3, .int (Int32.ofInt 0)), (2, .int (Int32.ofInt (-1))), (0, .ref (q 0)), (1, .int v1)], [], me_w M J)) rfl k
  have k := nt_rn_w (a := [(4, .int (Int32.ofInt 0)), (3, .int (Int32.ofInt 0)), (2, .int (Int32.ofInt (-1))), (0, .ref (q 0)), (1, .int v1)]) (b := [(0, .ref (q 0)), (1, .int v1), (2, .int (Int32.ofInt (-1))), (3, .int (Int32.ofInt 0)), (4, .int (Int32.ofInt 0)), (5, .int (Int32.ofInt 0))]) ⟨rfl, rfl, rfl, rfl, rfl, trivial⟩ rfl k
  have k := xt77_7 hq  ((J (q 1) 1).toNatClampNeg) (Int32.ofInt (-1)) (Int32.ofInt 0) (Int32.ofInt 0) (Int32.ofInt 0) (lx_beg (by decide)) k
  rw [k, x77]
/-! $State.keelOwner -/
def x78_2 (q : Nat → Nat) (v1 : Int32) (J : Nat → Nat → Int32) : Nat → Int32 → Int32
  | 0, v2 => (Int32.ofInt (-1))
  | c + 1, v2 => if (J (q 1) 2) ≤ v2 then (Int32.ofInt (-1))
    else if (J (q 14) v2.toNatClampNeg) = v1 then if (J (q 13) v2.toNatClampNeg) ≤ 0 then (x78_2 q v1 J c (v2 + (Int32.ofInt 1)))
        else if (J (q 3) v2.toNatClampNeg) = 0 then (J (q 5) v2.toNatClampNeg)
          else (x78_2 q v1 J c (v2 + (Int32.ofInt 1)))
      else (x78_2 q v1 J c (v2 + (Int32.ofInt 1)))
theorem xt78_2 {X : nt_X} {d : Nat} {M : nt_M} {o : Option Value × nt_M} {q : Nat → Nat} {v1 : Int32} {J : Nat → Nat → Int32} (hq : xs_Q M q) : ∀ (c : Nat) (v2 : Int32), (J (q 1) 2).toInt - v2.toInt ≤ c → nt_rn X d 78 (2, [(0, .ref (q 0)), (1, .int v1), (2, .int v2)], [], me_w M J) o → o = (some (.int (x78_2 q v1 J c v2)), me_w M J) := by
  intro c
  induction c with
  | zero =>
    intro v2 hc k
    have k := ly_revb 2 (c' := (4, [(0, .ref (q 0)), (1, .int v1), (2, .int v2)], [.ref (q 0), .int v2], me_w M J)) rfl k
    have k := lz_get (a := (q 0)) (g := 600) (M := me_w M J) (v := .ref (q 1)) rfl (nt_gfR rfl (hq.1 (0, 0, 1) (by decide))) k
    have k := lz_get (a := (q 1)) (g := 802) (M := me_w M J) (v := .int (J (q 1) 2)) rfl (congrArg Value.int (rfl)) k
    have k := ly_revb 1 (c' := (if (J (q 1) 2) ≤ v2 then 60 else 13, [(0, .ref (q 0)), (1, .int v1), (2, .int v2)], [], me_w M J)) rfl k
    have h10 : (J (q 1) 2) ≤ v2 := lx_end hc
    rw [if_pos h10] at k
    have k := ly_revb 1 (c' := (61, [(0, .ref (q 0)), (1, .int v1), (2, .int v2)], [.int (Int32.ofInt (-1))], me_w M J)) rfl k
    have k := lz_ri rfl (by decide) k
    rw [k, x78_2]
  | succ c ih =>
    intro v2 hc k
    have k := ly_revb 2 (c' := (4, [(0, .ref (q 0)), (1, .int v1), (2, .int v2)], [.ref (q 0), .int v2], me_w M J)) rfl k
    have k := lz_get (a := (q 0)) (g := 600) (M := me_w M J) (v := .ref (q 1)) rfl (nt_gfR rfl (hq.1 (0, 0, 1) (by decide))) k
    have k := lz_get (a := (q 1)) (g := 802) (M := me_w M J) (v := .int (J (q 1) 2)) rfl (congrArg Value.int (rfl)) k
    have k := ly_revb 1 (c' := (if (J (q 1) 2) ≤ v2 then 60 else 13, [(0, .ref (q 0)), (1, .int v1), (2, .int v2)], [], me_w M J)) rfl k
    by_cases h10 : (J (q 1) 2) ≤ v2
    · rw [if_pos h10] at k
      have k := ly_revb 1 (c' := (61, [(0, .ref (q 0)), (1, .int v1), (2, .int v2)], [.int (Int32.ofInt (-1))], me_w M J)) rfl k
      have k := lz_ri rfl (by decide) k
      rw [k, x78_2, if_pos h10]
    · rw [if_neg h10] at k
      have k := ly_revb 1 (c' := (14, [(0, .ref (q 0)), (1, .int v1), (2, .int v2)], [.ref (q 0)], me_w M J)) rfl k
      have k := lz_get (a := (q 0)) (g := 611) (M := me_w M J) (v := .ref (q 14)) rfl (nt_gfR rfl (hq.1 (0, 11, 14) (by decide))) k
      have k := ly_revb 1 (c' := (18, [(0, .ref (q 0)), (1, .int v1), (2, .int v2)], [.int v2, .ref (q 14)], me_w M J)) rfl k
      have k := mx_iald (v := J (q 14) v2.toNatClampNeg) rfl (hq.2.2.1 14 (by omega)) (rfl) k
      have k := ly_revb 2 (c' := (if (J (q 14) v2.toNatClampNeg) = v1 then 23 else 54, [(0, .ref (q 0)), (1, .int v1), (2, .int v2)], [], me_w M J)) rfl k
      by_cases h20 : (J (q 14) v2.toNatClampNeg) = v1
      · rw [if_pos h20] at k
        have k := ly_revb 1 (c' := (24, [(0, .ref (q 0)), (1, .int v1), (2, .int v2)], [.ref (q 0)], me_w M J)) rfl k
        have k := lz_get (a := (q 0)) (g := 610) (M := me_w M J) (v := .ref (q 13)) rfl (nt_gfR rfl (hq.1 (0, 10, 13) (by decide))) k
        have k := ly_revb 1 (c' := (28, [(0, .ref (q 0)), (1, .int v1), (2, .int v2)], [.int v2, .ref (q 13)], me_w M J)) rfl k
        have k := mx_iald (v := J (q 13) v2.toNatClampNeg) rfl (hq.2.2.1 13 (by omega)) (rfl) k
        have k := ly_revb 1 (c' := (if (J (q 13) v2.toNatClampNeg) ≤ 0 then 54 else 32, [(0, .ref (q 0)), (1, .int v1), (2, .int v2)], [], me_w M J)) rfl k
        by_cases h29 : (J (q 13) v2.toNatClampNeg) ≤ 0
        · rw [if_pos h29] at k
          have k := ly_revb 2 (c' := (2, [(2, .int (v2 + (Int32.ofInt 1))), (0, .ref (q 0)), (1, .int v1)], [], me_w M J)) rfl k
          have k := nt_rn_w (a := [(2, .int (v2 + (Int32.ofInt 1))), (0, .ref (q 0)), (1, .int v1)]) (b := [(0, .ref (q 0)), (1, .int v1), (2, .int (v2 + (Int32.ofInt 1)))]) ⟨rfl, rfl, rfl, trivial⟩ rfl k
          have k := ih (v2 + (Int32.ofInt 1)) (lx_dec h10 hc) k
          rw [k, x78_2, if_neg h10, if_pos h20, if_pos h29]
        · rw [if_neg h29] at k
          have k := ly_revb 1 (c' := (33, [(0, .ref (q 0)), (1, .int v1), (2, .int v2)], [.ref (q 0)], me_w M J)) rfl k
          have k := lz_get (a := (q 0)) (g := 600) (M := me_w M J) (v := .ref (q 1)) rfl (nt_gfR rfl (hq.1 (0, 0, 1) (by decide))) k
          have k := lz_get (a := (q 1)) (g := 806) (M := me_w M J) (v := .ref (q 3)) rfl (nt_gfR rfl (hq.1 (1, 6, 3) (by decide))) k
          have k := ly_revb 1 (c' := (40, [(0, .ref (q 0)), (1, .int v1), (2, .int v2)], [.int v2, .ref (q 3)], me_w M J)) rfl k
          have k := mx_iald (v := J (q 3) v2.toNatClampNeg) rfl (hq.2.2.1 3 (by omega)) (rfl) k
          have k := ly_revb 1 (c' := (if (J (q 3) v2.toNatClampNeg) = 0 then 44 else 54, [(0, .ref (q 0)), (1, .int v1), (2, .int v2)], [], me_w M J)) rfl k
          by_cases h41 : (J (q 3) v2.toNatClampNeg) = 0
          · rw [if_pos h41] at k
            have k := ly_revb 1 (c' := (45, [(0, .ref (q 0)), (1, .int v1), (2, .int v2)], [.ref (q 0)], me_w M J)) rfl k
            have k := lz_get (a := (q 0)) (g := 600) (M := me_w M J) (v := .ref (q 1)) rfl (nt_gfR rfl (hq.1 (0, 0, 1) (by decide))) k
            have k := lz_get (a := (q 1)) (g := 808) (M := me_w M J) (v := .ref (q 5)) rfl (nt_gfR rfl (hq.1 (1, 8, 5) (by decide))) k
            have k := ly_revb 1 (c' := (52, [(0, .ref (q 0)), (1, .int v1), (2, .int v2)], [.int v2, .ref (q 5)], me_w M J)) rfl k
            have k := mx_iald (v := J (q 5) v2.toNatClampNeg) rfl (hq.2.2.1 5 (by omega)) (rfl) k
            have k := lz_ri rfl (by decide) k
            rw [k, x78_2, if_neg h10, if_pos h20, if_neg h29, if_pos h41]
          · rw [if_neg h41] at k
            have k := ly_revb 2 (c' := (2, [(2, .int (v2 + (Int32.ofInt 1))), (0, .ref (q 0)), (1, .int v1)], [], me_w M J)) rfl k
            have k := nt_rn_w (a := [(2, .int (v2 + (Int32.ofInt 1))), (0, .ref (q 0)), (1, .int v1)]) (b := [(0, .ref (q 0)), (1, .int v1), (2, .int (v2 + (Int32.ofInt 1)))]) ⟨rfl, rfl, rfl, trivial⟩ rfl k
            have k := ih (v2 + (Int32.ofInt 1)) (lx_dec h10 hc) k
            rw [k, x78_2, if_neg h10, if_pos h20, if_neg h29, if_neg h41]
      · rw [if_neg h20] at k
        have k := ly_revb 2 (c' := (2, [(2, .int (v2 + (Int32.ofInt 1))), (0, .ref (q 0)), (1, .int v1)], [], me_w M J)) rfl k
        have k := nt_rn_w (a := [(2, .int (v2 + (Int32.ofInt 1))), (0, .ref (q 0)), (1, .int v1)]) (b := [(0, .ref (q 0)), (1, .int v1), (2, .int (v2 + (Int32.ofInt 1)))]) ⟨rfl, rfl, rfl, trivial⟩ rfl k
        have k := ih (v2 + (Int32.ofInt 1)) (lx_dec h10 hc) k
        rw [k, x78_2, if_neg h10, if_neg h20]
def x78 (q : Nat → Nat) (v1 : Int32) (J : Nat → Nat → Int32) : Int32 := (x78_2 q v1 J ((J (q 1) 2).toNatClampNeg) (Int32.ofInt 0))
theorem xt78 {X : nt_X} {d : Nat} {M : nt_M} {o : Option Value × nt_M} {q : Nat → Nat} {v1 : Int32} {J : Nat → Nat → Int32} (hq : xs_Q M q) (k : nt_ev X d 78 [.ref (q 0), .int v1] (me_w M J) o) : o = (some (.int (x78 q v1 J)), me_w M J) := by
  have k : nt_rn X d 78 (0, [(0, .ref (q 0)), (1, .int v1)], [], me_w M J) o := k
  have k := ly_revb 2 (c' := (2, [(2, .int (Int32.ofInt 0)), (0, .ref (q 0)), (1, .int v1)], [], me_w M J)) rfl k
  have k := nt_rn_w (a := [(2, .int (Int32.ofInt 0)), (0, .ref (q 0)), (1, .int v1)]) (b := [(0, .ref (q 0)), (1, .int v1), (2, .int (Int32.ofInt 0))]) ⟨rfl, rfl, rfl, trivial⟩ rfl k
  have k := xt78_2 hq  ((J (q 1) 2).toNatClampNeg) (Int32.ofInt 0) (lx_beg (by decide)) k
  rw [k, x78]
/-! $State.identity -/
def x76 (q : Nat → Nat) (v1 : Int32) (v2 : Int32) (J : Nat → Nat → Int32) : Int32 := if v1 = (Int32.ofInt 2) then v2
  else if (J (q 10) v2.toNatClampNeg) = (Int32.ofInt 2) then (Int32.ofInt (-1))
    else if v1 = (Int32.ofInt 1) then (x77 q v2 J)
      else (x78 q v2 J)
theorem xt76 {X : nt_X} {d : Nat} {M : nt_M} {o : Option Value × nt_M} {q : Nat → Nat} {v1 : Int32} {v2 : Int32} {J : Nat → Nat → Int32} (hq : xs_Q M q) (k : nt_ev X d 76 [.ref (q 0), .int v1, .int v2] (me_w M J) o) : o = (some (.int (x76 q v1 v2 J)), me_w M J) := by
  have k : nt_rn X d 76 (0, [(0, .ref (q 0)), (1, .int v1), (2, .int v2)], [], me_w M J) o := k
  have k := ly_revb 3 (c' := (if v1 = (Int32.ofInt 2) then 5 else 7, [(0, .ref (q 0)), (1, .int v1), (2, .int v2)], [], me_w M J)) rfl k
  by_cases h2 : v1 = (Int32.ofInt 2)
  · rw [if_pos h2] at k
    have k := ly_revb 1 (c' := (6, [(0, .ref (q 0)), (1, .int v1), (2, .int v2)], [.int v2], me_w M J)) rfl k
    have k := lz_ri rfl (by decide) k
    rw [k, x76, if_pos h2]
  · rw [if_neg h2] at k
    have k := ly_revb 1 (c' := (8, [(0, .ref (q 0)), (1, .int v1), (2, .int v2)], [.ref (q 0)], me_w M J)) rfl k
    have k := lz_get (a := (q 0)) (g := 607) (M := me_w M J) (v := .ref (q 10)) rfl (nt_gfR rfl (hq.1 (0, 7, 10) (by decide))) k
    have k := ly_revb 1 (c' := (12, [(0, .ref (q 0)), (1, .int v1), (2, .int v2)], [.int v2, .ref (q 10)], me_w M J)) rfl k
    have k := mx_iald (v := J (q 10) v2.toNatClampNeg) rfl (hq.2.2.1 10 (by omega)) (rfl) k
    have k := ly_revb 2 (c' := (if (J (q 10) v2.toNatClampNeg) = (Int32.ofInt 2) then 17 else 19, [(0, .ref (q 0)), (1, .int v1), (2, .int v2)], [], me_w M J)) rfl k
    by_cases h14 : (J (q 10) v2.toNatClampNeg) = (Int32.ofInt 2)
    · rw [if_pos h14] at k
      have k := ly_revb 1 (c' := (18, [(0, .ref (q 0)), (1, .int v1), (2, .int v2)], [.int (Int32.ofInt (-1))], me_w M J)) rfl k
      have k := lz_ri rfl (by decide) k
      rw [k, x76, if_neg h2, if_pos h14]
    · rw [if_neg h14] at k
      have k := ly_revb 3 (c' := (if v1 = (Int32.ofInt 1) then 24 else 32, [(0, .ref (q 0)), (1, .int v1), (2, .int v2)], [], me_w M J)) rfl k
      by_cases h21 : v1 = (Int32.ofInt 1)
      · rw [if_pos h21] at k
        have k := ly_revb 2 (c' := (26, [(0, .ref (q 0)), (1, .int v1), (2, .int v2)], [.int v2, .ref (q 0)], me_w M J)) rfl k
        obtain ⟨d1, o1, ed, kc, k⟩ := lz_c (g := 77) (q := 1) (vs := [.ref (q 0), .int v2]) (rest := []) rfl rfl (by decide) (Or.inr (Or.inl ⟨_, rfl, rfl⟩)) rfl k
        have e1 := xt77 hq kc
        subst e1
        have k : nt_rn X _ 76 (29, [(0, .ref (q 0)), (1, .int v1), (2, .int v2)], [.int (x77 q v2 J)], me_w M J) _ := k
        have k := ly_revb 1 (c' := (37, [(0, .ref (q 0)), (1, .int v1), (2, .int v2)], [.int (x77 q v2 J)], me_w M J)) rfl k
        have k := lz_ri rfl (by decide) k
        rw [k, x76, if_neg h2, if_neg h14, if_pos h21]
      · rw [if_neg h21] at k
        have k := ly_revb 2 (c' := (34, [(0, .ref (q 0)), (1, .int v1), (2, .int v2)], [.int v2, .ref (q 0)], me_w M J)) rfl k
        obtain ⟨d1, o1, ed, kc, k⟩ := lz_c (g := 78) (q := 1) (vs := [.ref (q 0), .int v2]) (rest := []) rfl rfl (by decide) (Or.inr (Or.inl ⟨_, rfl, rfl⟩)) rfl k
        have e1 := xt78 hq kc
        subst e1
        have k : nt_rn X _ 76 (37, [(0, .ref (q 0)), (1, .int v1), (2, .int v2)], [.int (x78 q v2 J)], me_w M J) _ := k
        have k := lz_ri rfl (by decide) k
        rw [k, x76, if_neg h2, if_neg h14, if_neg h21]
/-! $State.lostShips -/
def x79_4 (q : Nat → Nat) (J : Nat → Nat → Int32) : Nat → Int32 → Int32 → Int32
  | 0, v1, v2 => v1
  | c + 1, v1, v2 => if (J (q 1) 1) ≤ v2 then v1
    else if (J (q 10) v2.toNatClampNeg) = (Int32.ofInt 2) then (x79_4 q J c (v1 ||| ((Int32.ofInt 1) <<< (v2 &&& 31))) (v2 + (Int32.ofInt 1)))
      else (x79_4 q J c v1 (v2 + (Int32.ofInt 1)))
theorem xt79_4 {X : nt_X} {d : Nat} {M : nt_M} {o : Option Value × nt_M} {q : Nat → Nat} {J : Nat → Nat → Int32} (hq : xs_Q M q) : ∀ (c : Nat) (v1 : Int32) (v2 : Int32), (J (q 1) 1).toInt - v2.toInt ≤ c → nt_rn X d 79 (4, [(0, .ref (q 0)), (1, .int v1), (2, .int v2)], [], me_w M J) o → o = (some (.int (x79_4 q J c v1 v2)), me_w M J) := by
  intro c
  induction c with
  | zero =>
    intro v1 v2 hc k
    have k := ly_revb 2 (c' := (6, [(0, .ref (q 0)), (1, .int v1), (2, .int v2)], [.ref (q 0), .int v2], me_w M J)) rfl k
    have k := lz_get (a := (q 0)) (g := 600) (M := me_w M J) (v := .ref (q 1)) rfl (nt_gfR rfl (hq.1 (0, 0, 1) (by decide))) k
    have k := lz_get (a := (q 1)) (g := 801) (M := me_w M J) (v := .int (J (q 1) 1)) rfl (congrArg Value.int (rfl)) k
    have k := ly_revb 1 (c' := (if (J (q 1) 1) ≤ v2 then 37 else 15, [(0, .ref (q 0)), (1, .int v1), (2, .int v2)], [], me_w M J)) rfl k
    have h12 : (J (q 1) 1) ≤ v2 := lx_end hc
    rw [if_pos h12] at k
    have k := ly_revb 1 (c' := (38, [(0, .ref (q 0)), (1, .int v1), (2, .int v2)], [.int v1], me_w M J)) rfl k
    have k := lz_ri rfl (by decide) k
    rw [k, x79_4]
  | succ c ih =>
    intro v1 v2 hc k
    have k := ly_revb 2 (c' := (6, [(0, .ref (q 0)), (1, .int v1), (2, .int v2)], [.ref (q 0), .int v2], me_w M J)) rfl k
    have k := lz_get (a := (q 0)) (g := 600) (M := me_w M J) (v := .ref (q 1)) rfl (nt_gfR rfl (hq.1 (0, 0, 1) (by decide))) k
    have k := lz_get (a := (q 1)) (g := 801) (M := me_w M J) (v := .int (J (q 1) 1)) rfl (congrArg Value.int (rfl)) k
    have k := ly_revb 1 (c' := (if (J (q 1) 1) ≤ v2 then 37 else 15, [(0, .ref (q 0)), (1, .int v1), (2, .int v2)], [], me_w M J)) rfl k
    by_cases h12 : (J (q 1) 1) ≤ v2
    · rw [if_pos h12] at k
      have k := ly_revb 1 (c' := (38, [(0, .ref (q 0)), (1, .int v1), (2, .int v2)], [.int v1], me_w M J)) rfl k
      have k := lz_ri rfl (by decide) k
      rw [k, x79_4, if_pos h12]
    · rw [if_neg h12] at k
      have k := ly_revb 1 (c' := (16, [(0, .ref (q 0)), (1, .int v1), (2, .int v2)], [.ref (q 0)], me_w M J)) rfl k
      have k := lz_get (a := (q 0)) (g := 607) (M := me_w M J) (v := .ref (q 10)) rfl (nt_gfR rfl (hq.1 (0, 7, 10) (by decide))) k
      have k := ly_revb 1 (c' := (20, [(0, .ref (q 0)), (1, .int v1), (2, .int v2)], [.int v2, .ref (q 10)], me_w M J)) rfl k
      have k := mx_iald (v := J (q 10) v2.toNatClampNeg) rfl (hq.2.2.1 10 (by omega)) (rfl) k
      have k := ly_revb 2 (c' := (if (J (q 10) v2.toNatClampNeg) = (Int32.ofInt 2) then 25 else 31, [(0, .ref (q 0)), (1, .int v1), (2, .int v2)], [], me_w M J)) rfl k
      by_cases h22 : (J (q 10) v2.toNatClampNeg) = (Int32.ofInt 2)
      · rw [if_pos h22] at k
        have k := ly_revb 8 (c' := (4, [(2, .int (v2 + (Int32.ofInt 1))), (1, .int (v1 ||| ((Int32.ofInt 1) <<< (v2 &&& 31)))), (0, .ref (q 0))], [], me_w M J)) rfl k
        have k := nt_rn_w (a := [(2, .int (v2 + (Int32.ofInt 1))), (1, .int (v1 ||| ((Int32.ofInt 1) <<< (v2 &&& 31)))), (0, .ref (q 0))]) (b := [(0, .ref (q 0)), (1, .int (v1 ||| ((Int32.ofInt 1) <<< (v2 &&& 31)))), (2, .int (v2 + (Int32.ofInt 1)))]) ⟨rfl, rfl, rfl, trivial⟩ rfl k
        have k := ih (v1 ||| ((Int32.ofInt 1) <<< (v2 &&& 31))) (v2 + (Int32.ofInt 1)) (lx_dec h12 hc) k
        rw [k, x79_4, if_neg h12, if_pos h22]
      · rw [if_neg h22] at k
        have k := ly_revb 2 (c' := (4, [(2, .int (v2 + (Int32.ofInt 1))), (0, .ref (q 0)), (1, .int v1)], [], me_w M J)) rfl k
        have k := nt_rn_w (a := [(2, .int (v2 + (Int32.ofInt 1))), (0, .ref (q 0)), (1, .int v1)]) (b := [(0, .ref (q 0)), (1, .int v1), (2, .int (v2 + (Int32.ofInt 1)))]) ⟨rfl, rfl, rfl, trivial⟩ rfl k
        have k := ih v1 (v2 + (Int32.ofInt 1)) (lx_dec h12 hc) k
        rw [k, x79_4, if_neg h12, if_neg h22]
def x79 (q : Nat → Nat) (J : Nat → Nat → Int32) : Int32 := (x79_4 q J ((J (q 1) 1).toNatClampNeg) (Int32.ofInt 0) (Int32.ofInt 0))
theorem xt79 {X : nt_X} {d : Nat} {M : nt_M} {o : Option Value × nt_M} {q : Nat → Nat} {J : Nat → Nat → Int32} (hq : xs_Q M q) (k : nt_ev X d 79 [.ref (q 0)] (me_w M J) o) : o = (some (.int (x79 q J)), me_w M J) := by
  have k : nt_rn X d 79 (0, [(0, .ref (q 0))], [], me_w M J) o := k
  have k := ly_revb 4 (c' := (4, [(2, .int (Int32.ofInt 0)), (1, .int (Int32.ofInt 0)), (0, .ref (q 0))], [], me_w M J)) rfl k
  have k := nt_rn_w (a := [(2, .int (Int32.ofInt 0)), (1, .int (Int32.ofInt 0)), (0, .ref (q 0))]) (b := [(0, .ref (q 0)), (1, .int (Int32.ofInt 0)), (2, .int (Int32.ofInt 0))]) ⟨rfl, rfl, rfl, trivial⟩ rfl k
  have k := xt79_4 hq  ((J (q 1) 1).toNatClampNeg) (Int32.ofInt 0) (Int32.ofInt 0) (lx_beg (by decide)) k
  rw [k, x79]
/-! Model.ofOwner -/
def x220_5 (p : Nat → Nat) (v1 : Int32) (v2 : Int32) (J : Nat → Nat → Int32) : Nat → Int32 → Int32 → Int32
  | 0, v3, v4 => v3
  | c + 1, v3, v4 => if (J (p 4) 2) ≤ v4 then v3
    else if (x171 p v4 v1 J) = 0 then (x220_5 p v1 v2 J c (v3 + (Int32.ofInt 0)) (v4 + (Int32.ofInt 1)))
      else if (x173 p v4 (Int32.ofInt 2) J) = v2 then (x220_5 p v1 v2 J c (v3 + (Int32.ofInt 1)) (v4 + (Int32.ofInt 1)))
        else (x220_5 p v1 v2 J c (v3 + (Int32.ofInt 0)) (v4 + (Int32.ofInt 1)))
theorem xt220_5 {X : nt_X} {d : Nat} {M : nt_M} {o : Option Value × nt_M} {p : Nat → Nat} {v1 : Int32} {v2 : Int32} {J : Nat → Nat → Int32} (hp : xs_P M p) : ∀ (c : Nat) (v3 : Int32) (v4 : Int32), (J (p 4) 2).toInt - v4.toInt ≤ c → nt_rn X d 220 (5, [(0, .ref (p 0)), (1, .int v1), (2, .int v2), (3, .int v3), (4, .int v4)], [], me_w M J) o → o = (some (.int (x220_5 p v1 v2 J c v3 v4)), me_w M J) := by
  intro c
  induction c with
  | zero =>
    intro v3 v4 hc k
    have k := ly_revb 2 (c' := (8, [(0, .ref (p 0)), (1, .int v1), (2, .int v2), (3, .int v3), (4, .int v4)], [.ref (p 0), .int v4], me_w M J)) rfl k
    have k := lz_get (a := (p 0)) (g := 1127) (M := me_w M J) (v := .ref (p 4)) rfl (nt_gfR rfl (hp.1 (0, 27, 4) (by decide))) k
    have k := ly_revb 1 (c' := (12, [(0, .ref (p 0)), (1, .int v1), (2, .int v2), (3, .int v3), (4, .int v4)], [.int (Int32.ofInt 2), .ref (p 4), .int v4], me_w M J)) rfl k
    have k := mx_iald (v := J (p 4) 2) rfl (hp.2.2.1 4 (by omega)) ((congrArg (J (p 4)) (show (Int32.ofInt 2).toNatClampNeg = 2 from rfl)).trans (rfl)) k
    have k := ly_revb 1 (c' := (if (J (p 4) 2) ≤ v4 then 51 else 16, [(0, .ref (p 0)), (1, .int v1), (2, .int v2), (3, .int v3), (4, .int v4)], [], me_w M J)) rfl k
    have h13 : (J (p 4) 2) ≤ v4 := lx_end hc
    rw [if_pos h13] at k
    have k := ly_revb 1 (c' := (52, [(0, .ref (p 0)), (1, .int v1), (2, .int v2), (3, .int v3), (4, .int v4)], [.int v3], me_w M J)) rfl k
    have k := lz_ri rfl (by decide) k
    rw [k, x220_5]
  | succ c ih =>
    intro v3 v4 hc k
    have k := ly_revb 2 (c' := (8, [(0, .ref (p 0)), (1, .int v1), (2, .int v2), (3, .int v3), (4, .int v4)], [.ref (p 0), .int v4], me_w M J)) rfl k
    have k := lz_get (a := (p 0)) (g := 1127) (M := me_w M J) (v := .ref (p 4)) rfl (nt_gfR rfl (hp.1 (0, 27, 4) (by decide))) k
    have k := ly_revb 1 (c' := (12, [(0, .ref (p 0)), (1, .int v1), (2, .int v2), (3, .int v3), (4, .int v4)], [.int (Int32.ofInt 2), .ref (p 4), .int v4], me_w M J)) rfl k
    have k := mx_iald (v := J (p 4) 2) rfl (hp.2.2.1 4 (by omega)) ((congrArg (J (p 4)) (show (Int32.ofInt 2).toNatClampNeg = 2 from rfl)).trans (rfl)) k
    have k := ly_revb 1 (c' := (if (J (p 4) 2) ≤ v4 then 51 else 16, [(0, .ref (p 0)), (1, .int v1), (2, .int v2), (3, .int v3), (4, .int v4)], [], me_w M J)) rfl k
    by_cases h13 : (J (p 4) 2) ≤ v4
    · rw [if_pos h13] at k
      have k := ly_revb 1 (c' := (52, [(0, .ref (p 0)), (1, .int v1), (2, .int v2), (3, .int v3), (4, .int v4)], [.int v3], me_w M J)) rfl k
      have k := lz_ri rfl (by decide) k
      rw [k, x220_5, if_pos h13]
    · rw [if_neg h13] at k
      have k := ly_revb 4 (c' := (21, [(0, .ref (p 0)), (1, .int v1), (2, .int v2), (3, .int v3), (4, .int v4)], [.int v1, .int v4, .ref (p 0), .int v3], me_w M J)) rfl k
      obtain ⟨d1, o1, ed, kc, k⟩ := lz_c (g := 171) (q := 1) (vs := [.ref (p 0), .int v4, .int v1]) (rest := [.int v3]) rfl rfl (by decide) (Or.inr (Or.inl ⟨_, rfl, rfl⟩)) rfl k
      have e1 := xt171 hp kc
      subst e1
      have k : nt_rn X _ 220 (24, [(0, .ref (p 0)), (1, .int v1), (2, .int v2), (3, .int v3), (4, .int v4)], [.int (x171 p v4 v1 J), .int v3], me_w M J) _ := k
      have k := ly_revb 1 (c' := (if (x171 p v4 v1 J) = 0 then 42 else 27, [(0, .ref (p 0)), (1, .int v1), (2, .int v2), (3, .int v3), (4, .int v4)], [.int v3], me_w M J)) rfl k
      by_cases h24 : (x171 p v4 v1 J) = 0
      · rw [if_pos h24] at k
        have k := ly_revb 5 (c' := (5, [(4, .int (v4 + (Int32.ofInt 1))), (3, .int (v3 + (Int32.ofInt 0))), (0, .ref (p 0)), (1, .int v1), (2, .int v2)], [], me_w M J)) rfl k
        have k := nt_rn_w (a := [(4, .int (v4 + (Int32.ofInt 1))), (3, .int (v3 + (Int32.ofInt 0))), (0, .ref (p 0)), (1, .int v1), (2, .int v2)]) (b := [(0, .ref (p 0)), (1, .int v1), (2, .int v2), (3, .int (v3 + (Int32.ofInt 0))), (4, .int (v4 + (Int32.ofInt 1)))]) ⟨rfl, rfl, rfl, rfl, rfl, trivial⟩ rfl k
        have k := ih (v3 + (Int32.ofInt 0)) (v4 + (Int32.ofInt 1)) (lx_dec h13 hc) k
        rw [k, x220_5, if_neg h13, if_pos h24]
      · rw [if_neg h24] at k
        have k := ly_revb 3 (c' := (31, [(0, .ref (p 0)), (1, .int v1), (2, .int v2), (3, .int v3), (4, .int v4)], [.int (Int32.ofInt 2), .int v4, .ref (p 0), .int v3], me_w M J)) rfl k
        obtain ⟨d1, o1, ed, kc, k⟩ := lz_c (g := 173) (q := 1) (vs := [.ref (p 0), .int v4, .int (Int32.ofInt 2)]) (rest := [.int v3]) rfl rfl (by decide) (Or.inr (Or.inl ⟨_, rfl, rfl⟩)) rfl k
        have e1 := xt173 hp kc
        subst e1
        have k : nt_rn X _ 220 (34, [(0, .ref (p 0)), (1, .int v1), (2, .int v2), (3, .int v3), (4, .int v4)], [.int (x173 p v4 (Int32.ofInt 2) J), .int v3], me_w M J) _ := k
        have k := ly_revb 2 (c' := (if (x173 p v4 (Int32.ofInt 2) J) = v2 then 38 else 42, [(0, .ref (p 0)), (1, .int v1), (2, .int v2), (3, .int v3), (4, .int v4)], [.int v3], me_w M J)) rfl k
        by_cases h35 : (x173 p v4 (Int32.ofInt 2) J) = v2
        · rw [if_pos h35] at k
          have k := ly_revb 6 (c' := (5, [(4, .int (v4 + (Int32.ofInt 1))), (3, .int (v3 + (Int32.ofInt 1))), (0, .ref (p 0)), (1, .int v1), (2, .int v2)], [], me_w M J)) rfl k
          have k := nt_rn_w (a := [(4, .int (v4 + (Int32.ofInt 1))), (3, .int (v3 + (Int32.ofInt 1))), (0, .ref (p 0)), (1, .int v1), (2, .int v2)]) (b := [(0, .ref (p 0)), (1, .int v1), (2, .int v2), (3, .int (v3 + (Int32.ofInt 1))), (4, .int (v4 + (Int32.ofInt 1)))]) ⟨rfl, rfl, rfl, rfl, rfl, trivial⟩ rfl k
          have k := ih (v3 + (Int32.ofInt 1)) (v4 + (Int32.ofInt 1)) (lx_dec h13 hc) k
          rw [k, x220_5, if_neg h13, if_neg h24, if_pos h35]
        · rw [if_neg h35] at k
          have k := ly_revb 5 (c' := (5, [(4, .int (v4 + (Int32.ofInt 1))), (3, .int (v3 + (Int32.ofInt 0))), (0, .ref (p 0)), (1, .int v1), (2, .int v2)], [], me_w M J)) rfl k
          have k := nt_rn_w (a := [(4, .int (v4 + (Int32.ofInt 1))), (3, .int (v3 + (Int32.ofInt 0))), (0, .ref (p 0)), (1, .int v1), (2, .int v2)]) (b := [(0, .ref (p 0)), (1, .int v1), (2, .int v2), (3, .int (v3 + (Int32.ofInt 0))), (4, .int (v4 + (Int32.ofInt 1)))]) ⟨rfl, rfl, rfl, rfl, rfl, trivial⟩ rfl k
          have k := ih (v3 + (Int32.ofInt 0)) (v4 + (Int32.ofInt 1)) (lx_dec h13 hc) k
          rw [k, x220_5, if_neg h13, if_neg h24, if_neg h35]
def x220 (p : Nat → Nat) (v1 : Int32) (v2 : Int32) (J : Nat → Nat → Int32) : Int32 := (x220_5 p v1 v2 J ((J (p 4) 2).toNatClampNeg) (Int32.ofInt 0) (Int32.ofInt 0))
theorem xt220 {X : nt_X} {d : Nat} {M : nt_M} {o : Option Value × nt_M} {p : Nat → Nat} {v1 : Int32} {v2 : Int32} {J : Nat → Nat → Int32} (hp : xs_P M p) (k : nt_ev X d 220 [.ref (p 0), .int v1, .int v2] (me_w M J) o) : o = (some (.int (x220 p v1 v2 J)), me_w M J) := by
  have k : nt_rn X d 220 (0, [(0, .ref (p 0)), (1, .int v1), (2, .int v2)], [], me_w M J) o := k
  have k := ly_revb 4 (c' := (5, [(4, .int (Int32.ofInt 0)), (3, .int (Int32.ofInt 0)), (0, .ref (p 0)), (1, .int v1), (2, .int v2)], [], me_w M J)) rfl k
  have k := nt_rn_w (a := [(4, .int (Int32.ofInt 0)), (3, .int (Int32.ofInt 0)), (0, .ref (p 0)), (1, .int v1), (2, .int v2)]) (b := [(0, .ref (p 0)), (1, .int v1), (2, .int v2), (3, .int (Int32.ofInt 0)), (4, .int (Int32.ofInt 0))]) ⟨rfl, rfl, rfl, rfl, rfl, trivial⟩ rfl k
  have k := xt220_5 hp  ((J (p 4) 2).toNatClampNeg) (Int32.ofInt 0) (Int32.ofInt 0) (lx_beg (by decide)) k
  rw [k, x220]
/-! Model.mostIn -/
def x219_7 (p : Nat → Nat) (v1 : Int32) (J : Nat → Nat → Int32) : Nat → Int32 → Int32 → Int32 → Int32
  | 0, v2, v3, v4 => v2
  | c + 1, v2, v3, v4 => if (J (p 4) 1) ≤ v4 then v2
    else if (x220 p v1 v4 J) ≤ v3 then if (x220 p v1 v4 J) ≤ v3 then (x219_7 p v1 J c v2 v3 (v4 + (Int32.ofInt 1)))
        else (x219_7 p v1 J c v2 (x220 p v1 v4 J) (v4 + (Int32.ofInt 1)))
      else if (x220 p v1 v4 J) ≤ v3 then (x219_7 p v1 J c v4 v3 (v4 + (Int32.ofInt 1)))
        else (x219_7 p v1 J c v4 (x220 p v1 v4 J) (v4 + (Int32.ofInt 1)))
theorem xt219_7 {X : nt_X} {d : Nat} {M : nt_M} {o : Option Value × nt_M} {p : Nat → Nat} {v1 : Int32} {J : Nat → Nat → Int32} (hp : xs_P M p) : ∀ (c : Nat) (v2 : Int32) (v3 : Int32) (v4 : Int32) (v5 : Int32), (J (p 4) 1).toInt - v4.toInt ≤ c → nt_rn X d 219 (7, [(0, .ref (p 0)), (1, .int v1), (2, .int v2), (3, .int v3), (4, .int v4), (5, .int v5)], [], me_w M J) o → o = (some (.int (x219_7 p v1 J c v2 v3 v4)), me_w M J) := by
  intro c
  induction c with
  | zero =>
    intro v2 v3 v4 v5 hc k
    have k := ly_revb 2 (c' := (10, [(0, .ref (p 0)), (1, .int v1), (2, .int v2), (3, .int v3), (4, .int v4), (5, .int v5)], [.ref (p 0), .int v4], me_w M J)) rfl k
    have k := lz_get (a := (p 0)) (g := 1127) (M := me_w M J) (v := .ref (p 4)) rfl (nt_gfR rfl (hp.1 (0, 27, 4) (by decide))) k
    have k := ly_revb 1 (c' := (14, [(0, .ref (p 0)), (1, .int v1), (2, .int v2), (3, .int v3), (4, .int v4), (5, .int v5)], [.int (Int32.ofInt 1), .ref (p 4), .int v4], me_w M J)) rfl k
    have k := mx_iald (v := J (p 4) 1) rfl (hp.2.2.1 4 (by omega)) ((congrArg (J (p 4)) (show (Int32.ofInt 1).toNatClampNeg = 1 from rfl)).trans (rfl)) k
    have k := ly_revb 1 (c' := (if (J (p 4) 1) ≤ v4 then 59 else 18, [(0, .ref (p 0)), (1, .int v1), (2, .int v2), (3, .int v3), (4, .int v4), (5, .int v5)], [], me_w M J)) rfl k
    have h15 : (J (p 4) 1) ≤ v4 := lx_end hc
    rw [if_pos h15] at k
    have k := ly_revb 1 (c' := (60, [(0, .ref (p 0)), (1, .int v1), (2, .int v2), (3, .int v3), (4, .int v4), (5, .int v5)], [.int v2], me_w M J)) rfl k
    have k := lz_ri rfl (by decide) k
    rw [k, x219_7]
  | succ c ih =>
    intro v2 v3 v4 v5 hc k
    have k := ly_revb 2 (c' := (10, [(0, .ref (p 0)), (1, .int v1), (2, .int v2), (3, .int v3), (4, .int v4), (5, .int v5)], [.ref (p 0), .int v4], me_w M J)) rfl k
    have k := lz_get (a := (p 0)) (g := 1127) (M := me_w M J) (v := .ref (p 4)) rfl (nt_gfR rfl (hp.1 (0, 27, 4) (by decide))) k
    have k := ly_revb 1 (c' := (14, [(0, .ref (p 0)), (1, .int v1), (2, .int v2), (3, .int v3), (4, .int v4), (5, .int v5)], [.int (Int32.ofInt 1), .ref (p 4), .int v4], me_w M J)) rfl k
    have k := mx_iald (v := J (p 4) 1) rfl (hp.2.2.1 4 (by omega)) ((congrArg (J (p 4)) (show (Int32.ofInt 1).toNatClampNeg = 1 from rfl)).trans (rfl)) k
    have k := ly_revb 1 (c' := (if (J (p 4) 1) ≤ v4 then 59 else 18, [(0, .ref (p 0)), (1, .int v1), (2, .int v2), (3, .int v3), (4, .int v4), (5, .int v5)], [], me_w M J)) rfl k
    by_cases h15 : (J (p 4) 1) ≤ v4
    · rw [if_pos h15] at k
      have k := ly_revb 1 (c' := (60, [(0, .ref (p 0)), (1, .int v1), (2, .int v2), (3, .int v3), (4, .int v4), (5, .int v5)], [.int v2], me_w M J)) rfl k
      have k := lz_ri rfl (by decide) k
      rw [k, x219_7, if_pos h15]
    · rw [if_neg h15] at k
      have k := ly_revb 3 (c' := (22, [(0, .ref (p 0)), (1, .int v1), (2, .int v2), (3, .int v3), (4, .int v4), (5, .int v5)], [.int v4, .int v1, .ref (p 0)], me_w M J)) rfl k
      obtain ⟨d1, o1, ed, kc, k⟩ := lz_c (g := 220) (q := 1) (vs := [.ref (p 0), .int v1, .int v4]) (rest := []) rfl rfl (by decide) (Or.inr (Or.inl ⟨_, rfl, rfl⟩)) rfl k
      have e1 := xt220 hp kc
      subst e1
      have k : nt_rn X _ 219 (25, [(0, .ref (p 0)), (1, .int v1), (2, .int v2), (3, .int v3), (4, .int v4), (5, .int v5)], [.int (x220 p v1 v4 J)], me_w M J) _ := k
      have k := ly_revb 4 (c' := (if (x220 p v1 v4 J) ≤ v3 then 38 else 33, [(5, .int (x220 p v1 v4 J)), (0, .ref (p 0)), (1, .int v1), (2, .int v2), (3, .int v3), (4, .int v4)], [], me_w M J)) rfl k
      by_cases h30 : (x220 p v1 v4 J) ≤ v3
      · rw [if_pos h30] at k
        have k := ly_revb 5 (c' := (if (x220 p v1 v4 J) ≤ v3 then 51 else 46, [(2, .int v2), (5, .int (x220 p v1 v4 J)), (0, .ref (p 0)), (1, .int v1), (3, .int v3), (4, .int v4)], [], me_w M J)) rfl k
        by_cases h43 : (x220 p v1 v4 J) ≤ v3
        · rw [if_pos h43] at k
          have k := ly_revb 4 (c' := (7, [(4, .int (v4 + (Int32.ofInt 1))), (3, .int v3), (2, .int v2), (5, .int (x220 p v1 v4 J)), (0, .ref (p 0)), (1, .int v1)], [], me_w M J)) rfl k
          have k := nt_rn_w (a := [(4, .int (v4 + (Int32.ofInt 1))), (3, .int v3), (2, .int v2), (5, .int (x220 p v1 v4 J)), (0, .ref (p 0)), (1, .int v1)]) (b := [(0, .ref (p 0)), (1, .int v1), (2, .int v2), (3, .int v3), (4, .int (v4 + (Int32.ofInt 1))), (5, .int (x220 p v1 v4 J))]) ⟨rfl, rfl, rfl, rfl, rfl, rfl, trivial⟩ rfl k
          have k := ih v2 v3 (v4 + (Int32.ofInt 1)) (x220 p v1 v4 J) (lx_dec h15 hc) k
          rw [k, x219_7, if_neg h15, if_pos h30, if_pos h43]
        · rw [if_neg h43] at k
          have k := ly_revb 5 (c' := (7, [(4, .int (v4 + (Int32.ofInt 1))), (3, .int (x220 p v1 v4 J)), (2, .int v2), (5, .int (x220 p v1 v4 J)), (0, .ref (p 0)), (1, .int v1)], [], me_w M J)) rfl k
          have k := nt_rn_w (a := [(4, .int (v4 + (Int32.ofInt 1))), (3, .int (x220 p v1 v4 J)), (2, .int v2), (5, .int (x220 p v1 v4 J)), (0, .ref (p 0)), (1, .int v1)]) (b := [(0, .ref (p 0)), (1, .int v1), (2, .int v2), (3, .int (x220 p v1 v4 J)), (4, .int (v4 + (Int32.ofInt 1))), (5, .int (x220 p v1 v4 J))]) ⟨rfl, rfl, rfl, rfl, rfl, rfl, trivial⟩ rfl k
          have k := ih v2 (x220 p v1 v4 J) (v4 + (Int32.ofInt 1)) (x220 p v1 v4 J) (lx_dec h15 hc) k
          rw [k, x219_7, if_neg h15, if_pos h30, if_neg h43]
      · rw [if_neg h30] at k
        have k := ly_revb 6 (c' := (if (x220 p v1 v4 J) ≤ v3 then 51 else 46, [(2, .int v4), (5, .int (x220 p v1 v4 J)), (0, .ref (p 0)), (1, .int v1), (3, .int v3), (4, .int v4)], [], me_w M J)) rfl k
        by_cases h43 : (x220 p v1 v4 J) ≤ v3
        · rw [if_pos h43] at k
          have k := ly_revb 4 (c' := (7, [(4, .int (v4 + (Int32.ofInt 1))), (3, .int v3), (2, .int v4), (5, .int (x220 p v1 v4 J)), (0, .ref (p 0)), (1, .int v1)], [], me_w M J)) rfl k
          have k := nt_rn_w (a := [(4, .int (v4 + (Int32.ofInt 1))), (3, .int v3), (2, .int v4), (5, .int (x220 p v1 v4 J)), (0, .ref (p 0)), (1, .int v1)]) (b := [(0, .ref (p 0)), (1, .int v1), (2, .int v4), (3, .int v3), (4, .int (v4 + (Int32.ofInt 1))), (5, .int (x220 p v1 v4 J))]) ⟨rfl, rfl, rfl, rfl, rfl, rfl, trivial⟩ rfl k
          have k := ih v4 v3 (v4 + (Int32.ofInt 1)) (x220 p v1 v4 J) (lx_dec h15 hc) k
          rw [k, x219_7, if_neg h15, if_neg h30, if_pos h43]
        · rw [if_neg h43] at k
          have k := ly_revb 5 (c' := (7, [(4, .int (v4 + (Int32.ofInt 1))), (3, .int (x220 p v1 v4 J)), (2, .int v4), (5, .int (x220 p v1 v4 J)), (0, .ref (p 0)), (1, .int v1)], [], me_w M J)) rfl k
          have k := nt_rn_w (a := [(4, .int (v4 + (Int32.ofInt 1))), (3, .int (x220 p v1 v4 J)), (2, .int v4), (5, .int (x220 p v1 v4 J)), (0, .ref (p 0)), (1, .int v1)]) (b := [(0, .ref (p 0)), (1, .int v1), (2, .int v4), (3, .int (x220 p v1 v4 J)), (4, .int (v4 + (Int32.ofInt 1))), (5, .int (x220 p v1 v4 J))]) ⟨rfl, rfl, rfl, rfl, rfl, rfl, trivial⟩ rfl k
          have k := ih v4 (x220 p v1 v4 J) (v4 + (Int32.ofInt 1)) (x220 p v1 v4 J) (lx_dec h15 hc) k
          rw [k, x219_7, if_neg h15, if_neg h30, if_neg h43]
def x219 (p : Nat → Nat) (v1 : Int32) (J : Nat → Nat → Int32) : Int32 := (x219_7 p v1 J ((J (p 4) 1).toNatClampNeg) (Int32.ofInt (-1)) (Int32.ofInt 0) (Int32.ofInt 0))
theorem xt219 {X : nt_X} {d : Nat} {M : nt_M} {o : Option Value × nt_M} {p : Nat → Nat} {v1 : Int32} {J : Nat → Nat → Int32} (hp : xs_P M p) (k : nt_ev X d 219 [.ref (p 0), .int v1] (me_w M J) o) : o = (some (.int (x219 p v1 J)), me_w M J) := by
  have k : nt_rn X d 219 (0, [(0, .ref (p 0)), (1, .int v1)], [], me_w M J) o := k
  have k := ly_revb 6 (c' := (7, [(4, .int (Int32.ofInt 0)), (3, .int (Int32.ofInt 0)), (2, .int (Int32.ofInt (-1))), (0, .ref (p 0)), (1, .int v1)], [], me_w M J)) rfl k
  have k := nt_rn_w (a := [(4, .int (Int32.ofInt 0)), (3, .int (Int32.ofInt 0)), (2, .int (Int32.ofInt (-1))), (0, .ref (p 0)), (1, .int v1)]) (b := [(0, .ref (p 0)), (1, .int v1), (2, .int (Int32.ofInt (-1))), (3, .int (Int32.ofInt 0)), (4, .int (Int32.ofInt 0)), (5, .int (Int32.ofInt 0))]) ⟨rfl, rfl, rfl, rfl, rfl, trivial⟩ rfl k
  have k := xt219_7 hp  ((J (p 4) 1).toNatClampNeg) (Int32.ofInt (-1)) (Int32.ofInt 0) (Int32.ofInt 0) (Int32.ofInt 0) (lx_beg (by decide)) k
  rw [k, x219]
/-! Model.sameBy -/
def x218_20 (p : Nat → Nat) (v2 : Int32) (J : Nat → Nat → Int32) : Nat → Int32 → Int32
  | 0, v3 => (Int32.ofInt (-1))
  | c + 1, v3 => if (J (p 4) 2) ≤ v3 then (Int32.ofInt (-1))
    else if (x171 p v3 v2 J) = 0 then (x218_20 p v2 J c (v3 + (Int32.ofInt 1)))
      else if (x173 p v3 (Int32.ofInt 0) J) = 0 then (x173 p v3 (Int32.ofInt 2) J)
        else (x218_20 p v2 J c (v3 + (Int32.ofInt 1)))
theorem xt218_20 {X : nt_X} {d : Nat} {M : nt_M} {o : Option Value × nt_M} {p : Nat → Nat} {v1 : Int32} {v2 : Int32} {J : Nat → Nat → Int32} (hp : xs_P M p) : ∀ (c : Nat) (v3 : Int32), (J (p 4) 2).toInt - v3.toInt ≤ c → nt_rn X d 218 (20, [(0, .ref (p 0)), (1, .int v1), (2, .int v2), (3, .int v3)], [], me_w M J) o → o = (some (.int (x218_20 p v2 J c v3)), me_w M J) := by
  intro c
  induction c with
  | zero =>
    intro v3 hc k
    have k := ly_revb 2 (c' := (22, [(0, .ref (p 0)), (1, .int v1), (2, .int v2), (3, .int v3)], [.ref (p 0), .int v3], me_w M J)) rfl k
    have k := lz_get (a := (p 0)) (g := 1127) (M := me_w M J) (v := .ref (p 4)) rfl (nt_gfR rfl (hp.1 (0, 27, 4) (by decide))) k
    have k := ly_revb 1 (c' := (26, [(0, .ref (p 0)), (1, .int v1), (2, .int v2), (3, .int v3)], [.int (Int32.ofInt 2), .ref (p 4), .int v3], me_w M J)) rfl k
    have k := mx_iald (v := J (p 4) 2) rfl (hp.2.2.1 4 (by omega)) ((congrArg (J (p 4)) (show (Int32.ofInt 2).toNatClampNeg = 2 from rfl)).trans (rfl)) k
    have k := ly_revb 1 (c' := (if (J (p 4) 2) ≤ v3 then 61 else 30, [(0, .ref (p 0)), (1, .int v1), (2, .int v2), (3, .int v3)], [], me_w M J)) rfl k
    have h27 : (J (p 4) 2) ≤ v3 := lx_end hc
    rw [if_pos h27] at k
    have k := ly_revb 1 (c' := (62, [(0, .ref (p 0)), (1, .int v1), (2, .int v2), (3, .int v3)], [.int (Int32.ofInt (-1))], me_w M J)) rfl k
    have k := lz_ri rfl (by decide) k
    rw [k, x218_20]
  | succ c ih =>
    intro v3 hc k
    have k := ly_revb 2 (c' := (22, [(0, .ref (p 0)), (1, .int v1), (2, .int v2), (3, .int v3)], [.ref (p 0), .int v3], me_w M J)) rfl k
    have k := lz_get (a := (p 0)) (g := 1127) (M := me_w M J) (v := .ref (p 4)) rfl (nt_gfR rfl (hp.1 (0, 27, 4) (by decide))) k
    have k := ly_revb 1 (c' := (26, [(0, .ref (p 0)), (1, .int v1), (2, .int v2), (3, .int v3)], [.int (Int32.ofInt 2), .ref (p 4), .int v3], me_w M J)) rfl k
    have k := mx_iald (v := J (p 4) 2) rfl (hp.2.2.1 4 (by omega)) ((congrArg (J (p 4)) (show (Int32.ofInt 2).toNatClampNeg = 2 from rfl)).trans (rfl)) k
    have k := ly_revb 1 (c' := (if (J (p 4) 2) ≤ v3 then 61 else 30, [(0, .ref (p 0)), (1, .int v1), (2, .int v2), (3, .int v3)], [], me_w M J)) rfl k
    by_cases h27 : (J (p 4) 2) ≤ v3
    · rw [if_pos h27] at k
      have k := ly_revb 1 (c' := (62, [(0, .ref (p 0)), (1, .int v1), (2, .int v2), (3, .int v3)], [.int (Int32.ofInt (-1))], me_w M J)) rfl k
      have k := lz_ri rfl (by decide) k
      rw [k, x218_20, if_pos h27]
    · rw [if_neg h27] at k
      have k := ly_revb 3 (c' := (33, [(0, .ref (p 0)), (1, .int v1), (2, .int v2), (3, .int v3)], [.int v2, .int v3, .ref (p 0)], me_w M J)) rfl k
      obtain ⟨d1, o1, ed, kc, k⟩ := lz_c (g := 171) (q := 1) (vs := [.ref (p 0), .int v3, .int v2]) (rest := []) rfl rfl (by decide) (Or.inr (Or.inl ⟨_, rfl, rfl⟩)) rfl k
      have e1 := xt171 hp kc
      subst e1
      have k : nt_rn X _ 218 (36, [(0, .ref (p 0)), (1, .int v1), (2, .int v2), (3, .int v3)], [.int (x171 p v3 v2 J)], me_w M J) _ := k
      have k := ly_revb 1 (c' := (if (x171 p v3 v2 J) = 0 then 55 else 39, [(0, .ref (p 0)), (1, .int v1), (2, .int v2), (3, .int v3)], [], me_w M J)) rfl k
      by_cases h36 : (x171 p v3 v2 J) = 0
      · rw [if_pos h36] at k
        have k := ly_revb 2 (c' := (20, [(3, .int (v3 + (Int32.ofInt 1))), (0, .ref (p 0)), (1, .int v1), (2, .int v2)], [], me_w M J)) rfl k
        have k := nt_rn_w (a := [(3, .int (v3 + (Int32.ofInt 1))), (0, .ref (p 0)), (1, .int v1), (2, .int v2)]) (b := [(0, .ref (p 0)), (1, .int v1), (2, .int v2), (3, .int (v3 + (Int32.ofInt 1)))]) ⟨rfl, rfl, rfl, rfl, trivial⟩ rfl k
        have k := ih (v3 + (Int32.ofInt 1)) (lx_dec h27 hc) k
        rw [k, x218_20, if_neg h27, if_pos h36]
      · rw [if_neg h36] at k
        have k := ly_revb 3 (c' := (42, [(0, .ref (p 0)), (1, .int v1), (2, .int v2), (3, .int v3)], [.int (Int32.ofInt 0), .int v3, .ref (p 0)], me_w M J)) rfl k
        obtain ⟨d1, o1, ed, kc, k⟩ := lz_c (g := 173) (q := 1) (vs := [.ref (p 0), .int v3, .int (Int32.ofInt 0)]) (rest := []) rfl rfl (by decide) (Or.inr (Or.inl ⟨_, rfl, rfl⟩)) rfl k
        have e1 := xt173 hp kc
        subst e1
        have k : nt_rn X _ 218 (45, [(0, .ref (p 0)), (1, .int v1), (2, .int v2), (3, .int v3)], [.int (x173 p v3 (Int32.ofInt 0) J)], me_w M J) _ := k
        have k := ly_revb 1 (c' := (if (x173 p v3 (Int32.ofInt 0) J) = 0 then 48 else 55, [(0, .ref (p 0)), (1, .int v1), (2, .int v2), (3, .int v3)], [], me_w M J)) rfl k
        by_cases h45 : (x173 p v3 (Int32.ofInt 0) J) = 0
        · rw [if_pos h45] at k
          have k := ly_revb 3 (c' := (51, [(0, .ref (p 0)), (1, .int v1), (2, .int v2), (3, .int v3)], [.int (Int32.ofInt 2), .int v3, .ref (p 0)], me_w M J)) rfl k
          obtain ⟨d1, o1, ed, kc, k⟩ := lz_c (g := 173) (q := 1) (vs := [.ref (p 0), .int v3, .int (Int32.ofInt 2)]) (rest := []) rfl rfl (by decide) (Or.inr (Or.inl ⟨_, rfl, rfl⟩)) rfl k
          have e1 := xt173 hp kc
          subst e1
          have k : nt_rn X _ 218 (54, [(0, .ref (p 0)), (1, .int v1), (2, .int v2), (3, .int v3)], [.int (x173 p v3 (Int32.ofInt 2) J)], me_w M J) _ := k
          have k := lz_ri rfl (by decide) k
          rw [k, x218_20, if_neg h27, if_neg h36, if_pos h45]
        · rw [if_neg h45] at k
          have k := ly_revb 2 (c' := (20, [(3, .int (v3 + (Int32.ofInt 1))), (0, .ref (p 0)), (1, .int v1), (2, .int v2)], [], me_w M J)) rfl k
          have k := nt_rn_w (a := [(3, .int (v3 + (Int32.ofInt 1))), (0, .ref (p 0)), (1, .int v1), (2, .int v2)]) (b := [(0, .ref (p 0)), (1, .int v1), (2, .int v2), (3, .int (v3 + (Int32.ofInt 1)))]) ⟨rfl, rfl, rfl, rfl, trivial⟩ rfl k
          have k := ih (v3 + (Int32.ofInt 1)) (lx_dec h27 hc) k
          rw [k, x218_20, if_neg h27, if_neg h36, if_neg h45]
def x218 (p : Nat → Nat) (v1 : Int32) (v2 : Int32) (J : Nat → Nat → Int32) : Int32 := if v1 = (Int32.ofInt 2) then v2
  else if v1 = (Int32.ofInt 1) then (x219 p v2 J)
    else (x218_20 p v2 J ((J (p 4) 2).toNatClampNeg) (Int32.ofInt 0))
theorem xt218 {X : nt_X} {d : Nat} {M : nt_M} {o : Option Value × nt_M} {p : Nat → Nat} {v1 : Int32} {v2 : Int32} {J : Nat → Nat → Int32} (hp : xs_P M p) (k : nt_ev X d 218 [.ref (p 0), .int v1, .int v2] (me_w M J) o) : o = (some (.int (x218 p v1 v2 J)), me_w M J) := by
  have k : nt_rn X d 218 (0, [(0, .ref (p 0)), (1, .int v1), (2, .int v2)], [], me_w M J) o := k
  have k := ly_revb 3 (c' := (if v1 = (Int32.ofInt 2) then 5 else 7, [(0, .ref (p 0)), (1, .int v1), (2, .int v2)], [], me_w M J)) rfl k
  by_cases h2 : v1 = (Int32.ofInt 2)
  · rw [if_pos h2] at k
    have k := ly_revb 1 (c' := (6, [(0, .ref (p 0)), (1, .int v1), (2, .int v2)], [.int v2], me_w M J)) rfl k
    have k := lz_ri rfl (by decide) k
    rw [k, x218, if_pos h2]
  · rw [if_neg h2] at k
    have k := ly_revb 3 (c' := (if v1 = (Int32.ofInt 1) then 12 else 18, [(0, .ref (p 0)), (1, .int v1), (2, .int v2)], [], me_w M J)) rfl k
    by_cases h9 : v1 = (Int32.ofInt 1)
    · rw [if_pos h9] at k
      have k := ly_revb 2 (c' := (14, [(0, .ref (p 0)), (1, .int v1), (2, .int v2)], [.int v2, .ref (p 0)], me_w M J)) rfl k
      obtain ⟨d1, o1, ed, kc, k⟩ := lz_c (g := 219) (q := 1) (vs := [.ref (p 0), .int v2]) (rest := []) rfl rfl (by decide) (Or.inr (Or.inl ⟨_, rfl, rfl⟩)) rfl k
      have e1 := xt219 hp kc
      subst e1
      have k : nt_rn X _ 218 (17, [(0, .ref (p 0)), (1, .int v1), (2, .int v2)], [.int (x219 p v2 J)], me_w M J) _ := k
      have k := lz_ri rfl (by decide) k
      rw [k, x218, if_neg h2, if_pos h9]
    · rw [if_neg h9] at k
      have k := ly_revb 2 (c' := (20, [(3, .int (Int32.ofInt 0)), (0, .ref (p 0)), (1, .int v1), (2, .int v2)], [], me_w M J)) rfl k
      have k := nt_rn_w (a := [(3, .int (Int32.ofInt 0)), (0, .ref (p 0)), (1, .int v1), (2, .int v2)]) (b := [(0, .ref (p 0)), (1, .int v1), (2, .int v2), (3, .int (Int32.ofInt 0))]) ⟨rfl, rfl, rfl, rfl, trivial⟩ rfl k
      have k := xt218_20 hp  ((J (p 4) 2).toNatClampNeg) (Int32.ofInt 0) (lx_beg (by decide)) k
      rw [k, x218, if_neg h2, if_neg h9]
/-! Model.same -/
def x217 (p : Nat → Nat) (v1 : Int32) (v2 : Int32) (J : Nat → Nat → Int32) : Int32 := if (x145 v1.toInt64 (Int64.ofNat 0) 2) = 0 then (Int32.ofInt (-2))
  else if (x168 p v2 J) = 0 then (Int32.ofInt (-2))
    else (x218 p v1 v2 J)
theorem xt217 {X : nt_X} {d : Nat} {M : nt_M} {o : Option Value × nt_M} {p : Nat → Nat} {v1 : Int32} {v2 : Int32} {J : Nat → Nat → Int32} (hp : xs_P M p) (k : nt_ev X d 217 [.ref (p 0), .int v1, .int v2] (me_w M J) o) : o = (some (.int (x217 p v1 v2 J)), me_w M J) := by
  have k : nt_rn X d 217 (0, [(0, .ref (p 0)), (1, .int v1), (2, .int v2)], [], me_w M J) o := k
  have k := ly_revb 4 (c' := (6, [(0, .ref (p 0)), (1, .int v1), (2, .int v2)], [.long 2, .long (Int64.ofNat 0), .long v1.toInt64], me_w M J)) rfl k
  obtain ⟨d1, o1, ed, kc, k⟩ := lz_c (g := 145) (q := 0) (vs := [.long v1.toInt64, .long (Int64.ofNat 0), .long 2]) (rest := []) rfl rfl (by decide) (Or.inl ⟨_, rfl, rfl⟩) rfl k
  have e1 := xt145  kc
  subst e1
  have k : nt_rn X _ 217 (9, [(0, .ref (p 0)), (1, .int v1), (2, .int v2)], [.int (x145 v1.toInt64 (Int64.ofNat 0) 2)], me_w M J) _ := k
  have k := ly_revb 1 (c' := (if (x145 v1.toInt64 (Int64.ofNat 0) 2) = 0 then 29 else 12, [(0, .ref (p 0)), (1, .int v1), (2, .int v2)], [], me_w M J)) rfl k
  by_cases h9 : (x145 v1.toInt64 (Int64.ofNat 0) 2) = 0
  · rw [if_pos h9] at k
    have k := ly_revb 1 (c' := (31, [(0, .ref (p 0)), (1, .int v1), (2, .int v2)], [.int (Int32.ofInt (-2))], me_w M J)) rfl k
    have k := lz_ri rfl (by decide) k
    rw [k, x217, if_pos h9]
  · rw [if_neg h9] at k
    have k := ly_revb 2 (c' := (14, [(0, .ref (p 0)), (1, .int v1), (2, .int v2)], [.int v2, .ref (p 0)], me_w M J)) rfl k
    obtain ⟨d1, o1, ed, kc, k⟩ := lz_c (g := 168) (q := 1) (vs := [.ref (p 0), .int v2]) (rest := []) rfl rfl (by decide) (Or.inr (Or.inl ⟨_, rfl, rfl⟩)) rfl k
    have e1 := xt168 hp kc
    subst e1
    have k : nt_rn X _ 217 (17, [(0, .ref (p 0)), (1, .int v1), (2, .int v2)], [.int (x168 p v2 J)], me_w M J) _ := k
    have k := ly_revb 1 (c' := (if (x168 p v2 J) = 0 then 29 else 20, [(0, .ref (p 0)), (1, .int v1), (2, .int v2)], [], me_w M J)) rfl k
    by_cases h17 : (x168 p v2 J) = 0
    · rw [if_pos h17] at k
      have k := ly_revb 1 (c' := (31, [(0, .ref (p 0)), (1, .int v1), (2, .int v2)], [.int (Int32.ofInt (-2))], me_w M J)) rfl k
      have k := lz_ri rfl (by decide) k
      rw [k, x217, if_neg h9, if_pos h17]
    · rw [if_neg h17] at k
      have k := ly_revb 3 (c' := (23, [(0, .ref (p 0)), (1, .int v1), (2, .int v2)], [.int v2, .int v1, .ref (p 0)], me_w M J)) rfl k
      obtain ⟨d1, o1, ed, kc, k⟩ := lz_c (g := 218) (q := 1) (vs := [.ref (p 0), .int v1, .int v2]) (rest := []) rfl rfl (by decide) (Or.inr (Or.inl ⟨_, rfl, rfl⟩)) rfl k
      have e1 := xt218 hp kc
      subst e1
      have k : nt_rn X _ 217 (26, [(0, .ref (p 0)), (1, .int v1), (2, .int v2)], [.int (x218 p v1 v2 J)], me_w M J) _ := k
      have k := ly_revb 1 (c' := (31, [(0, .ref (p 0)), (1, .int v1), (2, .int v2)], [.int (x218 p v1 v2 J)], me_w M J)) rfl k
      have k := lz_ri rfl (by decide) k
      rw [k, x217, if_neg h9, if_neg h17]
/-! Model.unlike -/
def x221_13 (p : Nat → Nat) (J : Nat → Nat → Int32) : Nat → Int32 → Int32 → Int32
  | 0, v1, v2 => v1
  | c + 1, v1, v2 => if (J (p 4) 1) ≤ v2 then v1
    else if (x218 p (Int32.ofInt 0) v2 J) = v2 then if (x218 p (Int32.ofInt 1) v2 J) = v2 then (x221_13 p J c (v1 ||| (Int32.ofInt 0)) (v2 + (Int32.ofInt 1)))
        else (x221_13 p J c (v1 ||| ((Int32.ofInt 1) <<< (v2 &&& 31))) (v2 + (Int32.ofInt 1)))
      else (x221_13 p J c (v1 ||| ((Int32.ofInt 1) <<< (v2 &&& 31))) (v2 + (Int32.ofInt 1)))
theorem xt221_13 {X : nt_X} {d : Nat} {M : nt_M} {o : Option Value × nt_M} {p : Nat → Nat} {J : Nat → Nat → Int32} (hp : xs_P M p) : ∀ (c : Nat) (v1 : Int32) (v2 : Int32), (J (p 4) 1).toInt - v2.toInt ≤ c → nt_rn X d 221 (13, [(0, .ref (p 0)), (1, .int v1), (2, .int v2)], [], me_w M J) o → o = (some (.int (x221_13 p J c v1 v2)), me_w M J) := by
  intro c
  induction c with
  | zero =>
    intro v1 v2 hc k
    have k := ly_revb 2 (c' := (15, [(0, .ref (p 0)), (1, .int v1), (2, .int v2)], [.ref (p 0), .int v2], me_w M J)) rfl k
    have k := lz_get (a := (p 0)) (g := 1127) (M := me_w M J) (v := .ref (p 4)) rfl (nt_gfR rfl (hp.1 (0, 27, 4) (by decide))) k
    have k := ly_revb 1 (c' := (19, [(0, .ref (p 0)), (1, .int v1), (2, .int v2)], [.int (Int32.ofInt 1), .ref (p 4), .int v2], me_w M J)) rfl k
    have k := mx_iald (v := J (p 4) 1) rfl (hp.2.2.1 4 (by omega)) ((congrArg (J (p 4)) (show (Int32.ofInt 1).toNatClampNeg = 1 from rfl)).trans (rfl)) k
    have k := ly_revb 1 (c' := (if (J (p 4) 1) ≤ v2 then 59 else 23, [(0, .ref (p 0)), (1, .int v1), (2, .int v2)], [], me_w M J)) rfl k
    have h20 : (J (p 4) 1) ≤ v2 := lx_end hc
    rw [if_pos h20] at k
    have k := ly_revb 1 (c' := (60, [(0, .ref (p 0)), (1, .int v1), (2, .int v2)], [.int v1], me_w M J)) rfl k
    have k := lz_ri rfl (by decide) k
    rw [k, x221_13]
  | succ c ih =>
    intro v1 v2 hc k
    have k := ly_revb 2 (c' := (15, [(0, .ref (p 0)), (1, .int v1), (2, .int v2)], [.ref (p 0), .int v2], me_w M J)) rfl k
    have k := lz_get (a := (p 0)) (g := 1127) (M := me_w M J) (v := .ref (p 4)) rfl (nt_gfR rfl (hp.1 (0, 27, 4) (by decide))) k
    have k := ly_revb 1 (c' := (19, [(0, .ref (p 0)), (1, .int v1), (2, .int v2)], [.int (Int32.ofInt 1), .ref (p 4), .int v2], me_w M J)) rfl k
    have k := mx_iald (v := J (p 4) 1) rfl (hp.2.2.1 4 (by omega)) ((congrArg (J (p 4)) (show (Int32.ofInt 1).toNatClampNeg = 1 from rfl)).trans (rfl)) k
    have k := ly_revb 1 (c' := (if (J (p 4) 1) ≤ v2 then 59 else 23, [(0, .ref (p 0)), (1, .int v1), (2, .int v2)], [], me_w M J)) rfl k
    by_cases h20 : (J (p 4) 1) ≤ v2
    · rw [if_pos h20] at k
      have k := ly_revb 1 (c' := (60, [(0, .ref (p 0)), (1, .int v1), (2, .int v2)], [.int v1], me_w M J)) rfl k
      have k := lz_ri rfl (by decide) k
      rw [k, x221_13, if_pos h20]
    · rw [if_neg h20] at k
      have k := ly_revb 4 (c' := (27, [(0, .ref (p 0)), (1, .int v1), (2, .int v2)], [.int v2, .int (Int32.ofInt 0), .ref (p 0), .int v1], me_w M J)) rfl k
      obtain ⟨d1, o1, ed, kc, k⟩ := lz_c (g := 218) (q := 1) (vs := [.ref (p 0), .int (Int32.ofInt 0), .int v2]) (rest := [.int v1]) rfl rfl (by decide) (Or.inr (Or.inl ⟨_, rfl, rfl⟩)) rfl k
      have e1 := xt218 hp kc
      subst e1
      have k : nt_rn X _ 221 (30, [(0, .ref (p 0)), (1, .int v1), (2, .int v2)], [.int (x218 p (Int32.ofInt 0) v2 J), .int v1], me_w M J) _ := k
      have k := ly_revb 2 (c' := (if (x218 p (Int32.ofInt 0) v2 J) = v2 then 34 else 44, [(0, .ref (p 0)), (1, .int v1), (2, .int v2)], [.int v1], me_w M J)) rfl k
      by_cases h31 : (x218 p (Int32.ofInt 0) v2 J) = v2
      · rw [if_pos h31] at k
        have k := ly_revb 3 (c' := (37, [(0, .ref (p 0)), (1, .int v1), (2, .int v2)], [.int v2, .int (Int32.ofInt 1), .ref (p 0), .int v1], me_w M J)) rfl k
        obtain ⟨d1, o1, ed, kc, k⟩ := lz_c (g := 218) (q := 1) (vs := [.ref (p 0), .int (Int32.ofInt 1), .int v2]) (rest := [.int v1]) rfl rfl (by decide) (Or.inr (Or.inl ⟨_, rfl, rfl⟩)) rfl k
        have e1 := xt218 hp kc
        subst e1
        have k : nt_rn X _ 221 (40, [(0, .ref (p 0)), (1, .int v1), (2, .int v2)], [.int (x218 p (Int32.ofInt 1) v2 J), .int v1], me_w M J) _ := k
        have k := ly_revb 2 (c' := (if (x218 p (Int32.ofInt 1) v2 J) = v2 then 50 else 44, [(0, .ref (p 0)), (1, .int v1), (2, .int v2)], [.int v1], me_w M J)) rfl k
        by_cases h41 : (x218 p (Int32.ofInt 1) v2 J) = v2
        · rw [if_pos h41] at k
          have k := ly_revb 5 (c' := (13, [(2, .int (v2 + (Int32.ofInt 1))), (1, .int (v1 ||| (Int32.ofInt 0))), (0, .ref (p 0))], [], me_w M J)) rfl k
          have k := nt_rn_w (a := [(2, .int (v2 + (Int32.ofInt 1))), (1, .int (v1 ||| (Int32.ofInt 0))), (0, .ref (p 0))]) (b := [(0, .ref (p 0)), (1, .int (v1 ||| (Int32.ofInt 0))), (2, .int (v2 + (Int32.ofInt 1)))]) ⟨rfl, rfl, rfl, trivial⟩ rfl k
          have k := ih (v1 ||| (Int32.ofInt 0)) (v2 + (Int32.ofInt 1)) (lx_dec h20 hc) k
          rw [k, x221_13, if_neg h20, if_pos h31, if_pos h41]
        · rw [if_neg h41] at k
          have k := ly_revb 8 (c' := (13, [(2, .int (v2 + (Int32.ofInt 1))), (1, .int (v1 ||| ((Int32.ofInt 1) <<< (v2 &&& 31)))), (0, .ref (p 0))], [], me_w M J)) rfl k
          have k := nt_rn_w (a := [(2, .int (v2 + (Int32.ofInt 1))), (1, .int (v1 ||| ((Int32.ofInt 1) <<< (v2 &&& 31)))), (0, .ref (p 0))]) (b := [(0, .ref (p 0)), (1, .int (v1 ||| ((Int32.ofInt 1) <<< (v2 &&& 31)))), (2, .int (v2 + (Int32.ofInt 1)))]) ⟨rfl, rfl, rfl, trivial⟩ rfl k
          have k := ih (v1 ||| ((Int32.ofInt 1) <<< (v2 &&& 31))) (v2 + (Int32.ofInt 1)) (lx_dec h20 hc) k
          rw [k, x221_13, if_neg h20, if_pos h31, if_neg h41]
      · rw [if_neg h31] at k
        have k := ly_revb 8 (c' := (13, [(2, .int (v2 + (Int32.ofInt 1))), (1, .int (v1 ||| ((Int32.ofInt 1) <<< (v2 &&& 31)))), (0, .ref (p 0))], [], me_w M J)) rfl k
        have k := nt_rn_w (a := [(2, .int (v2 + (Int32.ofInt 1))), (1, .int (v1 ||| ((Int32.ofInt 1) <<< (v2 &&& 31)))), (0, .ref (p 0))]) (b := [(0, .ref (p 0)), (1, .int (v1 ||| ((Int32.ofInt 1) <<< (v2 &&& 31)))), (2, .int (v2 + (Int32.ofInt 1)))]) ⟨rfl, rfl, rfl, trivial⟩ rfl k
        have k := ih (v1 ||| ((Int32.ofInt 1) <<< (v2 &&& 31))) (v2 + (Int32.ofInt 1)) (lx_dec h20 hc) k
        rw [k, x221_13, if_neg h20, if_neg h31]
def x221 (p : Nat → Nat) (J : Nat → Nat → Int32) : Int32 := if (x188 p J) = 0 then (Int32.ofInt (-1))
  else (x221_13 p J ((J (p 4) 1).toNatClampNeg) (Int32.ofInt 0) (Int32.ofInt 0))
theorem xt221 {X : nt_X} {d : Nat} {M : nt_M} {o : Option Value × nt_M} {p : Nat → Nat} {J : Nat → Nat → Int32} (hp : xs_P M p) (k : nt_ev X d 221 [.ref (p 0)] (me_w M J) o) : o = (some (.int (x221 p J)), me_w M J) := by
  have k : nt_rn X d 221 (0, [(0, .ref (p 0))], [], me_w M J) o := k
  have k := ly_revb 1 (c' := (1, [(0, .ref (p 0))], [.ref (p 0)], me_w M J)) rfl k
  obtain ⟨d1, o1, ed, kc, k⟩ := lz_c (g := 188) (q := 1) (vs := [.ref (p 0)]) (rest := []) rfl rfl (by decide) (Or.inr (Or.inl ⟨_, rfl, rfl⟩)) rfl k
  have e1 := xt188 hp kc
  subst e1
  have k : nt_rn X _ 221 (4, [(0, .ref (p 0))], [.int (x188 p J)], me_w M J) _ := k
  have k := ly_revb 1 (c' := (if (x188 p J) = 0 then 7 else 9, [(0, .ref (p 0))], [], me_w M J)) rfl k
  by_cases h4 : (x188 p J) = 0
  · rw [if_pos h4] at k
    have k := ly_revb 1 (c' := (8, [(0, .ref (p 0))], [.int (Int32.ofInt (-1))], me_w M J)) rfl k
    have k := lz_ri rfl (by decide) k
    rw [k, x221, if_pos h4]
  · rw [if_neg h4] at k
    have k := ly_revb 4 (c' := (13, [(2, .int (Int32.ofInt 0)), (1, .int (Int32.ofInt 0)), (0, .ref (p 0))], [], me_w M J)) rfl k
    have k := nt_rn_w (a := [(2, .int (Int32.ofInt 0)), (1, .int (Int32.ofInt 0)), (0, .ref (p 0))]) (b := [(0, .ref (p 0)), (1, .int (Int32.ofInt 0)), (2, .int (Int32.ofInt 0))]) ⟨rfl, rfl, rfl, trivial⟩ rfl k
    have k := xt221_13 hp  ((J (p 4) 1).toNatClampNeg) (Int32.ofInt 0) (Int32.ofInt 0) (lx_beg (by decide)) k
    rw [k, x221, if_neg h4]
/-! Model.lostOnes -/
def x228_4 (p : Nat → Nat) (J : Nat → Nat → Int32) : Nat → Int32 → Int32 → Int32
  | 0, v1, v2 => v1
  | c + 1, v1, v2 => if (J (p 4) 1) ≤ v2 then v1
    else if (x169 p v2 (Int32.ofInt 4) J) = (Int32.ofInt 2) then (x228_4 p J c (v1 ||| ((Int32.ofInt 1) <<< (v2 &&& 31))) (v2 + (Int32.ofInt 1)))
      else (x228_4 p J c (v1 ||| (Int32.ofInt 0)) (v2 + (Int32.ofInt 1)))
theorem xt228_4 {X : nt_X} {d : Nat} {M : nt_M} {o : Option Value × nt_M} {p : Nat → Nat} {J : Nat → Nat → Int32} (hp : xs_P M p) : ∀ (c : Nat) (v1 : Int32) (v2 : Int32), (J (p 4) 1).toInt - v2.toInt ≤ c → nt_rn X d 228 (4, [(0, .ref (p 0)), (1, .int v1), (2, .int v2)], [], me_w M J) o → o = (some (.int (x228_4 p J c v1 v2)), me_w M J) := by
  intro c
  induction c with
  | zero =>
    intro v1 v2 hc k
    have k := ly_revb 2 (c' := (6, [(0, .ref (p 0)), (1, .int v1), (2, .int v2)], [.ref (p 0), .int v2], me_w M J)) rfl k
    have k := lz_get (a := (p 0)) (g := 1127) (M := me_w M J) (v := .ref (p 4)) rfl (nt_gfR rfl (hp.1 (0, 27, 4) (by decide))) k
    have k := ly_revb 1 (c' := (10, [(0, .ref (p 0)), (1, .int v1), (2, .int v2)], [.int (Int32.ofInt 1), .ref (p 4), .int v2], me_w M J)) rfl k
    have k := mx_iald (v := J (p 4) 1) rfl (hp.2.2.1 4 (by omega)) ((congrArg (J (p 4)) (show (Int32.ofInt 1).toNatClampNeg = 1 from rfl)).trans (rfl)) k
    have k := ly_revb 1 (c' := (if (J (p 4) 1) ≤ v2 then 40 else 14, [(0, .ref (p 0)), (1, .int v1), (2, .int v2)], [], me_w M J)) rfl k
    have h11 : (J (p 4) 1) ≤ v2 := lx_end hc
    rw [if_pos h11] at k
    have k := ly_revb 1 (c' := (41, [(0, .ref (p 0)), (1, .int v1), (2, .int v2)], [.int v1], me_w M J)) rfl k
    have k := lz_ri rfl (by decide) k
    rw [k, x228_4]
  | succ c ih =>
    intro v1 v2 hc k
    have k := ly_revb 2 (c' := (6, [(0, .ref (p 0)), (1, .int v1), (2, .int v2)], [.ref (p 0), .int v2], me_w M J)) rfl k
    have k := lz_get (a := (p 0)) (g := 1127) (M := me_w M J) (v := .ref (p 4)) rfl (nt_gfR rfl (hp.1 (0, 27, 4) (by decide))) k
    have k := ly_revb 1 (c' := (10, [(0, .ref (p 0)), (1, .int v1), (2, .int v2)], [.int (Int32.ofInt 1), .ref (p 4), .int v2], me_w M J)) rfl k
    have k := mx_iald (v := J (p 4) 1) rfl (hp.2.2.1 4 (by omega)) ((congrArg (J (p 4)) (show (Int32.ofInt 1).toNatClampNeg = 1 from rfl)).trans (rfl)) k
    have k := ly_revb 1 (c' := (if (J (p 4) 1) ≤ v2 then 40 else 14, [(0, .ref (p 0)), (1, .int v1), (2, .int v2)], [], me_w M J)) rfl k
    by_cases h11 : (J (p 4) 1) ≤ v2
    · rw [if_pos h11] at k
      have k := ly_revb 1 (c' := (41, [(0, .ref (p 0)), (1, .int v1), (2, .int v2)], [.int v1], me_w M J)) rfl k
      have k := lz_ri rfl (by decide) k
      rw [k, x228_4, if_pos h11]
    · rw [if_neg h11] at k
      have k := ly_revb 4 (c' := (18, [(0, .ref (p 0)), (1, .int v1), (2, .int v2)], [.int (Int32.ofInt 4), .int v2, .ref (p 0), .int v1], me_w M J)) rfl k
      obtain ⟨d1, o1, ed, kc, k⟩ := lz_c (g := 169) (q := 1) (vs := [.ref (p 0), .int v2, .int (Int32.ofInt 4)]) (rest := [.int v1]) rfl rfl (by decide) (Or.inr (Or.inl ⟨_, rfl, rfl⟩)) rfl k
      have e1 := xt169 hp kc
      subst e1
      have k : nt_rn X _ 228 (21, [(0, .ref (p 0)), (1, .int v1), (2, .int v2)], [.int (x169 p v2 (Int32.ofInt 4) J), .int v1], me_w M J) _ := k
      have k := ly_revb 2 (c' := (if (x169 p v2 (Int32.ofInt 4) J) = (Int32.ofInt 2) then 25 else 31, [(0, .ref (p 0)), (1, .int v1), (2, .int v2)], [.int v1], me_w M J)) rfl k
      by_cases h22 : (x169 p v2 (Int32.ofInt 4) J) = (Int32.ofInt 2)
      · rw [if_pos h22] at k
        have k := ly_revb 8 (c' := (4, [(2, .int (v2 + (Int32.ofInt 1))), (1, .int (v1 ||| ((Int32.ofInt 1) <<< (v2 &&& 31)))), (0, .ref (p 0))], [], me_w M J)) rfl k
        have k := nt_rn_w (a := [(2, .int (v2 + (Int32.ofInt 1))), (1, .int (v1 ||| ((Int32.ofInt 1) <<< (v2 &&& 31)))), (0, .ref (p 0))]) (b := [(0, .ref (p 0)), (1, .int (v1 ||| ((Int32.ofInt 1) <<< (v2 &&& 31)))), (2, .int (v2 + (Int32.ofInt 1)))]) ⟨rfl, rfl, rfl, trivial⟩ rfl k
        have k := ih (v1 ||| ((Int32.ofInt 1) <<< (v2 &&& 31))) (v2 + (Int32.ofInt 1)) (lx_dec h11 hc) k
        rw [k, x228_4, if_neg h11, if_pos h22]
      · rw [if_neg h22] at k
        have k := ly_revb 5 (c' := (4, [(2, .int (v2 + (Int32.ofInt 1))), (1, .int (v1 ||| (Int32.ofInt 0))), (0, .ref (p 0))], [], me_w M J)) rfl k
        have k := nt_rn_w (a := [(2, .int (v2 + (Int32.ofInt 1))), (1, .int (v1 ||| (Int32.ofInt 0))), (0, .ref (p 0))]) (b := [(0, .ref (p 0)), (1, .int (v1 ||| (Int32.ofInt 0))), (2, .int (v2 + (Int32.ofInt 1)))]) ⟨rfl, rfl, rfl, trivial⟩ rfl k
        have k := ih (v1 ||| (Int32.ofInt 0)) (v2 + (Int32.ofInt 1)) (lx_dec h11 hc) k
        rw [k, x228_4, if_neg h11, if_neg h22]
def x228 (p : Nat → Nat) (J : Nat → Nat → Int32) : Int32 := (x228_4 p J ((J (p 4) 1).toNatClampNeg) (Int32.ofInt 0) (Int32.ofInt 0))
theorem xt228 {X : nt_X} {d : Nat} {M : nt_M} {o : Option Value × nt_M} {p : Nat → Nat} {J : Nat → Nat → Int32} (hp : xs_P M p) (k : nt_ev X d 228 [.ref (p 0)] (me_w M J) o) : o = (some (.int (x228 p J)), me_w M J) := by
  have k : nt_rn X d 228 (0, [(0, .ref (p 0))], [], me_w M J) o := k
  have k := ly_revb 4 (c' := (4, [(2, .int (Int32.ofInt 0)), (1, .int (Int32.ofInt 0)), (0, .ref (p 0))], [], me_w M J)) rfl k
  have k := nt_rn_w (a := [(2, .int (Int32.ofInt 0)), (1, .int (Int32.ofInt 0)), (0, .ref (p 0))]) (b := [(0, .ref (p 0)), (1, .int (Int32.ofInt 0)), (2, .int (Int32.ofInt 0))]) ⟨rfl, rfl, rfl, trivial⟩ rfl k
  have k := xt228_4 hp  ((J (p 4) 1).toNatClampNeg) (Int32.ofInt 0) (Int32.ofInt 0) (lx_beg (by decide)) k
  rw [k, x228]
/-! .same -/
def x119 (p : Nat → Nat) (v1 : Int32) (v2 : Int32) (J : Nat → Nat → Int32) : Int32 := if v1 < 0 then (Int32.ofInt (-2))
  else if (Int32.ofInt 2) < v1 then (Int32.ofInt (-2))
    else if (x65 (fun i => p (31 + i)) v2 J) = 0 then (Int32.ofInt (-2))
      else (x76 (fun i => p (31 + i)) v1 v2 J)
theorem xt119 {X : nt_X} {d : Nat} {M : nt_M} {o : Option Value × nt_M} {p : Nat → Nat} {v1 : Int32} {v2 : Int32} {J : Nat → Nat → Int32} (hp : xs_P M p) (hn : xs_Q M (fun i => p (31 + i))) (k : nt_ev X d 119 [.ref (p 16), .int v1, .int v2] (me_w M J) o) : o = (some (.int (x119 p v1 v2 J)), me_w M J) := by
  have k : nt_rn X d 119 (0, [(0, .ref (p 16)), (1, .int v1), (2, .int v2)], [], me_w M J) o := k
  have k := ly_revb 2 (c' := (if v1 < 0 then 20 else 4, [(0, .ref (p 16)), (1, .int v1), (2, .int v2)], [], me_w M J)) rfl k
  by_cases h1 : v1 < 0
  · rw [if_pos h1] at k
    have k := ly_revb 1 (c' := (22, [(0, .ref (p 16)), (1, .int v1), (2, .int v2)], [.int (Int32.ofInt (-2))], me_w M J)) rfl k
    have k := lz_ri rfl (by decide) k
    rw [k, x119, if_pos h1]
  · rw [if_neg h1] at k
    have k := ly_revb 3 (c' := (if (Int32.ofInt 2) < v1 then 20 else 9, [(0, .ref (p 16)), (1, .int v1), (2, .int v2)], [], me_w M J)) rfl k
    by_cases h6 : (Int32.ofInt 2) < v1
    · rw [if_pos h6] at k
      have k := ly_revb 1 (c' := (22, [(0, .ref (p 16)), (1, .int v1), (2, .int v2)], [.int (Int32.ofInt (-2))], me_w M J)) rfl k
      have k := lz_ri rfl (by decide) k
      rw [k, x119, if_neg h1, if_pos h6]
    · rw [if_neg h6] at k
      have k := ly_revb 1 (c' := (10, [(0, .ref (p 16)), (1, .int v1), (2, .int v2)], [.ref (p 16)], me_w M J)) rfl k
      have k := lz_get (a := (p 16)) (g := 1007) (M := me_w M J) (v := .ref (p 31)) rfl (nt_gfR rfl (hp.1 (16, 7, 31) (by decide))) k
      have k := ly_revb 1 (c' := (14, [(0, .ref (p 16)), (1, .int v1), (2, .int v2)], [.int v2, .ref (p 31)], me_w M J)) rfl k
      obtain ⟨d1, o1, ed, kc, k⟩ := lz_c (g := 65) (q := 1) (vs := [.ref (p 31), .int v2]) (rest := []) rfl rfl (by decide) (Or.inr (Or.inl ⟨_, rfl, rfl⟩)) rfl k
      have e1 := xt65 hn kc
      subst e1
      have k : nt_rn X _ 119 (17, [(0, .ref (p 16)), (1, .int v1), (2, .int v2)], [.int (x65 (fun i => p (31 + i)) v2 J)], me_w M J) _ := k
      have k := ly_revb 1 (c' := (if (x65 (fun i => p (31 + i)) v2 J) = 0 then 20 else 23, [(0, .ref (p 16)), (1, .int v1), (2, .int v2)], [], me_w M J)) rfl k
      by_cases h17 : (x65 (fun i => p (31 + i)) v2 J) = 0
      · rw [if_pos h17] at k
        have k := ly_revb 1 (c' := (22, [(0, .ref (p 16)), (1, .int v1), (2, .int v2)], [.int (Int32.ofInt (-2))], me_w M J)) rfl k
        have k := lz_ri rfl (by decide) k
        rw [k, x119, if_neg h1, if_neg h6, if_pos h17]
      · rw [if_neg h17] at k
        have k := ly_revb 1 (c' := (24, [(0, .ref (p 16)), (1, .int v1), (2, .int v2)], [.ref (p 16)], me_w M J)) rfl k
        have k := lz_get (a := (p 16)) (g := 1007) (M := me_w M J) (v := .ref (p 31)) rfl (nt_gfR rfl (hp.1 (16, 7, 31) (by decide))) k
        have k := ly_revb 2 (c' := (29, [(0, .ref (p 16)), (1, .int v1), (2, .int v2)], [.int v2, .int v1, .ref (p 31)], me_w M J)) rfl k
        obtain ⟨d1, o1, ed, kc, k⟩ := lz_c (g := 76) (q := 1) (vs := [.ref (p 31), .int v1, .int v2]) (rest := []) rfl rfl (by decide) (Or.inr (Or.inl ⟨_, rfl, rfl⟩)) rfl k
        have e1 := xt76 hn kc
        subst e1
        have k : nt_rn X _ 119 (32, [(0, .ref (p 16)), (1, .int v1), (2, .int v2)], [.int (x76 (fun i => p (31 + i)) v1 v2 J)], me_w M J) _ := k
        have k := lz_ri rfl (by decide) k
        rw [k, x119, if_neg h1, if_neg h6, if_neg h17]
/-! .unlike -/
def x120_16 (p : Nat → Nat) (J : Nat → Nat → Int32) : Nat → Int32 → Int32 → Int32
  | 0, v1, v2 => v1
  | c + 1, v1, v2 => if (J (p 32) 1) ≤ v2 then v1
    else if (x76 (fun i => p (31 + i)) (Int32.ofInt 0) v2 J) = v2 then if (x76 (fun i => p (31 + i)) (Int32.ofInt 1) v2 J) = v2 then (x120_16 p J c v1 (v2 + (Int32.ofInt 1)))
        else (x120_16 p J c (v1 ||| ((Int32.ofInt 1) <<< (v2 &&& 31))) (v2 + (Int32.ofInt 1)))
      else (x120_16 p J c (v1 ||| ((Int32.ofInt 1) <<< (v2 &&& 31))) (v2 + (Int32.ofInt 1)))
theorem xt120_16 {X : nt_X} {d : Nat} {M : nt_M} {o : Option Value × nt_M} {p : Nat → Nat} {J : Nat → Nat → Int32} (hp : xs_P M p) (hn : xs_Q M (fun i => p (31 + i))) : ∀ (c : Nat) (v1 : Int32) (v2 : Int32), (J (p 32) 1).toInt - v2.toInt ≤ c → nt_rn X d 120 (16, [(0, .ref (p 16)), (1, .int v1), (2, .int v2)], [], me_w M J) o → o = (some (.int (x120_16 p J c v1 v2)), me_w M J) := by
  intro c
  induction c with
  | zero =>
    intro v1 v2 hc k
    have k := ly_revb 2 (c' := (18, [(0, .ref (p 16)), (1, .int v1), (2, .int v2)], [.ref (p 16), .int v2], me_w M J)) rfl k
    have k := lz_get (a := (p 16)) (g := 1007) (M := me_w M J) (v := .ref (p 31)) rfl (nt_gfR rfl (hp.1 (16, 7, 31) (by decide))) k
    have k := lz_get (a := (p 31)) (g := 600) (M := me_w M J) (v := .ref (p 32)) rfl (nt_gfR rfl (hn.1 (0, 0, 1) (by decide))) k
    have k := lz_get (a := (p 32)) (g := 801) (M := me_w M J) (v := .int (J (p 32) 1)) rfl (congrArg Value.int (rfl)) k
    have k := ly_revb 1 (c' := (if (J (p 32) 1) ≤ v2 then 68 else 30, [(0, .ref (p 16)), (1, .int v1), (2, .int v2)], [], me_w M J)) rfl k
    have h27 : (J (p 32) 1) ≤ v2 := lx_end hc
    rw [if_pos h27] at k
    have k := ly_revb 1 (c' := (69, [(0, .ref (p 16)), (1, .int v1), (2, .int v2)], [.int v1], me_w M J)) rfl k
    have k := lz_ri rfl (by decide) k
    rw [k, x120_16]
  | succ c ih =>
    intro v1 v2 hc k
    have k := ly_revb 2 (c' := (18, [(0, .ref (p 16)), (1, .int v1), (2, .int v2)], [.ref (p 16), .int v2], me_w M J)) rfl k
    have k := lz_get (a := (p 16)) (g := 1007) (M := me_w M J) (v := .ref (p 31)) rfl (nt_gfR rfl (hp.1 (16, 7, 31) (by decide))) k
    have k := lz_get (a := (p 31)) (g := 600) (M := me_w M J) (v := .ref (p 32)) rfl (nt_gfR rfl (hn.1 (0, 0, 1) (by decide))) k
    have k := lz_get (a := (p 32)) (g := 801) (M := me_w M J) (v := .int (J (p 32) 1)) rfl (congrArg Value.int (rfl)) k
    have k := ly_revb 1 (c' := (if (J (p 32) 1) ≤ v2 then 68 else 30, [(0, .ref (p 16)), (1, .int v1), (2, .int v2)], [], me_w M J)) rfl k
    by_cases h27 : (J (p 32) 1) ≤ v2
    · rw [if_pos h27] at k
      have k := ly_revb 1 (c' := (69, [(0, .ref (p 16)), (1, .int v1), (2, .int v2)], [.int v1], me_w M J)) rfl k
      have k := lz_ri rfl (by decide) k
      rw [k, x120_16, if_pos h27]
    · rw [if_neg h27] at k
      have k := ly_revb 1 (c' := (31, [(0, .ref (p 16)), (1, .int v1), (2, .int v2)], [.ref (p 16)], me_w M J)) rfl k
      have k := lz_get (a := (p 16)) (g := 1007) (M := me_w M J) (v := .ref (p 31)) rfl (nt_gfR rfl (hp.1 (16, 7, 31) (by decide))) k
      have k := ly_revb 2 (c' := (36, [(0, .ref (p 16)), (1, .int v1), (2, .int v2)], [.int v2, .int (Int32.ofInt 0), .ref (p 31)], me_w M J)) rfl k
      obtain ⟨d1, o1, ed, kc, k⟩ := lz_c (g := 76) (q := 1) (vs := [.ref (p 31), .int (Int32.ofInt 0), .int v2]) (rest := []) rfl rfl (by decide) (Or.inr (Or.inl ⟨_, rfl, rfl⟩)) rfl k
      have e1 := xt76 hn kc
      subst e1
      have k : nt_rn X _ 120 (39, [(0, .ref (p 16)), (1, .int v1), (2, .int v2)], [.int (x76 (fun i => p (31 + i)) (Int32.ofInt 0) v2 J)], me_w M J) _ := k
      have k := ly_revb 2 (c' := (if (x76 (fun i => p (31 + i)) (Int32.ofInt 0) v2 J) = v2 then 43 else 56, [(0, .ref (p 16)), (1, .int v1), (2, .int v2)], [], me_w M J)) rfl k
      by_cases h40 : (x76 (fun i => p (31 + i)) (Int32.ofInt 0) v2 J) = v2
      · rw [if_pos h40] at k
        have k := ly_revb 1 (c' := (44, [(0, .ref (p 16)), (1, .int v1), (2, .int v2)], [.ref (p 16)], me_w M J)) rfl k
        have k := lz_get (a := (p 16)) (g := 1007) (M := me_w M J) (v := .ref (p 31)) rfl (nt_gfR rfl (hp.1 (16, 7, 31) (by decide))) k
        have k := ly_revb 2 (c' := (49, [(0, .ref (p 16)), (1, .int v1), (2, .int v2)], [.int v2, .int (Int32.ofInt 1), .ref (p 31)], me_w M J)) rfl k
        obtain ⟨d1, o1, ed, kc, k⟩ := lz_c (g := 76) (q := 1) (vs := [.ref (p 31), .int (Int32.ofInt 1), .int v2]) (rest := []) rfl rfl (by decide) (Or.inr (Or.inl ⟨_, rfl, rfl⟩)) rfl k
        have e1 := xt76 hn kc
        subst e1
        have k : nt_rn X _ 120 (52, [(0, .ref (p 16)), (1, .int v1), (2, .int v2)], [.int (x76 (fun i => p (31 + i)) (Int32.ofInt 1) v2 J)], me_w M J) _ := k
        have k := ly_revb 2 (c' := (if (x76 (fun i => p (31 + i)) (Int32.ofInt 1) v2 J) = v2 then 62 else 56, [(0, .ref (p 16)), (1, .int v1), (2, .int v2)], [], me_w M J)) rfl k
        by_cases h53 : (x76 (fun i => p (31 + i)) (Int32.ofInt 1) v2 J) = v2
        · rw [if_pos h53] at k
          have k := ly_revb 2 (c' := (16, [(2, .int (v2 + (Int32.ofInt 1))), (0, .ref (p 16)), (1, .int v1)], [], me_w M J)) rfl k
          have k := nt_rn_w (a := [(2, .int (v2 + (Int32.ofInt 1))), (0, .ref (p 16)), (1, .int v1)]) (b := [(0, .ref (p 16)), (1, .int v1), (2, .int (v2 + (Int32.ofInt 1)))]) ⟨rfl, rfl, rfl, trivial⟩ rfl k
          have k := ih v1 (v2 + (Int32.ofInt 1)) (lx_dec h27 hc) k
          rw [k, x120_16, if_neg h27, if_pos h40, if_pos h53]
        · rw [if_neg h53] at k
          have k := ly_revb 8 (c' := (16, [(2, .int (v2 + (Int32.ofInt 1))), (1, .int (v1 ||| ((Int32.ofInt 1) <<< (v2 &&& 31)))), (0, .ref (p 16))], [], me_w M J)) rfl k
          have k := nt_rn_w (a := [(2, .int (v2 + (Int32.ofInt 1))), (1, .int (v1 ||| ((Int32.ofInt 1) <<< (v2 &&& 31)))), (0, .ref (p 16))]) (b := [(0, .ref (p 16)), (1, .int (v1 ||| ((Int32.ofInt 1) <<< (v2 &&& 31)))), (2, .int (v2 + (Int32.ofInt 1)))]) ⟨rfl, rfl, rfl, trivial⟩ rfl k
          have k := ih (v1 ||| ((Int32.ofInt 1) <<< (v2 &&& 31))) (v2 + (Int32.ofInt 1)) (lx_dec h27 hc) k
          rw [k, x120_16, if_neg h27, if_pos h40, if_neg h53]
      · rw [if_neg h40] at k
        have k := ly_revb 8 (c' := (16, [(2, .int (v2 + (Int32.ofInt 1))), (1, .int (v1 ||| ((Int32.ofInt 1) <<< (v2 &&& 31)))), (0, .ref (p 16))], [], me_w M J)) rfl k
        have k := nt_rn_w (a := [(2, .int (v2 + (Int32.ofInt 1))), (1, .int (v1 ||| ((Int32.ofInt 1) <<< (v2 &&& 31)))), (0, .ref (p 16))]) (b := [(0, .ref (p 16)), (1, .int (v1 ||| ((Int32.ofInt 1) <<< (v2 &&& 31)))), (2, .int (v2 + (Int32.ofInt 1)))]) ⟨rfl, rfl, rfl, trivial⟩ rfl k
        have k := ih (v1 ||| ((Int32.ofInt 1) <<< (v2 &&& 31))) (v2 + (Int32.ofInt 1)) (lx_dec h27 hc) k
        rw [k, x120_16, if_neg h27, if_neg h40]
def x120 (p : Nat → Nat) (J : Nat → Nat → Int32) : Int32 := if (J (p 31) 1) = 0 then (Int32.ofInt (-1))
  else (x120_16 p J ((J (p 32) 1).toNatClampNeg) (Int32.ofInt 0) (Int32.ofInt 0))
theorem xt120 {X : nt_X} {d : Nat} {M : nt_M} {o : Option Value × nt_M} {p : Nat → Nat} {J : Nat → Nat → Int32} (hp : xs_P M p) (hn : xs_Q M (fun i => p (31 + i))) (k : nt_ev X d 120 [.ref (p 16)] (me_w M J) o) : o = (some (.int (x120 p J)), me_w M J) := by
  have k : nt_rn X d 120 (0, [(0, .ref (p 16))], [], me_w M J) o := k
  have k := ly_revb 1 (c' := (1, [(0, .ref (p 16))], [.ref (p 16)], me_w M J)) rfl k
  have k := lz_get (a := (p 16)) (g := 1007) (M := me_w M J) (v := .ref (p 31)) rfl (nt_gfR rfl (hp.1 (16, 7, 31) (by decide))) k
  have k := lz_get (a := (p 31)) (g := 601) (M := me_w M J) (v := .int (J (p 31) 1)) rfl (congrArg Value.int (rfl)) k
  have k := ly_revb 1 (c' := (if (J (p 31) 1) = 0 then 10 else 12, [(0, .ref (p 16))], [], me_w M J)) rfl k
  by_cases h7 : (J (p 31) 1) = 0
  · rw [if_pos h7] at k
    have k := ly_revb 1 (c' := (11, [(0, .ref (p 16))], [.int (Int32.ofInt (-1))], me_w M J)) rfl k
    have k := lz_ri rfl (by decide) k
    rw [k, x120, if_pos h7]
  · rw [if_neg h7] at k
    have k := ly_revb 4 (c' := (16, [(2, .int (Int32.ofInt 0)), (1, .int (Int32.ofInt 0)), (0, .ref (p 16))], [], me_w M J)) rfl k
    have k := nt_rn_w (a := [(2, .int (Int32.ofInt 0)), (1, .int (Int32.ofInt 0)), (0, .ref (p 16))]) (b := [(0, .ref (p 16)), (1, .int (Int32.ofInt 0)), (2, .int (Int32.ofInt 0))]) ⟨rfl, rfl, rfl, trivial⟩ rfl k
    have k := xt120_16 hp hn  ((J (p 32) 1).toNatClampNeg) (Int32.ofInt 0) (Int32.ofInt 0) (lx_beg (by decide)) k
    rw [k, x120, if_neg h7]
end
section
/-! ahead -/
theorem mx_ls {X : nt_X} {d mi pc g t q : Nat} {df : Int} {ps : Array (Int × Int)} {ls : nt_V} {st : List Value} {M : nt_M} {o : Option Value × nt_M} {x : Int32} (hat : nt_at mi pc = some (pc, .lookupswitch df ps, g, t)) (hq : ((pc : Int) + Op.lookupswitch.offset ps.toList df x.toInt) = q) (k : nt_rn X d mi (pc, ls, .int x :: st, M) o) : nt_rn X d mi (q, ls, st, M) o := by
  obtain ⟨c', hs, k⟩ := lz_s hat rfl k
  have hs : (if (ps.toList.zip (ps.toList.drop 1)).all (fun (a, b) => a.1 < b.1) = true then nt_jp pc (Op.lookupswitch.offset ps.toList df x.toInt) fun q => some (q, ls, st, M) else none) = some c' := hs
  obtain ⟨_, hs⟩ := nt_if_some hs
  unfold nt_jp at hs
  rw [hq] at hs
  obtain ⟨_, e⟩ := nt_if_some hs
  cases e
  exact k
theorem mx_lo {a o df k : Int} {r : List (Int × Int)} (h : ¬ k = a) : Op.lookupswitch.offset ((a, o) :: r) df k = Op.lookupswitch.offset r df k := by
  rw [Op.lookupswitch.offset_cons, if_neg]
  intro c
  exact h (by first | exact c | exact c.symm | exact (beq_iff_eq.mp c) | exact (beq_iff_eq.mp c).symm)
theorem xs_d48 {M : nt_M} {p : Nat → Nat} (hp : xs_P M p) : ∀ i j, i < 17 → j < 17 → (fun i => p (48 + i)) i ≠ (fun i => p (31 + i)) j := fun i j hi hj => hp.2.1 (48 + i) (31 + j) (by omega) (by omega) (by omega)
theorem xs_ln {M : nt_M} {q : Nat → Nat} {L : Nat → Nat → Int64} (h : xs_N M q) : xs_N (lw M L) q := h
/-! Model.keeps -/
def x227_2 (p : Nat → Nat) : Nat → Int32 → (Nat → Nat → Int32) → (Nat → Nat → Int32)
  | 0, v1, J => J
  | c + 1, v1, J => if (Int32.ofInt 212) ≤ v1 then J
    else (x227_2 p c (v1 + (Int32.ofInt 1)) (nt_u J (p 7) v1.toNatClampNeg (J (p 4) v1.toNatClampNeg)))
theorem xt227_2 {X : nt_X} {d : Nat} {M : nt_M} {o : Option Value × nt_M} {p : Nat → Nat} (hp : xs_P M p) : ∀ (c : Nat) (v1 : Int32) (J : Nat → Nat → Int32), (Int32.ofInt 212).toInt - v1.toInt ≤ c → nt_rn X d 227 (2, [(0, .ref (p 0)), (1, .int v1)], [], me_w M J) o → o = (none, me_w M (x227_2 p c v1 J)) := by
  intro c
  induction c with
  | zero =>
    intro v1 J hc k
    have k := ly_revb 3 (c' := (if (Int32.ofInt 212) ≤ v1 then 27 else 9, [(0, .ref (p 0)), (1, .int v1)], [], me_w M J)) rfl k
    have h6 : (Int32.ofInt 212) ≤ v1 := lx_end hc
    rw [if_pos h6] at k
    have k := lz_rv rfl rfl k
    rw [k, x227_2]
  | succ c ih =>
    intro v1 J hc k
    have k := ly_revb 3 (c' := (if (Int32.ofInt 212) ≤ v1 then 27 else 9, [(0, .ref (p 0)), (1, .int v1)], [], me_w M J)) rfl k
    by_cases h6 : (Int32.ofInt 212) ≤ v1
    · rw [if_pos h6] at k
      have k := lz_rv rfl rfl k
      rw [k, x227_2, if_pos h6]
    · rw [if_neg h6] at k
      have k := ly_revb 1 (c' := (10, [(0, .ref (p 0)), (1, .int v1)], [.ref (p 0)], me_w M J)) rfl k
      have k := lz_get (a := (p 0)) (g := 1128) (M := me_w M J) (v := .ref (p 7)) rfl (nt_gfR rfl (hp.1 (0, 28, 7) (by decide))) k
      have k := ly_revb 2 (c' := (15, [(0, .ref (p 0)), (1, .int v1)], [.ref (p 0), .int v1, .ref (p 7)], me_w M J)) rfl k
      have k := lz_get (a := (p 0)) (g := 1127) (M := me_w M J) (v := .ref (p 4)) rfl (nt_gfR rfl (hp.1 (0, 27, 4) (by decide))) k
      have k := ly_revb 1 (c' := (19, [(0, .ref (p 0)), (1, .int v1)], [.int v1, .ref (p 4), .int v1, .ref (p 7)], me_w M J)) rfl k
      have k := mx_iald (v := J (p 4) v1.toNatClampNeg) rfl (hp.2.2.1 4 (by omega)) (rfl) k
      have k := mx_iast (q := v1.toNatClampNeg) rfl rfl k
      have k : nt_rn X _ 227 (21, [(0, .ref (p 0)), (1, .int v1)], [], me_w M (nt_u J (p 7) v1.toNatClampNeg (J (p 4) v1.toNatClampNeg))) _ := k
      have k := ly_revb 2 (c' := (2, [(1, .int (v1 + (Int32.ofInt 1))), (0, .ref (p 0))], [], me_w M (nt_u J (p 7) v1.toNatClampNeg (J (p 4) v1.toNatClampNeg)))) rfl k
      have k := nt_rn_w (a := [(1, .int (v1 + (Int32.ofInt 1))), (0, .ref (p 0))]) (b := [(0, .ref (p 0)), (1, .int (v1 + (Int32.ofInt 1)))]) ⟨rfl, rfl, trivial⟩ rfl k
      have k := ih (v1 + (Int32.ofInt 1)) (nt_u J (p 7) v1.toNatClampNeg (J (p 4) v1.toNatClampNeg)) (lx_dec h6 hc) k
      rw [k, x227_2, if_neg h6]
def x227 (p : Nat → Nat) (J : Nat → Nat → Int32) : (Nat → Nat → Int32) := (x227_2 p ((Int32.ofInt 212).toNatClampNeg) (Int32.ofInt 0) J)
theorem xt227 {X : nt_X} {d : Nat} {M : nt_M} {o : Option Value × nt_M} {p : Nat → Nat} {J : Nat → Nat → Int32} (hp : xs_P M p) (k : nt_ev X d 227 [.ref (p 0)] (me_w M J) o) : o = (none, me_w M (x227 p J)) := by
  have k : nt_rn X d 227 (0, [(0, .ref (p 0))], [], me_w M J) o := k
  have k := ly_revb 2 (c' := (2, [(1, .int (Int32.ofInt 0)), (0, .ref (p 0))], [], me_w M J)) rfl k
  have k := nt_rn_w (a := [(1, .int (Int32.ofInt 0)), (0, .ref (p 0))]) (b := [(0, .ref (p 0)), (1, .int (Int32.ofInt 0))]) ⟨rfl, rfl, trivial⟩ rfl k
  have k := xt227_2 hp  ((Int32.ofInt 212).toNatClampNeg) (Int32.ofInt 0) J (lx_beg (by decide)) k
  rw [k, x227]
theorem x227_2_frJ {p : Nat → Nat} {b : Nat} : ∀ (c : Nat) (v1 : Int32) (J : Nat → Nat → Int32), b ≠ p 7 → x227_2 p c v1 J b = J b := by
  intro c
  induction c with
  | zero =>
    intro v1 J n0
    rw [x227_2]
    all_goals first | (dsimp only; exact (show J b = J b from rfl)) | exact (show J b = J b from rfl)
  | succ c ih =>
    intro v1 J n0
    rw [x227_2]
    by_cases h : (Int32.ofInt 212) ≤ v1
    · rw [if_pos h]
      all_goals first | (dsimp only; exact (show J b = J b from rfl)) | exact (show J b = J b from rfl)
    · rw [if_neg h]
      exact (ih _ _ n0).trans (mu_o n0)
theorem x227_frJ {p : Nat → Nat} {J : Nat → Nat → Int32} {b : Nat} (n0 : b ≠ p 7) : x227 p J b = J b := by
  unfold x227
  exact (x227_2_frJ _ _ _ n0).trans (rfl)
/-! Model.putsBack -/
def x229_2 (p : Nat → Nat) : Nat → Int32 → (Nat → Nat → Int32) → (Nat → Nat → Int32)
  | 0, v1, J => J
  | c + 1, v1, J => if (Int32.ofInt 212) ≤ v1 then J
    else (x229_2 p c (v1 + (Int32.ofInt 1)) (nt_u J (p 4) v1.toNatClampNeg (J (p 7) v1.toNatClampNeg)))
theorem xt229_2 {X : nt_X} {d : Nat} {M : nt_M} {o : Option Value × nt_M} {p : Nat → Nat} (hp : xs_P M p) : ∀ (c : Nat) (v1 : Int32) (J : Nat → Nat → Int32), (Int32.ofInt 212).toInt - v1.toInt ≤ c → nt_rn X d 229 (2, [(0, .ref (p 0)), (1, .int v1)], [], me_w M J) o → o = (none, me_w M (x229_2 p c v1 J)) := by
  intro c
  induction c with
  | zero =>
    intro v1 J hc k
    have k := ly_revb 3 (c' := (if (Int32.ofInt 212) ≤ v1 then 27 else 9, [(0, .ref (p 0)), (1, .int v1)], [], me_w M J)) rfl k
    have h6 : (Int32.ofInt 212) ≤ v1 := lx_end hc
    rw [if_pos h6] at k
    have k := lz_rv rfl rfl k
    rw [k, x229_2]
  | succ c ih =>
    intro v1 J hc k
    have k := ly_revb 3 (c' := (if (Int32.ofInt 212) ≤ v1 then 27 else 9, [(0, .ref (p 0)), (1, .int v1)], [], me_w M J)) rfl k
    by_cases h6 : (Int32.ofInt 212) ≤ v1
    · rw [if_pos h6] at k
      have k := lz_rv rfl rfl k
      rw [k, x229_2, if_pos h6]
    · rw [if_neg h6] at k
      have k := ly_revb 1 (c' := (10, [(0, .ref (p 0)), (1, .int v1)], [.ref (p 0)], me_w M J)) rfl k
      have k := lz_get (a := (p 0)) (g := 1127) (M := me_w M J) (v := .ref (p 4)) rfl (nt_gfR rfl (hp.1 (0, 27, 4) (by decide))) k
      have k := ly_revb 2 (c' := (15, [(0, .ref (p 0)), (1, .int v1)], [.ref (p 0), .int v1, .ref (p 4)], me_w M J)) rfl k
      have k := lz_get (a := (p 0)) (g := 1128) (M := me_w M J) (v := .ref (p 7)) rfl (nt_gfR rfl (hp.1 (0, 28, 7) (by decide))) k
      have k := ly_revb 1 (c' := (19, [(0, .ref (p 0)), (1, .int v1)], [.int v1, .ref (p 7), .int v1, .ref (p 4)], me_w M J)) rfl k
      have k := mx_iald (v := J (p 7) v1.toNatClampNeg) rfl (hp.2.2.1 7 (by omega)) (rfl) k
      have k := mx_iast (q := v1.toNatClampNeg) rfl rfl k
      have k : nt_rn X _ 229 (21, [(0, .ref (p 0)), (1, .int v1)], [], me_w M (nt_u J (p 4) v1.toNatClampNeg (J (p 7) v1.toNatClampNeg))) _ := k
      have k := ly_revb 2 (c' := (2, [(1, .int (v1 + (Int32.ofInt 1))), (0, .ref (p 0))], [], me_w M (nt_u J (p 4) v1.toNatClampNeg (J (p 7) v1.toNatClampNeg)))) rfl k
      have k := nt_rn_w (a := [(1, .int (v1 + (Int32.ofInt 1))), (0, .ref (p 0))]) (b := [(0, .ref (p 0)), (1, .int (v1 + (Int32.ofInt 1)))]) ⟨rfl, rfl, trivial⟩ rfl k
      have k := ih (v1 + (Int32.ofInt 1)) (nt_u J (p 4) v1.toNatClampNeg (J (p 7) v1.toNatClampNeg)) (lx_dec h6 hc) k
      rw [k, x229_2, if_neg h6]
def x229 (p : Nat → Nat) (J : Nat → Nat → Int32) : (Nat → Nat → Int32) := (x229_2 p ((Int32.ofInt 212).toNatClampNeg) (Int32.ofInt 0) J)
theorem xt229 {X : nt_X} {d : Nat} {M : nt_M} {o : Option Value × nt_M} {p : Nat → Nat} {J : Nat → Nat → Int32} (hp : xs_P M p) (k : nt_ev X d 229 [.ref (p 0)] (me_w M J) o) : o = (none, me_w M (x229 p J)) := by
  have k : nt_rn X d 229 (0, [(0, .ref (p 0))], [], me_w M J) o := k
  have k := ly_revb 2 (c' := (2, [(1, .int (Int32.ofInt 0)), (0, .ref (p 0))], [], me_w M J)) rfl k
  have k := nt_rn_w (a := [(1, .int (Int32.ofInt 0)), (0, .ref (p 0))]) (b := [(0, .ref (p 0)), (1, .int (Int32.ofInt 0))]) ⟨rfl, rfl, trivial⟩ rfl k
  have k := xt229_2 hp  ((Int32.ofInt 212).toNatClampNeg) (Int32.ofInt 0) J (lx_beg (by decide)) k
  rw [k, x229]
theorem x229_2_frJ {p : Nat → Nat} {b : Nat} : ∀ (c : Nat) (v1 : Int32) (J : Nat → Nat → Int32), b ≠ p 4 → x229_2 p c v1 J b = J b := by
  intro c
  induction c with
  | zero =>
    intro v1 J n0
    rw [x229_2]
    all_goals first | (dsimp only; exact (show J b = J b from rfl)) | exact (show J b = J b from rfl)
  | succ c ih =>
    intro v1 J n0
    rw [x229_2]
    by_cases h : (Int32.ofInt 212) ≤ v1
    · rw [if_pos h]
      all_goals first | (dsimp only; exact (show J b = J b from rfl)) | exact (show J b = J b from rfl)
    · rw [if_neg h]
      exact (ih _ _ n0).trans (mu_o n0)
theorem x229_frJ {p : Nat → Nat} {J : Nat → Nat → Int32} {b : Nat} (n0 : b ≠ p 4) : x229 p J b = J b := by
  unfold x229
  exact (x229_2_frJ _ _ _ n0).trans (rfl)
/-! Model.ahead -/
def x226_41 (p : Nat → Nat) (v1 : Int32) (v2 : Int32) (v3 : Int32) : Nat → Int32 → (Nat → Nat → Int32) → (Nat → Nat → Int64) → Int32 × (Nat → Nat → Int32) × (Nat → Nat → Int64)
  | 0, v4, J, L => if v3 = 0 then ((J (p 4) 7) - (J (p 7) 7), x229 p J, L)
    else if v3 = (Int32.ofInt 1) then (x228 p J, x229 p J, L)
      else ((J (p 4) 8) - (J (p 7) 8), x229 p J, L)
  | c + 1, v4, J, L => if v2 ≤ v4 then if v3 = 0 then ((J (p 4) 7) - (J (p 7) 7), x229 p J, L)
      else if v3 = (Int32.ofInt 1) then (x228 p J, x229 p J, L)
        else ((J (p 4) 8) - (J (p 7) 8), x229 p J, L)
    else (x226_41 p v1 v2 v3 c (v4 + (Int32.ofInt 1)) ((x190 p v1 J L).1) ((x190 p v1 J L).2))
theorem xt226_41 {X : nt_X} {d : Nat} {M : nt_M} {o : Option Value × nt_M} {p : Nat → Nat} {v1 : Int32} {v2 : Int32} {v3 : Int32} (hp : xs_P M p) : ∀ (c : Nat) (v4 : Int32) (J : Nat → Nat → Int32) (L : Nat → Nat → Int64), (xr_W (J (p 4)) ∧ v2.toInt - v4.toInt ≤ c) → nt_rn X d 226 (41, [(0, .ref (p 0)), (1, .int v1), (2, .int v2), (3, .int v3), (4, .int v4)], [], me_w (lw M L) J) o → o = (some (.int ((x226_41 p v1 v2 v3 c v4 J L).1)), me_w (lw M ((x226_41 p v1 v2 v3 c v4 J L).2.2)) ((x226_41 p v1 v2 v3 c v4 J L).2.1)) := by
  intro c
  induction c with
  | zero =>
    intro v4 J L hc k
    have k := ly_revb 3 (c' := (if v2 ≤ v4 then 58 else 47, [(0, .ref (p 0)), (1, .int v1), (2, .int v2), (3, .int v3), (4, .int v4)], [], me_w (lw M L) J)) rfl k
    have h44 : v2 ≤ v4 := lx_end hc.2
    rw [if_pos h44] at k
    have k := ly_revb 2 (c' := (if v3 = 0 then 62 else 80, [(0, .ref (p 0)), (1, .int v1), (2, .int v2), (3, .int v3), (4, .int v4)], [], me_w (lw M L) J)) rfl k
    by_cases h59 : v3 = 0
    · rw [if_pos h59] at k
      have k := ly_revb 1 (c' := (63, [(0, .ref (p 0)), (1, .int v1), (2, .int v2), (3, .int v3), (4, .int v4)], [.ref (p 0)], me_w (lw M L) J)) rfl k
      have k := lz_get (a := (p 0)) (g := 1127) (M := me_w (lw M L) J) (v := .ref (p 4)) rfl (nt_gfR rfl (hp.1 (0, 27, 4) (by decide))) k
      have k := ly_revb 1 (c' := (68, [(0, .ref (p 0)), (1, .int v1), (2, .int v2), (3, .int v3), (4, .int v4)], [.int (Int32.ofInt 7), .ref (p 4)], me_w (lw M L) J)) rfl k
      have k := mx_iald (v := J (p 4) 7) rfl (hp.2.2.1 4 (by omega)) ((congrArg (J (p 4)) (show (Int32.ofInt 7).toNatClampNeg = 7 from rfl)).trans (rfl)) k
      have k := ly_revb 1 (c' := (70, [(0, .ref (p 0)), (1, .int v1), (2, .int v2), (3, .int v3), (4, .int v4)], [.ref (p 0), .int (J (p 4) 7)], me_w (lw M L) J)) rfl k
      have k := lz_get (a := (p 0)) (g := 1128) (M := me_w (lw M L) J) (v := .ref (p 7)) rfl (nt_gfR rfl (hp.1 (0, 28, 7) (by decide))) k
      have k := ly_revb 1 (c' := (75, [(0, .ref (p 0)), (1, .int v1), (2, .int v2), (3, .int v3), (4, .int v4)], [.int (Int32.ofInt 7), .ref (p 7), .int (J (p 4) 7)], me_w (lw M L) J)) rfl k
      have k := mx_iald (v := J (p 7) 7) rfl (hp.2.2.1 7 (by omega)) ((congrArg (J (p 7)) (show (Int32.ofInt 7).toNatClampNeg = 7 from rfl)).trans (rfl)) k
      have k := ly_revb 4 (c' := (110, [(4, .int ((J (p 4) 7) - (J (p 7) 7))), (0, .ref (p 0)), (1, .int v1), (2, .int v2), (3, .int v3)], [.ref (p 0)], me_w (lw M L) J)) rfl k
      obtain ⟨d1, o1, ed, kc, k⟩ := lz_c (g := 229) (q := 1) (vs := [.ref (p 0)]) (rest := []) rfl rfl (by decide) (Or.inr (Or.inl ⟨_, rfl, rfl⟩)) rfl k
      have e1 := xt229 (xs_lp hp) kc
      subst e1
      have k : nt_rn X _ 226 (113, [(4, .int ((J (p 4) 7) - (J (p 7) 7))), (0, .ref (p 0)), (1, .int v1), (2, .int v2), (3, .int v3)], [], me_w (lw M L) (x229 p J)) _ := k
      have k := ly_revb 1 (c' := (115, [(4, .int ((J (p 4) 7) - (J (p 7) 7))), (0, .ref (p 0)), (1, .int v1), (2, .int v2), (3, .int v3)], [.int ((J (p 4) 7) - (J (p 7) 7))], me_w (lw M L) (x229 p J))) rfl k
      have k := lz_ri rfl (by decide) k
      rw [k, x226_41, if_pos h59]
    · rw [if_neg h59] at k
      have k := ly_revb 3 (c' := (if v3 = (Int32.ofInt 1) then 85 else 92, [(0, .ref (p 0)), (1, .int v1), (2, .int v2), (3, .int v3), (4, .int v4)], [], me_w (lw M L) J)) rfl k
      by_cases h82 : v3 = (Int32.ofInt 1)
      · rw [if_pos h82] at k
        have k := ly_revb 1 (c' := (86, [(0, .ref (p 0)), (1, .int v1), (2, .int v2), (3, .int v3), (4, .int v4)], [.ref (p 0)], me_w (lw M L) J)) rfl k
        obtain ⟨d1, o1, ed, kc, k⟩ := lz_c (g := 228) (q := 1) (vs := [.ref (p 0)]) (rest := []) rfl rfl (by decide) (Or.inr (Or.inl ⟨_, rfl, rfl⟩)) rfl k
        have e1 := xt228 (xs_lp hp) kc
        subst e1
        have k : nt_rn X _ 226 (89, [(0, .ref (p 0)), (1, .int v1), (2, .int v2), (3, .int v3), (4, .int v4)], [.int (x228 p J)], me_w (lw M L) J) _ := k
        have k := ly_revb 3 (c' := (110, [(4, .int (x228 p J)), (0, .ref (p 0)), (1, .int v1), (2, .int v2), (3, .int v3)], [.ref (p 0)], me_w (lw M L) J)) rfl k
        obtain ⟨d1, o1, ed, kc, k⟩ := lz_c (g := 229) (q := 1) (vs := [.ref (p 0)]) (rest := []) rfl rfl (by decide) (Or.inr (Or.inl ⟨_, rfl, rfl⟩)) rfl k
        have e1 := xt229 (xs_lp hp) kc
        subst e1
        have k : nt_rn X _ 226 (113, [(4, .int (x228 p J)), (0, .ref (p 0)), (1, .int v1), (2, .int v2), (3, .int v3)], [], me_w (lw M L) (x229 p J)) _ := k
        have k := ly_revb 1 (c' := (115, [(4, .int (x228 p J)), (0, .ref (p 0)), (1, .int v1), (2, .int v2), (3, .int v3)], [.int (x228 p J)], me_w (lw M L) (x229 p J))) rfl k
        have k := lz_ri rfl (by decide) k
        rw [k, x226_41, if_neg h59, if_pos h82]
      · rw [if_neg h82] at k
        have k := ly_revb 1 (c' := (93, [(0, .ref (p 0)), (1, .int v1), (2, .int v2), (3, .int v3), (4, .int v4)], [.ref (p 0)], me_w (lw M L) J)) rfl k
        have k := lz_get (a := (p 0)) (g := 1127) (M := me_w (lw M L) J) (v := .ref (p 4)) rfl (nt_gfR rfl (hp.1 (0, 27, 4) (by decide))) k
        have k := ly_revb 1 (c' := (98, [(0, .ref (p 0)), (1, .int v1), (2, .int v2), (3, .int v3), (4, .int v4)], [.int (Int32.ofInt 8), .ref (p 4)], me_w (lw M L) J)) rfl k
        have k := mx_iald (v := J (p 4) 8) rfl (hp.2.2.1 4 (by omega)) ((congrArg (J (p 4)) (show (Int32.ofInt 8).toNatClampNeg = 8 from rfl)).trans (rfl)) k
        have k := ly_revb 1 (c' := (100, [(0, .ref (p 0)), (1, .int v1), (2, .int v2), (3, .int v3), (4, .int v4)], [.ref (p 0), .int (J (p 4) 8)], me_w (lw M L) J)) rfl k
        have k := lz_get (a := (p 0)) (g := 1128) (M := me_w (lw M L) J) (v := .ref (p 7)) rfl (nt_gfR rfl (hp.1 (0, 28, 7) (by decide))) k
        have k := ly_revb 1 (c' := (105, [(0, .ref (p 0)), (1, .int v1), (2, .int v2), (3, .int v3), (4, .int v4)], [.int (Int32.ofInt 8), .ref (p 7), .int (J (p 4) 8)], me_w (lw M L) J)) rfl k
        have k := mx_iald (v := J (p 7) 8) rfl (hp.2.2.1 7 (by omega)) ((congrArg (J (p 7)) (show (Int32.ofInt 8).toNatClampNeg = 8 from rfl)).trans (rfl)) k
        have k := ly_revb 3 (c' := (110, [(4, .int ((J (p 4) 8) - (J (p 7) 8))), (0, .ref (p 0)), (1, .int v1), (2, .int v2), (3, .int v3)], [.ref (p 0)], me_w (lw M L) J)) rfl k
        obtain ⟨d1, o1, ed, kc, k⟩ := lz_c (g := 229) (q := 1) (vs := [.ref (p 0)]) (rest := []) rfl rfl (by decide) (Or.inr (Or.inl ⟨_, rfl, rfl⟩)) rfl k
        have e1 := xt229 (xs_lp hp) kc
        subst e1
        have k : nt_rn X _ 226 (113, [(4, .int ((J (p 4) 8) - (J (p 7) 8))), (0, .ref (p 0)), (1, .int v1), (2, .int v2), (3, .int v3)], [], me_w (lw M L) (x229 p J)) _ := k
        have k := ly_revb 1 (c' := (115, [(4, .int ((J (p 4) 8) - (J (p 7) 8))), (0, .ref (p 0)), (1, .int v1), (2, .int v2), (3, .int v3)], [.int ((J (p 4) 8) - (J (p 7) 8))], me_w (lw M L) (x229 p J))) rfl k
        have k := lz_ri rfl (by decide) k
        rw [k, x226_41, if_neg h59, if_neg h82]
  | succ c ih =>
    intro v4 J L hc k
    have k := ly_revb 3 (c' := (if v2 ≤ v4 then 58 else 47, [(0, .ref (p 0)), (1, .int v1), (2, .int v2), (3, .int v3), (4, .int v4)], [], me_w (lw M L) J)) rfl k
    by_cases h44 : v2 ≤ v4
    · rw [if_pos h44] at k
      have k := ly_revb 2 (c' := (if v3 = 0 then 62 else 80, [(0, .ref (p 0)), (1, .int v1), (2, .int v2), (3, .int v3), (4, .int v4)], [], me_w (lw M L) J)) rfl k
      by_cases h59 : v3 = 0
      · rw [if_pos h59] at k
        have k := ly_revb 1 (c' := (63, [(0, .ref (p 0)), (1, .int v1), (2, .int v2), (3, .int v3), (4, .int v4)], [.ref (p 0)], me_w (lw M L) J)) rfl k
        have k := lz_get (a := (p 0)) (g := 1127) (M := me_w (lw M L) J) (v := .ref (p 4)) rfl (nt_gfR rfl (hp.1 (0, 27, 4) (by decide))) k
        have k := ly_revb 1 (c' := (68, [(0, .ref (p 0)), (1, .int v1), (2, .int v2), (3, .int v3), (4, .int v4)], [.int (Int32.ofInt 7), .ref (p 4)], me_w (lw M L) J)) rfl k
        have k := mx_iald (v := J (p 4) 7) rfl (hp.2.2.1 4 (by omega)) ((congrArg (J (p 4)) (show (Int32.ofInt 7).toNatClampNeg = 7 from rfl)).trans (rfl)) k
        have k := ly_revb 1 (c' := (70, [(0, .ref (p 0)), (1, .int v1), (2, .int v2), (3, .int v3), (4, .int v4)], [.ref (p 0), .int (J (p 4) 7)], me_w (lw M L) J)) rfl k
        have k := lz_get (a := (p 0)) (g := 1128) (M := me_w (lw M L) J) (v := .ref (p 7)) rfl (nt_gfR rfl (hp.1 (0, 28, 7) (by decide))) k
        have k := ly_revb 1 (c' := (75, [(0, .ref (p 0)), (1, .int v1), (2, .int v2), (3, .int v3), (4, .int v4)], [.int (Int32.ofInt 7), .ref (p 7), .int (J (p 4) 7)], me_w (lw M L) J)) rfl k
        have k := mx_iald (v := J (p 7) 7) rfl (hp.2.2.1 7 (by omega)) ((congrArg (J (p 7)) (show (Int32.ofInt 7).toNatClampNeg = 7 from rfl)).trans (rfl)) k
        have k := ly_revb 4 (c' := (110, [(4, .int ((J (p 4) 7) - (J (p 7) 7))), (0, .ref (p 0)), (1, .int v1), (2, .int v2), (3, .int v3)], [.ref (p 0)], me_w (lw M L) J)) rfl k
        obtain ⟨d1, o1, ed, kc, k⟩ := lz_c (g := 229) (q := 1) (vs := [.ref (p 0)]) (rest := []) rfl rfl (by decide) (Or.inr (Or.inl ⟨_, rfl, rfl⟩)) rfl k
        have e1 := xt229 (xs_lp hp) kc
        subst e1
        have k : nt_rn X _ 226 (113, [(4, .int ((J (p 4) 7) - (J (p 7) 7))), (0, .ref (p 0)), (1, .int v1), (2, .int v2), (3, .int v3)], [], me_w (lw M L) (x229 p J)) _ := k
        have k := ly_revb 1 (c' := (115, [(4, .int ((J (p 4) 7) - (J (p 7) 7))), (0, .ref (p 0)), (1, .int v1), (2, .int v2), (3, .int v3)], [.int ((J (p 4) 7) - (J (p 7) 7))], me_w (lw M L) (x229 p J))) rfl k
        have k := lz_ri rfl (by decide) k
        rw [k, x226_41, if_pos h44, if_pos h59]
      · rw [if_neg h59] at k
        have k := ly_revb 3 (c' := (if v3 = (Int32.ofInt 1) then 85 else 92, [(0, .ref (p 0)), (1, .int v1), (2, .int v2), (3, .int v3), (4, .int v4)], [], me_w (lw M L) J)) rfl k
        by_cases h82 : v3 = (Int32.ofInt 1)
        · rw [if_pos h82] at k
          have k := ly_revb 1 (c' := (86, [(0, .ref (p 0)), (1, .int v1), (2, .int v2), (3, .int v3), (4, .int v4)], [.ref (p 0)], me_w (lw M L) J)) rfl k
          obtain ⟨d1, o1, ed, kc, k⟩ := lz_c (g := 228) (q := 1) (vs := [.ref (p 0)]) (rest := []) rfl rfl (by decide) (Or.inr (Or.inl ⟨_, rfl, rfl⟩)) rfl k
          have e1 := xt228 (xs_lp hp) kc
          subst e1
          have k : nt_rn X _ 226 (89, [(0, .ref (p 0)), (1, .int v1), (2, .int v2), (3, .int v3), (4, .int v4)], [.int (x228 p J)], me_w (lw M L) J) _ := k
          have k := ly_revb 3 (c' := (110, [(4, .int (x228 p J)), (0, .ref (p 0)), (1, .int v1), (2, .int v2), (3, .int v3)], [.ref (p 0)], me_w (lw M L) J)) rfl k
          obtain ⟨d1, o1, ed, kc, k⟩ := lz_c (g := 229) (q := 1) (vs := [.ref (p 0)]) (rest := []) rfl rfl (by decide) (Or.inr (Or.inl ⟨_, rfl, rfl⟩)) rfl k
          have e1 := xt229 (xs_lp hp) kc
          subst e1
          have k : nt_rn X _ 226 (113, [(4, .int (x228 p J)), (0, .ref (p 0)), (1, .int v1), (2, .int v2), (3, .int v3)], [], me_w (lw M L) (x229 p J)) _ := k
          have k := ly_revb 1 (c' := (115, [(4, .int (x228 p J)), (0, .ref (p 0)), (1, .int v1), (2, .int v2), (3, .int v3)], [.int (x228 p J)], me_w (lw M L) (x229 p J))) rfl k
          have k := lz_ri rfl (by decide) k
          rw [k, x226_41, if_pos h44, if_neg h59, if_pos h82]
        · rw [if_neg h82] at k
          have k := ly_revb 1 (c' := (93, [(0, .ref (p 0)), (1, .int v1), (2, .int v2), (3, .int v3), (4, .int v4)], [.ref (p 0)], me_w (lw M L) J)) rfl k
          have k := lz_get (a := (p 0)) (g := 1127) (M := me_w (lw M L) J) (v := .ref (p 4)) rfl (nt_gfR rfl (hp.1 (0, 27, 4) (by decide))) k
          have k := ly_revb 1 (c' := (98, [(0, .ref (p 0)), (1, .int v1), (2, .int v2), (3, .int v3), (4, .int v4)], [.int (Int32.ofInt 8), .ref (p 4)], me_w (lw M L) J)) rfl k
          have k := mx_iald (v := J (p 4) 8) rfl (hp.2.2.1 4 (by omega)) ((congrArg (J (p 4)) (show (Int32.ofInt 8).toNatClampNeg = 8 from rfl)).trans (rfl)) k
          have k := ly_revb 1 (c' := (100, [(0, .ref (p 0)), (1, .int v1), (2, .int v2), (3, .int v3), (4, .int v4)], [.ref (p 0), .int (J (p 4) 8)], me_w (lw M L) J)) rfl k
          have k := lz_get (a := (p 0)) (g := 1128) (M := me_w (lw M L) J) (v := .ref (p 7)) rfl (nt_gfR rfl (hp.1 (0, 28, 7) (by decide))) k
          have k := ly_revb 1 (c' := (105, [(0, .ref (p 0)), (1, .int v1), (2, .int v2), (3, .int v3), (4, .int v4)], [.int (Int32.ofInt 8), .ref (p 7), .int (J (p 4) 8)], me_w (lw M L) J)) rfl k
          have k := mx_iald (v := J (p 7) 8) rfl (hp.2.2.1 7 (by omega)) ((congrArg (J (p 7)) (show (Int32.ofInt 8).toNatClampNeg = 8 from rfl)).trans (rfl)) k
          have k := ly_revb 3 (c' := (110, [(4, .int ((J (p 4) 8) - (J (p 7) 8))), (0, .ref (p 0)), (1, .int v1), (2, .int v2), (3, .int v3)], [.ref (p 0)], me_w (lw M L) J)) rfl k
          obtain ⟨d1, o1, ed, kc, k⟩ := lz_c (g := 229) (q := 1) (vs := [.ref (p 0)]) (rest := []) rfl rfl (by decide) (Or.inr (Or.inl ⟨_, rfl, rfl⟩)) rfl k
          have e1 := xt229 (xs_lp hp) kc
          subst e1
          have k : nt_rn X _ 226 (113, [(4, .int ((J (p 4) 8) - (J (p 7) 8))), (0, .ref (p 0)), (1, .int v1), (2, .int v2), (3, .int v3)], [], me_w (lw M L) (x229 p J)) _ := k
          have k := ly_revb 1 (c' := (115, [(4, .int ((J (p 4) 8) - (J (p 7) 8))), (0, .ref (p 0)), (1, .int v1), (2, .int v2), (3, .int v3)], [.int ((J (p 4) 8) - (J (p 7) 8))], me_w (lw M L) (x229 p J))) rfl k
          have k := lz_ri rfl (by decide) k
          rw [k, x226_41, if_pos h44, if_neg h59, if_neg h82]
    · rw [if_neg h44] at k
      have k := ly_revb 2 (c' := (49, [(0, .ref (p 0)), (1, .int v1), (2, .int v2), (3, .int v3), (4, .int v4)], [.int v1, .ref (p 0)], me_w (lw M L) J)) rfl k
      obtain ⟨d1, o1, ed, kc, k⟩ := lz_c (g := 190) (q := 1) (vs := [.ref (p 0), .int v1]) (rest := []) rfl rfl (by decide) (Or.inr (Or.inl ⟨_, rfl, rfl⟩)) rfl k
      have e1 := xt190 hp hc.1 kc
      subst e1
      have k : nt_rn X _ 226 (52, [(0, .ref (p 0)), (1, .int v1), (2, .int v2), (3, .int v3), (4, .int v4)], [], me_w (lw M ((x190 p v1 J L).2)) ((x190 p v1 J L).1)) _ := k
      have k := ly_revb 2 (c' := (41, [(4, .int (v4 + (Int32.ofInt 1))), (0, .ref (p 0)), (1, .int v1), (2, .int v2), (3, .int v3)], [], me_w (lw M ((x190 p v1 J L).2)) ((x190 p v1 J L).1))) rfl k
      have k := nt_rn_w (a := [(4, .int (v4 + (Int32.ofInt 1))), (0, .ref (p 0)), (1, .int v1), (2, .int v2), (3, .int v3)]) (b := [(0, .ref (p 0)), (1, .int v1), (2, .int v2), (3, .int v3), (4, .int (v4 + (Int32.ofInt 1)))]) ⟨rfl, rfl, rfl, rfl, rfl, trivial⟩ rfl k
      have k := ih (v4 + (Int32.ofInt 1)) ((x190 p v1 J L).1) ((x190 p v1 J L).2) (⟨xw_190 (hp.2.1 4 0 (by omega) (by omega) (by decide)) hc.1, lx_dec h44 hc.2⟩) k
      rw [k, x226_41, if_neg h44]
theorem x226_41_rule {p : Nat → Nat} {v1 : Int32} {v2 : Int32} {v3 : Int32} {I : Nat → Int32 → (Nat → Nat → Int32) → (Nat → Nat → Int64) → Prop} {Q : Int32 × (Nat → Nat → Int32) × (Nat → Nat → Int64) → Prop} (h0 : ∀ (v4 : Int32) (J : Nat → Nat → Int32) (L : Nat → Nat → Int64), I 0 v4 J L → Q (if v3 = 0 then ((J (p 4) 7) - (J (p 7) 7), x229 p J, L)
    else if v3 = (Int32.ofInt 1) then (x228 p J, x229 p J, L)
      else ((J (p 4) 8) - (J (p 7) 8), x229 p J, L))) (h1 : ∀ (c : Nat) (v4 : Int32) (J : Nat → Nat → Int32) (L : Nat → Nat → Int64), I (c + 1) v4 J L →
    if v2 ≤ v4 then if v3 = 0 then (Q ((J (p 4) 7) - (J (p 7) 7), x229 p J, L))
      else if v3 = (Int32.ofInt 1) then (Q (x228 p J, x229 p J, L))
        else (Q ((J (p 4) 8) - (J (p 7) 8), x229 p J, L))
    else (I c (v4 + (Int32.ofInt 1)) ((x190 p v1 J L).1) ((x190 p v1 J L).2))) : ∀ (c : Nat) (v4 : Int32) (J : Nat → Nat → Int32) (L : Nat → Nat → Int64), I c v4 J L → Q (x226_41 p v1 v2 v3 c v4 J L) := by
  intro c
  induction c with
  | zero =>
    intro v4 J L hi
    rw [x226_41]
    exact h0 v4 J L hi
  | succ c ih =>
    intro v4 J L hi
    have hi := h1 c v4 J L hi
    rw [x226_41]
    by_cases h : v2 ≤ v4
    · rw [if_pos h] at hi ⊢
      by_cases h : v3 = 0
      · rw [if_pos h] at hi ⊢
        exact hi
      · rw [if_neg h] at hi ⊢
        by_cases h : v3 = (Int32.ofInt 1)
        · rw [if_pos h] at hi ⊢
          exact hi
        · rw [if_neg h] at hi ⊢
          exact hi
    · rw [if_neg h] at hi ⊢
      exact ih _ _ _ hi
def x226 (p : Nat → Nat) (v1 : Int32) (v2 : Int32) (v3 : Int32) (J : Nat → Nat → Int32) (L : Nat → Nat → Int64) : Int32 × (Nat → Nat → Int32) × (Nat → Nat → Int64) := if (x187 p v1 J) = 0 then (Int32.ofInt (-1), J, L)
  else if (x145 v2.toInt64 (Int64.ofNat 0) 100) = 0 then (Int32.ofInt (-1), J, L)
    else if (x145 v3.toInt64 (Int64.ofNat 0) 2) = 0 then (Int32.ofInt (-1), J, L)
      else (x226_41 p v1 v2 v3 v2.toNatClampNeg (Int32.ofInt 0) (x227 p J) L)
theorem xt226 {X : nt_X} {d : Nat} {M : nt_M} {o : Option Value × nt_M} {p : Nat → Nat} {v1 : Int32} {v2 : Int32} {v3 : Int32} {J : Nat → Nat → Int32} {L : Nat → Nat → Int64} (hp : xs_P M p) (hw : xr_W (J (p 4))) (k : nt_ev X d 226 [.ref (p 0), .int v1, .int v2, .int v3] (me_w (lw M L) J) o) : o = (some (.int ((x226 p v1 v2 v3 J L).1)), me_w (lw M ((x226 p v1 v2 v3 J L).2.2)) ((x226 p v1 v2 v3 J L).2.1)) := by
  have k : nt_rn X d 226 (0, [(0, .ref (p 0)), (1, .int v1), (2, .int v2), (3, .int v3)], [], me_w (lw M L) J) o := k
  have k := ly_revb 2 (c' := (2, [(0, .ref (p 0)), (1, .int v1), (2, .int v2), (3, .int v3)], [.int v1, .ref (p 0)], me_w (lw M L) J)) rfl k
  obtain ⟨d1, o1, ed, kc, k⟩ := lz_c (g := 187) (q := 1) (vs := [.ref (p 0), .int v1]) (rest := []) rfl rfl (by decide) (Or.inr (Or.inl ⟨_, rfl, rfl⟩)) rfl k
  have e1 := xt187 (xs_lp hp) kc
  subst e1
  have k : nt_rn X _ 226 (5, [(0, .ref (p 0)), (1, .int v1), (2, .int v2), (3, .int v3)], [.int (x187 p v1 J)], me_w (lw M L) J) _ := k
  have k := ly_revb 1 (c' := (if (x187 p v1 J) = 0 then 32 else 8, [(0, .ref (p 0)), (1, .int v1), (2, .int v2), (3, .int v3)], [], me_w (lw M L) J)) rfl k
  by_cases h5 : (x187 p v1 J) = 0
  · rw [if_pos h5] at k
    have k := ly_revb 1 (c' := (33, [(0, .ref (p 0)), (1, .int v1), (2, .int v2), (3, .int v3)], [.int (Int32.ofInt (-1))], me_w (lw M L) J)) rfl k
    have k := lz_ri rfl (by decide) k
    rw [k, x226, if_pos h5]
  · rw [if_neg h5] at k
    have k := ly_revb 4 (c' := (14, [(0, .ref (p 0)), (1, .int v1), (2, .int v2), (3, .int v3)], [.long 100, .long (Int64.ofNat 0), .long v2.toInt64], me_w (lw M L) J)) rfl k
    obtain ⟨d1, o1, ed, kc, k⟩ := lz_c (g := 145) (q := 0) (vs := [.long v2.toInt64, .long (Int64.ofNat 0), .long 100]) (rest := []) rfl rfl (by decide) (Or.inl ⟨_, rfl, rfl⟩) rfl k
    have e1 := xt145  kc
    subst e1
    have k : nt_rn X _ 226 (17, [(0, .ref (p 0)), (1, .int v1), (2, .int v2), (3, .int v3)], [.int (x145 v2.toInt64 (Int64.ofNat 0) 100)], me_w (lw M L) J) _ := k
    have k := ly_revb 1 (c' := (if (x145 v2.toInt64 (Int64.ofNat 0) 100) = 0 then 32 else 20, [(0, .ref (p 0)), (1, .int v1), (2, .int v2), (3, .int v3)], [], me_w (lw M L) J)) rfl k
    by_cases h17 : (x145 v2.toInt64 (Int64.ofNat 0) 100) = 0
    · rw [if_pos h17] at k
      have k := ly_revb 1 (c' := (33, [(0, .ref (p 0)), (1, .int v1), (2, .int v2), (3, .int v3)], [.int (Int32.ofInt (-1))], me_w (lw M L) J)) rfl k
      have k := lz_ri rfl (by decide) k
      rw [k, x226, if_neg h5, if_pos h17]
    · rw [if_neg h17] at k
      have k := ly_revb 4 (c' := (26, [(0, .ref (p 0)), (1, .int v1), (2, .int v2), (3, .int v3)], [.long 2, .long (Int64.ofNat 0), .long v3.toInt64], me_w (lw M L) J)) rfl k
      obtain ⟨d1, o1, ed, kc, k⟩ := lz_c (g := 145) (q := 0) (vs := [.long v3.toInt64, .long (Int64.ofNat 0), .long 2]) (rest := []) rfl rfl (by decide) (Or.inl ⟨_, rfl, rfl⟩) rfl k
      have e1 := xt145  kc
      subst e1
      have k : nt_rn X _ 226 (29, [(0, .ref (p 0)), (1, .int v1), (2, .int v2), (3, .int v3)], [.int (x145 v3.toInt64 (Int64.ofNat 0) 2)], me_w (lw M L) J) _ := k
      have k := ly_revb 1 (c' := (if (x145 v3.toInt64 (Int64.ofNat 0) 2) = 0 then 32 else 34, [(0, .ref (p 0)), (1, .int v1), (2, .int v2), (3, .int v3)], [], me_w (lw M L) J)) rfl k
      by_cases h29 : (x145 v3.toInt64 (Int64.ofNat 0) 2) = 0
      · rw [if_pos h29] at k
        have k := ly_revb 1 (c' := (33, [(0, .ref (p 0)), (1, .int v1), (2, .int v2), (3, .int v3)], [.int (Int32.ofInt (-1))], me_w (lw M L) J)) rfl k
        have k := lz_ri rfl (by decide) k
        rw [k, x226, if_neg h5, if_neg h17, if_pos h29]
      · rw [if_neg h29] at k
        have k := ly_revb 1 (c' := (35, [(0, .ref (p 0)), (1, .int v1), (2, .int v2), (3, .int v3)], [.ref (p 0)], me_w (lw M L) J)) rfl k
        obtain ⟨d1, o1, ed, kc, k⟩ := lz_c (g := 227) (q := 1) (vs := [.ref (p 0)]) (rest := []) rfl rfl (by decide) (Or.inr (Or.inl ⟨_, rfl, rfl⟩)) rfl k
        have e1 := xt227 (xs_lp hp) kc
        subst e1
        have k : nt_rn X _ 226 (38, [(0, .ref (p 0)), (1, .int v1), (2, .int v2), (3, .int v3)], [], me_w (lw M L) (x227 p J)) _ := k
        have k := ly_revb 2 (c' := (41, [(4, .int (Int32.ofInt 0)), (0, .ref (p 0)), (1, .int v1), (2, .int v2), (3, .int v3)], [], me_w (lw M L) (x227 p J))) rfl k
        have k := nt_rn_w (a := [(4, .int (Int32.ofInt 0)), (0, .ref (p 0)), (1, .int v1), (2, .int v2), (3, .int v3)]) (b := [(0, .ref (p 0)), (1, .int v1), (2, .int v2), (3, .int v3), (4, .int (Int32.ofInt 0))]) ⟨rfl, rfl, rfl, rfl, rfl, trivial⟩ rfl k
        have k := xt226_41 hp  v2.toNatClampNeg (Int32.ofInt 0) (x227 p J) L (⟨by rw [x227_frJ (hp.2.1 4 7 (by omega) (by omega) (by decide))]; exact hw, lx_beg (by decide)⟩) k
        rw [k, x226, if_neg h5, if_neg h17, if_neg h29]
theorem x226_41_frJ {p : Nat → Nat} {v1 : Int32} {v2 : Int32} {v3 : Int32} {b : Nat} : ∀ (c : Nat) (v4 : Int32) (J : Nat → Nat → Int32) (L : Nat → Nat → Int64), b ≠ p 0 → b ≠ p 4 → b ≠ p 7 → (x226_41 p v1 v2 v3 c v4 J L).2.1 b = J b := by
  intro c
  induction c with
  | zero =>
    intro v4 J L n0 n1 n2
    rw [x226_41]
    by_cases h : v3 = 0
    · rw [if_pos h]
      all_goals first | (dsimp only; exact (show (x229 p J) b = J b from x229_frJ  n1)) | exact (show (x229 p J) b = J b from x229_frJ  n1)
    · rw [if_neg h]
      by_cases h : v3 = (Int32.ofInt 1)
      · rw [if_pos h]
        all_goals first | (dsimp only; exact (show (x229 p J) b = J b from x229_frJ  n1)) | exact (show (x229 p J) b = J b from x229_frJ  n1)
      · rw [if_neg h]
        all_goals first | (dsimp only; exact (show (x229 p J) b = J b from x229_frJ  n1)) | exact (show (x229 p J) b = J b from x229_frJ  n1)
  | succ c ih =>
    intro v4 J L n0 n1 n2
    rw [x226_41]
    by_cases h : v2 ≤ v4
    · rw [if_pos h]
      by_cases h : v3 = 0
      · rw [if_pos h]
        all_goals first | (dsimp only; exact (show (x229 p J) b = J b from x229_frJ  n1)) | exact (show (x229 p J) b = J b from x229_frJ  n1)
      · rw [if_neg h]
        by_cases h : v3 = (Int32.ofInt 1)
        · rw [if_pos h]
          all_goals first | (dsimp only; exact (show (x229 p J) b = J b from x229_frJ  n1)) | exact (show (x229 p J) b = J b from x229_frJ  n1)
        · rw [if_neg h]
          all_goals first | (dsimp only; exact (show (x229 p J) b = J b from x229_frJ  n1)) | exact (show (x229 p J) b = J b from x229_frJ  n1)
    · rw [if_neg h]
      exact (ih _ _ _ n0 n1 n2).trans (x190_frJ  n0 n1)
theorem x226_frJ {p : Nat → Nat} {v1 : Int32} {v2 : Int32} {v3 : Int32} {J : Nat → Nat → Int32} {L : Nat → Nat → Int64} {b : Nat} (n0 : b ≠ p 0) (n1 : b ≠ p 4) (n2 : b ≠ p 7) : (x226 p v1 v2 v3 J L).2.1 b = J b := by
  unfold x226
  by_cases h : (x187 p v1 J) = 0
  · rw [if_pos h]
    all_goals first | (dsimp only; exact (show J b = J b from rfl)) | exact (show J b = J b from rfl)
  · rw [if_neg h]
    by_cases h : (x145 v2.toInt64 (Int64.ofNat 0) 100) = 0
    · rw [if_pos h]
      all_goals first | (dsimp only; exact (show J b = J b from rfl)) | exact (show J b = J b from rfl)
    · rw [if_neg h]
      by_cases h : (x145 v3.toInt64 (Int64.ofNat 0) 2) = 0
      · rw [if_pos h]
        all_goals first | (dsimp only; exact (show J b = J b from rfl)) | exact (show J b = J b from rfl)
      · rw [if_neg h]
        exact (x226_41_frJ _ _ _ _ n0 n1 n2).trans (x227_frJ  n2)
/-! .ahead -/
def x123_53 (p : Nat → Nat) (sp : Nat) (ln : Nat) (v1 : Int32) (v2 : Int32) (v3 : Int32) : Nat → Int32 → (Nat → Nat → Int32) → (Nat → Nat → Int64) → Int32 × (Nat → Nat → Int32) × (Nat → Nat → Int64)
  | 0, v4, J, L => if v3 = Int32.ofInt 0 then ((J (p 48) 5) - (J (p 31) 5), J, L)
    else if v3 = Int32.ofInt 1 then (x79 (fun i => p (48 + i)) J, J, L)
      else ((J (p 48) 4) - (J (p 31) 4), J, L)
  | c + 1, v4, J, L => if v2 ≤ v4 then if v3 = Int32.ofInt 0 then ((J (p 48) 5) - (J (p 31) 5), J, L)
      else if v3 = Int32.ofInt 1 then (x79 (fun i => p (48 + i)) J, J, L)
        else ((J (p 48) 4) - (J (p 31) 4), J, L)
    else if (Int32.ofInt 99) < (J (p 48) 2) then if v3 = Int32.ofInt 0 then ((J (p 48) 5) - (J (p 31) 5), J, L)
        else if v3 = Int32.ofInt 1 then (x79 (fun i => p (48 + i)) J, J, L)
          else ((J (p 48) 4) - (J (p 31) 4), J, L)
      else (x123_53 p sp ln v1 v2 v3 c (v4 + (Int32.ofInt 1)) ((x1 p (fun i => p (48 + i)) sp ln J L).1) ((x1 p (fun i => p (48 + i)) sp ln J L).2))
theorem xt123_53 {X : nt_X} {d : Nat} {M : nt_M} {o : Option Value × nt_M} {p : Nat → Nat} {sp : Nat} {ln : Nat} {ru : Nat} {v1 : Int32} {v2 : Int32} {v3 : Int32} (hp : xs_P M p) (hn : xs_Q M (fun i => p (31 + i))) (hm : xs_Q M (fun i => p (48 + i))) (hk : xs_N M (fun i => p (48 + i))) (hs : xs_S M p ru sp ln) (h0 : ¬ v1 < 0) (hr : nt_R M (p 23) v1.toNatClampNeg = some ru) : ∀ (c : Nat) (v4 : Int32) (J : Nat → Nat → Int32) (L : Nat → Nat → Int64), (¬ J (p 16) 4 ≤ v1 ∧ v2.toInt - v4.toInt ≤ c) → nt_rn X d 123 (53, [(0, .ref (p 16)), (1, .int v1), (2, .int v2), (3, .int v3), (4, .int v4)], [], me_w (lw M L) J) o → o = (some (.int ((x123_53 p sp ln v1 v2 v3 c v4 J L).1)), me_w (lw M ((x123_53 p sp ln v1 v2 v3 c v4 J L).2.2)) ((x123_53 p sp ln v1 v2 v3 c v4 J L).2.1)) := by
  intro c
  induction c with
  | zero =>
    intro v4 J L hc k
    have k := ly_revb 3 (c' := (if v2 ≤ v4 then 93 else 59, [(0, .ref (p 16)), (1, .int v1), (2, .int v2), (3, .int v3), (4, .int v4)], [], me_w (lw M L) J)) rfl k
    have h56 : v2 ≤ v4 := lx_end hc.2
    rw [if_pos h56] at k
    have k := ly_revb 1 (c' := (94, [(0, .ref (p 16)), (1, .int v1), (2, .int v2), (3, .int v3), (4, .int v4)], [.int v3], me_w (lw M L) J)) rfl k
    by_cases h94_0 : v3 = Int32.ofInt 0
    · have k := mx_ls (q := 120) rfl (by rw [h94_0]; decide) k
      have k : nt_rn X _ 123 (120, [(0, .ref (p 16)), (1, .int v1), (2, .int v2), (3, .int v3), (4, .int v4)], [], me_w (lw M L) J) _ := k
      have k := ly_revb 1 (c' := (121, [(0, .ref (p 16)), (1, .int v1), (2, .int v2), (3, .int v3), (4, .int v4)], [.ref (p 16)], me_w (lw M L) J)) rfl k
      have k := lz_get (a := (p 16)) (g := 1008) (M := me_w (lw M L) J) (v := .ref (p 48)) rfl (nt_gfR rfl (hp.1 (16, 8, 48) (by decide))) k
      have k := lz_get (a := (p 48)) (g := 605) (M := me_w (lw M L) J) (v := .int (J (p 48) 5)) rfl (congrArg Value.int (rfl)) k
      have k := ly_revb 1 (c' := (128, [(0, .ref (p 16)), (1, .int v1), (2, .int v2), (3, .int v3), (4, .int v4)], [.ref (p 16), .int (J (p 48) 5)], me_w (lw M L) J)) rfl k
      have k := lz_get (a := (p 16)) (g := 1007) (M := me_w (lw M L) J) (v := .ref (p 31)) rfl (nt_gfR rfl (hp.1 (16, 7, 31) (by decide))) k
      have k := lz_get (a := (p 31)) (g := 605) (M := me_w (lw M L) J) (v := .int (J (p 31) 5)) rfl (congrArg Value.int (rfl)) k
      have k := ly_revb 1 (c' := (135, [(0, .ref (p 16)), (1, .int v1), (2, .int v2), (3, .int v3), (4, .int v4)], [.int ((J (p 48) 5) - (J (p 31) 5))], me_w (lw M L) J)) rfl k
      have k := lz_ri rfl (by decide) k
      rw [k, x123_53, if_pos h94_0]
    · by_cases h94_1 : v3 = Int32.ofInt 1
      · have k := mx_ls (q := 136) rfl (by rw [h94_1]; decide) k
        have k : nt_rn X _ 123 (136, [(0, .ref (p 16)), (1, .int v1), (2, .int v2), (3, .int v3), (4, .int v4)], [], me_w (lw M L) J) _ := k
        have k := ly_revb 1 (c' := (137, [(0, .ref (p 16)), (1, .int v1), (2, .int v2), (3, .int v3), (4, .int v4)], [.ref (p 16)], me_w (lw M L) J)) rfl k
        have k := lz_get (a := (p 16)) (g := 1008) (M := me_w (lw M L) J) (v := .ref (p 48)) rfl (nt_gfR rfl (hp.1 (16, 8, 48) (by decide))) k
        obtain ⟨d1, o1, ed, kc, k⟩ := lz_c (g := 79) (q := 1) (vs := [.ref (p 48)]) (rest := []) rfl rfl (by decide) (Or.inr (Or.inl ⟨_, rfl, rfl⟩)) rfl k
        have e1 := xt79 (xs_lq hm) kc
        subst e1
        have k : nt_rn X _ 123 (143, [(0, .ref (p 16)), (1, .int v1), (2, .int v2), (3, .int v3), (4, .int v4)], [.int (x79 (fun i => p (48 + i)) J)], me_w (lw M L) J) _ := k
        have k := lz_ri rfl (by decide) k
        rw [k, x123_53, if_neg h94_0, if_pos h94_1]
      · have k := mx_ls (q := 144) rfl (by
          show ((94 : Nat) : Int) + Op.lookupswitch.offset [(0, 26), (1, 42)] 50 _ = _
          rw [mx_lo (fun e => h94_0 (Int32.toInt_inj.mp (e.trans (show (0 : Int) = (Int32.ofInt 0).toInt by decide)))), mx_lo (fun e => h94_1 (Int32.toInt_inj.mp (e.trans (show (1 : Int) = (Int32.ofInt 1).toInt by decide)))), Op.lookupswitch.offset_nil]; decide) k
        have k : nt_rn X _ 123 (144, [(0, .ref (p 16)), (1, .int v1), (2, .int v2), (3, .int v3), (4, .int v4)], [], me_w (lw M L) J) _ := k
        have k := ly_revb 1 (c' := (145, [(0, .ref (p 16)), (1, .int v1), (2, .int v2), (3, .int v3), (4, .int v4)], [.ref (p 16)], me_w (lw M L) J)) rfl k
        have k := lz_get (a := (p 16)) (g := 1008) (M := me_w (lw M L) J) (v := .ref (p 48)) rfl (nt_gfR rfl (hp.1 (16, 8, 48) (by decide))) k
        have k := lz_get (a := (p 48)) (g := 604) (M := me_w (lw M L) J) (v := .int (J (p 48) 4)) rfl (congrArg Value.int (rfl)) k
        have k := ly_revb 1 (c' := (152, [(0, .ref (p 16)), (1, .int v1), (2, .int v2), (3, .int v3), (4, .int v4)], [.ref (p 16), .int (J (p 48) 4)], me_w (lw M L) J)) rfl k
        have k := lz_get (a := (p 16)) (g := 1007) (M := me_w (lw M L) J) (v := .ref (p 31)) rfl (nt_gfR rfl (hp.1 (16, 7, 31) (by decide))) k
        have k := lz_get (a := (p 31)) (g := 604) (M := me_w (lw M L) J) (v := .int (J (p 31) 4)) rfl (congrArg Value.int (rfl)) k
        have k := ly_revb 1 (c' := (159, [(0, .ref (p 16)), (1, .int v1), (2, .int v2), (3, .int v3), (4, .int v4)], [.int ((J (p 48) 4) - (J (p 31) 4))], me_w (lw M L) J)) rfl k
        have k := lz_ri rfl (by decide) k
        rw [k, x123_53, if_neg h94_0, if_neg h94_1]
  | succ c ih =>
    intro v4 J L hc k
    have k := ly_revb 3 (c' := (if v2 ≤ v4 then 93 else 59, [(0, .ref (p 16)), (1, .int v1), (2, .int v2), (3, .int v3), (4, .int v4)], [], me_w (lw M L) J)) rfl k
    by_cases h56 : v2 ≤ v4
    · rw [if_pos h56] at k
      have k := ly_revb 1 (c' := (94, [(0, .ref (p 16)), (1, .int v1), (2, .int v2), (3, .int v3), (4, .int v4)], [.int v3], me_w (lw M L) J)) rfl k
      by_cases h94_0 : v3 = Int32.ofInt 0
      · have k := mx_ls (q := 120) rfl (by rw [h94_0]; decide) k
        have k : nt_rn X _ 123 (120, [(0, .ref (p 16)), (1, .int v1), (2, .int v2), (3, .int v3), (4, .int v4)], [], me_w (lw M L) J) _ := k
        have k := ly_revb 1 (c' := (121, [(0, .ref (p 16)), (1, .int v1), (2, .int v2), (3, .int v3), (4, .int v4)], [.ref (p 16)], me_w (lw M L) J)) rfl k
        have k := lz_get (a := (p 16)) (g := 1008) (M := me_w (lw M L) J) (v := .ref (p 48)) rfl (nt_gfR rfl (hp.1 (16, 8, 48) (by decide))) k
        have k := lz_get (a := (p 48)) (g := 605) (M := me_w (lw M L) J) (v := .int (J (p 48) 5)) rfl (congrArg Value.int (rfl)) k
        have k := ly_revb 1 (c' := (128, [(0, .ref (p 16)), (1, .int v1), (2, .int v2), (3, .int v3), (4, .int v4)], [.ref (p 16), .int (J (p 48) 5)], me_w (lw M L) J)) rfl k
        have k := lz_get (a := (p 16)) (g := 1007) (M := me_w (lw M L) J) (v := .ref (p 31)) rfl (nt_gfR rfl (hp.1 (16, 7, 31) (by decide))) k
        have k := lz_get (a := (p 31)) (g := 605) (M := me_w (lw M L) J) (v := .int (J (p 31) 5)) rfl (congrArg Value.int (rfl)) k
        have k := ly_revb 1 (c' := (135, [(0, .ref (p 16)), (1, .int v1), (2, .int v2), (3, .int v3), (4, .int v4)], [.int ((J (p 48) 5) - (J (p 31) 5))], me_w (lw M L) J)) rfl k
        have k := lz_ri rfl (by decide) k
        rw [k, x123_53, if_pos h56, if_pos h94_0]
      · by_cases h94_1 : v3 = Int32.ofInt 1
        · have k := mx_ls (q := 136) rfl (by rw [h94_1]; decide) k
          have k : nt_rn X _ 123 (136, [(0, .ref (p 16)), (1, .int v1), (2, .int v2), (3, .int v3), (4, .int v4)], [], me_w (lw M L) J) _ := k
          have k := ly_revb 1 (c' := (137, [(0, .ref (p 16)), (1, .int v1), (2, .int v2), (3, .int v3), (4, .int v4)], [.ref (p 16)], me_w (lw M L) J)) rfl k
          have k := lz_get (a := (p 16)) (g := 1008) (M := me_w (lw M L) J) (v := .ref (p 48)) rfl (nt_gfR rfl (hp.1 (16, 8, 48) (by decide))) k
          obtain ⟨d1, o1, ed, kc, k⟩ := lz_c (g := 79) (q := 1) (vs := [.ref (p 48)]) (rest := []) rfl rfl (by decide) (Or.inr (Or.inl ⟨_, rfl, rfl⟩)) rfl k
          have e1 := xt79 (xs_lq hm) kc
          subst e1
          have k : nt_rn X _ 123 (143, [(0, .ref (p 16)), (1, .int v1), (2, .int v2), (3, .int v3), (4, .int v4)], [.int (x79 (fun i => p (48 + i)) J)], me_w (lw M L) J) _ := k
          have k := lz_ri rfl (by decide) k
          rw [k, x123_53, if_pos h56, if_neg h94_0, if_pos h94_1]
        · have k := mx_ls (q := 144) rfl (by
            show ((94 : Nat) : Int) + Op.lookupswitch.offset [(0, 26), (1, 42)] 50 _ = _
            rw [mx_lo (fun e => h94_0 (Int32.toInt_inj.mp (e.trans (show (0 : Int) = (Int32.ofInt 0).toInt by decide)))), mx_lo (fun e => h94_1 (Int32.toInt_inj.mp (e.trans (show (1 : Int) = (Int32.ofInt 1).toInt by decide)))), Op.lookupswitch.offset_nil]; decide) k
          have k : nt_rn X _ 123 (144, [(0, .ref (p 16)), (1, .int v1), (2, .int v2), (3, .int v3), (4, .int v4)], [], me_w (lw M L) J) _ := k
          have k := ly_revb 1 (c' := (145, [(0, .ref (p 16)), (1, .int v1), (2, .int v2), (3, .int v3), (4, .int v4)], [.ref (p 16)], me_w (lw M L) J)) rfl k
          have k := lz_get (a := (p 16)) (g := 1008) (M := me_w (lw M L) J) (v := .ref (p 48)) rfl (nt_gfR rfl (hp.1 (16, 8, 48) (by decide))) k
          have k := lz_get (a := (p 48)) (g := 604) (M := me_w (lw M L) J) (v := .int (J (p 48) 4)) rfl (congrArg Value.int (rfl)) k
          have k := ly_revb 1 (c' := (152, [(0, .ref (p 16)), (1, .int v1), (2, .int v2), (3, .int v3), (4, .int v4)], [.ref (p 16), .int (J (p 48) 4)], me_w (lw M L) J)) rfl k
          have k := lz_get (a := (p 16)) (g := 1007) (M := me_w (lw M L) J) (v := .ref (p 31)) rfl (nt_gfR rfl (hp.1 (16, 7, 31) (by decide))) k
          have k := lz_get (a := (p 31)) (g := 604) (M := me_w (lw M L) J) (v := .int (J (p 31) 4)) rfl (congrArg Value.int (rfl)) k
          have k := ly_revb 1 (c' := (159, [(0, .ref (p 16)), (1, .int v1), (2, .int v2), (3, .int v3), (4, .int v4)], [.int ((J (p 48) 4) - (J (p 31) 4))], me_w (lw M L) J)) rfl k
          have k := lz_ri rfl (by decide) k
          rw [k, x123_53, if_pos h56, if_neg h94_0, if_neg h94_1]
    · rw [if_neg h56] at k
      have k := ly_revb 1 (c' := (60, [(0, .ref (p 16)), (1, .int v1), (2, .int v2), (3, .int v3), (4, .int v4)], [.ref (p 16)], me_w (lw M L) J)) rfl k
      have k := lz_get (a := (p 16)) (g := 1008) (M := me_w (lw M L) J) (v := .ref (p 48)) rfl (nt_gfR rfl (hp.1 (16, 8, 48) (by decide))) k
      have k := lz_get (a := (p 48)) (g := 602) (M := me_w (lw M L) J) (v := .int (J (p 48) 2)) rfl (congrArg Value.int (rfl)) k
      have k := ly_revb 2 (c' := (if (Int32.ofInt 99) < (J (p 48) 2) then 93 else 71, [(0, .ref (p 16)), (1, .int v1), (2, .int v2), (3, .int v3), (4, .int v4)], [], me_w (lw M L) J)) rfl k
      by_cases h68 : (Int32.ofInt 99) < (J (p 48) 2)
      · rw [if_pos h68] at k
        have k := ly_revb 1 (c' := (94, [(0, .ref (p 16)), (1, .int v1), (2, .int v2), (3, .int v3), (4, .int v4)], [.int v3], me_w (lw M L) J)) rfl k
        by_cases h94_0 : v3 = Int32.ofInt 0
        · have k := mx_ls (q := 120) rfl (by rw [h94_0]; decide) k
          have k : nt_rn X _ 123 (120, [(0, .ref (p 16)), (1, .int v1), (2, .int v2), (3, .int v3), (4, .int v4)], [], me_w (lw M L) J) _ := k
          have k := ly_revb 1 (c' := (121, [(0, .ref (p 16)), (1, .int v1), (2, .int v2), (3, .int v3), (4, .int v4)], [.ref (p 16)], me_w (lw M L) J)) rfl k
          have k := lz_get (a := (p 16)) (g := 1008) (M := me_w (lw M L) J) (v := .ref (p 48)) rfl (nt_gfR rfl (hp.1 (16, 8, 48) (by decide))) k
          have k := lz_get (a := (p 48)) (g := 605) (M := me_w (lw M L) J) (v := .int (J (p 48) 5)) rfl (congrArg Value.int (rfl)) k
          have k := ly_revb 1 (c' := (128, [(0, .ref (p 16)), (1, .int v1), (2, .int v2), (3, .int v3), (4, .int v4)], [.ref (p 16), .int (J (p 48) 5)], me_w (lw M L) J)) rfl k
          have k := lz_get (a := (p 16)) (g := 1007) (M := me_w (lw M L) J) (v := .ref (p 31)) rfl (nt_gfR rfl (hp.1 (16, 7, 31) (by decide))) k
          have k := lz_get (a := (p 31)) (g := 605) (M := me_w (lw M L) J) (v := .int (J (p 31) 5)) rfl (congrArg Value.int (rfl)) k
          have k := ly_revb 1 (c' := (135, [(0, .ref (p 16)), (1, .int v1), (2, .int v2), (3, .int v3), (4, .int v4)], [.int ((J (p 48) 5) - (J (p 31) 5))], me_w (lw M L) J)) rfl k
          have k := lz_ri rfl (by decide) k
          rw [k, x123_53, if_neg h56, if_pos h68, if_pos h94_0]
        · by_cases h94_1 : v3 = Int32.ofInt 1
          · have k := mx_ls (q := 136) rfl (by rw [h94_1]; decide) k
            have k : nt_rn X _ 123 (136, [(0, .ref (p 16)), (1, .int v1), (2, .int v2), (3, .int v3), (4, .int v4)], [], me_w (lw M L) J) _ := k
            have k := ly_revb 1 (c' := (137, [(0, .ref (p 16)), (1, .int v1), (2, .int v2), (3, .int v3), (4, .int v4)], [.ref (p 16)], me_w (lw M L) J)) rfl k
            have k := lz_get (a := (p 16)) (g := 1008) (M := me_w (lw M L) J) (v := .ref (p 48)) rfl (nt_gfR rfl (hp.1 (16, 8, 48) (by decide))) k
            obtain ⟨d1, o1, ed, kc, k⟩ := lz_c (g := 79) (q := 1) (vs := [.ref (p 48)]) (rest := []) rfl rfl (by decide) (Or.inr (Or.inl ⟨_, rfl, rfl⟩)) rfl k
            have e1 := xt79 (xs_lq hm) kc
            subst e1
            have k : nt_rn X _ 123 (143, [(0, .ref (p 16)), (1, .int v1), (2, .int v2), (3, .int v3), (4, .int v4)], [.int (x79 (fun i => p (48 + i)) J)], me_w (lw M L) J) _ := k
            have k := lz_ri rfl (by decide) k
            rw [k, x123_53, if_neg h56, if_pos h68, if_neg h94_0, if_pos h94_1]
          · have k := mx_ls (q := 144) rfl (by
              show ((94 : Nat) : Int) + Op.lookupswitch.offset [(0, 26), (1, 42)] 50 _ = _
              rw [mx_lo (fun e => h94_0 (Int32.toInt_inj.mp (e.trans (show (0 : Int) = (Int32.ofInt 0).toInt by decide)))), mx_lo (fun e => h94_1 (Int32.toInt_inj.mp (e.trans (show (1 : Int) = (Int32.ofInt 1).toInt by decide)))), Op.lookupswitch.offset_nil]; decide) k
            have k : nt_rn X _ 123 (144, [(0, .ref (p 16)), (1, .int v1), (2, .int v2), (3, .int v3), (4, .int v4)], [], me_w (lw M L) J) _ := k
            have k := ly_revb 1 (c' := (145, [(0, .ref (p 16)), (1, .int v1), (2, .int v2), (3, .int v3), (4, .int v4)], [.ref (p 16)], me_w (lw M L) J)) rfl k
            have k := lz_get (a := (p 16)) (g := 1008) (M := me_w (lw M L) J) (v := .ref (p 48)) rfl (nt_gfR rfl (hp.1 (16, 8, 48) (by decide))) k
            have k := lz_get (a := (p 48)) (g := 604) (M := me_w (lw M L) J) (v := .int (J (p 48) 4)) rfl (congrArg Value.int (rfl)) k
            have k := ly_revb 1 (c' := (152, [(0, .ref (p 16)), (1, .int v1), (2, .int v2), (3, .int v3), (4, .int v4)], [.ref (p 16), .int (J (p 48) 4)], me_w (lw M L) J)) rfl k
            have k := lz_get (a := (p 16)) (g := 1007) (M := me_w (lw M L) J) (v := .ref (p 31)) rfl (nt_gfR rfl (hp.1 (16, 7, 31) (by decide))) k
            have k := lz_get (a := (p 31)) (g := 604) (M := me_w (lw M L) J) (v := .int (J (p 31) 4)) rfl (congrArg Value.int (rfl)) k
            have k := ly_revb 1 (c' := (159, [(0, .ref (p 16)), (1, .int v1), (2, .int v2), (3, .int v3), (4, .int v4)], [.int ((J (p 48) 4) - (J (p 31) 4))], me_w (lw M L) J)) rfl k
            have k := lz_ri rfl (by decide) k
            rw [k, x123_53, if_neg h56, if_pos h68, if_neg h94_0, if_neg h94_1]
      · rw [if_neg h68] at k
        have k := ly_revb 1 (c' := (72, [(0, .ref (p 16)), (1, .int v1), (2, .int v2), (3, .int v3), (4, .int v4)], [.ref (p 16)], me_w (lw M L) J)) rfl k
        have k := lz_get (a := (p 16)) (g := 1005) (M := me_w (lw M L) J) (v := .ref (p 24)) rfl (nt_gfR rfl (hp.1 (16, 5, 24) (by decide))) k
        have k := ly_revb 1 (c' := (76, [(0, .ref (p 16)), (1, .int v1), (2, .int v2), (3, .int v3), (4, .int v4)], [.ref (p 16), .ref (p 24)], me_w (lw M L) J)) rfl k
        have k := lz_get (a := (p 16)) (g := 1008) (M := me_w (lw M L) J) (v := .ref (p 48)) rfl (nt_gfR rfl (hp.1 (16, 8, 48) (by decide))) k
        have k := ly_revb 2 (c' := (81, [(0, .ref (p 16)), (1, .int v1), (2, .int v2), (3, .int v3), (4, .int v4)], [.int v1, .ref (p 16), .ref (p 48), .ref (p 24)], me_w (lw M L) J)) rfl k
        obtain ⟨d1, o1, ed, kc, k⟩ := lz_c (g := 112) (q := 1) (vs := [.ref (p 16), .int v1]) (rest := [.ref (p 48), .ref (p 24)]) rfl rfl (by decide) (Or.inr (Or.inl ⟨_, rfl, rfl⟩)) rfl k
        have e1 := xr112 (M := lw M L) (xs_lp hp) h0 hc.1 hr kc
        subst e1
        have k : nt_rn X _ 123 (84, [(0, .ref (p 16)), (1, .int v1), (2, .int v2), (3, .int v3), (4, .int v4)], [.ref ru, .ref (p 48), .ref (p 24)], me_w (lw M L) J) _ := k
        obtain ⟨d1, o1, ed, kc, k⟩ := lz_c (g := 1) (q := 1) (vs := [.ref (p 24), .ref (p 48), .ref ru]) (rest := []) rfl rfl (by decide) (Or.inr (Or.inl ⟨_, rfl, rfl⟩)) rfl k
        have e1 := xt1 hp hm (xs_x48 hp) hs kc
        subst e1
        have k : nt_rn X _ 123 (87, [(0, .ref (p 16)), (1, .int v1), (2, .int v2), (3, .int v3), (4, .int v4)], [], me_w (lw M ((x1 p (fun i => p (48 + i)) sp ln J L).2)) ((x1 p (fun i => p (48 + i)) sp ln J L).1)) _ := k
        have k := ly_revb 2 (c' := (53, [(4, .int (v4 + (Int32.ofInt 1))), (0, .ref (p 16)), (1, .int v1), (2, .int v2), (3, .int v3)], [], me_w (lw M ((x1 p (fun i => p (48 + i)) sp ln J L).2)) ((x1 p (fun i => p (48 + i)) sp ln J L).1))) rfl k
        have k := nt_rn_w (a := [(4, .int (v4 + (Int32.ofInt 1))), (0, .ref (p 16)), (1, .int v1), (2, .int v2), (3, .int v3)]) (b := [(0, .ref (p 16)), (1, .int v1), (2, .int v2), (3, .int v3), (4, .int (v4 + (Int32.ofInt 1)))]) ⟨rfl, rfl, rfl, rfl, rfl, trivial⟩ rfl k
        have k := ih (v4 + (Int32.ofInt 1)) ((x1 p (fun i => p (48 + i)) sp ln J L).1) ((x1 p (fun i => p (48 + i)) sp ln J L).2) (⟨by rw [x1_frJ (hp.2.1 16 25 (by omega) (by omega) (by decide)) (hp.2.1 16 48 (by omega) (by omega) (by decide)) (hp.2.1 16 58 (by omega) (by omega) (by decide)) (hp.2.1 16 59 (by omega) (by omega) (by decide)) (hp.2.1 16 60 (by omega) (by omega) (by decide)) (hp.2.1 16 61 (by omega) (by omega) (by decide)) (hp.2.1 16 62 (by omega) (by omega) (by decide)) (hp.2.1 16 63 (by omega) (by omega) (by decide)) (hp.2.1 16 64 (by omega) (by omega) (by decide))]; exact hc.1, lx_dec h56 hc.2⟩) k
        rw [k, x123_53, if_neg h56, if_neg h68]
def x123 (p : Nat → Nat) (sp : Nat) (ln : Nat) (v1 : Int32) (v2 : Int32) (v3 : Int32) (J : Nat → Nat → Int32) (L : Nat → Nat → Int64) : Int32 × (Nat → Nat → Int32) × (Nat → Nat → Int64) := if (J (p 31) 1) = 0 then (Int32.ofInt (-1), J, L)
  else if (x111 p v1 J) = 0 then (Int32.ofInt (-1), J, L)
    else if v2 < 0 then (Int32.ofInt (-1), J, L)
      else if (Int32.ofInt 100) < v2 then (Int32.ofInt (-1), J, L)
        else if v3 < 0 then (Int32.ofInt (-1), J, L)
          else if v3 ≤ (Int32.ofInt 2) then (x123_53 p sp ln v1 v2 v3 v2.toNatClampNeg (Int32.ofInt 0) (x80 (fun i => p (48 + i)) (fun i => p (31 + i)) J) L)
            else (Int32.ofInt (-1), J, L)
theorem xt123 {X : nt_X} {d : Nat} {M : nt_M} {o : Option Value × nt_M} {p : Nat → Nat} {sp : Nat} {ln : Nat} {ru : Nat} {v1 : Int32} {v2 : Int32} {v3 : Int32} {J : Nat → Nat → Int32} {L : Nat → Nat → Int64} (hp : xs_P M p) (hn : xs_Q M (fun i => p (31 + i))) (hm : xs_Q M (fun i => p (48 + i))) (hk : xs_N M (fun i => p (48 + i))) (hs : xs_S M p ru sp ln) (h0 : ¬ v1 < 0) (hr : nt_R M (p 23) v1.toNatClampNeg = some ru) (h1 : ¬ J (p 16) 4 ≤ v1) (k : nt_ev X d 123 [.ref (p 16), .int v1, .int v2, .int v3] (me_w (lw M L) J) o) : o = (some (.int ((x123 p sp ln v1 v2 v3 J L).1)), me_w (lw M ((x123 p sp ln v1 v2 v3 J L).2.2)) ((x123 p sp ln v1 v2 v3 J L).2.1)) := by
  have k : nt_rn X d 123 (0, [(0, .ref (p 16)), (1, .int v1), (2, .int v2), (3, .int v3)], [], me_w (lw M L) J) o := k
  have k := ly_revb 1 (c' := (1, [(0, .ref (p 16)), (1, .int v1), (2, .int v2), (3, .int v3)], [.ref (p 16)], me_w (lw M L) J)) rfl k
  have k := lz_get (a := (p 16)) (g := 1007) (M := me_w (lw M L) J) (v := .ref (p 31)) rfl (nt_gfR rfl (hp.1 (16, 7, 31) (by decide))) k
  have k := lz_get (a := (p 31)) (g := 601) (M := me_w (lw M L) J) (v := .int (J (p 31) 1)) rfl (congrArg Value.int (rfl)) k
  have k := ly_revb 1 (c' := (if (J (p 31) 1) = 0 then 37 else 10, [(0, .ref (p 16)), (1, .int v1), (2, .int v2), (3, .int v3)], [], me_w (lw M L) J)) rfl k
  by_cases h7 : (J (p 31) 1) = 0
  · rw [if_pos h7] at k
    have k := ly_revb 1 (c' := (38, [(0, .ref (p 16)), (1, .int v1), (2, .int v2), (3, .int v3)], [.int (Int32.ofInt (-1))], me_w (lw M L) J)) rfl k
    have k := lz_ri rfl (by decide) k
    rw [k, x123, if_pos h7]
  · rw [if_neg h7] at k
    have k := ly_revb 2 (c' := (12, [(0, .ref (p 16)), (1, .int v1), (2, .int v2), (3, .int v3)], [.int v1, .ref (p 16)], me_w (lw M L) J)) rfl k
    obtain ⟨d1, o1, ed, kc, k⟩ := lz_c (g := 111) (q := 1) (vs := [.ref (p 16), .int v1]) (rest := []) rfl rfl (by decide) (Or.inr (Or.inl ⟨_, rfl, rfl⟩)) rfl k
    have e1 := xt111 (xs_lp hp) kc
    subst e1
    have k : nt_rn X _ 123 (15, [(0, .ref (p 16)), (1, .int v1), (2, .int v2), (3, .int v3)], [.int (x111 p v1 J)], me_w (lw M L) J) _ := k
    have k := ly_revb 1 (c' := (if (x111 p v1 J) = 0 then 37 else 18, [(0, .ref (p 16)), (1, .int v1), (2, .int v2), (3, .int v3)], [], me_w (lw M L) J)) rfl k
    by_cases h15 : (x111 p v1 J) = 0
    · rw [if_pos h15] at k
      have k := ly_revb 1 (c' := (38, [(0, .ref (p 16)), (1, .int v1), (2, .int v2), (3, .int v3)], [.int (Int32.ofInt (-1))], me_w (lw M L) J)) rfl k
      have k := lz_ri rfl (by decide) k
      rw [k, x123, if_neg h7, if_pos h15]
    · rw [if_neg h15] at k
      have k := ly_revb 2 (c' := (if v2 < 0 then 37 else 22, [(0, .ref (p 16)), (1, .int v1), (2, .int v2), (3, .int v3)], [], me_w (lw M L) J)) rfl k
      by_cases h19 : v2 < 0
      · rw [if_pos h19] at k
        have k := ly_revb 1 (c' := (38, [(0, .ref (p 16)), (1, .int v1), (2, .int v2), (3, .int v3)], [.int (Int32.ofInt (-1))], me_w (lw M L) J)) rfl k
        have k := lz_ri rfl (by decide) k
        rw [k, x123, if_neg h7, if_neg h15, if_pos h19]
      · rw [if_neg h19] at k
        have k := ly_revb 3 (c' := (if (Int32.ofInt 100) < v2 then 37 else 28, [(0, .ref (p 16)), (1, .int v1), (2, .int v2), (3, .int v3)], [], me_w (lw M L) J)) rfl k
        by_cases h25 : (Int32.ofInt 100) < v2
        · rw [if_pos h25] at k
          have k := ly_revb 1 (c' := (38, [(0, .ref (p 16)), (1, .int v1), (2, .int v2), (3, .int v3)], [.int (Int32.ofInt (-1))], me_w (lw M L) J)) rfl k
          have k := lz_ri rfl (by decide) k
          rw [k, x123, if_neg h7, if_neg h15, if_neg h19, if_pos h25]
        · rw [if_neg h25] at k
          have k := ly_revb 2 (c' := (if v3 < 0 then 37 else 32, [(0, .ref (p 16)), (1, .int v1), (2, .int v2), (3, .int v3)], [], me_w (lw M L) J)) rfl k
          by_cases h29 : v3 < 0
          · rw [if_pos h29] at k
            have k := ly_revb 1 (c' := (38, [(0, .ref (p 16)), (1, .int v1), (2, .int v2), (3, .int v3)], [.int (Int32.ofInt (-1))], me_w (lw M L) J)) rfl k
            have k := lz_ri rfl (by decide) k
            rw [k, x123, if_neg h7, if_neg h15, if_neg h19, if_neg h25, if_pos h29]
          · rw [if_neg h29] at k
            have k := ly_revb 3 (c' := (if v3 ≤ (Int32.ofInt 2) then 39 else 37, [(0, .ref (p 16)), (1, .int v1), (2, .int v2), (3, .int v3)], [], me_w (lw M L) J)) rfl k
            by_cases h34 : v3 ≤ (Int32.ofInt 2)
            · rw [if_pos h34] at k
              have k := ly_revb 1 (c' := (40, [(0, .ref (p 16)), (1, .int v1), (2, .int v2), (3, .int v3)], [.ref (p 16)], me_w (lw M L) J)) rfl k
              have k := lz_get (a := (p 16)) (g := 1008) (M := me_w (lw M L) J) (v := .ref (p 48)) rfl (nt_gfR rfl (hp.1 (16, 8, 48) (by decide))) k
              have k := ly_revb 1 (c' := (44, [(0, .ref (p 16)), (1, .int v1), (2, .int v2), (3, .int v3)], [.ref (p 16), .ref (p 48)], me_w (lw M L) J)) rfl k
              have k := lz_get (a := (p 16)) (g := 1007) (M := me_w (lw M L) J) (v := .ref (p 31)) rfl (nt_gfR rfl (hp.1 (16, 7, 31) (by decide))) k
              obtain ⟨d1, o1, ed, kc, k⟩ := lz_c (g := 80) (q := 1) (vs := [.ref (p 48), .ref (p 31)]) (rest := []) rfl rfl (by decide) (Or.inr (Or.inl ⟨_, rfl, rfl⟩)) rfl k
              have e1 := xt80 (xs_lq hm) (xs_lq hn) (xs_d48 hp) (xs_ln hk) kc
              subst e1
              have k : nt_rn X _ 123 (50, [(0, .ref (p 16)), (1, .int v1), (2, .int v2), (3, .int v3)], [], me_w (lw M L) (x80 (fun i => p (48 + i)) (fun i => p (31 + i)) J)) _ := k
              have k := ly_revb 2 (c' := (53, [(4, .int (Int32.ofInt 0)), (0, .ref (p 16)), (1, .int v1), (2, .int v2), (3, .int v3)], [], me_w (lw M L) (x80 (fun i => p (48 + i)) (fun i => p (31 + i)) J))) rfl k
              have k := nt_rn_w (a := [(4, .int (Int32.ofInt 0)), (0, .ref (p 16)), (1, .int v1), (2, .int v2), (3, .int v3)]) (b := [(0, .ref (p 16)), (1, .int v1), (2, .int v2), (3, .int v3), (4, .int (Int32.ofInt 0))]) ⟨rfl, rfl, rfl, rfl, rfl, trivial⟩ rfl k
              have k := xt123_53 hp hn hm hk hs h0 hr  v2.toNatClampNeg (Int32.ofInt 0) (x80 (fun i => p (48 + i)) (fun i => p (31 + i)) J) L (⟨by rw [x80_frJ (hp.2.1 16 48 (by omega) (by omega) (by decide)) (hp.2.1 16 49 (by omega) (by omega) (by decide)) (hp.2.1 16 50 (by omega) (by omega) (by decide)) (hp.2.1 16 51 (by omega) (by omega) (by decide)) (hp.2.1 16 52 (by omega) (by omega) (by decide)) (hp.2.1 16 53 (by omega) (by omega) (by decide)) (hp.2.1 16 54 (by omega) (by omega) (by decide)) (hp.2.1 16 55 (by omega) (by omega) (by decide)) (hp.2.1 16 56 (by omega) (by omega) (by decide)) (hp.2.1 16 57 (by omega) (by omega) (by decide)) (hp.2.1 16 58 (by omega) (by omega) (by decide)) (hp.2.1 16 59 (by omega) (by omega) (by decide)) (hp.2.1 16 60 (by omega) (by omega) (by decide)) (hp.2.1 16 61 (by omega) (by omega) (by decide)) (hp.2.1 16 62 (by omega) (by omega) (by decide)) (hp.2.1 16 63 (by omega) (by omega) (by decide)) (hp.2.1 16 64 (by omega) (by omega) (by decide))]; exact h1, lx_beg (by decide)⟩) k
              rw [k, x123, if_neg h7, if_neg h15, if_neg h19, if_neg h25, if_neg h29, if_pos h34]
            · rw [if_neg h34] at k
              have k := ly_revb 1 (c' := (38, [(0, .ref (p 16)), (1, .int v1), (2, .int v2), (3, .int v3)], [.int (Int32.ofInt (-1))], me_w (lw M L) J)) rfl k
              have k := lz_ri rfl (by decide) k
              rw [k, x123, if_neg h7, if_neg h15, if_neg h19, if_neg h25, if_neg h29, if_neg h34]
theorem x123_53_frJ {p : Nat → Nat} {sp : Nat} {ln : Nat} {v1 : Int32} {v2 : Int32} {v3 : Int32} {b : Nat} : ∀ (c : Nat) (v4 : Int32) (J : Nat → Nat → Int32) (L : Nat → Nat → Int64), b ≠ p 25 → b ≠ p 48 → b ≠ p 49 → b ≠ p 50 → b ≠ p 51 → b ≠ p 52 → b ≠ p 53 → b ≠ p 54 → b ≠ p 55 → b ≠ p 56 → b ≠ p 57 → b ≠ p 58 → b ≠ p 59 → b ≠ p 60 → b ≠ p 61 → b ≠ p 62 → b ≠ p 63 → b ≠ p 64 → (x123_53 p sp ln v1 v2 v3 c v4 J L).2.1 b = J b := by
  intro c
  induction c with
  | zero =>
    intro v4 J L n0 n1 n2 n3 n4 n5 n6 n7 n8 n9 n10 n11 n12 n13 n14 n15 n16 n17
    rw [x123_53]
    by_cases h : v3 = Int32.ofInt 0
    · rw [if_pos h]
      all_goals first | (dsimp only; exact (show J b = J b from rfl)) | exact (show J b = J b from rfl)
    · rw [if_neg h]
      by_cases h : v3 = Int32.ofInt 1
      · rw [if_pos h]
        all_goals first | (dsimp only; exact (show J b = J b from rfl)) | exact (show J b = J b from rfl)
      · rw [if_neg h]
        all_goals first | (dsimp only; exact (show J b = J b from rfl)) | exact (show J b = J b from rfl)
  | succ c ih =>
    intro v4 J L n0 n1 n2 n3 n4 n5 n6 n7 n8 n9 n10 n11 n12 n13 n14 n15 n16 n17
    rw [x123_53]
    by_cases h : v2 ≤ v4
    · rw [if_pos h]
      by_cases h : v3 = Int32.ofInt 0
      · rw [if_pos h]
        all_goals first | (dsimp only; exact (show J b = J b from rfl)) | exact (show J b = J b from rfl)
      · rw [if_neg h]
        by_cases h : v3 = Int32.ofInt 1
        · rw [if_pos h]
          all_goals first | (dsimp only; exact (show J b = J b from rfl)) | exact (show J b = J b from rfl)
        · rw [if_neg h]
          all_goals first | (dsimp only; exact (show J b = J b from rfl)) | exact (show J b = J b from rfl)
    · rw [if_neg h]
      by_cases h : (Int32.ofInt 99) < (J (p 48) 2)
      · rw [if_pos h]
        by_cases h : v3 = Int32.ofInt 0
        · rw [if_pos h]
          all_goals first | (dsimp only; exact (show J b = J b from rfl)) | exact (show J b = J b from rfl)
        · rw [if_neg h]
          by_cases h : v3 = Int32.ofInt 1
          · rw [if_pos h]
            all_goals first | (dsimp only; exact (show J b = J b from rfl)) | exact (show J b = J b from rfl)
          · rw [if_neg h]
            all_goals first | (dsimp only; exact (show J b = J b from rfl)) | exact (show J b = J b from rfl)
      · rw [if_neg h]
        exact (ih _ _ _ n0 n1 n2 n3 n4 n5 n6 n7 n8 n9 n10 n11 n12 n13 n14 n15 n16 n17).trans (x1_frJ  n0 n1 n11 n12 n13 n14 n15 n16 n17)
theorem x123_frJ {p : Nat → Nat} {sp : Nat} {ln : Nat} {v1 : Int32} {v2 : Int32} {v3 : Int32} {J : Nat → Nat → Int32} {L : Nat → Nat → Int64} {b : Nat} (n0 : b ≠ p 25) (n1 : b ≠ p 48) (n2 : b ≠ p 49) (n3 : b ≠ p 50) (n4 : b ≠ p 51) (n5 : b ≠ p 52) (n6 : b ≠ p 53) (n7 : b ≠ p 54) (n8 : b ≠ p 55) (n9 : b ≠ p 56) (n10 : b ≠ p 57) (n11 : b ≠ p 58) (n12 : b ≠ p 59) (n13 : b ≠ p 60) (n14 : b ≠ p 61) (n15 : b ≠ p 62) (n16 : b ≠ p 63) (n17 : b ≠ p 64) : (x123 p sp ln v1 v2 v3 J L).2.1 b = J b := by
  unfold x123
  by_cases h : (J (p 31) 1) = 0
  · rw [if_pos h]
    all_goals first | (dsimp only; exact (show J b = J b from rfl)) | exact (show J b = J b from rfl)
  · rw [if_neg h]
    by_cases h : (x111 p v1 J) = 0
    · rw [if_pos h]
      all_goals first | (dsimp only; exact (show J b = J b from rfl)) | exact (show J b = J b from rfl)
    · rw [if_neg h]
      by_cases h : v2 < 0
      · rw [if_pos h]
        all_goals first | (dsimp only; exact (show J b = J b from rfl)) | exact (show J b = J b from rfl)
      · rw [if_neg h]
        by_cases h : (Int32.ofInt 100) < v2
        · rw [if_pos h]
          all_goals first | (dsimp only; exact (show J b = J b from rfl)) | exact (show J b = J b from rfl)
        · rw [if_neg h]
          by_cases h : v3 < 0
          · rw [if_pos h]
            all_goals first | (dsimp only; exact (show J b = J b from rfl)) | exact (show J b = J b from rfl)
          · rw [if_neg h]
            by_cases h : v3 ≤ (Int32.ofInt 2)
            · rw [if_pos h]
              exact (x123_53_frJ _ _ _ _ n0 n1 n2 n3 n4 n5 n6 n7 n8 n9 n10 n11 n12 n13 n14 n15 n16 n17).trans (x80_frJ  n1 n2 n3 n4 n5 n6 n7 n8 n9 n10 n11 n12 n13 n14 n15 n16 n17)
            · rw [if_neg h]
              all_goals first | (dsimp only; exact (show J b = J b from rfl)) | exact (show J b = J b from rfl)
/-! .ahead -/
def x123N_53 (p : Nat → Nat) (v1 : Int32) (v2 : Int32) (v3 : Int32) : Nat → Int32 → (Nat → Nat → Int32) → Int32 × (Nat → Nat → Int32)
  | 0, v4, J => if v3 = Int32.ofInt 0 then ((J (p 48) 5) - (J (p 31) 5), J)
    else if v3 = Int32.ofInt 1 then (x79 (fun i => p (48 + i)) J, J)
      else ((J (p 48) 4) - (J (p 31) 4), J)
  | c + 1, v4, J => if v2 ≤ v4 then if v3 = Int32.ofInt 0 then ((J (p 48) 5) - (J (p 31) 5), J)
      else if v3 = Int32.ofInt 1 then (x79 (fun i => p (48 + i)) J, J)
        else ((J (p 48) 4) - (J (p 31) 4), J)
    else if (Int32.ofInt 99) < (J (p 48) 2) then if v3 = Int32.ofInt 0 then ((J (p 48) 5) - (J (p 31) 5), J)
        else if v3 = Int32.ofInt 1 then (x79 (fun i => p (48 + i)) J, J)
          else ((J (p 48) 4) - (J (p 31) 4), J)
      else (x123N_53 p v1 v2 v3 c (v4 + (Int32.ofInt 1)) (x1N p (fun i => p (48 + i)) J))
theorem xt123N_53 {X : nt_X} {d : Nat} {M : nt_M} {o : Option Value × nt_M} {p : Nat → Nat} {v1 : Int32} {v2 : Int32} {v3 : Int32} (hp : xs_P M p) (hn : xs_Q M (fun i => p (31 + i))) (hm : xs_Q M (fun i => p (48 + i))) (hk : xs_N M (fun i => p (48 + i))) (h0 : v1 < 0) : ∀ (c : Nat) (v4 : Int32) (J : Nat → Nat → Int32), v2.toInt - v4.toInt ≤ c → nt_rn X d 123 (53, [(0, .ref (p 16)), (1, .int v1), (2, .int v2), (3, .int v3), (4, .int v4)], [], me_w M J) o → o = (some (.int ((x123N_53 p v1 v2 v3 c v4 J).1)), me_w M ((x123N_53 p v1 v2 v3 c v4 J).2)) := by
  intro c
  induction c with
  | zero =>
    intro v4 J hc k
    have k := ly_revb 3 (c' := (if v2 ≤ v4 then 93 else 59, [(0, .ref (p 16)), (1, .int v1), (2, .int v2), (3, .int v3), (4, .int v4)], [], me_w M J)) rfl k
    have h56 : v2 ≤ v4 := lx_end hc
    rw [if_pos h56] at k
    have k := ly_revb 1 (c' := (94, [(0, .ref (p 16)), (1, .int v1), (2, .int v2), (3, .int v3), (4, .int v4)], [.int v3], me_w M J)) rfl k
    by_cases h94_0 : v3 = Int32.ofInt 0
    · have k := mx_ls (q := 120) rfl (by rw [h94_0]; decide) k
      have k : nt_rn X _ 123 (120, [(0, .ref (p 16)), (1, .int v1), (2, .int v2), (3, .int v3), (4, .int v4)], [], me_w M J) _ := k
      have k := ly_revb 1 (c' := (121, [(0, .ref (p 16)), (1, .int v1), (2, .int v2), (3, .int v3), (4, .int v4)], [.ref (p 16)], me_w M J)) rfl k
      have k := lz_get (a := (p 16)) (g := 1008) (M := me_w M J) (v := .ref (p 48)) rfl (nt_gfR rfl (hp.1 (16, 8, 48) (by decide))) k
      have k := lz_get (a := (p 48)) (g := 605) (M := me_w M J) (v := .int (J (p 48) 5)) rfl (congrArg Value.int (rfl)) k
      have k := ly_revb 1 (c' := (128, [(0, .ref (p 16)), (1, .int v1), (2, .int v2), (3, .int v3), (4, .int v4)], [.ref (p 16), .int (J (p 48) 5)], me_w M J)) rfl k
      have k := lz_get (a := (p 16)) (g := 1007) (M := me_w M J) (v := .ref (p 31)) rfl (nt_gfR rfl (hp.1 (16, 7, 31) (by decide))) k
      have k := lz_get (a := (p 31)) (g := 605) (M := me_w M J) (v := .int (J (p 31) 5)) rfl (congrArg Value.int (rfl)) k
      have k := ly_revb 1 (c' := (135, [(0, .ref (p 16)), (1, .int v1), (2, .int v2), (3, .int v3), (4, .int v4)], [.int ((J (p 48) 5) - (J (p 31) 5))], me_w M J)) rfl k
      have k := lz_ri rfl (by decide) k
      rw [k, x123N_53, if_pos h94_0]
    · by_cases h94_1 : v3 = Int32.ofInt 1
      · have k := mx_ls (q := 136) rfl (by rw [h94_1]; decide) k
        have k : nt_rn X _ 123 (136, [(0, .ref (p 16)), (1, .int v1), (2, .int v2), (3, .int v3), (4, .int v4)], [], me_w M J) _ := k
        have k := ly_revb 1 (c' := (137, [(0, .ref (p 16)), (1, .int v1), (2, .int v2), (3, .int v3), (4, .int v4)], [.ref (p 16)], me_w M J)) rfl k
        have k := lz_get (a := (p 16)) (g := 1008) (M := me_w M J) (v := .ref (p 48)) rfl (nt_gfR rfl (hp.1 (16, 8, 48) (by decide))) k
        obtain ⟨d1, o1, ed, kc, k⟩ := lz_c (g := 79) (q := 1) (vs := [.ref (p 48)]) (rest := []) rfl rfl (by decide) (Or.inr (Or.inl ⟨_, rfl, rfl⟩)) rfl k
        have e1 := xt79 hm kc
        subst e1
        have k : nt_rn X _ 123 (143, [(0, .ref (p 16)), (1, .int v1), (2, .int v2), (3, .int v3), (4, .int v4)], [.int (x79 (fun i => p (48 + i)) J)], me_w M J) _ := k
        have k := lz_ri rfl (by decide) k
        rw [k, x123N_53, if_neg h94_0, if_pos h94_1]
      · have k := mx_ls (q := 144) rfl (by
          show ((94 : Nat) : Int) + Op.lookupswitch.offset [(0, 26), (1, 42)] 50 _ = _
          rw [mx_lo (fun e => h94_0 (Int32.toInt_inj.mp (e.trans (show (0 : Int) = (Int32.ofInt 0).toInt by decide)))), mx_lo (fun e => h94_1 (Int32.toInt_inj.mp (e.trans (show (1 : Int) = (Int32.ofInt 1).toInt by decide)))), Op.lookupswitch.offset_nil]; decide) k
        have k : nt_rn X _ 123 (144, [(0, .ref (p 16)), (1, .int v1), (2, .int v2), (3, .int v3), (4, .int v4)], [], me_w M J) _ := k
        have k := ly_revb 1 (c' := (145, [(0, .ref (p 16)), (1, .int v1), (2, .int v2), (3, .int v3), (4, .int v4)], [.ref (p 16)], me_w M J)) rfl k
        have k := lz_get (a := (p 16)) (g := 1008) (M := me_w M J) (v := .ref (p 48)) rfl (nt_gfR rfl (hp.1 (16, 8, 48) (by decide))) k
        have k := lz_get (a := (p 48)) (g := 604) (M := me_w M J) (v := .int (J (p 48) 4)) rfl (congrArg Value.int (rfl)) k
        have k := ly_revb 1 (c' := (152, [(0, .ref (p 16)), (1, .int v1), (2, .int v2), (3, .int v3), (4, .int v4)], [.ref (p 16), .int (J (p 48) 4)], me_w M J)) rfl k
        have k := lz_get (a := (p 16)) (g := 1007) (M := me_w M J) (v := .ref (p 31)) rfl (nt_gfR rfl (hp.1 (16, 7, 31) (by decide))) k
        have k := lz_get (a := (p 31)) (g := 604) (M := me_w M J) (v := .int (J (p 31) 4)) rfl (congrArg Value.int (rfl)) k
        have k := ly_revb 1 (c' := (159, [(0, .ref (p 16)), (1, .int v1), (2, .int v2), (3, .int v3), (4, .int v4)], [.int ((J (p 48) 4) - (J (p 31) 4))], me_w M J)) rfl k
        have k := lz_ri rfl (by decide) k
        rw [k, x123N_53, if_neg h94_0, if_neg h94_1]
  | succ c ih =>
    intro v4 J hc k
    have k := ly_revb 3 (c' := (if v2 ≤ v4 then 93 else 59, [(0, .ref (p 16)), (1, .int v1), (2, .int v2), (3, .int v3), (4, .int v4)], [], me_w M J)) rfl k
    by_cases h56 : v2 ≤ v4
    · rw [if_pos h56] at k
      have k := ly_revb 1 (c' := (94, [(0, .ref (p 16)), (1, .int v1), (2, .int v2), (3, .int v3), (4, .int v4)], [.int v3], me_w M J)) rfl k
      by_cases h94_0 : v3 = Int32.ofInt 0
      · have k := mx_ls (q := 120) rfl (by rw [h94_0]; decide) k
        have k : nt_rn X _ 123 (120, [(0, .ref (p 16)), (1, .int v1), (2, .int v2), (3, .int v3), (4, .int v4)], [], me_w M J) _ := k
        have k := ly_revb 1 (c' := (121, [(0, .ref (p 16)), (1, .int v1), (2, .int v2), (3, .int v3), (4, .int v4)], [.ref (p 16)], me_w M J)) rfl k
        have k := lz_get (a := (p 16)) (g := 1008) (M := me_w M J) (v := .ref (p 48)) rfl (nt_gfR rfl (hp.1 (16, 8, 48) (by decide))) k
        have k := lz_get (a := (p 48)) (g := 605) (M := me_w M J) (v := .int (J (p 48) 5)) rfl (congrArg Value.int (rfl)) k
        have k := ly_revb 1 (c' := (128, [(0, .ref (p 16)), (1, .int v1), (2, .int v2), (3, .int v3), (4, .int v4)], [.ref (p 16), .int (J (p 48) 5)], me_w M J)) rfl k
        have k := lz_get (a := (p 16)) (g := 1007) (M := me_w M J) (v := .ref (p 31)) rfl (nt_gfR rfl (hp.1 (16, 7, 31) (by decide))) k
        have k := lz_get (a := (p 31)) (g := 605) (M := me_w M J) (v := .int (J (p 31) 5)) rfl (congrArg Value.int (rfl)) k
        have k := ly_revb 1 (c' := (135, [(0, .ref (p 16)), (1, .int v1), (2, .int v2), (3, .int v3), (4, .int v4)], [.int ((J (p 48) 5) - (J (p 31) 5))], me_w M J)) rfl k
        have k := lz_ri rfl (by decide) k
        rw [k, x123N_53, if_pos h56, if_pos h94_0]
      · by_cases h94_1 : v3 = Int32.ofInt 1
        · have k := mx_ls (q := 136) rfl (by rw [h94_1]; decide) k
          have k : nt_rn X _ 123 (136, [(0, .ref (p 16)), (1, .int v1), (2, .int v2), (3, .int v3), (4, .int v4)], [], me_w M J) _ := k
          have k := ly_revb 1 (c' := (137, [(0, .ref (p 16)), (1, .int v1), (2, .int v2), (3, .int v3), (4, .int v4)], [.ref (p 16)], me_w M J)) rfl k
          have k := lz_get (a := (p 16)) (g := 1008) (M := me_w M J) (v := .ref (p 48)) rfl (nt_gfR rfl (hp.1 (16, 8, 48) (by decide))) k
          obtain ⟨d1, o1, ed, kc, k⟩ := lz_c (g := 79) (q := 1) (vs := [.ref (p 48)]) (rest := []) rfl rfl (by decide) (Or.inr (Or.inl ⟨_, rfl, rfl⟩)) rfl k
          have e1 := xt79 hm kc
          subst e1
          have k : nt_rn X _ 123 (143, [(0, .ref (p 16)), (1, .int v1), (2, .int v2), (3, .int v3), (4, .int v4)], [.int (x79 (fun i => p (48 + i)) J)], me_w M J) _ := k
          have k := lz_ri rfl (by decide) k
          rw [k, x123N_53, if_pos h56, if_neg h94_0, if_pos h94_1]
        · have k := mx_ls (q := 144) rfl (by
            show ((94 : Nat) : Int) + Op.lookupswitch.offset [(0, 26), (1, 42)] 50 _ = _
            rw [mx_lo (fun e => h94_0 (Int32.toInt_inj.mp (e.trans (show (0 : Int) = (Int32.ofInt 0).toInt by decide)))), mx_lo (fun e => h94_1 (Int32.toInt_inj.mp (e.trans (show (1 : Int) = (Int32.ofInt 1).toInt by decide)))), Op.lookupswitch.offset_nil]; decide) k
          have k : nt_rn X _ 123 (144, [(0, .ref (p 16)), (1, .int v1), (2, .int v2), (3, .int v3), (4, .int v4)], [], me_w M J) _ := k
          have k := ly_revb 1 (c' := (145, [(0, .ref (p 16)), (1, .int v1), (2, .int v2), (3, .int v3), (4, .int v4)], [.ref (p 16)], me_w M J)) rfl k
          have k := lz_get (a := (p 16)) (g := 1008) (M := me_w M J) (v := .ref (p 48)) rfl (nt_gfR rfl (hp.1 (16, 8, 48) (by decide))) k
          have k := lz_get (a := (p 48)) (g := 604) (M := me_w M J) (v := .int (J (p 48) 4)) rfl (congrArg Value.int (rfl)) k
          have k := ly_revb 1 (c' := (152, [(0, .ref (p 16)), (1, .int v1), (2, .int v2), (3, .int v3), (4, .int v4)], [.ref (p 16), .int (J (p 48) 4)], me_w M J)) rfl k
          have k := lz_get (a := (p 16)) (g := 1007) (M := me_w M J) (v := .ref (p 31)) rfl (nt_gfR rfl (hp.1 (16, 7, 31) (by decide))) k
          have k := lz_get (a := (p 31)) (g := 604) (M := me_w M J) (v := .int (J (p 31) 4)) rfl (congrArg Value.int (rfl)) k
          have k := ly_revb 1 (c' := (159, [(0, .ref (p 16)), (1, .int v1), (2, .int v2), (3, .int v3), (4, .int v4)], [.int ((J (p 48) 4) - (J (p 31) 4))], me_w M J)) rfl k
          have k := lz_ri rfl (by decide) k
          rw [k, x123N_53, if_pos h56, if_neg h94_0, if_neg h94_1]
    · rw [if_neg h56] at k
      have k := ly_revb 1 (c' := (60, [(0, .ref (p 16)), (1, .int v1), (2, .int v2), (3, .int v3), (4, .int v4)], [.ref (p 16)], me_w M J)) rfl k
      have k := lz_get (a := (p 16)) (g := 1008) (M := me_w M J) (v := .ref (p 48)) rfl (nt_gfR rfl (hp.1 (16, 8, 48) (by decide))) k
      have k := lz_get (a := (p 48)) (g := 602) (M := me_w M J) (v := .int (J (p 48) 2)) rfl (congrArg Value.int (rfl)) k
      have k := ly_revb 2 (c' := (if (Int32.ofInt 99) < (J (p 48) 2) then 93 else 71, [(0, .ref (p 16)), (1, .int v1), (2, .int v2), (3, .int v3), (4, .int v4)], [], me_w M J)) rfl k
      by_cases h68 : (Int32.ofInt 99) < (J (p 48) 2)
      · rw [if_pos h68] at k
        have k := ly_revb 1 (c' := (94, [(0, .ref (p 16)), (1, .int v1), (2, .int v2), (3, .int v3), (4, .int v4)], [.int v3], me_w M J)) rfl k
        by_cases h94_0 : v3 = Int32.ofInt 0
        · have k := mx_ls (q := 120) rfl (by rw [h94_0]; decide) k
          have k : nt_rn X _ 123 (120, [(0, .ref (p 16)), (1, .int v1), (2, .int v2), (3, .int v3), (4, .int v4)], [], me_w M J) _ := k
          have k := ly_revb 1 (c' := (121, [(0, .ref (p 16)), (1, .int v1), (2, .int v2), (3, .int v3), (4, .int v4)], [.ref (p 16)], me_w M J)) rfl k
          have k := lz_get (a := (p 16)) (g := 1008) (M := me_w M J) (v := .ref (p 48)) rfl (nt_gfR rfl (hp.1 (16, 8, 48) (by decide))) k
          have k := lz_get (a := (p 48)) (g := 605) (M := me_w M J) (v := .int (J (p 48) 5)) rfl (congrArg Value.int (rfl)) k
          have k := ly_revb 1 (c' := (128, [(0, .ref (p 16)), (1, .int v1), (2, .int v2), (3, .int v3), (4, .int v4)], [.ref (p 16), .int (J (p 48) 5)], me_w M J)) rfl k
          have k := lz_get (a := (p 16)) (g := 1007) (M := me_w M J) (v := .ref (p 31)) rfl (nt_gfR rfl (hp.1 (16, 7, 31) (by decide))) k
          have k := lz_get (a := (p 31)) (g := 605) (M := me_w M J) (v := .int (J (p 31) 5)) rfl (congrArg Value.int (rfl)) k
          have k := ly_revb 1 (c' := (135, [(0, .ref (p 16)), (1, .int v1), (2, .int v2), (3, .int v3), (4, .int v4)], [.int ((J (p 48) 5) - (J (p 31) 5))], me_w M J)) rfl k
          have k := lz_ri rfl (by decide) k
          rw [k, x123N_53, if_neg h56, if_pos h68, if_pos h94_0]
        · by_cases h94_1 : v3 = Int32.ofInt 1
          · have k := mx_ls (q := 136) rfl (by rw [h94_1]; decide) k
            have k : nt_rn X _ 123 (136, [(0, .ref (p 16)), (1, .int v1), (2, .int v2), (3, .int v3), (4, .int v4)], [], me_w M J) _ := k
            have k := ly_revb 1 (c' := (137, [(0, .ref (p 16)), (1, .int v1), (2, .int v2), (3, .int v3), (4, .int v4)], [.ref (p 16)], me_w M J)) rfl k
            have k := lz_get (a := (p 16)) (g := 1008) (M := me_w M J) (v := .ref (p 48)) rfl (nt_gfR rfl (hp.1 (16, 8, 48) (by decide))) k
            obtain ⟨d1, o1, ed, kc, k⟩ := lz_c (g := 79) (q := 1) (vs := [.ref (p 48)]) (rest := []) rfl rfl (by decide) (Or.inr (Or.inl ⟨_, rfl, rfl⟩)) rfl k
            have e1 := xt79 hm kc
            subst e1
            have k : nt_rn X _ 123 (143, [(0, .ref (p 16)), (1, .int v1), (2, .int v2), (3, .int v3), (4, .int v4)], [.int (x79 (fun i => p (48 + i)) J)], me_w M J) _ := k
            have k := lz_ri rfl (by decide) k
            rw [k, x123N_53, if_neg h56, if_pos h68, if_neg h94_0, if_pos h94_1]
          · have k := mx_ls (q := 144) rfl (by
              show ((94 : Nat) : Int) + Op.lookupswitch.offset [(0, 26), (1, 42)] 50 _ = _
              rw [mx_lo (fun e => h94_0 (Int32.toInt_inj.mp (e.trans (show (0 : Int) = (Int32.ofInt 0).toInt by decide)))), mx_lo (fun e => h94_1 (Int32.toInt_inj.mp (e.trans (show (1 : Int) = (Int32.ofInt 1).toInt by decide)))), Op.lookupswitch.offset_nil]; decide) k
            have k : nt_rn X _ 123 (144, [(0, .ref (p 16)), (1, .int v1), (2, .int v2), (3, .int v3), (4, .int v4)], [], me_w M J) _ := k
            have k := ly_revb 1 (c' := (145, [(0, .ref (p 16)), (1, .int v1), (2, .int v2), (3, .int v3), (4, .int v4)], [.ref (p 16)], me_w M J)) rfl k
            have k := lz_get (a := (p 16)) (g := 1008) (M := me_w M J) (v := .ref (p 48)) rfl (nt_gfR rfl (hp.1 (16, 8, 48) (by decide))) k
            have k := lz_get (a := (p 48)) (g := 604) (M := me_w M J) (v := .int (J (p 48) 4)) rfl (congrArg Value.int (rfl)) k
            have k := ly_revb 1 (c' := (152, [(0, .ref (p 16)), (1, .int v1), (2, .int v2), (3, .int v3), (4, .int v4)], [.ref (p 16), .int (J (p 48) 4)], me_w M J)) rfl k
            have k := lz_get (a := (p 16)) (g := 1007) (M := me_w M J) (v := .ref (p 31)) rfl (nt_gfR rfl (hp.1 (16, 7, 31) (by decide))) k
            have k := lz_get (a := (p 31)) (g := 604) (M := me_w M J) (v := .int (J (p 31) 4)) rfl (congrArg Value.int (rfl)) k
            have k := ly_revb 1 (c' := (159, [(0, .ref (p 16)), (1, .int v1), (2, .int v2), (3, .int v3), (4, .int v4)], [.int ((J (p 48) 4) - (J (p 31) 4))], me_w M J)) rfl k
            have k := lz_ri rfl (by decide) k
            rw [k, x123N_53, if_neg h56, if_pos h68, if_neg h94_0, if_neg h94_1]
      · rw [if_neg h68] at k
        have k := ly_revb 1 (c' := (72, [(0, .ref (p 16)), (1, .int v1), (2, .int v2), (3, .int v3), (4, .int v4)], [.ref (p 16)], me_w M J)) rfl k
        have k := lz_get (a := (p 16)) (g := 1005) (M := me_w M J) (v := .ref (p 24)) rfl (nt_gfR rfl (hp.1 (16, 5, 24) (by decide))) k
        have k := ly_revb 1 (c' := (76, [(0, .ref (p 16)), (1, .int v1), (2, .int v2), (3, .int v3), (4, .int v4)], [.ref (p 16), .ref (p 24)], me_w M J)) rfl k
        have k := lz_get (a := (p 16)) (g := 1008) (M := me_w M J) (v := .ref (p 48)) rfl (nt_gfR rfl (hp.1 (16, 8, 48) (by decide))) k
        have k := ly_revb 2 (c' := (81, [(0, .ref (p 16)), (1, .int v1), (2, .int v2), (3, .int v3), (4, .int v4)], [.int v1, .ref (p 16), .ref (p 48), .ref (p 24)], me_w M J)) rfl k
        obtain ⟨d1, o1, ed, kc, k⟩ := lz_c (g := 112) (q := 1) (vs := [.ref (p 16), .int v1]) (rest := [.ref (p 48), .ref (p 24)]) rfl rfl (by decide) (Or.inr (Or.inl ⟨_, rfl, rfl⟩)) rfl k
        have e1 := xr112N h0 kc
        subst e1
        have k : nt_rn X _ 123 (84, [(0, .ref (p 16)), (1, .int v1), (2, .int v2), (3, .int v3), (4, .int v4)], [.null, .ref (p 48), .ref (p 24)], me_w M J) _ := k
        obtain ⟨d1, o1, ed, kc, k⟩ := lz_c (g := 1) (q := 1) (vs := [.ref (p 24), .ref (p 48), .null]) (rest := []) rfl rfl (by decide) (Or.inr (Or.inl ⟨_, rfl, rfl⟩)) rfl k
        have e1 := xt1N hp hm (xs_x48 hp) kc
        subst e1
        have k : nt_rn X _ 123 (87, [(0, .ref (p 16)), (1, .int v1), (2, .int v2), (3, .int v3), (4, .int v4)], [], me_w M (x1N p (fun i => p (48 + i)) J)) _ := k
        have k := ly_revb 2 (c' := (53, [(4, .int (v4 + (Int32.ofInt 1))), (0, .ref (p 16)), (1, .int v1), (2, .int v2), (3, .int v3)], [], me_w M (x1N p (fun i => p (48 + i)) J))) rfl k
        have k := nt_rn_w (a := [(4, .int (v4 + (Int32.ofInt 1))), (0, .ref (p 16)), (1, .int v1), (2, .int v2), (3, .int v3)]) (b := [(0, .ref (p 16)), (1, .int v1), (2, .int v2), (3, .int v3), (4, .int (v4 + (Int32.ofInt 1)))]) ⟨rfl, rfl, rfl, rfl, rfl, trivial⟩ rfl k
        have k := ih (v4 + (Int32.ofInt 1)) (x1N p (fun i => p (48 + i)) J) (lx_dec h56 hc) k
        rw [k, x123N_53, if_neg h56, if_neg h68]
def x123N (p : Nat → Nat) (v1 : Int32) (v2 : Int32) (v3 : Int32) (J : Nat → Nat → Int32) : Int32 × (Nat → Nat → Int32) := if (J (p 31) 1) = 0 then (Int32.ofInt (-1), J)
  else if (x111 p v1 J) = 0 then (Int32.ofInt (-1), J)
    else if v2 < 0 then (Int32.ofInt (-1), J)
      else if (Int32.ofInt 100) < v2 then (Int32.ofInt (-1), J)
        else if v3 < 0 then (Int32.ofInt (-1), J)
          else if v3 ≤ (Int32.ofInt 2) then (x123N_53 p v1 v2 v3 v2.toNatClampNeg (Int32.ofInt 0) (x80 (fun i => p (48 + i)) (fun i => p (31 + i)) J))
            else (Int32.ofInt (-1), J)
theorem xt123N {X : nt_X} {d : Nat} {M : nt_M} {o : Option Value × nt_M} {p : Nat → Nat} {v1 : Int32} {v2 : Int32} {v3 : Int32} {J : Nat → Nat → Int32} (hp : xs_P M p) (hn : xs_Q M (fun i => p (31 + i))) (hm : xs_Q M (fun i => p (48 + i))) (hk : xs_N M (fun i => p (48 + i))) (h0 : v1 < 0) (k : nt_ev X d 123 [.ref (p 16), .int v1, .int v2, .int v3] (me_w M J) o) : o = (some (.int ((x123N p v1 v2 v3 J).1)), me_w M ((x123N p v1 v2 v3 J).2)) := by
  have k : nt_rn X d 123 (0, [(0, .ref (p 16)), (1, .int v1), (2, .int v2), (3, .int v3)], [], me_w M J) o := k
  have k := ly_revb 1 (c' := (1, [(0, .ref (p 16)), (1, .int v1), (2, .int v2), (3, .int v3)], [.ref (p 16)], me_w M J)) rfl k
  have k := lz_get (a := (p 16)) (g := 1007) (M := me_w M J) (v := .ref (p 31)) rfl (nt_gfR rfl (hp.1 (16, 7, 31) (by decide))) k
  have k := lz_get (a := (p 31)) (g := 601) (M := me_w M J) (v := .int (J (p 31) 1)) rfl (congrArg Value.int (rfl)) k
  have k := ly_revb 1 (c' := (if (J (p 31) 1) = 0 then 37 else 10, [(0, .ref (p 16)), (1, .int v1), (2, .int v2), (3, .int v3)], [], me_w M J)) rfl k
  by_cases h7 : (J (p 31) 1) = 0
  · rw [if_pos h7] at k
    have k := ly_revb 1 (c' := (38, [(0, .ref (p 16)), (1, .int v1), (2, .int v2), (3, .int v3)], [.int (Int32.ofInt (-1))], me_w M J)) rfl k
    have k := lz_ri rfl (by decide) k
    rw [k, x123N, if_pos h7]
  · rw [if_neg h7] at k
    have k := ly_revb 2 (c' := (12, [(0, .ref (p 16)), (1, .int v1), (2, .int v2), (3, .int v3)], [.int v1, .ref (p 16)], me_w M J)) rfl k
    obtain ⟨d1, o1, ed, kc, k⟩ := lz_c (g := 111) (q := 1) (vs := [.ref (p 16), .int v1]) (rest := []) rfl rfl (by decide) (Or.inr (Or.inl ⟨_, rfl, rfl⟩)) rfl k
    have e1 := xt111 hp kc
    subst e1
    have k : nt_rn X _ 123 (15, [(0, .ref (p 16)), (1, .int v1), (2, .int v2), (3, .int v3)], [.int (x111 p v1 J)], me_w M J) _ := k
    have k := ly_revb 1 (c' := (if (x111 p v1 J) = 0 then 37 else 18, [(0, .ref (p 16)), (1, .int v1), (2, .int v2), (3, .int v3)], [], me_w M J)) rfl k
    by_cases h15 : (x111 p v1 J) = 0
    · rw [if_pos h15] at k
      have k := ly_revb 1 (c' := (38, [(0, .ref (p 16)), (1, .int v1), (2, .int v2), (3, .int v3)], [.int (Int32.ofInt (-1))], me_w M J)) rfl k
      have k := lz_ri rfl (by decide) k
      rw [k, x123N, if_neg h7, if_pos h15]
    · rw [if_neg h15] at k
      have k := ly_revb 2 (c' := (if v2 < 0 then 37 else 22, [(0, .ref (p 16)), (1, .int v1), (2, .int v2), (3, .int v3)], [], me_w M J)) rfl k
      by_cases h19 : v2 < 0
      · rw [if_pos h19] at k
        have k := ly_revb 1 (c' := (38, [(0, .ref (p 16)), (1, .int v1), (2, .int v2), (3, .int v3)], [.int (Int32.ofInt (-1))], me_w M J)) rfl k
        have k := lz_ri rfl (by decide) k
        rw [k, x123N, if_neg h7, if_neg h15, if_pos h19]
      · rw [if_neg h19] at k
        have k := ly_revb 3 (c' := (if (Int32.ofInt 100) < v2 then 37 else 28, [(0, .ref (p 16)), (1, .int v1), (2, .int v2), (3, .int v3)], [], me_w M J)) rfl k
        by_cases h25 : (Int32.ofInt 100) < v2
        · rw [if_pos h25] at k
          have k := ly_revb 1 (c' := (38, [(0, .ref (p 16)), (1, .int v1), (2, .int v2), (3, .int v3)], [.int (Int32.ofInt (-1))], me_w M J)) rfl k
          have k := lz_ri rfl (by decide) k
          rw [k, x123N, if_neg h7, if_neg h15, if_neg h19, if_pos h25]
        · rw [if_neg h25] at k
          have k := ly_revb 2 (c' := (if v3 < 0 then 37 else 32, [(0, .ref (p 16)), (1, .int v1), (2, .int v2), (3, .int v3)], [], me_w M J)) rfl k
          by_cases h29 : v3 < 0
          · rw [if_pos h29] at k
            have k := ly_revb 1 (c' := (38, [(0, .ref (p 16)), (1, .int v1), (2, .int v2), (3, .int v3)], [.int (Int32.ofInt (-1))], me_w M J)) rfl k
            have k := lz_ri rfl (by decide) k
            rw [k, x123N, if_neg h7, if_neg h15, if_neg h19, if_neg h25, if_pos h29]
          · rw [if_neg h29] at k
            have k := ly_revb 3 (c' := (if v3 ≤ (Int32.ofInt 2) then 39 else 37, [(0, .ref (p 16)), (1, .int v1), (2, .int v2), (3, .int v3)], [], me_w M J)) rfl k
            by_cases h34 : v3 ≤ (Int32.ofInt 2)
            · rw [if_pos h34] at k
              have k := ly_revb 1 (c' := (40, [(0, .ref (p 16)), (1, .int v1), (2, .int v2), (3, .int v3)], [.ref (p 16)], me_w M J)) rfl k
              have k := lz_get (a := (p 16)) (g := 1008) (M := me_w M J) (v := .ref (p 48)) rfl (nt_gfR rfl (hp.1 (16, 8, 48) (by decide))) k
              have k := ly_revb 1 (c' := (44, [(0, .ref (p 16)), (1, .int v1), (2, .int v2), (3, .int v3)], [.ref (p 16), .ref (p 48)], me_w M J)) rfl k
              have k := lz_get (a := (p 16)) (g := 1007) (M := me_w M J) (v := .ref (p 31)) rfl (nt_gfR rfl (hp.1 (16, 7, 31) (by decide))) k
              obtain ⟨d1, o1, ed, kc, k⟩ := lz_c (g := 80) (q := 1) (vs := [.ref (p 48), .ref (p 31)]) (rest := []) rfl rfl (by decide) (Or.inr (Or.inl ⟨_, rfl, rfl⟩)) rfl k
              have e1 := xt80 hm hn (xs_d48 hp) hk kc
              subst e1
              have k : nt_rn X _ 123 (50, [(0, .ref (p 16)), (1, .int v1), (2, .int v2), (3, .int v3)], [], me_w M (x80 (fun i => p (48 + i)) (fun i => p (31 + i)) J)) _ := k
              have k := ly_revb 2 (c' := (53, [(4, .int (Int32.ofInt 0)), (0, .ref (p 16)), (1, .int v1), (2, .int v2), (3, .int v3)], [], me_w M (x80 (fun i => p (48 + i)) (fun i => p (31 + i)) J))) rfl k
              have k := nt_rn_w (a := [(4, .int (Int32.ofInt 0)), (0, .ref (p 16)), (1, .int v1), (2, .int v2), (3, .int v3)]) (b := [(0, .ref (p 16)), (1, .int v1), (2, .int v2), (3, .int v3), (4, .int (Int32.ofInt 0))]) ⟨rfl, rfl, rfl, rfl, rfl, trivial⟩ rfl k
              have k := xt123N_53 hp hn hm hk h0  v2.toNatClampNeg (Int32.ofInt 0) (x80 (fun i => p (48 + i)) (fun i => p (31 + i)) J) (lx_beg (by decide)) k
              rw [k, x123N, if_neg h7, if_neg h15, if_neg h19, if_neg h25, if_neg h29, if_pos h34]
            · rw [if_neg h34] at k
              have k := ly_revb 1 (c' := (38, [(0, .ref (p 16)), (1, .int v1), (2, .int v2), (3, .int v3)], [.int (Int32.ofInt (-1))], me_w M J)) rfl k
              have k := lz_ri rfl (by decide) k
              rw [k, x123N, if_neg h7, if_neg h15, if_neg h19, if_neg h25, if_neg h29, if_neg h34]
theorem x123N_53_frJ {p : Nat → Nat} {v1 : Int32} {v2 : Int32} {v3 : Int32} {b : Nat} : ∀ (c : Nat) (v4 : Int32) (J : Nat → Nat → Int32), b ≠ p 48 → b ≠ p 49 → b ≠ p 50 → b ≠ p 51 → b ≠ p 52 → b ≠ p 53 → b ≠ p 54 → b ≠ p 55 → b ≠ p 56 → b ≠ p 57 → b ≠ p 58 → b ≠ p 59 → b ≠ p 60 → b ≠ p 61 → b ≠ p 62 → b ≠ p 63 → b ≠ p 64 → (x123N_53 p v1 v2 v3 c v4 J).2 b = J b := by
  intro c
  induction c with
  | zero =>
    intro v4 J n0 n1 n2 n3 n4 n5 n6 n7 n8 n9 n10 n11 n12 n13 n14 n15 n16
    rw [x123N_53]
    by_cases h : v3 = Int32.ofInt 0
    · rw [if_pos h]
      all_goals first | (dsimp only; exact (show J b = J b from rfl)) | exact (show J b = J b from rfl)
    · rw [if_neg h]
      by_cases h : v3 = Int32.ofInt 1
      · rw [if_pos h]
        all_goals first | (dsimp only; exact (show J b = J b from rfl)) | exact (show J b = J b from rfl)
      · rw [if_neg h]
        all_goals first | (dsimp only; exact (show J b = J b from rfl)) | exact (show J b = J b from rfl)
  | succ c ih =>
    intro v4 J n0 n1 n2 n3 n4 n5 n6 n7 n8 n9 n10 n11 n12 n13 n14 n15 n16
    rw [x123N_53]
    by_cases h : v2 ≤ v4
    · rw [if_pos h]
      by_cases h : v3 = Int32.ofInt 0
      · rw [if_pos h]
        all_goals first | (dsimp only; exact (show J b = J b from rfl)) | exact (show J b = J b from rfl)
      · rw [if_neg h]
        by_cases h : v3 = Int32.ofInt 1
        · rw [if_pos h]
          all_goals first | (dsimp only; exact (show J b = J b from rfl)) | exact (show J b = J b from rfl)
        · rw [if_neg h]
          all_goals first | (dsimp only; exact (show J b = J b from rfl)) | exact (show J b = J b from rfl)
    · rw [if_neg h]
      by_cases h : (Int32.ofInt 99) < (J (p 48) 2)
      · rw [if_pos h]
        by_cases h : v3 = Int32.ofInt 0
        · rw [if_pos h]
          all_goals first | (dsimp only; exact (show J b = J b from rfl)) | exact (show J b = J b from rfl)
        · rw [if_neg h]
          by_cases h : v3 = Int32.ofInt 1
          · rw [if_pos h]
            all_goals first | (dsimp only; exact (show J b = J b from rfl)) | exact (show J b = J b from rfl)
          · rw [if_neg h]
            all_goals first | (dsimp only; exact (show J b = J b from rfl)) | exact (show J b = J b from rfl)
      · rw [if_neg h]
        exact (ih _ _ n0 n1 n2 n3 n4 n5 n6 n7 n8 n9 n10 n11 n12 n13 n14 n15 n16).trans (x1N_frJ  n0 n10 n11 n12 n13 n15 n16)
theorem x123N_frJ {p : Nat → Nat} {v1 : Int32} {v2 : Int32} {v3 : Int32} {J : Nat → Nat → Int32} {b : Nat} (n0 : b ≠ p 48) (n1 : b ≠ p 49) (n2 : b ≠ p 50) (n3 : b ≠ p 51) (n4 : b ≠ p 52) (n5 : b ≠ p 53) (n6 : b ≠ p 54) (n7 : b ≠ p 55) (n8 : b ≠ p 56) (n9 : b ≠ p 57) (n10 : b ≠ p 58) (n11 : b ≠ p 59) (n12 : b ≠ p 60) (n13 : b ≠ p 61) (n14 : b ≠ p 62) (n15 : b ≠ p 63) (n16 : b ≠ p 64) : (x123N p v1 v2 v3 J).2 b = J b := by
  unfold x123N
  by_cases h : (J (p 31) 1) = 0
  · rw [if_pos h]
    all_goals first | (dsimp only; exact (show J b = J b from rfl)) | exact (show J b = J b from rfl)
  · rw [if_neg h]
    by_cases h : (x111 p v1 J) = 0
    · rw [if_pos h]
      all_goals first | (dsimp only; exact (show J b = J b from rfl)) | exact (show J b = J b from rfl)
    · rw [if_neg h]
      by_cases h : v2 < 0
      · rw [if_pos h]
        all_goals first | (dsimp only; exact (show J b = J b from rfl)) | exact (show J b = J b from rfl)
      · rw [if_neg h]
        by_cases h : (Int32.ofInt 100) < v2
        · rw [if_pos h]
          all_goals first | (dsimp only; exact (show J b = J b from rfl)) | exact (show J b = J b from rfl)
        · rw [if_neg h]
          by_cases h : v3 < 0
          · rw [if_pos h]
            all_goals first | (dsimp only; exact (show J b = J b from rfl)) | exact (show J b = J b from rfl)
          · rw [if_neg h]
            by_cases h : v3 ≤ (Int32.ofInt 2)
            · rw [if_pos h]
              exact (x123N_53_frJ _ _ _ n0 n1 n2 n3 n4 n5 n6 n7 n8 n9 n10 n11 n12 n13 n14 n15 n16).trans (x80_frJ  n0 n1 n2 n3 n4 n5 n6 n7 n8 n9 n10 n11 n12 n13 n14 n15 n16)
            · rw [if_neg h]
              all_goals first | (dsimp only; exact (show J b = J b from rfl)) | exact (show J b = J b from rfl)
end
section
/-! the class's cells beside the said row -/
def zc (j : Nat) : Nat × Nat :=
  if j < 4 then (1, j) else if j = 4 then (0, 2) else if j = 5 then (1, 4) else if j = 6 then (0, 3) else if j = 7 then (0, 5) else if j = 8 then (0, 4) else if j = 9 then (0, 6)
  else if j < 52 then (if (j - 10) % 7 < 4 then (2, 4 * ((j - 10) / 7) + (j - 10) % 7) else if (j - 10) % 7 = 4 then (10, (j - 10) / 7) else if (j - 10) % 7 = 5 then (12, (j - 10) / 7) else (11, (j - 10) / 7))
  else if j < 172 then (if (j - 52) % 5 = 0 then (3, (j - 52) / 5) else if (j - 52) % 5 = 1 then (13, (j - 52) / 5) else if (j - 52) % 5 = 2 then (5, (j - 52) / 5) else if (j - 52) % 5 = 3 then (14, (j - 52) / 5) else (15, (j - 52) / 5))
  else (if (j - 172) % 5 = 0 then (6, (j - 172) / 5) else if (j - 172) % 5 = 1 then (7, (j - 172) / 5) else if (j - 172) % 5 = 2 then (8, (j - 172) / 5) else if (j - 172) % 5 = 3 then (9, (j - 172) / 5) else (16, (j - 172) / 5))
def zi (c : Nat × Nat) : Nat :=
  if c.1 = 0 then (if c.2 = 2 then 4 else if c.2 = 3 then 6 else if c.2 = 4 then 8 else if c.2 = 5 then 7 else 9)
  else if c.1 = 1 then (if c.2 < 4 then c.2 else 5)
  else if c.1 = 2 then 10 + 7 * (c.2 / 4) + c.2 % 4
  else if c.1 = 10 then 10 + 7 * c.2 + 4 else if c.1 = 12 then 10 + 7 * c.2 + 5 else if c.1 = 11 then 10 + 7 * c.2 + 6
  else if c.1 = 3 then 52 + 5 * c.2 else if c.1 = 13 then 52 + 5 * c.2 + 1 else if c.1 = 5 then 52 + 5 * c.2 + 2 else if c.1 = 14 then 52 + 5 * c.2 + 3 else if c.1 = 15 then 52 + 5 * c.2 + 4
  else if c.1 = 6 then 172 + 5 * c.2 else if c.1 = 7 then 172 + 5 * c.2 + 1 else if c.1 = 8 then 172 + 5 * c.2 + 2 else if c.1 = 9 then 172 + 5 * c.2 + 3 else 172 + 5 * c.2 + 4
theorem zi_c : ∀ j, j < 212 → zi (zc j) = j := by decide +kernel
theorem zc_17 : ∀ j, j < 212 → (zc j).1 < 17 := by decide +kernel
theorem zc_m : ∀ s, s < 6 → ∀ k, k < 4 → zc (10 + 7 * s + k) = (2, 4 * s + k) := by decide +kernel
theorem zc_s4 : ∀ s, s < 6 → zc (10 + 7 * s + 4) = (10, s) := by decide +kernel
theorem zc_s5 : ∀ s, s < 6 → zc (10 + 7 * s + 5) = (12, s) := by decide +kernel
theorem zc_s6 : ∀ s, s < 6 → zc (10 + 7 * s + 6) = (11, s) := by decide +kernel
theorem zc_p0 : ∀ p, p < 24 → zc (52 + 5 * p + 0) = (3, p) := by decide +kernel
theorem zc_p1 : ∀ p, p < 24 → zc (52 + 5 * p + 1) = (13, p) := by decide +kernel
theorem zc_p2 : ∀ p, p < 24 → zc (52 + 5 * p + 2) = (5, p) := by decide +kernel
theorem zc_p3 : ∀ p, p < 24 → zc (52 + 5 * p + 3) = (14, p) := by decide +kernel
theorem zc_p4 : ∀ p, p < 24 → zc (52 + 5 * p + 4) = (15, p) := by decide +kernel
theorem zc_v0 : ∀ p, p < 8 → zc (172 + 5 * p + 0) = (6, p) := by decide +kernel
theorem zc_v1 : ∀ p, p < 8 → zc (172 + 5 * p + 1) = (7, p) := by decide +kernel
theorem zc_v2 : ∀ p, p < 8 → zc (172 + 5 * p + 2) = (8, p) := by decide +kernel
theorem zc_v3 : ∀ p, p < 8 → zc (172 + 5 * p + 3) = (9, p) := by decide +kernel
theorem zc_v4 : ∀ p, p < 8 → zc (172 + 5 * p + 4) = (16, p) := by decide +kernel
def zn (e : Nat → Int32) (i : Nat) : Nat := (e i).toNatClampNeg
def zv (e : Nat → Int32) (j : Nat) : Prop := j < 9 ∨ (10 ≤ j ∧ j < 52 ∧ (j - 10) / 7 < zn e 1 ∧ ((j - 10) % 7 < 4 → (j - 10) % 7 < zn e 0)) ∨ (52 ≤ j ∧ j < 172 ∧ (j - 52) / 5 < zn e 2) ∨ (172 ≤ j ∧ j < 212 ∧ (j - 172) / 5 < zn e 3)
def zu (e : Nat → Int32) (j : Nat) (v : Int32) : Nat → Int32 := fun i => if i = j then v else e i
theorem zu_s {e : Nat → Int32} {j : Nat} {v : Int32} : zu e j v j = v := if_pos rfl
theorem zu_k {e : Nat → Int32} {j i : Nat} {v : Int32} (h : i ≠ j) : zu e j v i = e i := if_neg h
theorem zu_r {J : Nat → Nat → Int32} {a j : Nat} {v : Int32} : nt_u J a j v a = zu (J a) j v := by
  funext i
  show (if a = a then (if i = j then v else J a i) else J a i) = _
  rw [if_pos rfl]
  rfl
/-- the class's state at q is what the row says -/
def zR (q : Nat → Nat) (J : Nat → Nat → Int32) (e : Nat → Int32) : Prop := (∀ j, zv e j → J (q (zc j).1) (zc j).2 = e j) ∧ J (q 0) 1 = (if e 0 = 0 then 0 else 1)
def zq (q : Nat → Nat) : Prop := ∀ i j, i < 17 → j < 17 → i ≠ j → q i ≠ q j
theorem zv_lt {e : Nat → Int32} {j : Nat} (h : zv e j) : j < 212 := by
  unfold zv at h
  omega
theorem zR_up {q : Nat → Nat} {J : Nat → Nat → Int32} {e : Nat → Int32} {j r k : Nat} {v : Int32} (hq : zq q) (h : zR q J e) (hj : 4 ≤ j) (h2 : j < 212) (hc : zc j = (r, k)) : zR q (nt_u J (q r) k v) (zu e j v) := by
  have c0 : ∀ i, i < 4 → zu e j v i = e i := fun i hi => zu_k (by omega)
  have r17 : r < 17 := by
    have := zc_17 j h2
    rw [hc] at this
    exact this
  refine ⟨?_, ?_⟩
  · intro i hi
    have hi' : zv e i := by
      unfold zv zn at hi ⊢
      rw [c0 0 (by omega), c0 1 (by omega), c0 2 (by omega), c0 3 (by omega)] at hi
      exact hi
    by_cases ei : i = j
    · subst ei
      rw [hc]
      show nt_u J (q r) k v (q r) k = _
      rw [me_us, zu_s]
    · rw [zu_k ei, ← h.1 i hi']
      by_cases er : (zc i).1 = r
      · rw [er]
        have nk : (zc i).2 ≠ k := by
          intro ek
          apply ei
          rw [← zi_c i (zv_lt hi'), ← zi_c j h2, hc]
          congr 1
          exact Prod.ext er ek
        rw [me_uk nk]
      · rw [me_uo (hq _ _ (zc_17 i (zv_lt hi')) r17 er)]
  · rw [c0 0 (by omega), ← h.2]
    by_cases er : r = 0
    · subst er
      have nk : 1 ≠ k := by
        intro ek
        have a := zi_c j h2
        rw [hc, ← ek] at a
        have a : 9 = j := a
        subst a
        rw [show zc 9 = (0, 6) from rfl] at hc
        have := congrArg Prod.snd hc
        have : 6 = k := this
        omega
      rw [me_uk nk]
    · rw [me_uo (hq 0 r (by omega) r17 (by omega))]
/-- reading -/
theorem zn_t {x : Int32} : x.toNatClampNeg = x.toInt.toNat := rfl
theorem zR_n {q : Nat → Nat} {J : Nat → Nat → Int32} {e : Nat → Int32} (h : zR q J e) {i : Nat} (hi : i < 4) : J (q 1) i = e i := by
  have := h.1 i (Or.inl (by omega))
  rw [show zc i = (1, i) from if_pos hi] at this
  exact this
theorem zR_4 {q : Nat → Nat} {J : Nat → Nat → Int32} {e : Nat → Int32} (h : zR q J e) : J (q 0) 2 = e 4 := h.1 4 (Or.inl (by omega))
theorem zR_5 {q : Nat → Nat} {J : Nat → Nat → Int32} {e : Nat → Int32} (h : zR q J e) : J (q 1) 4 = e 5 := h.1 5 (Or.inl (by omega))
theorem zR_6 {q : Nat → Nat} {J : Nat → Nat → Int32} {e : Nat → Int32} (h : zR q J e) : J (q 0) 3 = e 6 := h.1 6 (Or.inl (by omega))
theorem zR_7 {q : Nat → Nat} {J : Nat → Nat → Int32} {e : Nat → Int32} (h : zR q J e) : J (q 0) 5 = e 7 := h.1 7 (Or.inl (by omega))
theorem zR_8 {q : Nat → Nat} {J : Nat → Nat → Int32} {e : Nat → Int32} (h : zR q J e) : J (q 0) 4 = e 8 := h.1 8 (Or.inl (by omega))
theorem zR_p {q : Nat → Nat} {J : Nat → Nat → Int32} {e : Nat → Int32} {n k r m : Nat} (h : zR q J e) (hn : n < zn e 2) (h24 : n < 24) (hk : k < 5) (hc : zc (52 + 5 * n + k) = (r, m)) : J (q r) m = e (52 + 5 * n + k) := by
  have := h.1 (52 + 5 * n + k) (Or.inr (Or.inr (Or.inl ⟨by omega, by omega, by omega⟩)))
  rw [hc] at this
  exact this
theorem zR_v {q : Nat → Nat} {J : Nat → Nat → Int32} {e : Nat → Int32} {n k r m : Nat} (h : zR q J e) (hn : n < zn e 3) (h8 : n < 8) (hk : k < 5) (hc : zc (172 + 5 * n + k) = (r, m)) : J (q r) m = e (172 + 5 * n + k) := by
  have := h.1 (172 + 5 * n + k) (Or.inr (Or.inr (Or.inr ⟨by omega, by omega, by omega⟩)))
  rw [hc] at this
  exact this
theorem zR_s {q : Nat → Nat} {J : Nat → Nat → Int32} {e : Nat → Int32} {n k r m : Nat} (h : zR q J e) (hn : n < zn e 1) (h6 : n < 6) (hk : k < 7) (hk0 : k < 4 → k < zn e 0) (hc : zc (10 + 7 * n + k) = (r, m)) : J (q r) m = e (10 + 7 * n + k) := by
  have := h.1 (10 + 7 * n + k) (Or.inr (Or.inl ⟨by omega, by omega, by omega, fun a => by
    have : (10 + 7 * n + k - 10) % 7 = k := by omega
    rw [this] at a ⊢
    exact hk0 a⟩))
  rw [hc] at this
  exact this
/-- what holds of the row: what the text told -/
def zA (e : Nat → Int32) : Prop := ((e 5).toInt ≤ 30) ∧ (∀ s, s < zn e 1 → ∀ k, k < zn e 0 → 0 ≤ (e (10 + 7 * s + k)).toInt ∧ (e (10 + 7 * s + k)).toInt ≤ 5) ∧ (∀ p, p < zn e 2 → 0 ≤ (e (52 + 5 * p + 0)).toInt ∧ (e (52 + 5 * p + 0)).toInt < (e 0).toInt) ∧ (∀ p, p < zn e 2 → 0 ≤ (e (52 + 5 * p + 2)).toInt ∧ (e (52 + 5 * p + 2)).toInt < (e 1).toInt) ∧ (∀ v, v < zn e 3 → 0 ≤ (e (172 + 5 * v + 0)).toInt ∧ (e (172 + 5 * v + 0)).toInt < (e 1).toInt ∧ 0 ≤ (e (172 + 5 * v + 1)).toInt ∧ (e (172 + 5 * v + 1)).toInt < (e (172 + 5 * v + 2)).toInt ∧ (e (172 + 5 * v + 2)).toInt ≤ 99)
theorem zA.hd {e : Nat → Int32} (h_ : zA e) : (e 5).toInt ≤ 30 := h_.1
theorem zA.mu {e : Nat → Int32} (h_ : zA e) : ∀ s, s < zn e 1 → ∀ k, k < zn e 0 → 0 ≤ (e (10 + 7 * s + k)).toInt ∧ (e (10 + 7 * s + k)).toInt ≤ 5 := h_.2.1
theorem zA.kn {e : Nat → Int32} (h_ : zA e) : ∀ p, p < zn e 2 → 0 ≤ (e (52 + 5 * p + 0)).toInt ∧ (e (52 + 5 * p + 0)).toInt < (e 0).toInt := h_.2.2.1
theorem zA.ow {e : Nat → Int32} (h_ : zA e) : ∀ p, p < zn e 2 → 0 ≤ (e (52 + 5 * p + 2)).toInt ∧ (e (52 + 5 * p + 2)).toInt < (e 1).toInt := h_.2.2.2.1
theorem zA.vo {e : Nat → Int32} (h_ : zA e) : ∀ v, v < zn e 3 → 0 ≤ (e (172 + 5 * v + 0)).toInt ∧ (e (172 + 5 * v + 0)).toInt < (e 1).toInt ∧ 0 ≤ (e (172 + 5 * v + 1)).toInt ∧ (e (172 + 5 * v + 1)).toInt < (e (172 + 5 * v + 2)).toInt ∧ (e (172 + 5 * v + 2)).toInt ≤ 99 := h_.2.2.2.2
/-- where planks are -/
def zB (e : Nat → Int32) : Prop := (∀ p, p < zn e 2 → -1 ≤ (e (52 + 5 * p + 3)).toInt ∧ (e (52 + 5 * p + 3)).toInt < (e 1).toInt) ∧ (∀ p, p < zn e 2 → e (52 + 5 * p + 4) = if 0 ≤ (e (52 + 5 * p + 3)).toInt ∧ e (10 + 7 * (e (52 + 5 * p + 3)).toNatClampNeg + 4) = 2 then 1 else 0)
theorem zB.inn {e : Nat → Int32} (h_ : zB e) : ∀ p, p < zn e 2 → -1 ≤ (e (52 + 5 * p + 3)).toInt ∧ (e (52 + 5 * p + 3)).toInt < (e 1).toInt := h_.1
theorem zB.lo {e : Nat → Int32} (h_ : zB e) : ∀ p, p < zn e 2 → e (52 + 5 * p + 4) = if 0 ≤ (e (52 + 5 * p + 3)).toInt ∧ e (10 + 7 * (e (52 + 5 * p + 3)).toNatClampNeg + 4) = 2 then 1 else 0 := h_.2
/-- where ships are -/
def zC (e : Nat → Int32) (b : Int) : Prop := (∀ s, s < zn e 1 → e (10 + 7 * s + 4) = 0 ∨ e (10 + 7 * s + 4) = 1 ∨ e (10 + 7 * s + 4) = 2) ∧ (∀ s, s < zn e 1 → e (10 + 7 * s + 4) = 1 → ∃ v, v < zn e 3 ∧ (e (10 + 7 * s + 5)).toInt = (v : Nat) ∧ (e (172 + 5 * v + 0)).toInt = s ∧ e (172 + 5 * v + 4) = 1 ∧ b ≤ (e (172 + 5 * v + 2)).toInt) ∧ (∀ s, s < zn e 1 → e (10 + 7 * s + 4) ≠ 1 → e (10 + 7 * s + 5) = Int32.ofInt (-1)) ∧ (∀ v, v < zn e 3 → e (172 + 5 * v + 4) = 1 → ∃ s, s < zn e 1 ∧ (e (172 + 5 * v + 0)).toInt = (s : Nat) ∧ e (10 + 7 * s + 4) = 1 ∧ (e (10 + 7 * s + 5)).toInt = v)
theorem zC.st {e : Nat → Int32} {b : Int} (h_ : zC e b) : ∀ s, s < zn e 1 → e (10 + 7 * s + 4) = 0 ∨ e (10 + 7 * s + 4) = 1 ∨ e (10 + 7 * s + 4) = 2 := h_.1
theorem zC.on {e : Nat → Int32} {b : Int} (h_ : zC e b) : ∀ s, s < zn e 1 → e (10 + 7 * s + 4) = 1 → ∃ v, v < zn e 3 ∧ (e (10 + 7 * s + 5)).toInt = (v : Nat) ∧ (e (172 + 5 * v + 0)).toInt = s ∧ e (172 + 5 * v + 4) = 1 ∧ b ≤ (e (172 + 5 * v + 2)).toInt := h_.2.1
theorem zC.no {e : Nat → Int32} {b : Int} (h_ : zC e b) : ∀ s, s < zn e 1 → e (10 + 7 * s + 4) ≠ 1 → e (10 + 7 * s + 5) = Int32.ofInt (-1) := h_.2.2.1
theorem zC.vc {e : Nat → Int32} {b : Int} (h_ : zC e b) : ∀ v, v < zn e 3 → e (172 + 5 * v + 4) = 1 → ∃ s, s < zn e 1 ∧ (e (172 + 5 * v + 0)).toInt = (s : Nat) ∧ e (10 + 7 * s + 4) = 1 ∧ (e (10 + 7 * s + 5)).toInt = v := h_.2.2.2
/-- days, hands, rot -/
def zD (e : Nat → Int32) : Prop := (0 ≤ (e 6).toInt ∧ (e 6).toInt ≤ (e 5).toInt) ∧ (0 ≤ (e 4).toInt ∧ (e 4).toInt ≤ 1000) ∧ (∀ p, p < zn e 2 → 0 ≤ (e (52 + 5 * p + 1)).toInt ∧ (e (52 + 5 * p + 1)).toInt ≤ 99)
theorem zD.h6 {e : Nat → Int32} (h_ : zD e) : 0 ≤ (e 6).toInt ∧ (e 6).toInt ≤ (e 5).toInt := h_.1
theorem zD.d4 {e : Nat → Int32} (h_ : zD e) : 0 ≤ (e 4).toInt ∧ (e 4).toInt ≤ 1000 := h_.2.1
theorem zD.ro {e : Nat → Int32} (h_ : zD e) : ∀ p, p < zn e 2 → 0 ≤ (e (52 + 5 * p + 1)).toInt ∧ (e (52 + 5 * p + 1)).toInt ≤ 99 := h_.2.2
def zW (e : Nat → Int32) (g : Int) : Prop := (xr_W e) ∧ (zA e) ∧ (zB e) ∧ (zC e g) ∧ (zD e)
theorem zW.w {e : Nat → Int32} {g : Int} (h_ : zW e g) : xr_W e := h_.1
theorem zW.a {e : Nat → Int32} {g : Int} (h_ : zW e g) : zA e := h_.2.1
theorem zW.b {e : Nat → Int32} {g : Int} (h_ : zW e g) : zB e := h_.2.2.1
theorem zW.c {e : Nat → Int32} {g : Int} (h_ : zW e g) : zC e g := h_.2.2.2.1
theorem zW.d {e : Nat → Int32} {g : Int} (h_ : zW e g) : zD e := h_.2.2.2.2
theorem zn_ag {e f : Nat → Int32} {i : Nat} (h : f i = e i) : zn f i = zn e i := by
  unfold zn
  rw [h]
theorem zA_ag {e f : Nat → Int32} (h : zA e) (w : xr_W e) (h0 : ∀ i, i < 6 → i ≠ 4 → f i = e i) (hs : ∀ s, s < 6 → ∀ k, k < 4 → f (10 + 7 * s + k) = e (10 + 7 * s + k)) (hp : ∀ p, p < 24 → f (52 + 5 * p + 0) = e (52 + 5 * p + 0) ∧ f (52 + 5 * p + 2) = e (52 + 5 * p + 2)) (hv : ∀ v, v < 8 → ∀ k, k < 3 → f (172 + 5 * v + k) = e (172 + 5 * v + k)) : zA f := by
  have l0 := xr_0 w
  have l1 := xr_1 w
  have l2 := xr_2 w
  have l3 := xr_3 w
  have n0 := zn_ag (h0 0 (by omega) (by omega))
  have n1 := zn_ag (h0 1 (by omega) (by omega))
  have n2 := zn_ag (h0 2 (by omega) (by omega))
  have n3 := zn_ag (h0 3 (by omega) (by omega))
  have z : ∀ i, zn e i = (e i).toInt.toNat := fun i => rfl
  have z0 := z 0
  have z1 := z 1
  have z2 := z 2
  have z3 := z 3
  refine ⟨?_, ?_, ?_, ?_, ?_⟩
  · rw [h0 5 (by omega) (by omega)]
    exact h.hd
  · intro s hs1 k hk
    rw [n1] at hs1
    rw [n0] at hk
    rw [hs s (by omega) k (by omega)]
    exact h.mu s hs1 k hk
  · intro p hp1
    rw [n2] at hp1
    rw [(hp p (by omega)).1, h0 0 (by omega) (by omega)]
    exact h.kn p hp1
  · intro p hp1
    rw [n2] at hp1
    rw [(hp p (by omega)).2, h0 1 (by omega) (by omega)]
    exact h.ow p hp1
  · intro v hv1
    rw [n3] at hv1
    rw [hv v (by omega) 0 (by omega), hv v (by omega) 1 (by omega), hv v (by omega) 2 (by omega), h0 1 (by omega) (by omega)]
    exact h.vo v hv1
theorem zB_ag {e f : Nat → Int32} (h : zB e) (w : xr_W e) (h1 : f 1 = e 1) (h2 : f 2 = e 2) (hs : ∀ s, s < 6 → f (10 + 7 * s + 4) = e (10 + 7 * s + 4)) (hp : ∀ p, p < 24 → f (52 + 5 * p + 3) = e (52 + 5 * p + 3) ∧ f (52 + 5 * p + 4) = e (52 + 5 * p + 4)) : zB f := by
  have l1 := xr_1 w
  have l2 := xr_2 w
  have n2 := zn_ag h2
  have z2 : zn e 2 = (e 2).toInt.toNat := rfl
  refine ⟨?_, ?_⟩
  · intro p hp1
    rw [n2] at hp1
    rw [(hp p (by omega)).1, h1]
    exact h.inn p hp1
  · intro p hp1
    rw [n2] at hp1
    rw [(hp p (by omega)).1, (hp p (by omega)).2, h.lo p hp1]
    have i := h.inn p hp1
    have y : (e (52 + 5 * p + 3)).toNatClampNeg = (e (52 + 5 * p + 3)).toInt.toNat := rfl
    rw [hs _ (by omega)]
theorem zC_ag {e f : Nat → Int32} {b : Int} (h : zC e b) (w : xr_W e) (h1 : f 1 = e 1) (h3 : f 3 = e 3) (hs : ∀ s, s < 6 → f (10 + 7 * s + 4) = e (10 + 7 * s + 4) ∧ f (10 + 7 * s + 5) = e (10 + 7 * s + 5)) (hv : ∀ v, v < 8 → f (172 + 5 * v + 0) = e (172 + 5 * v + 0) ∧ f (172 + 5 * v + 2) = e (172 + 5 * v + 2) ∧ f (172 + 5 * v + 4) = e (172 + 5 * v + 4)) : zC f b := by
  have l1 := xr_1 w
  have l3 := xr_3 w
  have n1 := zn_ag h1
  have n3 := zn_ag h3
  have z1 : zn e 1 = (e 1).toInt.toNat := rfl
  have z3 : zn e 3 = (e 3).toInt.toNat := rfl
  refine ⟨?_, ?_, ?_, ?_⟩
  · intro s hs1
    rw [n1] at hs1
    rw [(hs s (by omega)).1]
    exact h.st s hs1
  · intro s hs1
    rw [n1] at hs1
    rw [(hs s (by omega)).1, (hs s (by omega)).2]
    intro e1
    obtain ⟨v, a, b, c, d, g⟩ := h.on s hs1 e1
    have q := hv v (by omega)
    exact ⟨v, by rw [n3]; exact a, b, by rw [q.1]; exact c, by rw [q.2.2]; exact d, by rw [q.2.1]; exact g⟩
  · intro s hs1
    rw [n1] at hs1
    rw [(hs s (by omega)).1, (hs s (by omega)).2]
    exact h.no s hs1
  · intro v hv1
    rw [n3] at hv1
    have q := hv v (by omega)
    rw [q.1, q.2.2]
    intro e1
    obtain ⟨s, a, b, c, d⟩ := h.vc v hv1 e1
    exact ⟨s, by rw [n1]; exact a, b, by rw [(hs s (by omega)).1]; exact c, by rw [(hs s (by omega)).2]; exact d⟩
theorem zD_ag {e f : Nat → Int32} (h : zD e) (w : xr_W e) (h2 : f 2 = e 2) (h4 : f 4 = e 4) (h5 : f 5 = e 5) (h6 : f 6 = e 6) (hp : ∀ p, p < 24 → f (52 + 5 * p + 1) = e (52 + 5 * p + 1)) : zD f := by
  have l2 := xr_2 w
  have n2 := zn_ag h2
  have z2 : zn e 2 = (e 2).toInt.toNat := rfl
  refine ⟨?_, ?_, ?_⟩
  · rw [h5, h6]
    exact h.h6
  · rw [h4]
    exact h.d4
  · intro p hp1
    rw [n2] at hp1
    rw [hp p (by omega)]
    exact h.ro p hp1
theorem zn_b {e : Nat → Int32} (h : xr_W e) : zn e 0 ≤ 4 ∧ zn e 1 ≤ 6 ∧ zn e 2 ≤ 24 ∧ zn e 3 ≤ 8 ∧ ((e 0).toInt = zn e 0) ∧ ((e 1).toInt = zn e 1) ∧ ((e 2).toInt = zn e 2) ∧ ((e 3).toInt = zn e 3) := by
  have a := xr_0 h
  have b := xr_1 h
  have c := xr_2 h
  have d := xr_3 h
  unfold zn
  rw [zn_t, zn_t, zn_t, zn_t]
  omega
/-- an index that the loop's test let through -/
theorem zx {e : Nat → Int32} {k : Nat} {i : Int32} (hn : (e k).toInt = zn e k) (h0 : 0 ≤ i.toInt) (h1 : ¬ e k ≤ i) : i.toNatClampNeg < zn e k ∧ i.toInt = i.toNatClampNeg := by
  have h : ¬ (e k).toInt ≤ i.toInt := fun c => h1 (Int32.le_iff_toInt_le.mpr c)
  rw [zn_t]
  omega
theorem zx_p {p : Nat → Nat} {J : Nat → Nat → Int32} {i : Int32} {k : Nat} (h0 : 0 ≤ i.toInt) (h1 : i.toInt ≤ 1000) (hk : k < 1000) : x173 p i (Int32.ofInt (k : Int)) J = J (p 4) (52 + 5 * i.toNatClampNeg + k) := by
  unfold x173
  rw [show ((Int32.ofInt 52 + Int32.ofInt 5 * i) + Int32.ofInt (k : Int)).toNatClampNeg = 52 + 5 * i.toInt.toNat + k from xi_3 (a := 52) (m := 5) (b := k) (by omega) (by omega) hk h0 h1]
  rfl
theorem zx_v {p : Nat → Nat} {J : Nat → Nat → Int32} {i : Int32} {k : Nat} (h0 : 0 ≤ i.toInt) (h1 : i.toInt ≤ 1000) (hk : k < 1000) : x180 p i (Int32.ofInt (k : Int)) J = J (p 4) (172 + 5 * i.toNatClampNeg + k) := by
  unfold x180
  rw [show ((Int32.ofInt 172 + Int32.ofInt 5 * i) + Int32.ofInt (k : Int)).toNatClampNeg = 172 + 5 * i.toInt.toNat + k from xi_3 (a := 172) (m := 5) (b := k) (by omega) (by omega) hk h0 h1]
  rfl
theorem zx_s {p : Nat → Nat} {J : Nat → Nat → Int32} {i : Int32} {k : Nat} (h0 : 0 ≤ i.toInt) (h1 : i.toInt ≤ 1000) (hk : k < 1000) : x169 p i (Int32.ofInt (k : Int)) J = J (p 4) (10 + 7 * i.toNatClampNeg + k) := by
  unfold x169
  rw [show ((Int32.ofInt 10 + Int32.ofInt 7 * i) + Int32.ofInt (k : Int)).toNatClampNeg = 10 + 7 * i.toInt.toNat + k from xi_3 (a := 10) (m := 7) (b := k) (by omega) (by omega) hk h0 h1]
  rfl
/-- all of a plank -/
theorem zP {q p : Nat → Nat} {Jc Jr : Nat → Nat → Int32} {i : Int32} (hR : zR q Jc (Jr (p 4))) (hW : xr_W (Jr (p 4))) (h0 : 0 ≤ i.toInt) (h1 : ¬ Jr (p 4) 2 ≤ i) :
    i.toNatClampNeg < zn (Jr (p 4)) 2 ∧ i.toInt = i.toNatClampNeg ∧
    Jc (q 3) i.toNatClampNeg = Jr (p 4) (52 + 5 * i.toNatClampNeg + 0) ∧ Jc (q 13) i.toNatClampNeg = Jr (p 4) (52 + 5 * i.toNatClampNeg + 1) ∧ Jc (q 5) i.toNatClampNeg = Jr (p 4) (52 + 5 * i.toNatClampNeg + 2) ∧ Jc (q 14) i.toNatClampNeg = Jr (p 4) (52 + 5 * i.toNatClampNeg + 3) ∧ Jc (q 15) i.toNatClampNeg = Jr (p 4) (52 + 5 * i.toNatClampNeg + 4) ∧
    x173 p i (Int32.ofInt 0) Jr = Jr (p 4) (52 + 5 * i.toNatClampNeg + 0) ∧ x173 p i (Int32.ofInt 1) Jr = Jr (p 4) (52 + 5 * i.toNatClampNeg + 1) ∧ x173 p i (Int32.ofInt 2) Jr = Jr (p 4) (52 + 5 * i.toNatClampNeg + 2) ∧ x173 p i (Int32.ofInt 3) Jr = Jr (p 4) (52 + 5 * i.toNatClampNeg + 3) ∧ x173 p i (Int32.ofInt 4) Jr = Jr (p 4) (52 + 5 * i.toNatClampNeg + 4) := by
  have b := zn_b hW
  have x := zx b.2.2.2.2.2.2.1 h0 h1
  have l : i.toNatClampNeg < 24 := by omega
  have l2 : i.toInt ≤ 1000 := by omega
  exact ⟨x.1, x.2, zR_p hR x.1 l (by omega) (zc_p0 _ l), zR_p hR x.1 l (by omega) (zc_p1 _ l), zR_p hR x.1 l (by omega) (zc_p2 _ l), zR_p hR x.1 l (by omega) (zc_p3 _ l), zR_p hR x.1 l (by omega) (zc_p4 _ l), zx_p (k := 0) h0 l2 (by omega), zx_p (k := 1) h0 l2 (by omega), zx_p (k := 2) h0 l2 (by omega), zx_p (k := 3) h0 l2 (by omega), zx_p (k := 4) h0 l2 (by omega)⟩
/-- all of a voyage -/
theorem zV {q p : Nat → Nat} {Jc Jr : Nat → Nat → Int32} {i : Int32} (hR : zR q Jc (Jr (p 4))) (hW : xr_W (Jr (p 4))) (h0 : 0 ≤ i.toInt) (h1 : ¬ Jr (p 4) 3 ≤ i) :
    i.toNatClampNeg < zn (Jr (p 4)) 3 ∧ i.toInt = i.toNatClampNeg ∧
    Jc (q 6) i.toNatClampNeg = Jr (p 4) (172 + 5 * i.toNatClampNeg + 0) ∧ Jc (q 7) i.toNatClampNeg = Jr (p 4) (172 + 5 * i.toNatClampNeg + 1) ∧ Jc (q 8) i.toNatClampNeg = Jr (p 4) (172 + 5 * i.toNatClampNeg + 2) ∧ Jc (q 9) i.toNatClampNeg = Jr (p 4) (172 + 5 * i.toNatClampNeg + 3) ∧ Jc (q 16) i.toNatClampNeg = Jr (p 4) (172 + 5 * i.toNatClampNeg + 4) ∧
    x180 p i (Int32.ofInt 0) Jr = Jr (p 4) (172 + 5 * i.toNatClampNeg + 0) ∧ x180 p i (Int32.ofInt 1) Jr = Jr (p 4) (172 + 5 * i.toNatClampNeg + 1) ∧ x180 p i (Int32.ofInt 2) Jr = Jr (p 4) (172 + 5 * i.toNatClampNeg + 2) ∧ x180 p i (Int32.ofInt 3) Jr = Jr (p 4) (172 + 5 * i.toNatClampNeg + 3) ∧ x180 p i (Int32.ofInt 4) Jr = Jr (p 4) (172 + 5 * i.toNatClampNeg + 4) := by
  have b := zn_b hW
  have x := zx b.2.2.2.2.2.2.2 h0 h1
  have l : i.toNatClampNeg < 8 := by omega
  have l2 : i.toInt ≤ 1000 := by omega
  exact ⟨x.1, x.2, zR_v hR x.1 l (by omega) (zc_v0 _ l), zR_v hR x.1 l (by omega) (zc_v1 _ l), zR_v hR x.1 l (by omega) (zc_v2 _ l), zR_v hR x.1 l (by omega) (zc_v3 _ l), zR_v hR x.1 l (by omega) (zc_v4 _ l), zx_v (k := 0) h0 l2 (by omega), zx_v (k := 1) h0 l2 (by omega), zx_v (k := 2) h0 l2 (by omega), zx_v (k := 3) h0 l2 (by omega), zx_v (k := 4) h0 l2 (by omega)⟩
/-- all of a ship but what she must have -/
theorem zS {q p : Nat → Nat} {Jc Jr : Nat → Nat → Int32} {i : Int32} (hR : zR q Jc (Jr (p 4))) (hW : xr_W (Jr (p 4))) (h0 : 0 ≤ i.toInt) (h1 : i.toInt < (Jr (p 4) 1).toInt) :
    i.toNatClampNeg < zn (Jr (p 4)) 1 ∧ i.toInt = i.toNatClampNeg ∧
    Jc (q 10) i.toNatClampNeg = Jr (p 4) (10 + 7 * i.toNatClampNeg + 4) ∧ Jc (q 12) i.toNatClampNeg = Jr (p 4) (10 + 7 * i.toNatClampNeg + 5) ∧ Jc (q 11) i.toNatClampNeg = Jr (p 4) (10 + 7 * i.toNatClampNeg + 6) ∧
    x169 p i (Int32.ofInt 4) Jr = Jr (p 4) (10 + 7 * i.toNatClampNeg + 4) ∧ x169 p i (Int32.ofInt 5) Jr = Jr (p 4) (10 + 7 * i.toNatClampNeg + 5) ∧ x169 p i (Int32.ofInt 6) Jr = Jr (p 4) (10 + 7 * i.toNatClampNeg + 6) := by
  have b := zn_b hW
  have x : i.toNatClampNeg < zn (Jr (p 4)) 1 ∧ i.toInt = i.toNatClampNeg := by
    rw [zn_t]
    omega
  have l : i.toNatClampNeg < 6 := by omega
  have l2 : i.toInt ≤ 1000 := by omega
  exact ⟨x.1, x.2, zR_s hR x.1 l (by omega) (by omega) (zc_s4 _ l), zR_s hR x.1 l (by omega) (by omega) (zc_s5 _ l), zR_s hR x.1 l (by omega) (by omega) (zc_s6 _ l), zx_s (k := 4) h0 l2 (by omega), zx_s (k := 5) h0 l2 (by omega), zx_s (k := 6) h0 l2 (by omega)⟩
end
section
/-! questions: the class's answer is the reference's -/
theorem zi_i {b i : Int32} (n : ¬ b ≤ i) (h : 0 ≤ i.toInt) : 0 ≤ (i + Int32.ofInt 1).toInt := xi_nn n h
theorem z_add0 {x : Int32} : x + Int32.ofInt 0 = x := Int32.add_zero x
theorem z_sub0 {x : Int32} : x - Int32.ofInt 0 = x := Int32.sub_zero x
theorem z_sub1 {x : Int32} : x + Int32.ofInt (-1) = x - Int32.ofInt 1 := by
  rw [Int32.sub_eq_add_neg]
  rfl
def zl (e : Nat → Int32) (s : Int32) : Prop := ∀ n, n < zn e 2 → e (52 + 5 * n + 3) = s → e (52 + 5 * n + 4) = 0
theorem z_in {p : Nat → Nat} {Jr : Nat → Nat → Int32} {i s a1 a3 a4 : Int32} (e1 : x173 p i (Int32.ofInt 1) Jr = a1) (e3 : x173 p i (Int32.ofInt 3) Jr = a3) (e4 : x173 p i (Int32.ofInt 4) Jr = a4) (h : a3 = s → a4 = 0) : x171 p i s Jr = if a3 = s then (if a1 ≤ 0 then 0 else 1) else 0 := by
  unfold x171 x172
  rw [e1, e3, e4]
  by_cases c1 : a1 ≤ 0
  · rw [if_pos c1, if_pos (show Int32.ofInt 0 = 0 from rfl), if_pos c1]
    split <;> rfl
  · rw [if_neg c1]
    by_cases c3 : a3 = s
    · rw [if_pos (h c3), if_neg (show ¬ Int32.ofInt 1 = 0 from by decide), if_pos c3, if_pos c3, if_neg c1]
      rfl
    · rw [if_neg c3, if_neg c3]
      split <;> rfl
theorem zq_66l {q p : Nat → Nat} {Jc Jr : Nat → Nat → Int32} {s : Int32} (hR : zR q Jc (Jr (p 4))) (hW : xr_W (Jr (p 4))) (hl : zl (Jr (p 4)) s) : ∀ (c : Nat) (a i : Int32), 0 ≤ i.toInt → x66_4 q s Jc c a i = x170_4 p s Jr c a i := by
  intro c
  induction c with
  | zero => intro a i h; rfl
  | succ c ih =>
    intro a i h
    rw [x66_4, x170_4, zR_n hR (by omega)]
    by_cases h1 : Jr (p 4) 2 ≤ i
    · rw [if_pos h1, if_pos h1]
    · rw [if_neg h1, if_neg h1]
      obtain ⟨hn, hi, c0, c1, c2, c3, c4, r0, r1, r2, r3, r4⟩ := zP hR hW h h1
      rw [z_in r1 r3 r4 (hl _ hn), c1, c3]
      by_cases h3 : Jr (p 4) (52 + 5 * i.toNatClampNeg + 3) = s
      · rw [if_pos h3, if_pos h3]
        by_cases h2 : Jr (p 4) (52 + 5 * i.toNatClampNeg + 1) ≤ 0
        · rw [if_pos h2, if_pos h2, if_pos rfl, z_add0]
          exact ih _ _ (zi_i h1 h)
        · rw [if_neg h2, if_neg h2, if_neg (show ¬ (1 : Int32) = 0 from by decide)]
          exact ih _ _ (zi_i h1 h)
      · rw [if_neg h3, if_neg h3, if_pos rfl, z_add0]
        exact ih _ _ (zi_i h1 h)
theorem zq_66 {q p : Nat → Nat} {Jc Jr : Nat → Nat → Int32} {s : Int32} (hR : zR q Jc (Jr (p 4))) (hW : xr_W (Jr (p 4))) (hl : zl (Jr (p 4)) s) : x66 q s Jc = x170 p s Jr := by
  unfold x66 x170
  rw [zR_n hR (by omega)]
  exact zq_66l hR hW hl _ _ _ (by decide)
theorem z_mx {x : Int32} : (if x < Int32.ofInt 0 then Int32.ofInt 0 else x) = (if 0 ≤ x then x else Int32.ofInt 0) := by
  by_cases h : x < Int32.ofInt 0
  · rw [if_pos h, if_neg]
    intro c
    have c := Int32.le_iff_toInt_le.mp c
    have h := Int32.lt_iff_toInt_lt.mp h
    rw [show (0 : Int32).toInt = (Int32.ofInt 0).toInt from rfl] at c
    omega
  · rw [if_neg h, if_pos]
    apply Int32.le_iff_toInt_le.mpr
    have h : ¬ x.toInt < (Int32.ofInt 0).toInt := fun c => h (Int32.lt_iff_toInt_lt.mpr c)
    rw [show (0 : Int32).toInt = (Int32.ofInt 0).toInt from rfl]
    omega
theorem zq_68l {q p : Nat → Nat} {Jc Jr : Nat → Nat → Int32} {s k : Int32} (hR : zR q Jc (Jr (p 4))) (hW : xr_W (Jr (p 4))) (hl : zl (Jr (p 4)) s) : ∀ (c : Nat) (a i : Int32), 0 ≤ i.toInt → x68_13 q s k Jc c a i = x175_10 p s k Jr c a i := by
  intro c
  induction c with
  | zero =>
    intro a i h
    rw [x68_13, x175_10]
    exact z_mx
  | succ c ih =>
    intro a i h
    rw [x68_13, x175_10, zR_n hR (by omega)]
    by_cases h1 : Jr (p 4) 2 ≤ i
    · rw [if_pos h1, if_pos h1]
      exact z_mx
    · rw [if_neg h1, if_neg h1]
      obtain ⟨hn, hi, c0, c1, c2, c3, c4, r0, r1, r2, r3, r4⟩ := zP hR hW h h1
      rw [z_in r1 r3 r4 (hl _ hn), c0, c1, c3, r0]
      by_cases h3 : Jr (p 4) (52 + 5 * i.toNatClampNeg + 3) = s
      · rw [if_pos h3, if_pos h3]
        by_cases h2 : Jr (p 4) (52 + 5 * i.toNatClampNeg + 1) ≤ 0
        · rw [if_pos h2, if_pos h2, if_pos rfl, z_sub0]
          exact ih _ _ (zi_i h1 h)
        · rw [if_neg h2, if_neg h2, if_neg (show ¬ (1 : Int32) = 0 from by decide)]
          by_cases h4 : Jr (p 4) (52 + 5 * i.toNatClampNeg + 0) = k
          · rw [if_pos h4, if_pos h4, z_sub1]
            exact ih _ _ (zi_i h1 h)
          · rw [if_neg h4, if_neg h4, z_sub0]
            exact ih _ _ (zi_i h1 h)
      · rw [if_neg h3, if_neg h3, if_pos rfl, z_sub0]
        exact ih _ _ (zi_i h1 h)
theorem zq_87 {q p : Nat → Nat} {Jc Jr : Nat → Nat → Int32} {s k : Int32} (hR : zR q Jc (Jr (p 4))) (hW : xr_W (Jr (p 4))) (hs : 0 ≤ s.toInt ∧ s.toInt < (Jr (p 4) 1).toInt) (hk : 0 ≤ k.toInt ∧ k.toInt < (Jr (p 4) 0).toInt) : x87 q s k Jc = Jr (p 4) (10 + 7 * s.toNatClampNeg + k.toNatClampNeg) ∧ x169 p s k Jr = Jr (p 4) (10 + 7 * s.toNatClampNeg + k.toNatClampNeg) := by
  have b := zn_b hW
  have hs' : s.toInt = s.toNatClampNeg := by rw [zn_t]; omega
  have hk' : k.toInt = k.toNatClampNeg := by rw [zn_t]; omega
  have ek : k = Int32.ofInt (k.toNatClampNeg : Int) := by
    rw [← hk']
    exact (Int32.ofInt_toInt k).symm
  refine ⟨?_, ?_⟩
  · unfold x87
    have e1 : (s * Int32.ofInt 4).toInt = 4 * s.toInt := by
      rw [Int32.toInt_mul, show (Int32.ofInt 4).toInt = 4 from by decide, Int.bmod_eq_of_le (by omega) (by omega)]
      omega
    have e2 : (s * Int32.ofInt 4 + k).toNatClampNeg = 4 * s.toNatClampNeg + k.toNatClampNeg := by
      show Int.toNat _ = _
      rw [Int32.toInt_add, e1, Int.bmod_eq_of_le (by omega) (by omega)]
      omega
    rw [e2]
    exact zR_s hR (by omega) (by omega) (by omega) (by omega) (zc_m _ (by omega) _ (by omega))
  · have t := zx_s (p := p) (J := Jr) (i := s) (k := k.toNatClampNeg) hs.1 (by omega) (by omega)
    rw [← ek] at t
    exact t
theorem zq_68 {q p : Nat → Nat} {Jc Jr : Nat → Nat → Int32} {s k : Int32} (hR : zR q Jc (Jr (p 4))) (hW : xr_W (Jr (p 4))) (hl : zl (Jr (p 4)) s) (hs : 0 ≤ s.toInt ∧ s.toInt < (Jr (p 4) 1).toInt) (hk : 0 ≤ k.toInt ∧ k.toInt < (Jr (p 4) 0).toInt) : x68 q s k Jc = x175 p s k Jr := by
  unfold x68 x175
  rw [zR_n hR (by omega), (zq_87 hR hW hs hk).1, (zq_87 hR hW hs hk).2]
  exact zq_68l hR hW hl _ _ _ (by decide)
theorem z_lt {b i : Int32} (n : ¬ b ≤ i) : i.toInt < b.toInt := by
  have : ¬ b.toInt ≤ i.toInt := fun c => n (Int32.le_iff_toInt_le.mpr c)
  omega
theorem zq_67l {q p : Nat → Nat} {Jc Jr : Nat → Nat → Int32} {s : Int32} (hR : zR q Jc (Jr (p 4))) (hW : xr_W (Jr (p 4))) (hl : zl (Jr (p 4)) s) (hs : 0 ≤ s.toInt ∧ s.toInt < (Jr (p 4) 1).toInt) : ∀ (c : Nat) (i : Int32), 0 ≤ i.toInt → x67_2 q s Jc c i = x174_2 p s Jr c i := by
  intro c
  induction c with
  | zero => intro i h; rfl
  | succ c ih =>
    intro i h
    rw [x67_2, x174_2, zR_n hR (by omega)]
    by_cases h1 : Jr (p 4) 0 ≤ i
    · rw [if_pos h1, if_pos h1]
    · rw [if_neg h1, if_neg h1, zq_68 hR hW hl hs ⟨h, z_lt h1⟩, ih _ (zi_i h1 h)]
theorem zq_67 {q p : Nat → Nat} {Jc Jr : Nat → Nat → Int32} {s : Int32} (hR : zR q Jc (Jr (p 4))) (hW : xr_W (Jr (p 4))) (hl : zl (Jr (p 4)) s) (hs : 0 ≤ s.toInt ∧ s.toInt < (Jr (p 4) 1).toInt) : x67 q s Jc = x174 p s Jr := by
  unfold x67 x174
  rw [zR_n hR (by omega)]
  exact zq_67l hR hW hl hs _ _ (by decide)
theorem zq_88l {q p : Nat → Nat} {Jc Jr : Nat → Nat → Int32} {s : Int32} (hR : zR q Jc (Jr (p 4))) (hW : xr_W (Jr (p 4))) : ∀ (c : Nat) (i : Int32), 0 ≤ i.toInt → x88_2 q s (Jr (p 4) 4) Jc c i = x195_2 p s Jr c i := by
  intro c
  induction c with
  | zero => intro i h; rfl
  | succ c ih =>
    intro i h
    rw [x88_2, x195_2, zR_n hR (by omega)]
    by_cases h1 : Jr (p 4) 3 ≤ i
    · rw [if_pos h1, if_pos h1]
    · obtain ⟨hn, hi, c0, c1, c2, c3, c4, r0, r1, r2, r3, r4⟩ := zV hR hW h h1
      rw [if_neg h1, if_neg h1, ih _ (zi_i h1 h), c0, c1, r0, r1]
theorem zq_88 {q p : Nat → Nat} {Jc Jr : Nat → Nat → Int32} {s : Int32} (hR : zR q Jc (Jr (p 4))) (hW : xr_W (Jr (p 4))) : x88 q s (Jc (q 0) 2) Jc = x195 p s Jr := by
  unfold x88 x195
  rw [zR_n hR (by omega), zR_4 hR]
  exact zq_88l hR hW _ _ (by decide)
theorem z_le0 {x : Int32} : x < 0 ↔ x.toInt < 0 := by
  rw [Int32.lt_iff_toInt_lt]
  exact Iff.rfl
theorem z_ge {x b : Int32} : b ≤ x ↔ b.toInt ≤ x.toInt := Int32.le_iff_toInt_le
theorem zq_73 {q p : Nat → Nat} {Jc Jr : Nat → Nat → Int32} {i : Int32} (hR : zR q Jc (Jr (p 4))) {b : Int} (hW : zW (Jr (p 4)) b) (h : 0 ≤ i.toInt) (h1 : ¬ Jr (p 4) 2 ≤ i) : x73 q i Jc = x183 p i Jr := by
  have bb := zn_b hW.w
  obtain ⟨hn, hi, c0, c1, c2, c3, c4, r0, r1, r2, r3, r4⟩ := zP hR hW.w h h1
  unfold x73 x183 x172 x65
  rw [c1, c3, c4, r1, r3, r4, zR_n hR (by omega)]
  generalize ha1 : Jr (p 4) (52 + 5 * i.toNatClampNeg + 1) = a1
  have hin := hW.b.inn _ hn
  have hlo := hW.b.lo _ hn
  have o0 : Int32.ofInt 0 = 0 := rfl
  have o1 : ¬ Int32.ofInt 1 = 0 := by decide
  by_cases n3 : (Jr (p 4) (52 + 5 * i.toNatClampNeg + 3)).toInt < 0
  · have hz : Jr (p 4) (52 + 5 * i.toNatClampNeg + 4) = 0 := by
      rw [hlo, if_neg (fun c => by omega)]
    simp only [if_pos (z_le0.mpr n3), if_pos hz, if_pos o0, if_neg o1]
    by_cases c1 : a1 ≤ 0
    · simp only [if_pos c1, if_pos o0]
    · simp only [if_neg c1, if_neg o1]
  · have s1 := zS hR hW.w (i := Jr (p 4) (52 + 5 * i.toNatClampNeg + 3)) (by omega) hin.2
    obtain ⟨sn, si, t4, t5, t6, u4, u5, u6⟩ := s1
    have g1 : ¬ Jr (p 4) 1 ≤ Jr (p 4) (52 + 5 * i.toNatClampNeg + 3) := fun c => by have := z_ge.mp c; omega
    unfold x182
    rw [t4, u4]
    simp only [if_neg (fun c => n3 (z_le0.mp c) : ¬ Jr (p 4) (52 + 5 * i.toNatClampNeg + 3) < 0), if_neg g1, if_neg o1]
    have hst := hW.c.st _ sn
    by_cases c1 : a1 ≤ 0
    · simp only [if_pos c1, if_pos o0, ite_self]
    · simp only [if_neg c1]
      rcases hst with e0 | e1 | e2
      · rw [if_neg (fun c => by rw [e0] at c; exact absurd c.2 (by decide))] at hlo
        rw [hlo, e0]
        rfl
      · rw [if_neg (fun c => by rw [e1] at c; exact absurd c.2 (by decide))] at hlo
        rw [hlo, e1]
        rfl
      · rw [if_pos ⟨by omega, e2⟩] at hlo
        rw [hlo, e2]
        rfl
theorem zq_7 {q p : Nat → Nat} {Jc Jr : Nat → Nat → Int32} {i s k : Int32} (hR : zR q Jc (Jr (p 4))) {b : Int} (hW : zW (Jr (p 4)) b) (h : 0 ≤ i.toInt) (h1 : ¬ Jr (p 4) 2 ≤ i) : (if Jc (q 3) i.toNatClampNeg = k then x7 q i s Jc else Int32.ofInt 0) = x194 p i s k Jr := by
  obtain ⟨hn, hi, c0, c1, c2, c3, c4, r0, r1, r2, r3, r4⟩ := zP hR hW.w h h1
  have hin := hW.b.inn _ hn
  unfold x7 x194
  rw [c0, c3, r0, r3, zq_73 hR hW h h1, zq_88 hR hW.w]
  by_cases f : x183 p i Jr = 0
  · rw [if_pos f, if_pos f]
    split
    · split <;> rfl
    · rfl
  · rw [if_neg f, if_neg f]
    by_cases hk : Jr (p 4) (52 + 5 * i.toNatClampNeg + 0) = k
    · rw [if_pos hk, if_pos hk]
      by_cases h3 : Jr (p 4) (52 + 5 * i.toNatClampNeg + 3) = s
      · rw [if_pos h3, if_pos h3]
      · rw [if_neg h3, if_neg h3]
        by_cases n : Jr (p 4) (52 + 5 * i.toNatClampNeg + 3) = Int32.ofInt (-1)
        · have nl : Jr (p 4) (52 + 5 * i.toNatClampNeg + 3) < 0 := by
            rw [n]
            decide
          rw [if_pos n, if_pos nl]
        · have nl : ¬ Jr (p 4) (52 + 5 * i.toNatClampNeg + 3) < 0 := by
            intro c
            apply n
            have := z_le0.mp c
            apply Int32.toInt_inj.mp
            rw [xi_m1]
            omega
          rw [if_neg n, if_neg nl]
    · rw [if_neg hk, if_neg hk]
end
