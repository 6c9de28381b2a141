/-! images: both sides -/
theorem xr127 {X : nt_X} {d a k : Nat} {M : nt_M} {o : Option Value × nt_M} {p : Nat → Nat} {J : Nat → Nat → Int32} (hp : xs_P M p) (hq : xs_Q M (fun i => a + i)) (hr : xs_Q M (fun i => p (31 + i))) (hd : ∀ i j, i < 17 → j < 17 → a + i ≠ p (31 + j)) (hl : xs_N M (fun i => a + i)) (hk : k < 4) (hR : nt_R M (p 65) k = some a) (kk : nt_ev X d 127 [.ref (p 16), .int (nI k)] (me_w M J) o) : o = (some (.int (J (p 31) 2)), me_w M (x80 (fun i => a + i) (fun i => p (31 + i)) J)) := by
  have k1 : nt_rn X d 127 (0, [(0, .ref (p 16)), (1, .int (nI k))], [], me_w M J) o := kk
  have k1 := ly_revb 2 (c' := (if nI k < 0 then 9 else 4, [(0, .ref (p 16)), (1, .int (nI k))], [], me_w M J)) rfl k1
  rw [if_neg (nI_pos (by omega))] at k1
  have k1 := ly_revb 3 (c' := (if nI k < Int32.ofInt 4 then 11 else 9, [(0, .ref (p 16)), (1, .int (nI k))], [], me_w M J)) rfl k1
  rw [if_pos (show nI k < Int32.ofInt 4 from nI_lt (b := 4) hk (by omega))] at k1
  have k1 := ly_revb 1 (c' := (12, [(0, .ref (p 16)), (1, .int (nI k))], [.ref (p 16)], me_w M J)) rfl k1
  have k1 := lz_get (a := (p 16)) (g := 1009) (M := me_w M J) (v := .ref (p 65)) rfl (nt_gfR rfl (hp.1 (16, 9, 65) (by decide))) k1
  have k1 := ly_revb 1 (c' := (16, [(0, .ref (p 16)), (1, .int (nI k))], [.int (nI k), .ref (p 65)], me_w M J)) rfl k1
  have k1 := mx_aald rfl k1
  rw [show nt_R (me_w M J) (p 65) (nI k).toNatClampNeg = some a from by rw [nI_clamp (by omega)]; exact hR] at k1
  have k1 := ly_revb 1 (c' := (33, [(0, .ref (p 16)), (1, .int (nI k))], [], me_w M J)) rfl k1
  have k1 := ly_revb 1 (c' := (34, [(0, .ref (p 16)), (1, .int (nI k))], [.ref (p 16)], me_w M J)) rfl k1
  have k1 := lz_get (a := (p 16)) (g := 1009) (M := me_w M J) (v := .ref (p 65)) rfl (nt_gfR rfl (hp.1 (16, 9, 65) (by decide))) k1
  have k1 := ly_revb 1 (c' := (38, [(0, .ref (p 16)), (1, .int (nI k))], [.int (nI k), .ref (p 65)], me_w M J)) rfl k1
  have k1 := mx_aald rfl k1
  rw [show nt_R (me_w M J) (p 65) (nI k).toNatClampNeg = some a from by rw [nI_clamp (by omega)]; exact hR] at k1
  have k1 := ly_revb 1 (c' := (40, [(0, .ref (p 16)), (1, .int (nI k))], [.ref (p 16), .ref a], me_w M J)) rfl k1
  have k1 := lz_get (a := (p 16)) (g := 1007) (M := me_w M J) (v := .ref (p 31)) rfl (nt_gfR rfl (hp.1 (16, 7, 31) (by decide))) k1
  obtain ⟨d1, o1, ed, kc, k1⟩ := lz_c (g := 80) (q := 1) (vs := [.ref a, .ref (p 31)]) (rest := []) rfl rfl (by decide) (Or.inr (Or.inl ⟨_, rfl, rfl⟩)) rfl k1
  have e1 := xt80 (q := fun i => a + i) (r := fun i => p (31 + i)) hq hr hd hl kc
  subst e1
  have k1 : nt_rn X _ 127 (46, [(0, .ref (p 16)), (1, .int (nI k))], [], me_w M (x80 (fun i => a + i) (fun i => p (31 + i)) J)) _ := k1
  have k1 := ly_revb 1 (c' := (47, [(0, .ref (p 16)), (1, .int (nI k))], [.ref (p 16)], me_w M (x80 (fun i => a + i) (fun i => p (31 + i)) J))) rfl k1
  have k1 := lz_get (a := (p 16)) (g := 1007) (M := me_w M (x80 (fun i => a + i) (fun i => p (31 + i)) J)) (v := .ref (p 31)) rfl (nt_gfR rfl (hp.1 (16, 7, 31) (by decide))) k1
  have k1 := lz_get (a := (p 31)) (g := 602) (M := me_w M (x80 (fun i => a + i) (fun i => p (31 + i)) J)) (v := .int (J (p 31) 2)) rfl (congrArg Value.int (congrFun (x80_frJ (Ne.symm (hd 0 0 (by omega) (by omega))) (Ne.symm (hd 1 0 (by omega) (by omega))) (Ne.symm (hd 2 0 (by omega) (by omega))) (Ne.symm (hd 3 0 (by omega) (by omega))) (Ne.symm (hd 4 0 (by omega) (by omega))) (Ne.symm (hd 5 0 (by omega) (by omega))) (Ne.symm (hd 6 0 (by omega) (by omega))) (Ne.symm (hd 7 0 (by omega) (by omega))) (Ne.symm (hd 8 0 (by omega) (by omega))) (Ne.symm (hd 9 0 (by omega) (by omega))) (Ne.symm (hd 10 0 (by omega) (by omega))) (Ne.symm (hd 11 0 (by omega) (by omega))) (Ne.symm (hd 12 0 (by omega) (by omega))) (Ne.symm (hd 13 0 (by omega) (by omega))) (Ne.symm (hd 14 0 (by omega) (by omega))) (Ne.symm (hd 15 0 (by omega) (by omega))) (Ne.symm (hd 16 0 (by omega) (by omega)))) 2)) k1
  exact lz_ri rfl (by decide) k1
theorem xr128 {X : nt_X} {d a k : Nat} {M : nt_M} {o : Option Value × nt_M} {p : Nat → Nat} {J : Nat → Nat → Int32} (hp : xs_P M p) (hq : xs_Q M (fun i => p (31 + i))) (hr : xs_Q M (fun i => a + i)) (hd : ∀ i j, i < 17 → j < 17 → p (31 + i) ≠ a + j) (hl : xs_N M (fun i => p (31 + i))) (hk : k < 4) (hR : nt_R M (p 65) k = some a) (kk : nt_ev X d 128 [.ref (p 16), .int (nI k)] (me_w M J) o) : o = (some (.int (x80 (fun i => p (31 + i)) (fun i => a + i) J (p 31) 2)), me_w M (x80 (fun i => p (31 + i)) (fun i => a + i) J)) := by
  have k1 : nt_rn X d 128 (0, [(0, .ref (p 16)), (1, .int (nI k))], [], me_w M J) o := kk
  have k1 := ly_revb 2 (c' := (if nI k < 0 then 18 else 4, [(0, .ref (p 16)), (1, .int (nI k))], [], me_w M J)) rfl k1
  rw [if_neg (nI_pos (by omega))] at k1
  have k1 := ly_revb 3 (c' := (if Int32.ofInt 4 ≤ nI k then 18 else 9, [(0, .ref (p 16)), (1, .int (nI k))], [], me_w M J)) rfl k1
  rw [if_neg (show ¬ Int32.ofInt 4 ≤ nI k from nI_ge (b := 4) hk (by omega))] at k1
  have k1 := ly_revb 1 (c' := (10, [(0, .ref (p 16)), (1, .int (nI k))], [.ref (p 16)], me_w M J)) rfl k1
  have k1 := lz_get (a := (p 16)) (g := 1009) (M := me_w M J) (v := .ref (p 65)) rfl (nt_gfR rfl (hp.1 (16, 9, 65) (by decide))) k1
  have k1 := ly_revb 1 (c' := (14, [(0, .ref (p 16)), (1, .int (nI k))], [.int (nI k), .ref (p 65)], me_w M J)) rfl k1
  have k1 := mx_aald rfl k1
  rw [show nt_R (me_w M J) (p 65) (nI k).toNatClampNeg = some a from by rw [nI_clamp (by omega)]; exact hR] at k1
  have k1 := ly_revb 1 (c' := (20, [(0, .ref (p 16)), (1, .int (nI k))], [], me_w M J)) rfl k1
  have k1 := ly_revb 1 (c' := (21, [(0, .ref (p 16)), (1, .int (nI k))], [.ref (p 16)], me_w M J)) rfl k1
  have k1 := lz_get (a := (p 16)) (g := 1007) (M := me_w M J) (v := .ref (p 31)) rfl (nt_gfR rfl (hp.1 (16, 7, 31) (by decide))) k1
  have k1 := ly_revb 1 (c' := (25, [(0, .ref (p 16)), (1, .int (nI k))], [.ref (p 16), .ref (p 31)], me_w M J)) rfl k1
  have k1 := lz_get (a := (p 16)) (g := 1009) (M := me_w M J) (v := .ref (p 65)) rfl (nt_gfR rfl (hp.1 (16, 9, 65) (by decide))) k1
  have k1 := ly_revb 1 (c' := (29, [(0, .ref (p 16)), (1, .int (nI k))], [.int (nI k), .ref (p 65), .ref (p 31)], me_w M J)) rfl k1
  have k1 := mx_aald rfl k1
  rw [show nt_R (me_w M J) (p 65) (nI k).toNatClampNeg = some a from by rw [nI_clamp (by omega)]; exact hR] at k1
  have k1 : nt_rn X d 128 (30, [(0, .ref (p 16)), (1, .int (nI k))], [.ref a, .ref (p 31)], me_w M J) o := k1
  obtain ⟨d1, o1, ed, kc, k1⟩ := lz_c (g := 80) (q := 1) (vs := [.ref (p 31), .ref a]) (rest := []) rfl rfl (by decide) (Or.inr (Or.inl ⟨_, rfl, rfl⟩)) rfl k1
  have e1 := xt80 (q := fun i => p (31 + i)) (r := fun i => a + i) hq hr hd hl kc
  subst e1
  have k1 : nt_rn X _ 128 (33, [(0, .ref (p 16)), (1, .int (nI k))], [], me_w M (x80 (fun i => p (31 + i)) (fun i => a + i) J)) _ := k1
  have k1 := ly_revb 1 (c' := (34, [(0, .ref (p 16)), (1, .int (nI k))], [.ref (p 16)], me_w M (x80 (fun i => p (31 + i)) (fun i => a + i) J))) rfl k1
  have k1 := lz_get (a := (p 16)) (g := 1007) (M := me_w M (x80 (fun i => p (31 + i)) (fun i => a + i) J)) (v := .ref (p 31)) rfl (nt_gfR rfl (hp.1 (16, 7, 31) (by decide))) k1
  have k1 := lz_get (a := (p 31)) (g := 602) (M := me_w M (x80 (fun i => p (31 + i)) (fun i => a + i) J)) (v := .int (x80 (fun i => p (31 + i)) (fun i => a + i) J (p 31) 2)) rfl rfl k1
  exact lz_ri rfl (by decide) k1
theorem xr128N {X : nt_X} {d k : Nat} {M : nt_M} {o : Option Value × nt_M} {p : Nat → Nat} {J : Nat → Nat → Int32} (hp : xs_P M p) (hk : k < 4) (hR : nt_R M (p 65) k = none) (kk : nt_ev X d 128 [.ref (p 16), .int (nI k)] (me_w M J) o) : o = (some (.int (Int32.ofInt (-1))), me_w M J) := by
  have k1 : nt_rn X d 128 (0, [(0, .ref (p 16)), (1, .int (nI k))], [], me_w M J) o := kk
  have k1 := ly_revb 2 (c' := (if nI k < 0 then 18 else 4, [(0, .ref (p 16)), (1, .int (nI k))], [], me_w M J)) rfl k1
  rw [if_neg (nI_pos (by omega))] at k1
  have k1 := ly_revb 3 (c' := (if Int32.ofInt 4 ≤ nI k then 18 else 9, [(0, .ref (p 16)), (1, .int (nI k))], [], me_w M J)) rfl k1
  rw [if_neg (show ¬ Int32.ofInt 4 ≤ nI k from nI_ge (b := 4) hk (by omega))] at k1
  have k1 := ly_revb 1 (c' := (10, [(0, .ref (p 16)), (1, .int (nI k))], [.ref (p 16)], me_w M J)) rfl k1
  have k1 := lz_get (a := (p 16)) (g := 1009) (M := me_w M J) (v := .ref (p 65)) rfl (nt_gfR rfl (hp.1 (16, 9, 65) (by decide))) k1
  have k1 := ly_revb 1 (c' := (14, [(0, .ref (p 16)), (1, .int (nI k))], [.int (nI k), .ref (p 65)], me_w M J)) rfl k1
  have k1 := mx_aald rfl k1
  rw [show nt_R (me_w M J) (p 65) (nI k).toNatClampNeg = none from by rw [nI_clamp (by omega)]; exact hR] at k1
  have k1 := ly_revb 2 (c' := (19, [(0, .ref (p 16)), (1, .int (nI k))], [.int (Int32.ofInt (-1))], me_w M J)) rfl k1
  exact lz_ri rfl (by decide) k1
/-- the other side's rows -/
theorem zi_ix {k : Nat} {i : Int32} (hk : k < 4) (h0 : 0 ≤ i.toInt) (h1 : i.toInt < 212) : ((Int32.ofInt 212 * nI k) + i).toNatClampNeg = 212 * k + i.toNatClampNeg := by
  have a : (nI k).toInt = k := nI_toInt (by omega)
  have c : (Int32.ofInt 212).toInt = 212 := by decide
  have m : (Int32.ofInt 212 * nI k).toInt = 212 * k := by rw [Int32.toInt_mul, a, c, Int.bmod_eq_of_le (by omega) (by omega)]
  have s : (Int32.ofInt 212 * nI k + i).toInt = 212 * k + i.toInt := by rw [Int32.toInt_add, m, Int.bmod_eq_of_le (by omega) (by omega)]
  rw [zn_t, zn_t, s]
  omega
theorem zim_l {p : Nat → Nat} {k : Nat} (hk : k < 4) (hn : p 4 ≠ p 14) : ∀ (c : Nat) (i : Int32) (J : Nat → Nat → Int32), 0 ≤ i.toInt → 212 - i.toInt ≤ c → (x234_23 p (nI k) c i J).1 = J (p 4) 4 ∧ (∀ j, i.toNatClampNeg ≤ j → j < 212 → (x234_23 p (nI k) c i J).2 (p 14) (212 * k + j) = J (p 4) j) ∧ (∀ j, j < 212 * k + i.toNatClampNeg ∨ 212 * k + 212 ≤ j → (x234_23 p (nI k) c i J).2 (p 14) j = J (p 14) j) := by
  intro c
  induction c with
  | zero =>
    intro i J h hc
    have t := z_tn h
    exact ⟨rfl, fun j a b => by omega, fun j a => rfl⟩
  | succ c ih =>
    intro i J h hc
    have t := z_tn h
    rw [x234_23]
    by_cases h1 : Int32.ofInt 212 ≤ i
    · rw [if_pos h1]
      have h1 := z_ge.mp h1
      rw [show (Int32.ofInt 212).toInt = 212 from by decide] at h1
      exact ⟨rfl, fun j a b => by omega, fun j a => rfl⟩
    · rw [if_neg h1]
      have l := z_lt h1
      rw [show (Int32.ofInt 212).toInt = 212 from by decide] at l
      have hc' : (Int32.ofInt 212).toInt - i.toInt ≤ (c + 1 : Nat) := by
        rw [show (Int32.ofInt 212).toInt = 212 from by decide]
        exact hc
      have d := lx_dec h1 hc'
      rw [show (Int32.ofInt 212).toInt = 212 from by decide] at d
      rw [zi_ix hk h l]
      have z := ih (i + Int32.ofInt 1) (nt_u J (p 14) (212 * k + i.toNatClampNeg) (J (p 4) i.toNatClampNeg)) (xi_nn h1 h) d
      have i1 : (i + Int32.ofInt 1).toNatClampNeg = i.toNatClampNeg + 1 := by
        rw [zn_t, zn_t, lx_inc h1]
        omega
      rw [i1, me_uo hn] at z
      refine ⟨z.1, fun j a b => ?_, fun j a => ?_⟩
      · by_cases e : j = i.toNatClampNeg
        · rw [e, z.2.2 _ (by omega), me_us]
        · exact z.2.1 j (by omega) b
      · rw [z.2.2 j (by omega), me_uk (by omega)]
theorem zi_01 {k : Nat} (hk : k < 4) : ¬ x145 (nI k).toInt64 (Int64.ofNat 0) 3 = 0 := by
  have a : (nI k).toInt = k := nI_toInt (by omega)
  rw [z_145, a, if_neg (by rw [show (Int64.ofNat 0).toInt = 0 from by decide, show (3 : Int64).toInt = 3 from by decide]; omega)]
  decide
theorem zimR {p : Nat → Nat} {k : Nat} {J : Nat → Nat → Int32} (hk : k < 4) (hn : p 4 ≠ p 14) (h5 : p 4 ≠ p 15) (h45 : p 14 ≠ p 15) : (x234 p (nI k) J).1 = J (p 4) 4 ∧ (∀ j, j < 212 → (x234 p (nI k) J).2 (p 14) (212 * k + j) = J (p 4) j) ∧ (∀ j, j < 212 * k ∨ 212 * k + 212 ≤ j → (x234 p (nI k) J).2 (p 14) j = J (p 14) j) := by
  unfold x234
  rw [if_neg (zi_01 hk)]
  have z := zim_l hk hn ((Int32.ofInt 212).toNatClampNeg) (Int32.ofInt 0) (nt_u J (p 15) (nI k).toNatClampNeg (vp_nar .boolean (Int32.ofInt 1))) (by decide) (by decide)
  rw [me_uo h5, me_uo h45, show (Int32.ofInt 0).toNatClampNeg = 0 from rfl] at z
  exact ⟨z.1, fun j hj => z.2.1 j (Nat.zero_le _) hj, fun j hj => z.2.2 j hj⟩
theorem zbk_l {p : Nat → Nat} {k : Nat} (hk : k < 4) (hn : p 14 ≠ p 4) : ∀ (c : Nat) (i : Int32) (J : Nat → Nat → Int32), 0 ≤ i.toInt → 212 - i.toInt ≤ c → (x235_25 p (nI k) c i J).1 = (x235_25 p (nI k) c i J).2 (p 4) 4 ∧ (∀ j, i.toNatClampNeg ≤ j → j < 212 → (x235_25 p (nI k) c i J).2 (p 4) j = J (p 14) (212 * k + j)) ∧ (∀ j, j < i.toNatClampNeg ∨ 212 ≤ j → (x235_25 p (nI k) c i J).2 (p 4) j = J (p 4) j) := by
  intro c
  induction c with
  | zero =>
    intro i J h hc
    have t := z_tn h
    exact ⟨rfl, fun j a b => by omega, fun j a => rfl⟩
  | succ c ih =>
    intro i J h hc
    have t := z_tn h
    rw [x235_25]
    by_cases h1 : Int32.ofInt 212 ≤ i
    · rw [if_pos h1]
      have h1 := z_ge.mp h1
      rw [show (Int32.ofInt 212).toInt = 212 from by decide] at h1
      exact ⟨rfl, fun j a b => by omega, fun j a => rfl⟩
    · rw [if_neg h1]
      have l := z_lt h1
      rw [show (Int32.ofInt 212).toInt = 212 from by decide] at l
      have hc' : (Int32.ofInt 212).toInt - i.toInt ≤ (c + 1 : Nat) := by
        rw [show (Int32.ofInt 212).toInt = 212 from by decide]
        exact hc
      have d := lx_dec h1 hc'
      rw [show (Int32.ofInt 212).toInt = 212 from by decide] at d
      rw [zi_ix hk h l]
      have z := ih (i + Int32.ofInt 1) (nt_u J (p 4) i.toNatClampNeg (J (p 14) (212 * k + i.toNatClampNeg))) (xi_nn h1 h) d
      have i1 : (i + Int32.ofInt 1).toNatClampNeg = i.toNatClampNeg + 1 := by
        rw [zn_t, zn_t, lx_inc h1]
        omega
      rw [i1, me_uo hn] at z
      refine ⟨z.1, fun j a b => ?_, fun j a => ?_⟩
      · by_cases e : j = i.toNatClampNeg
        · rw [e, z.2.2 _ (by omega), me_us]
        · exact z.2.1 j (by omega) b
      · rw [z.2.2 j (by omega), me_uk (by omega)]
theorem zbkR {p : Nat → Nat} {k : Nat} {J : Nat → Nat → Int32} (hk : k < 4) (hn : p 14 ≠ p 4) (hm : ¬ J (p 15) k = 0) : (x235 p (nI k) J).1 = J (p 14) (212 * k + 4) ∧ (∀ j, j < 212 → (x235 p (nI k) J).2 (p 4) j = J (p 14) (212 * k + j)) := by
  unfold x235
  rw [if_neg (zi_01 hk), nI_clamp (by omega), if_neg hm]
  have z := zbk_l hk hn ((Int32.ofInt 212).toNatClampNeg) (Int32.ofInt 0) J (by decide) (by decide)
  exact ⟨z.1.trans (z.2.1 4 (by decide) (by omega)), fun j hj => z.2.1 j (Nat.zero_le _) hj⟩
/-- an image is made -/
theorem zz_img2 {X : nt_X} {pl : Nat → Nat} {v mk xi mk1 xi1 : Nat → Int} {rc : Int} {M M1 M2 : nt_M} {y1 y2 : Int32} {k : Nat} (hk : k < 4) (hB : ly_B pl v M) (hS : ly_S pl mk xi rc M) (hI : lq_I X pl v 99 k y1 M M1) (hB1 : ly_B pl v M1) (hS1 : ly_S pl mk1 xi1 (v 2) M1) (f2 : ly_fr 66 pl M1 M2) (e2 : nt_ev X 99 234 [.ref (pl 0), .int (nI k)] M1 (some (.int y2), M2)) (hZ : zz_E pl M) : y1 = y2 ∧ zz_E pl M2 := by
  have ne := zz_ne hB
  obtain ⟨N, a, x, hN, r65, a66, im, eN, same, r65', hJ, j1, j2, j3, j4⟩ := hI
  have p66 := hS.1.1
  have da : ∀ i g, g < 66 → a + i ≠ pl g := fun i g hg e => by have := p66 g hg; omega
  have c1 := xr127 (p := pl) (J := nt_I N) (zz_P hN) (zz_Qi hN.2.1.1 im) (zz_Qn hN) (fun i j _ hj => da i _ (by omega)) (zz_Ni im) hk r65 eN
  obtain ⟨y1e, M1e⟩ := lq_out c1
  have i1 : nt_I M1 = x80 (fun i => a + i) (fun i => pl (31 + i)) (nt_I N) := by rw [M1e]; rfl
  have n1 : nt_n M1 = nt_n N := by rw [M1e]; rfl
  have l1 : nt_l M1 = nt_l N := by rw [M1e]; rfl
  have R1 : ∀ g j, nt_R M1 g j = nt_R N g j := fun g j => by rw [M1e]; rfl
  have fr1 : ∀ b, (∀ i, i < 17 → b ≠ a + i) → nt_I M1 b = nt_I N b := fun b hb => by
    rw [i1]
    exact x80_frJ (hb 0 (by omega)) (hb 1 (by omega)) (hb 2 (by omega)) (hb 3 (by omega)) (hb 4 (by omega)) (hb 5 (by omega)) (hb 6 (by omega)) (hb 7 (by omega)) (hb 8 (by omega)) (hb 9 (by omega)) (hb 10 (by omega)) (hb 11 (by omega)) (hb 12 (by omega)) (hb 13 (by omega)) (hb 14 (by omega)) (hb 15 (by omega)) (hb 16 (by omega))
  have g1 : ∀ g, g < 66 → nt_I M1 (pl g) = nt_I M (pl g) := fun g hg => (fr1 _ (fun i _ => (da i g hg).symm)).trans (funext (fun j => same g j hg))
  have c2 := xt234 (p := pl) (J := nt_I M1) (zz_P hB1) (hB1.2.1.2 15 _ (show ly_E.2.1[15]? = some (15, 4, 4, 0) from rfl)).2.1 e2
  obtain ⟨y2e, M2e⟩ := lq_out c2
  have i2 : nt_I M2 = (x234 pl (nI k) (nt_I M1)).2 := by rw [M2e]; rfl
  have n2 : nt_n M2 = nt_n M1 := by rw [M2e]; rfl
  have l2 : nt_l M2 = nt_l M1 := by rw [M2e]; rfl
  have R2 : ∀ g j, nt_R M2 g j = nt_R M1 g j := fun g j => by rw [M2e]; rfl
  have z := zimR (p := pl) (J := nt_I M1) hk (ne 4 14 (by omega) (by omega) (by decide)) (ne 4 15 (by omega) (by omega) (by decide)) (ne 14 15 (by omega) (by omega) (by decide))
  rw [← i2] at z
  have fr2 : ∀ b, b ≠ pl 14 → b ≠ pl 15 → nt_I M2 b = nt_I M1 b := fun b h1 h2 => by
    rw [i2]
    exact x234_frJ h1 h2
  have g2 : ∀ g, g < 66 → g ≠ 14 → g ≠ 15 → nt_I M2 (pl g) = nt_I M (pl g) := fun g hg h1 h2 => (fr2 _ (ne g 14 hg (by omega) h1) (ne g 15 hg (by omega) h2)).trans (g1 g hg)
  have o2 : ∀ b, 66 ≤ b → nt_I M2 b = nt_I M1 b := fun b hb => fr2 b (fun e => by have := p66 14 (by omega); omega) (fun e => by have := p66 15 (by omega); omega)
  have vn : (nt_I M (pl 16) 4).toInt = v 2 := ly_vI hB
  obtain ⟨_, _, T, t1, t2⟩ := hS1
  have Ta : ∀ i, i < 17 → T (a + i) = k := by
    rcases t1 k hk with ⟨c, _⟩ | ⟨a', c, _, _, _, c5, _⟩
    · rw [r65'] at c
      cases c
    · rw [r65'] at c
      cases c
      exact c5
  have hZ0 := hZ
  obtain ⟨⟨hR, hW, hd, hz⟩, hI1, hI2⟩ := hZ
  refine ⟨?_, ?_, fun k' hk' a' ha' => ?_, fun u b hu hb => ?_⟩
  · rw [y1e, y2e, z.1, g1 4 (by omega)]
    have e31 : nt_I N (pl 31) 2 = nt_I M (pl 31) 2 := same 31 2 (by omega)
    rw [e31]
    exact zR_4 hR
  · rw [g2 4 (by omega) (by decide) (by decide)]
    exact zz_Rag (fun i hi => g2 (31 + i) (by omega) (by omega) (by omega)) hZ0.1
  · rw [R2] at ha'
    by_cases e : k' = k
    · subst e
      rw [r65'] at ha'
      cases ha'
      have i16 := (im.1 16 _ (show ly_ED[16]? = some (13, 8, 8, 0) from rfl)).1
      refine ⟨⟨a66, by omega⟩, ?_⟩
      have cp : zz_R (fun i => a + i) (nt_I M2) (nt_I M (pl 4)) := by
        refine ⟨zR_aj (fun i hi => o2 _ (by omega)) (J := nt_I M1) ?_, hW, hd, hz⟩
        rw [i1]
        exact zR_copy (fun i j _ _ hij e => hij (Nat.add_left_cancel e)) (zR_aj (fun i hi => funext (fun j => same (31 + i) j (by omega))) hR)
      refine zz_Rae (fun j hj => ?_) cp
      unfold zim
      rw [if_pos hj, z.2.1 j hj, g1 4 (by omega)]
    · have ha0 := ha'
      rw [R1, j3 k' e] at ha'
      obtain ⟨⟨b1, b2⟩, b3⟩ := hI1 k' hk' a' ha'
      refine ⟨⟨b1, by omega⟩, ?_⟩
      have Ta' : ∀ i, i < 17 → T (a' + i) = k' := by
        rcases t1 k' hk' with ⟨c, _⟩ | ⟨a2, c, _, _, _, c5, _⟩
        · rw [ha0] at c
          cases c
        · rw [ha0] at c
          cases c
          exact c5
      refine zz_Rae (e := zim (nt_I M) (pl 14) k') (fun j hj => ?_) (zz_Rag (fun i hi => ?_) b3)
      · unfold zim
        rw [if_pos hj, if_pos hj, z.2.2 _ (by omega), g1 14 (by omega)]
      · rw [o2 _ (by omega), fr1 _ (fun i' hi' e' => e (by rw [← Ta' i hi, e', Ta i' hi'])), (j1 _ (by omega)).1]
  · rw [R2] at hb
    have hb0 := hb
    rw [R1, j4 u] at hb
    obtain ⟨⟨b1, b2, b3⟩, b4⟩ := hI2 u b hu hb
    have Tb : T (b + 1) = 4 + u := by
      obtain ⟨b', c, _, _, _, c5, _⟩ := t2 u (by omega)
      rw [hb0] at c
      cases c
      exact c5
    refine ⟨⟨b1, by omega, by rw [g2 16 (by omega) (by decide) (by decide)]; exact b3⟩, ?_⟩
    rw [l2, l1, (j1 (b + 1) (by omega)).2]
    exact zRQ_ag b4 (by rw [o2 _ (by omega), fr1 _ (fun i' hi' e' => by have := Ta i' hi'; rw [← e'] at this; omega), (j1 _ (by omega)).1]) (g2 1 (by omega) (by decide) (by decide)) (g2 2 (by omega) (by decide) (by decide)) (g2 3 (by omega) (by decide) (by decide))
/-- an image is gone back to -/
theorem zz_back2 {X : nt_X} {pl : Nat → Nat} {v v1 mk xi : Nat → Int} {rc : Int} {M M1 M2 : nt_M} {y1 y2 : Int32} {k : Nat} (hk : k < 4) (hB : ly_B pl v M) (hS : ly_S pl mk xi rc M) (hm : mk k = 1) (hB1 : ly_B pl v1 M1) (h15 : ¬ nt_I M (pl 15) k = 0) (e1 : nt_ev X 99 128 [.ref (pl 16), .int (nI k)] M (some (.int y1), M1)) (e2 : nt_ev X 99 235 [.ref (pl 0), .int (nI k)] M1 (some (.int y2), M2)) (hZ : zz_E pl M) : y1 = y2 ∧ zz_E pl M2 := by
  have ne := zz_ne hB
  have p66 := hS.1.1
  obtain ⟨a, r65, a66, im⟩ : ∃ a, nt_R M (pl 65) k = some a ∧ 66 ≤ a ∧ ly_im a (xi k) M := by
    obtain ⟨_, _, T, t1, _⟩ := hS
    rcases t1 k hk with ⟨_, c⟩ | ⟨a, c1, _, c3, _, _, c6⟩
    · omega
    · exact ⟨a, c1, c3, c6⟩
  have da : ∀ g j, g < 66 → pl g ≠ a + j := fun g j hg e => by have := p66 g hg; omega
  have c1 := xr128 (p := pl) (J := nt_I M) (zz_P hB) (zz_Qn hB) (zz_Qi hB.2.1.1 im) (fun i j hi _ => da _ j (by omega)) (zz_Nn hB) hk r65 e1
  obtain ⟨y1e, M1e⟩ := lq_out c1
  have i1 : nt_I M1 = x80 (fun i => pl (31 + i)) (fun i => a + i) (nt_I M) := by rw [M1e]; rfl
  have n1 : nt_n M1 = nt_n M := by rw [M1e]; rfl
  have l1 : nt_l M1 = nt_l M := by rw [M1e]; rfl
  have R1 : ∀ g j, nt_R M1 g j = nt_R M g j := fun g j => by rw [M1e]; rfl
  have fr1 : ∀ b, (∀ i, i < 17 → b ≠ pl (31 + i)) → nt_I M1 b = nt_I M b := fun b hb => by
    rw [i1]
    exact x80_frJ (hb 0 (by omega)) (hb 1 (by omega)) (hb 2 (by omega)) (hb 3 (by omega)) (hb 4 (by omega)) (hb 5 (by omega)) (hb 6 (by omega)) (hb 7 (by omega)) (hb 8 (by omega)) (hb 9 (by omega)) (hb 10 (by omega)) (hb 11 (by omega)) (hb 12 (by omega)) (hb 13 (by omega)) (hb 14 (by omega)) (hb 15 (by omega)) (hb 16 (by omega))
  have g1 : ∀ g, g < 31 → nt_I M1 (pl g) = nt_I M (pl g) := fun g hg => fr1 _ (fun i hi => ne g (31 + i) (by omega) (by omega) (by omega))
  have o1 : ∀ b, 66 ≤ b → nt_I M1 b = nt_I M b := fun b hb => fr1 b (fun i hi e => by have := p66 (31 + i) (by omega); omega)
  have c2 := xt235 (p := pl) (J := nt_I M1) (zz_P hB1) e2
  obtain ⟨y2e, M2e⟩ := lq_out c2
  have i2 : nt_I M2 = (x235 pl (nI k) (nt_I M1)).2 := by rw [M2e]; rfl
  have n2 : nt_n M2 = nt_n M1 := by rw [M2e]; rfl
  have l2 : nt_l M2 = nt_l M1 := by rw [M2e]; rfl
  have R2 : ∀ g j, nt_R M2 g j = nt_R M1 g j := fun g j => by rw [M2e]; rfl
  have z := zbkR (p := pl) (J := nt_I M1) hk (ne 14 4 (by omega) (by omega) (by decide)) (by rw [g1 15 (by omega)]; exact h15)
  rw [← i2] at z
  have fr2 : ∀ b, b ≠ pl 4 → nt_I M2 b = nt_I M1 b := fun b h1 => by
    rw [i2]
    exact x235_frJ h1
  have g2 : ∀ g, g < 31 → g ≠ 4 → nt_I M2 (pl g) = nt_I M (pl g) := fun g hg h1 => (fr2 _ (ne g 4 (by omega) (by omega) h1)).trans (g1 g hg)
  have o2 : ∀ b, 66 ≤ b → nt_I M2 b = nt_I M b := fun b hb => (fr2 b (fun e => by have := p66 4 (by omega); omega)).trans (o1 b hb)
  obtain ⟨_, hI1, hI2⟩ := hZ
  obtain ⟨⟨b1, b2⟩, b3⟩ := hI1 k hk a r65
  have rw4 : ∀ j, j < 212 → nt_I M2 (pl 4) j = zim (nt_I M) (pl 14) k j := fun j hj => by
    unfold zim
    rw [if_pos hj, z.2 j hj, g1 14 (by omega)]
  have cp : zz_R (fun i => pl (31 + i)) (nt_I M2) (zim (nt_I M) (pl 14) k) := by
    refine ⟨zR_aj (fun i hi => fr2 _ (ne (31 + i) 4 (by omega) (by omega) (by omega))) (J := nt_I M1) ?_, b3.2⟩
    rw [i1]
    exact zR_copy (fun i j hi hj hij e => ne (31 + i) (31 + j) (by omega) (by omega) (by omega) e) b3.1
  refine ⟨?_, zz_Rae rw4 cp, fun k' hk' a' ha' => ?_, fun u b hu hb => ?_⟩
  · rw [y1e, y2e, z.1, xc80_0_2 (q := fun i => pl (31 + i)) (fun i j hi hj hij e => ne (31 + i) (31 + j) (by omega) (by omega) (by omega) e), g1 14 (by omega)]
    have := zR_4 b3.1
    rw [show zim (nt_I M) (pl 14) k 4 = nt_I M (pl 14) (212 * k + 4) from if_pos (by omega)] at this
    exact this
  · rw [R2, R1] at ha'
    obtain ⟨⟨d1, d2⟩, d3⟩ := hI1 k' hk' a' ha'
    refine ⟨⟨d1, by omega⟩, zz_Rae (e := zim (nt_I M) (pl 14) k') (fun j hj => ?_) (zz_Rag (fun i hi => o2 _ (by omega)) d3)⟩
    unfold zim
    rw [if_pos hj, if_pos hj, g2 14 (by omega) (by decide)]
  · rw [R2, R1] at hb
    obtain ⟨⟨d1, d2, d3⟩, d4⟩ := hI2 u b hu hb
    refine ⟨⟨d1, by omega, by rw [g2 16 (by omega) (by decide)]; exact d3⟩, ?_⟩
    rw [l2, l1]
    exact zRQ_ag d4 (o2 _ (by omega)) (g2 1 (by omega) (by decide)) (g2 2 (by omega) (by decide)) (g2 3 (by omega) (by decide))
theorem zz_back2N {X : nt_X} {pl : Nat → Nat} {v v1 : Nat → Int} {M M1 M2 : nt_M} {y1 y2 : Int32} {k : Nat} (hk : k < 4) (hB : ly_B pl v M) (hn : nt_R M (pl 65) k = none) (hB1 : ly_B pl v1 M1) (h15 : nt_I M (pl 15) k = 0) (e1 : nt_ev X 99 128 [.ref (pl 16), .int (nI k)] M (some (.int y1), M1)) (e2 : nt_ev X 99 235 [.ref (pl 0), .int (nI k)] M1 (some (.int y2), M2)) (hZ : zz_E pl M) : y1 = y2 ∧ zz_E pl M2 := by
  have c1 := xr128N (p := pl) (J := nt_I M) (zz_P hB) hk hn e1
  obtain ⟨y1e, M1e⟩ := lq_out c1
  have M1e : M1 = M := M1e
  subst M1e
  have c2 := xt235 (p := pl) (J := nt_I M1) (zz_P hB1) e2
  obtain ⟨y2e, M2e⟩ := lq_out c2
  have u : x235 pl (nI k) (nt_I M1) = (Int32.ofInt (-1), nt_I M1) := by
    unfold x235
    rw [if_neg (zi_01 hk), nI_clamp (by omega), if_pos h15]
  rw [u] at M2e y2e
  have M2e : M2 = M1 := M2e
  subst M2e
  exact ⟨by rw [y1e, y2e], hZ⟩
