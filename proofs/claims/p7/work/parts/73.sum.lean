/-! sums, told purely -/
theorem me_ts {X : nt_X} {d mi pc g0 t0 : Nat} {ls : nt_V} {r : List Value} {M : nt_M} {o : Option Value × nt_M} {x : Int32} {dflt lo hi : Int} {offs : Array Int} {c' : nt_C} (hat : nt_at mi pc = some (pc, .tableswitch dflt lo hi offs, g0, t0)) (hx : x.toInt < lo ∨ hi < x.toInt) (hj : nt_jp pc dflt (fun q => some (q, ls, r, M)) = some c') (k : nt_rn X d mi (pc, ls, .int x :: r, M) o) : nt_rn X d mi c' o := by
  obtain ⟨c2, hs, k⟩ := lz_s hat rfl k
  have hs : (if x.toInt < lo ∨ hi < x.toInt then nt_jp pc dflt (fun q => some (q, ls, r, M)) else (match offs[(x.toInt - lo).toNat]? with | some off => nt_jp pc off (fun q => some (q, ls, r, M)) | none => none)) = some c2 := hs
  rw [if_pos hx, hj] at hs
  cases hs
  exact k
theorem me_eqi {x : Int32} {v : Int} (hv : (Int32.ofInt v).toInt = v) (h : x.toInt = v) : x = Int32.ofInt v := Int32.toInt_inj.mp (h.trans hv.symm)
/-- the step of an operator's sign -/
def lb_op (g : Int32) : Int32 := if g = Int32.ofInt 43 then Int32.ofInt 10 else if g = Int32.ofInt 45 then Int32.ofInt 11 else if g = Int32.ofInt 42 then Int32.ofInt 12 else if g = Int32.ofInt 47 then Int32.ofInt 13 else Int32.ofInt (-1)
theorem lb_op_in (g : Int32) : lb_op g = Int32.ofInt 10 ∨ lb_op g = Int32.ofInt 11 ∨ lb_op g = Int32.ofInt 12 ∨ lb_op g = Int32.ofInt 13 ∨ lb_op g = Int32.ofInt (-1) := by
  unfold lb_op
  by_cases h1 : g = Int32.ofInt 43
  · rw [if_pos h1]; exact Or.inl rfl
  · rw [if_neg h1]
    by_cases h2 : g = Int32.ofInt 45
    · rw [if_pos h2]; exact Or.inr (Or.inl rfl)
    · rw [if_neg h2]
      by_cases h3 : g = Int32.ofInt 42
      · rw [if_pos h3]; exact Or.inr (Or.inr (Or.inl rfl))
      · rw [if_neg h3]
        by_cases h4 : g = Int32.ofInt 47
        · rw [if_pos h4]; exact Or.inr (Or.inr (Or.inr (Or.inl rfl)))
        · rw [if_neg h4]; exact Or.inr (Or.inr (Or.inr (Or.inr rfl)))
/-- there is a sign where an operator stands -/
theorem lb_op_lt {f : Nat → Int32} {t p : Nat} (h : ¬ lb_op (lb_g f t p) = Int32.ofInt (-1)) : p < t := by
  by_cases c : p < t
  · exact c
  · exfalso
    apply h
    unfold lb_g
    rw [if_neg c]
    decide
def lb_ew (e : lb_E) (w : Int32) : lb_E := if w = Int32.ofInt (-1) then e else lb_em e w (w - Int32.ofInt 8)
theorem lb_ew1 {e : lb_E} {w : Int32} : (lb_ew e w).1 = lb_en e.1 w := by
  unfold lb_ew lb_en
  by_cases h : w = Int32.ofInt (-1)
  · rw [if_pos h, if_pos h]
  · rw [if_neg h, if_neg h]
    rfl
/-- behind a value: operators and values, a step waiting -/
def lb_sr (f : Nat → Int32) (t : Nat) : Nat → Int32 → lb_Z → lb_Y → Prop
  | 0, _, _, _ => False
  | k + 1, w, z, r =>
    (lb_op (lb_g f t z.1) = Int32.ofInt (-1) ∧ r = .inr (z.1, z.2.1, lb_ew z.2.2 w)) ∨
    ((lb_op (lb_g f t z.1) = Int32.ofInt 12 ∨ lb_op (lb_g f t z.1) = Int32.ofInt 13) ∧ ∃ r1, lb_val f t (lb_s f t (z.1 + 1), z.2.1, z.2.2) r1 ∧ ((∃ c, r1 = .inl c ∧ r = .inl c) ∨ ∃ z1, r1 = .inr z1 ∧ lb_sr f t k w (z1.1, z1.2.1, lb_ew z1.2.2 (lb_op (lb_g f t z.1))) r)) ∨
    ((lb_op (lb_g f t z.1) = Int32.ofInt 10 ∨ lb_op (lb_g f t z.1) = Int32.ofInt 11) ∧ ∃ r1, lb_val f t (lb_s f t (z.1 + 1), z.2.1, lb_ew z.2.2 w) r1 ∧ ((∃ c, r1 = .inl c ∧ r = .inl c) ∨ ∃ z1, r1 = .inr z1 ∧ lb_sr f t k (lb_op (lb_g f t z.1)) z1 r))
def lb_sum (f : Nat → Int32) (t : Nat) (z : lb_Z) (r : lb_Y) : Prop := ∃ r1, lb_val f t z r1 ∧ ((∃ c, r1 = .inl c ∧ r = .inl c) ∨ ∃ z1 k, r1 = .inr z1 ∧ lb_sr f t k (Int32.ofInt (-1)) z1 r)
theorem lb_val_up {f : Nat → Int32} {t : Nat} {z z1 : lb_Z} (hz : z.1 ≤ t) (h : lb_val f t z (.inr z1)) : z.1 < z1.1 ∧ z1.1 ≤ t := by
  have hd := lb_d_le (f := f) (t := t) (t - z.1) z.1 (by omega)
  unfold lb_val at h
  rcases h with ⟨_, h⟩ | ⟨_, _, _, h⟩ | ⟨h0, h5, hm, h⟩ | ⟨_, _, h⟩ | ⟨_, w, hw, hat, _, h | h⟩
  · cases h
  · cases h
  · have e := Sum.inr.inj h
    subst e
    dsimp only
    have q := lb_s_le (f := f) (t := t) (t - (z.1 + lb_d f t z.1)) (z.1 + lb_d f t z.1) (by omega)
    omega
  · cases h
  · cases h.2
  · have e := Sum.inr.inj h.2
    subst e
    dsimp only
    have a := hat.1
    have b := lb_W_pos hw
    have q := lb_s_le (f := f) (t := t) (t - (z.1 + (lb_W (lb_wd w)).length)) (z.1 + (lb_W (lb_wd w)).length) (by omega)
    omega
theorem lc_opAt {X : nt_X} {d t Rd Tp By RR Sp : Nat} {f : Nat → Int32} {M : nt_M} {J0 J : Nat → Nat → Int32} {o : Option Value × nt_M} {p m : Nat} {fa : Int32} {s : Nat × (Nat → Int32)} (hP : lc_P M J0 f t Rd Tp By RR Sp) (hS : lc_S J0 Rd RR Sp p fa m s J) (hp : p ≤ t) (k : nt_ev X d 56 [.ref RR] (me_w M J) o) : o = (some (.int (lb_op (lb_g f t p))), me_w M J) := by
  have k : nt_rn X d 56 (0, [(0, .ref RR)], [], me_w M J) o := k
  have t4 : t ≤ 400 := hP.2.2.2.2.1
  have k := ly_revb 1 (c' := (1, [(0, .ref RR)], [.ref RR], me_w M J)) rfl k
  have k := lz_get (a := RR) (g := 500) (M := me_w M J) (v := .ref Rd) rfl (nt_gfR rfl hP.1.2.2.1) k
  obtain ⟨d1, o1, ed, kc, k⟩ := lz_c (g := 37) (q := 1) (vs := [.ref Rd]) (rest := []) rfl rfl (by decide) (Or.inr (Or.inl ⟨_, rfl, rfl⟩)) rfl k
  have e1 := lc_sign hP hS hp kc
  subst e1
  have k : nt_rn X _ 56 (7, [(0, .ref RR)], [.int (lb_g f t p)], me_w M J) _ := k
  revert k
  generalize lb_g f t p = g
  intro k
  by_cases h42 : g = Int32.ofInt 42
  · rw [h42] at k ⊢
    have k := ly_revb 2 (c' := (52, [(0, .ref RR)], [.int (Int32.ofInt 12)], me_w M J)) rfl k
    exact lz_ri rfl (by decide) k
  by_cases h43 : g = Int32.ofInt 43
  · rw [h43] at k ⊢
    have k := ly_revb 2 (c' := (46, [(0, .ref RR)], [.int (Int32.ofInt 10)], me_w M J)) rfl k
    exact lz_ri rfl (by decide) k
  by_cases h44 : g = Int32.ofInt 44
  · rw [h44] at k ⊢
    have k := ly_revb 2 (c' := (57, [(0, .ref RR)], [.int (Int32.ofInt (-1))], me_w M J)) rfl k
    exact lz_ri rfl (by decide) k
  by_cases h45 : g = Int32.ofInt 45
  · rw [h45] at k ⊢
    have k := ly_revb 2 (c' := (49, [(0, .ref RR)], [.int (Int32.ofInt 11)], me_w M J)) rfl k
    exact lz_ri rfl (by decide) k
  by_cases h46 : g = Int32.ofInt 46
  · rw [h46] at k ⊢
    have k := ly_revb 2 (c' := (57, [(0, .ref RR)], [.int (Int32.ofInt (-1))], me_w M J)) rfl k
    exact lz_ri rfl (by decide) k
  by_cases h47 : g = Int32.ofInt 47
  · rw [h47] at k ⊢
    have k := ly_revb 2 (c' := (55, [(0, .ref RR)], [.int (Int32.ofInt 13)], me_w M J)) rfl k
    exact lz_ri rfl (by decide) k
  have hx : g.toInt < 42 ∨ 47 < g.toInt := by
    by_cases c : g.toInt < 42 ∨ 47 < g.toInt
    · exact c
    · exfalso
      rcases (by omega : g.toInt = 42 ∨ g.toInt = 43 ∨ g.toInt = 44 ∨ g.toInt = 45 ∨ g.toInt = 46 ∨ g.toInt = 47) with h | h | h | h | h | h
      · exact h42 (me_eqi (by decide) h)
      · exact h43 (me_eqi (by decide) h)
      · exact h44 (me_eqi (by decide) h)
      · exact h45 (me_eqi (by decide) h)
      · exact h46 (me_eqi (by decide) h)
      · exact h47 (me_eqi (by decide) h)
  have k := me_ts (mi := 56) (pc := 7) (dflt := 49) (lo := 42) (hi := 47) (offs := #[43, 37, 49, 40, 49, 46]) (c' := (56, [(0, .ref RR)], [], me_w M J)) rfl hx rfl k
  have k := ly_revb 1 (c' := (57, [(0, .ref RR)], [.int (Int32.ofInt (-1))], me_w M J)) rfl k
  have k := lz_ri rfl (by decide) k
  rw [k]
  unfold lb_op
  rw [if_neg h43, if_neg h45, if_neg h42, if_neg h47]
theorem lc_readSumF {X : nt_X} {d t Rd Tp By RR Sp : Nat} {f : Nat → Int32} {M : nt_M} {J0 J : Nat → Nat → Int32} {o : Option Value × nt_M} { m : Nat} {fa : Int32} {s : Nat × (Nat → Int32)}  (hP : lc_P M J0 f t Rd Tp By RR Sp) (hS : lc_S J0 Rd RR Sp t fa m s J) (hfa : ¬ fa = 0) (k : nt_ev X d 49 [.ref RR] (me_w M J) o) : ∃ m' s' J', o = (none, me_w M J') ∧ lc_S J0 Rd RR Sp t fa m' s' J' := by
  have k : nt_rn X d 49 (0, [(0, .ref RR)], [], me_w M J) o := k
  have t4 : t ≤ 400 := hP.2.2.2.2.1
  have m6 : m ≤ 60 := hS.2.2.2.2.2.2.2
  have k := ly_revb 3 (c' := (3, [(1, .int (Int32.ofInt (-1))), (0, .ref RR)], [.ref RR], me_w M J)) rfl k
  obtain ⟨d1, o1, ed, kc, k⟩ := lz_c (g := 50) (q := 1) (vs := [.ref RR]) (rest := []) rfl rfl (by decide) (Or.inr (Or.inl ⟨_, rfl, rfl⟩)) rfl k
  obtain ⟨m8, s8, J8, e1, hS8⟩ := lc_readValueF hP hS hfa kc
  subst e1
  have k : nt_rn X _ 49 (6, [(1, .int (Int32.ofInt (-1))), (0, .ref RR)], [], me_w M J8) _ := k
  have k := ly_revb 5 (c' := (if (Int32.ofInt 400) ≤ (Int32.ofInt 1) then 91 else 15, [(2, .int (Int32.ofInt 1)), (1, .int (Int32.ofInt (-1))), (0, .ref RR)], [], me_w M J8)) rfl k
  rw [if_neg (show ¬ ((Int32.ofInt 400) ≤ (Int32.ofInt 1)) from show ¬ nI 400 ≤ nI 1 from nI_ge (by omega) (by omega))] at k
  have k := ly_revb 1 (c' := (16, [(2, .int (Int32.ofInt 1)), (1, .int (Int32.ofInt (-1))), (0, .ref RR)], [.ref RR], me_w M J8)) rfl k
  obtain ⟨d1, o1, ed, kc, k⟩ := lz_c (g := 56) (q := 1) (vs := [.ref RR]) (rest := []) rfl rfl (by decide) (Or.inr (Or.inl ⟨_, rfl, rfl⟩)) rfl k
  have e1 := lc_opAt hP hS8 (Nat.le_refl t) kc
  subst e1
  have hop := lb_op_in (lb_g f t t)
  have k : nt_rn X _ 49 (19, [(2, .int (Int32.ofInt 1)), (1, .int (Int32.ofInt (-1))), (0, .ref RR)], [.int (lb_op (lb_g f t t))], me_w M J8) _ := k
  have he : lb_op (lb_g f t t) = Int32.ofInt (-1) := by
    unfold lb_g
    rw [if_neg (by omega)]
    decide
  have k := ly_revb 4 (c' := (if (lb_op (lb_g f t t)) = (Int32.ofInt (-1)) then 25 else 28, [(3, .int (lb_op (lb_g f t t))), (2, .int (Int32.ofInt 1)), (1, .int (Int32.ofInt (-1))), (0, .ref RR)], [], me_w M J8)) rfl k
  rw [if_pos (show (lb_op (lb_g f t t)) = (Int32.ofInt (-1)) from he)] at k
  have k := ly_revb 3 (c' := (93, [(3, .int (lb_op (lb_g f t t))), (2, .int (Int32.ofInt 1)), (1, .int (Int32.ofInt (-1))), (0, .ref RR)], [.int (Int32.ofInt (-1)), .ref RR], me_w M J8)) rfl k
  obtain ⟨d1, o1, ed, kc, k⟩ := lz_c (g := 57) (q := 1) (vs := [.ref RR, .int (Int32.ofInt (-1))]) (rest := []) rfl rfl (by decide) (Or.inr (Or.inl ⟨_, rfl, rfl⟩)) rfl k
  obtain ⟨J1, e1, hS1⟩ := lc_addn hP hS8 (Nat.le_refl t) kc
  subst e1
  have k : nt_rn X _ 49 (96, [(3, .int (lb_op (lb_g f t t))), (2, .int (Int32.ofInt 1)), (1, .int (Int32.ofInt (-1))), (0, .ref RR)], [], me_w M J1) _ := k
  have k := lz_rv rfl rfl k
  exact ⟨_, _, _, k, hS1⟩
theorem lc_sml {X : nt_X} {d t Rd Tp By RR Sp : Nat} {f : Nat → Int32} {M : nt_M} {J0 : Nat → Nat → Int32} {o : Option Value × nt_M} (hP : lc_P M J0 f t Rd Tp By RR Sp) : ∀ (c j : Nat) (w : Int32) (z : lb_Z) (ls : nt_V) (J : Nat → Nat → Int32), t - z.1 = c → z.1 ≤ t → j ≤ z.1 → (ls = [(2, .int (nI j)), (1, .int w), (0, .ref RR)] ∨ (∃ a b, ls = [(2, .int (nI j)), (1, .int w), (4, .int b), (3, .int a), (0, .ref RR)]) ∨ ∃ a b, ls = [(2, .int (nI j)), (4, .int b), (3, .int a), (1, .int w), (0, .ref RR)]) → lc_S J0 Rd RR Sp z.1 0 z.2.1 z.2.2.1 J → nt_rn X d 49 (8, ls, [], me_w M J) o → ∃ k r J', o = (none, me_w M J') ∧ lb_sr f t k w z r ∧ lc_Q J0 Rd RR Sp t r J' := by
  have t4 : t ≤ 400 := hP.2.2.2.2.1
  intro c
  induction c using Nat.strongRecOn with
  | ind c ih =>
    intro j w z ls J hc hp hj hl hS k
    rcases hl with rfl | ⟨a, b, rfl⟩ | ⟨a, b, rfl⟩
    · have k := ly_revb 3 (c' := (if (Int32.ofInt 400) ≤ (nI j) then 91 else 15, [(2, .int (nI j)), (1, .int (w)), (0, .ref RR)], [], me_w M J)) rfl k
      by_cases h12 : 400 ≤ j
      · rw [if_pos (show (Int32.ofInt 400) ≤ (nI j) from show nI 400 ≤ nI j from nI_le h12 (by omega))] at k
        have k := ly_revb 2 (c' := (93, [(2, .int (nI j)), (1, .int (w)), (0, .ref RR)], [.int (w), .ref RR], me_w M J)) rfl k
        obtain ⟨d1, o1, ed, kc, k⟩ := lz_c (g := 57) (q := 1) (vs := [.ref RR, .int (w)]) (rest := []) rfl rfl (by decide) (Or.inr (Or.inl ⟨_, rfl, rfl⟩)) rfl k
        obtain ⟨J1, e1, hS1⟩ := lc_addn hP hS hp kc
        subst e1
        have k : nt_rn X _ 49 (96, [(2, .int (nI j)), (1, .int (w)), (0, .ref RR)], [], me_w M J1) _ := k
        have k := lz_rv rfl rfl k
        refine ⟨1, .inr (z.1, z.2.1, lb_ew z.2.2 w), _, k, Or.inl ⟨Classical.byContradiction (fun hh => absurd (lb_op_lt hh) (by omega)), rfl⟩, ?_, hp⟩
        dsimp only
        rw [lb_ew1]
        exact hS1
      · rw [if_neg (show ¬ ((Int32.ofInt 400) ≤ (nI j)) from show ¬ nI 400 ≤ nI j from nI_ge (Nat.not_le.mp h12) (by omega))] at k
        have k := ly_revb 1 (c' := (16, [(2, .int (nI j)), (1, .int (w)), (0, .ref RR)], [.ref RR], me_w M J)) rfl k
        obtain ⟨d1, o1, ed, kc, k⟩ := lz_c (g := 56) (q := 1) (vs := [.ref RR]) (rest := []) rfl rfl (by decide) (Or.inr (Or.inl ⟨_, rfl, rfl⟩)) rfl k
        have e1 := lc_opAt hP hS hp kc
        subst e1
        have hop := lb_op_in (lb_g f t z.1)
        have k : nt_rn X _ 49 (19, [(2, .int (nI j)), (1, .int (w)), (0, .ref RR)], [.int (lb_op (lb_g f t z.1))], me_w M J) _ := k
        have k := ly_revb 4 (c' := (if (lb_op (lb_g f t z.1)) = (Int32.ofInt (-1)) then 25 else 28, [(3, .int (lb_op (lb_g f t z.1))), (2, .int (nI j)), (1, .int (w)), (0, .ref RR)], [], me_w M J)) rfl k
        by_cases h22 : lb_op (lb_g f t z.1) = Int32.ofInt (-1)
        · rw [if_pos (show (lb_op (lb_g f t z.1)) = (Int32.ofInt (-1)) from h22)] at k
          have k := ly_revb 3 (c' := (93, [(3, .int (lb_op (lb_g f t z.1))), (2, .int (nI j)), (1, .int (w)), (0, .ref RR)], [.int (w), .ref RR], me_w M J)) rfl k
          obtain ⟨d1, o1, ed, kc, k⟩ := lz_c (g := 57) (q := 1) (vs := [.ref RR, .int (w)]) (rest := []) rfl rfl (by decide) (Or.inr (Or.inl ⟨_, rfl, rfl⟩)) rfl k
          obtain ⟨J1, e1, hS1⟩ := lc_addn hP hS hp kc
          subst e1
          have k : nt_rn X _ 49 (96, [(3, .int (lb_op (lb_g f t z.1))), (2, .int (nI j)), (1, .int (w)), (0, .ref RR)], [], me_w M J1) _ := k
          have k := lz_rv rfl rfl k
          refine ⟨1, .inr (z.1, z.2.1, lb_ew z.2.2 w), _, k, Or.inl ⟨h22, rfl⟩, ?_, hp⟩
          dsimp only
          rw [lb_ew1]
          exact hS1
        · rw [if_neg (show ¬ ((lb_op (lb_g f t z.1)) = (Int32.ofInt (-1))) from h22)] at k
          have k := ly_revb 3 (c' := (if (lb_op (lb_g f t z.1)) = (Int32.ofInt 12) then 40 else 34, [(3, .int (lb_op (lb_g f t z.1))), (2, .int (nI j)), (1, .int (w)), (0, .ref RR)], [], me_w M J)) rfl k
          by_cases h31 : (lb_op (lb_g f t z.1)) = (Int32.ofInt 12)
          · rw [if_pos (show (lb_op (lb_g f t z.1)) = (Int32.ofInt 12) from h31)] at k
            have k := ly_revb 5 (c' := (if (Int32.ofInt 1) = 0 then 52 else 59, [(4, .int (Int32.ofInt 1)), (3, .int (lb_op (lb_g f t z.1))), (2, .int (nI j)), (1, .int (w)), (0, .ref RR)], [], me_w M J)) rfl k
            rw [if_neg (show ¬ ((Int32.ofInt 1) = 0) from by decide)] at k
            have k := ly_revb 1 (c' := (60, [(4, .int (Int32.ofInt 1)), (3, .int (lb_op (lb_g f t z.1))), (2, .int (nI j)), (1, .int (w)), (0, .ref RR)], [.ref RR], me_w M J)) rfl k
            have k := lz_get (a := RR) (g := 500) (M := me_w M J) (v := .ref Rd) rfl (nt_gfR rfl hP.1.2.2.1) k
            have k := ly_revb 1 (c' := (64, [(4, .int (Int32.ofInt 1)), (3, .int (lb_op (lb_g f t z.1))), (2, .int (nI j)), (1, .int (w)), (0, .ref RR)], [.int (Int32.ofInt 1), .ref Rd], me_w M J)) rfl k
            obtain ⟨d1, o1, ed, kc, k⟩ := lz_c (g := 29) (q := 1) (vs := [.ref Rd, .int (Int32.ofInt 1)]) (rest := []) rfl rfl (by decide) (Or.inr (Or.inl ⟨_, rfl, rfl⟩)) rfl k
            have hlt := lb_op_lt h22
            have e1 := lc_skip (b := 1) hP hS hp (by first | omega | decide | (have := lb_W_len (a := lb_wd w); omega)) kc
            rw [Nat.min_eq_left (hlt)] at e1
            subst e1
            have hS1 := lc_Spp (q := lb_s f t (z.1 + 1)) hP hS
            have hp1 : lb_s f t (z.1 + 1) ≤ t := (lb_s_le (t - (z.1 + 1)) (z.1 + 1) (by have := (hlt); omega)).2
            have k : nt_rn X _ 49 (67, [(4, .int (Int32.ofInt 1)), (3, .int (lb_op (lb_g f t z.1))), (2, .int (nI j)), (1, .int (w)), (0, .ref RR)], [], me_w M (nt_u J Rd 1 (nI (lb_s f t (z.1 + 1))))) _ := k
            have k := ly_revb 1 (c' := (68, [(4, .int (Int32.ofInt 1)), (3, .int (lb_op (lb_g f t z.1))), (2, .int (nI j)), (1, .int (w)), (0, .ref RR)], [.ref RR], me_w M (nt_u J Rd 1 (nI (lb_s f t (z.1 + 1)))))) rfl k
            obtain ⟨d1, o1, ed, kc, k⟩ := lz_c (g := 50) (q := 1) (vs := [.ref RR]) (rest := []) rfl rfl (by decide) (Or.inr (Or.inl ⟨_, rfl, rfl⟩)) rfl k
            obtain ⟨r1, J8, e1, hv, hq⟩ := lc_readValue (e := z.2.2) hP hS1 hp1 kc
            subst e1
            cases r1 with
            | inl c =>
              obtain ⟨hfa, m8, s8, hS8⟩ := hq
              have k : nt_rn X _ 49 (71, [(4, .int (Int32.ofInt 1)), (3, .int (lb_op (lb_g f t z.1))), (2, .int (nI j)), (1, .int (w)), (0, .ref RR)], [], me_w M J8) _ := k
              have k := ly_revb 3 (c' := (if (Int32.ofInt 1) = 0 then 81 else 77, [(4, .int (Int32.ofInt 1)), (3, .int (lb_op (lb_g f t z.1))), (2, .int (nI j)), (1, .int (w)), (0, .ref RR)], [.ref RR], me_w M J8)) rfl k
              rw [if_neg (show ¬ ((Int32.ofInt 1) = 0) from by decide)] at k
              have k := ly_revb 2 (c' := (82, [(4, .int (Int32.ofInt 1)), (3, .int (lb_op (lb_g f t z.1))), (2, .int (nI j)), (1, .int (w)), (0, .ref RR)], [.int (lb_op (lb_g f t z.1)), .ref RR], me_w M J8)) rfl k
              obtain ⟨d1, o1, ed, kc, k⟩ := lz_c (g := 57) (q := 1) (vs := [.ref RR, .int (lb_op (lb_g f t z.1))]) (rest := []) rfl rfl (by decide) (Or.inr (Or.inl ⟨_, rfl, rfl⟩)) rfl k
              obtain ⟨J2, e1, hS2⟩ := lc_addn hP hS8 (Nat.le_refl t) kc
              subst e1
              have k : nt_rn X _ 49 (85, [(4, .int (Int32.ofInt 1)), (3, .int (lb_op (lb_g f t z.1))), (2, .int (nI j)), (1, .int (w)), (0, .ref RR)], [], me_w M J2) _ := k
              have k := ly_revb 1 (c' := (88, [(2, .int ((nI j) + Int32.ofInt 1)), (4, .int (Int32.ofInt 1)), (3, .int (lb_op (lb_g f t z.1))), (1, .int (w)), (0, .ref RR)], [], me_w M J2)) rfl k
              rw [show ((nI j) + Int32.ofInt 1 : Int32) = nI (j + 1) from me_add (k := 1)] at k
              have k := ly_revb 1 (c' := (8, [(2, .int (nI (j + 1))), (4, .int (Int32.ofInt 1)), (3, .int (lb_op (lb_g f t z.1))), (1, .int (w)), (0, .ref RR)], [], me_w M J2)) rfl k
              have k := ly_revb 3 (c' := (if (Int32.ofInt 400) ≤ (nI (j + 1)) then 91 else 15, [(2, .int (nI (j + 1))), (4, .int (Int32.ofInt 1)), (3, .int (lb_op (lb_g f t z.1))), (1, .int (w)), (0, .ref RR)], [], me_w M J2)) rfl k
              by_cases h12' : 400 ≤ (j + 1)
              · rw [if_pos (show (Int32.ofInt 400) ≤ (nI (j + 1)) from show nI 400 ≤ nI ((j + 1)) from nI_le h12' (by omega))] at k
                have k := ly_revb 2 (c' := (93, [(2, .int (nI (j + 1))), (4, .int (Int32.ofInt 1)), (3, .int (lb_op (lb_g f t z.1))), (1, .int (w)), (0, .ref RR)], [.int (w), .ref RR], me_w M J2)) rfl k
                obtain ⟨d1, o1, ed, kc, k⟩ := lz_c (g := 57) (q := 1) (vs := [.ref RR, .int (w)]) (rest := []) rfl rfl (by decide) (Or.inr (Or.inl ⟨_, rfl, rfl⟩)) rfl k
                obtain ⟨J3, e1, hS3⟩ := lc_addn hP hS2 (Nat.le_refl t) kc
                subst e1
                have k : nt_rn X _ 49 (96, [(2, .int (nI (j + 1))), (4, .int (Int32.ofInt 1)), (3, .int (lb_op (lb_g f t z.1))), (1, .int (w)), (0, .ref RR)], [], me_w M J3) _ := k
                have k := lz_rv rfl rfl k
                exact ⟨1, .inl c, _, k, Or.inr (Or.inl ⟨Or.inl h31, _, hv, Or.inl ⟨c, rfl, rfl⟩⟩), hfa, _, _, hS3⟩
              · rw [if_neg (show ¬ ((Int32.ofInt 400) ≤ (nI (j + 1))) from show ¬ nI 400 ≤ nI ((j + 1)) from nI_ge (Nat.not_le.mp h12') (by omega))] at k
                have k := ly_revb 1 (c' := (16, [(2, .int (nI (j + 1))), (4, .int (Int32.ofInt 1)), (3, .int (lb_op (lb_g f t z.1))), (1, .int (w)), (0, .ref RR)], [.ref RR], me_w M J2)) rfl k
                obtain ⟨d1, o1, ed, kc, k⟩ := lz_c (g := 56) (q := 1) (vs := [.ref RR]) (rest := []) rfl rfl (by decide) (Or.inr (Or.inl ⟨_, rfl, rfl⟩)) rfl k
                have e1 := lc_opAt hP hS2 (Nat.le_refl t) kc
                subst e1
                have hop := lb_op_in (lb_g f t t)
                have k : nt_rn X _ 49 (19, [(2, .int (nI (j + 1))), (4, .int (Int32.ofInt 1)), (3, .int (lb_op (lb_g f t z.1))), (1, .int (w)), (0, .ref RR)], [.int (lb_op (lb_g f t t))], me_w M J2) _ := k
                have he : lb_op (lb_g f t t) = Int32.ofInt (-1) := by
                  unfold lb_g
                  rw [if_neg (by omega)]
                  decide
                have k := ly_revb 4 (c' := (if (lb_op (lb_g f t t)) = (Int32.ofInt (-1)) then 25 else 28, [(3, .int (lb_op (lb_g f t t))), (2, .int (nI (j + 1))), (4, .int (Int32.ofInt 1)), (1, .int (w)), (0, .ref RR)], [], me_w M J2)) rfl k
                rw [if_pos (show (lb_op (lb_g f t t)) = (Int32.ofInt (-1)) from he)] at k
                have k := ly_revb 3 (c' := (93, [(3, .int (lb_op (lb_g f t t))), (2, .int (nI (j + 1))), (4, .int (Int32.ofInt 1)), (1, .int (w)), (0, .ref RR)], [.int (w), .ref RR], me_w M J2)) rfl k
                obtain ⟨d1, o1, ed, kc, k⟩ := lz_c (g := 57) (q := 1) (vs := [.ref RR, .int (w)]) (rest := []) rfl rfl (by decide) (Or.inr (Or.inl ⟨_, rfl, rfl⟩)) rfl k
                obtain ⟨J3, e1, hS3⟩ := lc_addn hP hS2 (Nat.le_refl t) kc
                subst e1
                have k : nt_rn X _ 49 (96, [(3, .int (lb_op (lb_g f t t))), (2, .int (nI (j + 1))), (4, .int (Int32.ofInt 1)), (1, .int (w)), (0, .ref RR)], [], me_w M J3) _ := k
                have k := lz_rv rfl rfl k
                exact ⟨1, .inl c, _, k, Or.inr (Or.inl ⟨Or.inl h31, _, hv, Or.inl ⟨c, rfl, rfl⟩⟩), hfa, _, _, hS3⟩
            | inr z1 =>
              obtain ⟨hS9, hp9⟩ := hq
              have hup := lb_val_up hp1 hv
              have k : nt_rn X _ 49 (71, [(4, .int (Int32.ofInt 1)), (3, .int (lb_op (lb_g f t z.1))), (2, .int (nI j)), (1, .int (w)), (0, .ref RR)], [], me_w M J8) _ := k
              have k := ly_revb 3 (c' := (if (Int32.ofInt 1) = 0 then 81 else 77, [(4, .int (Int32.ofInt 1)), (3, .int (lb_op (lb_g f t z.1))), (2, .int (nI j)), (1, .int (w)), (0, .ref RR)], [.ref RR], me_w M J8)) rfl k
              rw [if_neg (show ¬ ((Int32.ofInt 1) = 0) from by decide)] at k
              have k := ly_revb 2 (c' := (82, [(4, .int (Int32.ofInt 1)), (3, .int (lb_op (lb_g f t z.1))), (2, .int (nI j)), (1, .int (w)), (0, .ref RR)], [.int (lb_op (lb_g f t z.1)), .ref RR], me_w M J8)) rfl k
              obtain ⟨d1, o1, ed, kc, k⟩ := lz_c (g := 57) (q := 1) (vs := [.ref RR, .int (lb_op (lb_g f t z.1))]) (rest := []) rfl rfl (by decide) (Or.inr (Or.inl ⟨_, rfl, rfl⟩)) rfl k
              obtain ⟨J2, e1, hS2⟩ := lc_addn hP hS9 hp9 kc
              subst e1
              have k : nt_rn X _ 49 (85, [(4, .int (Int32.ofInt 1)), (3, .int (lb_op (lb_g f t z.1))), (2, .int (nI j)), (1, .int (w)), (0, .ref RR)], [], me_w M J2) _ := k
              have k := ly_revb 1 (c' := (88, [(2, .int ((nI j) + Int32.ofInt 1)), (4, .int (Int32.ofInt 1)), (3, .int (lb_op (lb_g f t z.1))), (1, .int (w)), (0, .ref RR)], [], me_w M J2)) rfl k
              rw [show ((nI j) + Int32.ofInt 1 : Int32) = nI (j + 1) from me_add (k := 1)] at k
              have k := ly_revb 1 (c' := (8, [(2, .int (nI (j + 1))), (4, .int (Int32.ofInt 1)), (3, .int (lb_op (lb_g f t z.1))), (1, .int (w)), (0, .ref RR)], [], me_w M J2)) rfl k
              have hsl := lb_s_le (f := f) (t := t) (t - (z.1 + 1)) (z.1 + 1) (by omega)
              dsimp only at hup
              obtain ⟨k1, r1, J7, e2, hsr, hq⟩ := ih (t - z1.1) (by omega) (j + 1) w (z1.1, z1.2.1, lb_ew z1.2.2 (lb_op (lb_g f t z.1))) _ _ rfl hp9 (by dsimp only; omega) (Or.inr (Or.inr ⟨_, _, rfl⟩)) (by dsimp only; rw [lb_ew1]; exact hS2) k
              exact ⟨k1 + 1, r1, J7, e2, Or.inr (Or.inl ⟨Or.inl h31, _, hv, Or.inr ⟨z1, rfl, hsr⟩⟩), hq⟩
          · rw [if_neg (show ¬ ((lb_op (lb_g f t z.1)) = (Int32.ofInt 12)) from h31)] at k
            have k := ly_revb 3 (c' := (if (lb_op (lb_g f t z.1)) = (Int32.ofInt 13) then 40 else 44, [(3, .int (lb_op (lb_g f t z.1))), (2, .int (nI j)), (1, .int (w)), (0, .ref RR)], [], me_w M J)) rfl k
            by_cases h37 : (lb_op (lb_g f t z.1)) = (Int32.ofInt 13)
            · rw [if_pos (show (lb_op (lb_g f t z.1)) = (Int32.ofInt 13) from h37)] at k
              have k := ly_revb 5 (c' := (if (Int32.ofInt 1) = 0 then 52 else 59, [(4, .int (Int32.ofInt 1)), (3, .int (lb_op (lb_g f t z.1))), (2, .int (nI j)), (1, .int (w)), (0, .ref RR)], [], me_w M J)) rfl k
              rw [if_neg (show ¬ ((Int32.ofInt 1) = 0) from by decide)] at k
              have k := ly_revb 1 (c' := (60, [(4, .int (Int32.ofInt 1)), (3, .int (lb_op (lb_g f t z.1))), (2, .int (nI j)), (1, .int (w)), (0, .ref RR)], [.ref RR], me_w M J)) rfl k
              have k := lz_get (a := RR) (g := 500) (M := me_w M J) (v := .ref Rd) rfl (nt_gfR rfl hP.1.2.2.1) k
              have k := ly_revb 1 (c' := (64, [(4, .int (Int32.ofInt 1)), (3, .int (lb_op (lb_g f t z.1))), (2, .int (nI j)), (1, .int (w)), (0, .ref RR)], [.int (Int32.ofInt 1), .ref Rd], me_w M J)) rfl k
              obtain ⟨d1, o1, ed, kc, k⟩ := lz_c (g := 29) (q := 1) (vs := [.ref Rd, .int (Int32.ofInt 1)]) (rest := []) rfl rfl (by decide) (Or.inr (Or.inl ⟨_, rfl, rfl⟩)) rfl k
              have hlt := lb_op_lt h22
              have e1 := lc_skip (b := 1) hP hS hp (by first | omega | decide | (have := lb_W_len (a := lb_wd w); omega)) kc
              rw [Nat.min_eq_left (hlt)] at e1
              subst e1
              have hS1 := lc_Spp (q := lb_s f t (z.1 + 1)) hP hS
              have hp1 : lb_s f t (z.1 + 1) ≤ t := (lb_s_le (t - (z.1 + 1)) (z.1 + 1) (by have := (hlt); omega)).2
              have k : nt_rn X _ 49 (67, [(4, .int (Int32.ofInt 1)), (3, .int (lb_op (lb_g f t z.1))), (2, .int (nI j)), (1, .int (w)), (0, .ref RR)], [], me_w M (nt_u J Rd 1 (nI (lb_s f t (z.1 + 1))))) _ := k
              have k := ly_revb 1 (c' := (68, [(4, .int (Int32.ofInt 1)), (3, .int (lb_op (lb_g f t z.1))), (2, .int (nI j)), (1, .int (w)), (0, .ref RR)], [.ref RR], me_w M (nt_u J Rd 1 (nI (lb_s f t (z.1 + 1)))))) rfl k
              obtain ⟨d1, o1, ed, kc, k⟩ := lz_c (g := 50) (q := 1) (vs := [.ref RR]) (rest := []) rfl rfl (by decide) (Or.inr (Or.inl ⟨_, rfl, rfl⟩)) rfl k
              obtain ⟨r1, J8, e1, hv, hq⟩ := lc_readValue (e := z.2.2) hP hS1 hp1 kc
              subst e1
              cases r1 with
              | inl c =>
                obtain ⟨hfa, m8, s8, hS8⟩ := hq
                have k : nt_rn X _ 49 (71, [(4, .int (Int32.ofInt 1)), (3, .int (lb_op (lb_g f t z.1))), (2, .int (nI j)), (1, .int (w)), (0, .ref RR)], [], me_w M J8) _ := k
                have k := ly_revb 3 (c' := (if (Int32.ofInt 1) = 0 then 81 else 77, [(4, .int (Int32.ofInt 1)), (3, .int (lb_op (lb_g f t z.1))), (2, .int (nI j)), (1, .int (w)), (0, .ref RR)], [.ref RR], me_w M J8)) rfl k
                rw [if_neg (show ¬ ((Int32.ofInt 1) = 0) from by decide)] at k
                have k := ly_revb 2 (c' := (82, [(4, .int (Int32.ofInt 1)), (3, .int (lb_op (lb_g f t z.1))), (2, .int (nI j)), (1, .int (w)), (0, .ref RR)], [.int (lb_op (lb_g f t z.1)), .ref RR], me_w M J8)) rfl k
                obtain ⟨d1, o1, ed, kc, k⟩ := lz_c (g := 57) (q := 1) (vs := [.ref RR, .int (lb_op (lb_g f t z.1))]) (rest := []) rfl rfl (by decide) (Or.inr (Or.inl ⟨_, rfl, rfl⟩)) rfl k
                obtain ⟨J2, e1, hS2⟩ := lc_addn hP hS8 (Nat.le_refl t) kc
                subst e1
                have k : nt_rn X _ 49 (85, [(4, .int (Int32.ofInt 1)), (3, .int (lb_op (lb_g f t z.1))), (2, .int (nI j)), (1, .int (w)), (0, .ref RR)], [], me_w M J2) _ := k
                have k := ly_revb 1 (c' := (88, [(2, .int ((nI j) + Int32.ofInt 1)), (4, .int (Int32.ofInt 1)), (3, .int (lb_op (lb_g f t z.1))), (1, .int (w)), (0, .ref RR)], [], me_w M J2)) rfl k
                rw [show ((nI j) + Int32.ofInt 1 : Int32) = nI (j + 1) from me_add (k := 1)] at k
                have k := ly_revb 1 (c' := (8, [(2, .int (nI (j + 1))), (4, .int (Int32.ofInt 1)), (3, .int (lb_op (lb_g f t z.1))), (1, .int (w)), (0, .ref RR)], [], me_w M J2)) rfl k
                have k := ly_revb 3 (c' := (if (Int32.ofInt 400) ≤ (nI (j + 1)) then 91 else 15, [(2, .int (nI (j + 1))), (4, .int (Int32.ofInt 1)), (3, .int (lb_op (lb_g f t z.1))), (1, .int (w)), (0, .ref RR)], [], me_w M J2)) rfl k
                by_cases h12' : 400 ≤ (j + 1)
                · rw [if_pos (show (Int32.ofInt 400) ≤ (nI (j + 1)) from show nI 400 ≤ nI ((j + 1)) from nI_le h12' (by omega))] at k
                  have k := ly_revb 2 (c' := (93, [(2, .int (nI (j + 1))), (4, .int (Int32.ofInt 1)), (3, .int (lb_op (lb_g f t z.1))), (1, .int (w)), (0, .ref RR)], [.int (w), .ref RR], me_w M J2)) rfl k
                  obtain ⟨d1, o1, ed, kc, k⟩ := lz_c (g := 57) (q := 1) (vs := [.ref RR, .int (w)]) (rest := []) rfl rfl (by decide) (Or.inr (Or.inl ⟨_, rfl, rfl⟩)) rfl k
                  obtain ⟨J3, e1, hS3⟩ := lc_addn hP hS2 (Nat.le_refl t) kc
                  subst e1
                  have k : nt_rn X _ 49 (96, [(2, .int (nI (j + 1))), (4, .int (Int32.ofInt 1)), (3, .int (lb_op (lb_g f t z.1))), (1, .int (w)), (0, .ref RR)], [], me_w M J3) _ := k
                  have k := lz_rv rfl rfl k
                  exact ⟨1, .inl c, _, k, Or.inr (Or.inl ⟨Or.inr h37, _, hv, Or.inl ⟨c, rfl, rfl⟩⟩), hfa, _, _, hS3⟩
                · rw [if_neg (show ¬ ((Int32.ofInt 400) ≤ (nI (j + 1))) from show ¬ nI 400 ≤ nI ((j + 1)) from nI_ge (Nat.not_le.mp h12') (by omega))] at k
                  have k := ly_revb 1 (c' := (16, [(2, .int (nI (j + 1))), (4, .int (Int32.ofInt 1)), (3, .int (lb_op (lb_g f t z.1))), (1, .int (w)), (0, .ref RR)], [.ref RR], me_w M J2)) rfl k
                  obtain ⟨d1, o1, ed, kc, k⟩ := lz_c (g := 56) (q := 1) (vs := [.ref RR]) (rest := []) rfl rfl (by decide) (Or.inr (Or.inl ⟨_, rfl, rfl⟩)) rfl k
                  have e1 := lc_opAt hP hS2 (Nat.le_refl t) kc
                  subst e1
                  have hop := lb_op_in (lb_g f t t)
                  have k : nt_rn X _ 49 (19, [(2, .int (nI (j + 1))), (4, .int (Int32.ofInt 1)), (3, .int (lb_op (lb_g f t z.1))), (1, .int (w)), (0, .ref RR)], [.int (lb_op (lb_g f t t))], me_w M J2) _ := k
                  have he : lb_op (lb_g f t t) = Int32.ofInt (-1) := by
                    unfold lb_g
                    rw [if_neg (by omega)]
                    decide
                  have k := ly_revb 4 (c' := (if (lb_op (lb_g f t t)) = (Int32.ofInt (-1)) then 25 else 28, [(3, .int (lb_op (lb_g f t t))), (2, .int (nI (j + 1))), (4, .int (Int32.ofInt 1)), (1, .int (w)), (0, .ref RR)], [], me_w M J2)) rfl k
                  rw [if_pos (show (lb_op (lb_g f t t)) = (Int32.ofInt (-1)) from he)] at k
                  have k := ly_revb 3 (c' := (93, [(3, .int (lb_op (lb_g f t t))), (2, .int (nI (j + 1))), (4, .int (Int32.ofInt 1)), (1, .int (w)), (0, .ref RR)], [.int (w), .ref RR], me_w M J2)) rfl k
                  obtain ⟨d1, o1, ed, kc, k⟩ := lz_c (g := 57) (q := 1) (vs := [.ref RR, .int (w)]) (rest := []) rfl rfl (by decide) (Or.inr (Or.inl ⟨_, rfl, rfl⟩)) rfl k
                  obtain ⟨J3, e1, hS3⟩ := lc_addn hP hS2 (Nat.le_refl t) kc
                  subst e1
                  have k : nt_rn X _ 49 (96, [(3, .int (lb_op (lb_g f t t))), (2, .int (nI (j + 1))), (4, .int (Int32.ofInt 1)), (1, .int (w)), (0, .ref RR)], [], me_w M J3) _ := k
                  have k := lz_rv rfl rfl k
                  exact ⟨1, .inl c, _, k, Or.inr (Or.inl ⟨Or.inr h37, _, hv, Or.inl ⟨c, rfl, rfl⟩⟩), hfa, _, _, hS3⟩
              | inr z1 =>
                obtain ⟨hS9, hp9⟩ := hq
                have hup := lb_val_up hp1 hv
                have k : nt_rn X _ 49 (71, [(4, .int (Int32.ofInt 1)), (3, .int (lb_op (lb_g f t z.1))), (2, .int (nI j)), (1, .int (w)), (0, .ref RR)], [], me_w M J8) _ := k
                have k := ly_revb 3 (c' := (if (Int32.ofInt 1) = 0 then 81 else 77, [(4, .int (Int32.ofInt 1)), (3, .int (lb_op (lb_g f t z.1))), (2, .int (nI j)), (1, .int (w)), (0, .ref RR)], [.ref RR], me_w M J8)) rfl k
                rw [if_neg (show ¬ ((Int32.ofInt 1) = 0) from by decide)] at k
                have k := ly_revb 2 (c' := (82, [(4, .int (Int32.ofInt 1)), (3, .int (lb_op (lb_g f t z.1))), (2, .int (nI j)), (1, .int (w)), (0, .ref RR)], [.int (lb_op (lb_g f t z.1)), .ref RR], me_w M J8)) rfl k
                obtain ⟨d1, o1, ed, kc, k⟩ := lz_c (g := 57) (q := 1) (vs := [.ref RR, .int (lb_op (lb_g f t z.1))]) (rest := []) rfl rfl (by decide) (Or.inr (Or.inl ⟨_, rfl, rfl⟩)) rfl k
                obtain ⟨J2, e1, hS2⟩ := lc_addn hP hS9 hp9 kc
                subst e1
                have k : nt_rn X _ 49 (85, [(4, .int (Int32.ofInt 1)), (3, .int (lb_op (lb_g f t z.1))), (2, .int (nI j)), (1, .int (w)), (0, .ref RR)], [], me_w M J2) _ := k
                have k := ly_revb 1 (c' := (88, [(2, .int ((nI j) + Int32.ofInt 1)), (4, .int (Int32.ofInt 1)), (3, .int (lb_op (lb_g f t z.1))), (1, .int (w)), (0, .ref RR)], [], me_w M J2)) rfl k
                rw [show ((nI j) + Int32.ofInt 1 : Int32) = nI (j + 1) from me_add (k := 1)] at k
                have k := ly_revb 1 (c' := (8, [(2, .int (nI (j + 1))), (4, .int (Int32.ofInt 1)), (3, .int (lb_op (lb_g f t z.1))), (1, .int (w)), (0, .ref RR)], [], me_w M J2)) rfl k
                have hsl := lb_s_le (f := f) (t := t) (t - (z.1 + 1)) (z.1 + 1) (by omega)
                dsimp only at hup
                obtain ⟨k1, r1, J7, e2, hsr, hq⟩ := ih (t - z1.1) (by omega) (j + 1) w (z1.1, z1.2.1, lb_ew z1.2.2 (lb_op (lb_g f t z.1))) _ _ rfl hp9 (by dsimp only; omega) (Or.inr (Or.inr ⟨_, _, rfl⟩)) (by dsimp only; rw [lb_ew1]; exact hS2) k
                exact ⟨k1 + 1, r1, J7, e2, Or.inr (Or.inl ⟨Or.inr h37, _, hv, Or.inr ⟨z1, rfl, hsr⟩⟩), hq⟩
            · rw [if_neg (show ¬ ((lb_op (lb_g f t z.1)) = (Int32.ofInt 13)) from h37)] at k
              have hadd : lb_op (lb_g f t z.1) = Int32.ofInt 10 ∨ lb_op (lb_g f t z.1) = Int32.ofInt 11 := by
                rcases hop with h | h | h | h | h
                · exact Or.inl h
                · exact Or.inr h
                · exact absurd h h31
                · exact absurd h h37
                · exact absurd h h22
              have k := ly_revb 4 (c' := (if (Int32.ofInt 0) = 0 then 52 else 59, [(4, .int (Int32.ofInt 0)), (3, .int (lb_op (lb_g f t z.1))), (2, .int (nI j)), (1, .int (w)), (0, .ref RR)], [], me_w M J)) rfl k
              rw [if_pos (show (Int32.ofInt 0) = 0 from by decide)] at k
              have k := ly_revb 2 (c' := (54, [(4, .int (Int32.ofInt 0)), (3, .int (lb_op (lb_g f t z.1))), (2, .int (nI j)), (1, .int (w)), (0, .ref RR)], [.int (w), .ref RR], me_w M J)) rfl k
              obtain ⟨d1, o1, ed, kc, k⟩ := lz_c (g := 57) (q := 1) (vs := [.ref RR, .int (w)]) (rest := []) rfl rfl (by decide) (Or.inr (Or.inl ⟨_, rfl, rfl⟩)) rfl k
              obtain ⟨J1, e1, hS1⟩ := lc_addn hP hS hp kc
              subst e1
              have k : nt_rn X _ 49 (57, [(4, .int (Int32.ofInt 0)), (3, .int (lb_op (lb_g f t z.1))), (2, .int (nI j)), (1, .int (w)), (0, .ref RR)], [], me_w M J1) _ := k
              have k := ly_revb 3 (c' := (60, [(1, .int (lb_op (lb_g f t z.1))), (4, .int (Int32.ofInt 0)), (3, .int (lb_op (lb_g f t z.1))), (2, .int (nI j)), (0, .ref RR)], [.ref RR], me_w M J1)) rfl k
              have k := lz_get (a := RR) (g := 500) (M := me_w M J1) (v := .ref Rd) rfl (nt_gfR rfl hP.1.2.2.1) k
              have k := ly_revb 1 (c' := (64, [(1, .int (lb_op (lb_g f t z.1))), (4, .int (Int32.ofInt 0)), (3, .int (lb_op (lb_g f t z.1))), (2, .int (nI j)), (0, .ref RR)], [.int (Int32.ofInt 1), .ref Rd], me_w M J1)) rfl k
              obtain ⟨d1, o1, ed, kc, k⟩ := lz_c (g := 29) (q := 1) (vs := [.ref Rd, .int (Int32.ofInt 1)]) (rest := []) rfl rfl (by decide) (Or.inr (Or.inl ⟨_, rfl, rfl⟩)) rfl k
              have hlt := lb_op_lt h22
              have e1 := lc_skip (b := 1) hP hS1 hp (by first | omega | decide | (have := lb_W_len (a := lb_wd w); omega)) kc
              rw [Nat.min_eq_left (hlt)] at e1
              subst e1
              have hS2 := lc_Spp (q := lb_s f t (z.1 + 1)) hP hS1
              have hp2 : lb_s f t (z.1 + 1) ≤ t := (lb_s_le (t - (z.1 + 1)) (z.1 + 1) (by have := (hlt); omega)).2
              have k : nt_rn X _ 49 (67, [(1, .int (lb_op (lb_g f t z.1))), (4, .int (Int32.ofInt 0)), (3, .int (lb_op (lb_g f t z.1))), (2, .int (nI j)), (0, .ref RR)], [], me_w M (nt_u J1 Rd 1 (nI (lb_s f t (z.1 + 1))))) _ := k
              have k := ly_revb 1 (c' := (68, [(1, .int (lb_op (lb_g f t z.1))), (4, .int (Int32.ofInt 0)), (3, .int (lb_op (lb_g f t z.1))), (2, .int (nI j)), (0, .ref RR)], [.ref RR], me_w M (nt_u J1 Rd 1 (nI (lb_s f t (z.1 + 1)))))) rfl k
              obtain ⟨d1, o1, ed, kc, k⟩ := lz_c (g := 50) (q := 1) (vs := [.ref RR]) (rest := []) rfl rfl (by decide) (Or.inr (Or.inl ⟨_, rfl, rfl⟩)) rfl k
              obtain ⟨r1, J8, e1, hv, hq⟩ := lc_readValue (e := lb_ew z.2.2 w) hP (by rw [lb_ew1]; exact hS2) hp2 kc
              subst e1
              cases r1 with
              | inl c =>
                obtain ⟨hfa, m8, s8, hS8⟩ := hq
                have k : nt_rn X _ 49 (71, [(1, .int (lb_op (lb_g f t z.1))), (4, .int (Int32.ofInt 0)), (3, .int (lb_op (lb_g f t z.1))), (2, .int (nI j)), (0, .ref RR)], [], me_w M J8) _ := k
                have k := ly_revb 3 (c' := (if (Int32.ofInt 0) = 0 then 81 else 77, [(1, .int (lb_op (lb_g f t z.1))), (4, .int (Int32.ofInt 0)), (3, .int (lb_op (lb_g f t z.1))), (2, .int (nI j)), (0, .ref RR)], [.ref RR], me_w M J8)) rfl k
                rw [if_pos (show (Int32.ofInt 0) = 0 from by decide)] at k
                have k := ly_revb 1 (c' := (82, [(1, .int (lb_op (lb_g f t z.1))), (4, .int (Int32.ofInt 0)), (3, .int (lb_op (lb_g f t z.1))), (2, .int (nI j)), (0, .ref RR)], [.int (Int32.ofInt (-1)), .ref RR], me_w M J8)) rfl k
                obtain ⟨d1, o1, ed, kc, k⟩ := lz_c (g := 57) (q := 1) (vs := [.ref RR, .int (Int32.ofInt (-1))]) (rest := []) rfl rfl (by decide) (Or.inr (Or.inl ⟨_, rfl, rfl⟩)) rfl k
                obtain ⟨J3, e1, hS3⟩ := lc_addn hP hS8 (Nat.le_refl t) kc
                subst e1
                have k : nt_rn X _ 49 (85, [(1, .int (lb_op (lb_g f t z.1))), (4, .int (Int32.ofInt 0)), (3, .int (lb_op (lb_g f t z.1))), (2, .int (nI j)), (0, .ref RR)], [], me_w M J3) _ := k
                have k := ly_revb 1 (c' := (88, [(2, .int ((nI j) + Int32.ofInt 1)), (1, .int (lb_op (lb_g f t z.1))), (4, .int (Int32.ofInt 0)), (3, .int (lb_op (lb_g f t z.1))), (0, .ref RR)], [], me_w M J3)) rfl k
                rw [show ((nI j) + Int32.ofInt 1 : Int32) = nI (j + 1) from me_add (k := 1)] at k
                have k := ly_revb 1 (c' := (8, [(2, .int (nI (j + 1))), (1, .int (lb_op (lb_g f t z.1))), (4, .int (Int32.ofInt 0)), (3, .int (lb_op (lb_g f t z.1))), (0, .ref RR)], [], me_w M J3)) rfl k
                have k := ly_revb 3 (c' := (if (Int32.ofInt 400) ≤ (nI (j + 1)) then 91 else 15, [(2, .int (nI (j + 1))), (1, .int (lb_op (lb_g f t z.1))), (4, .int (Int32.ofInt 0)), (3, .int (lb_op (lb_g f t z.1))), (0, .ref RR)], [], me_w M J3)) rfl k
                by_cases h12' : 400 ≤ (j + 1)
                · rw [if_pos (show (Int32.ofInt 400) ≤ (nI (j + 1)) from show nI 400 ≤ nI ((j + 1)) from nI_le h12' (by omega))] at k
                  have k := ly_revb 2 (c' := (93, [(2, .int (nI (j + 1))), (1, .int (lb_op (lb_g f t z.1))), (4, .int (Int32.ofInt 0)), (3, .int (lb_op (lb_g f t z.1))), (0, .ref RR)], [.int (lb_op (lb_g f t z.1)), .ref RR], me_w M J3)) rfl k
                  obtain ⟨d1, o1, ed, kc, k⟩ := lz_c (g := 57) (q := 1) (vs := [.ref RR, .int (lb_op (lb_g f t z.1))]) (rest := []) rfl rfl (by decide) (Or.inr (Or.inl ⟨_, rfl, rfl⟩)) rfl k
                  obtain ⟨J4, e1, hS4⟩ := lc_addn hP hS3 (Nat.le_refl t) kc
                  subst e1
                  have k : nt_rn X _ 49 (96, [(2, .int (nI (j + 1))), (1, .int (lb_op (lb_g f t z.1))), (4, .int (Int32.ofInt 0)), (3, .int (lb_op (lb_g f t z.1))), (0, .ref RR)], [], me_w M J4) _ := k
                  have k := lz_rv rfl rfl k
                  exact ⟨1, .inl c, _, k, Or.inr (Or.inr ⟨hadd, _, hv, Or.inl ⟨c, rfl, rfl⟩⟩), hfa, _, _, hS4⟩
                · rw [if_neg (show ¬ ((Int32.ofInt 400) ≤ (nI (j + 1))) from show ¬ nI 400 ≤ nI ((j + 1)) from nI_ge (Nat.not_le.mp h12') (by omega))] at k
                  have k := ly_revb 1 (c' := (16, [(2, .int (nI (j + 1))), (1, .int (lb_op (lb_g f t z.1))), (4, .int (Int32.ofInt 0)), (3, .int (lb_op (lb_g f t z.1))), (0, .ref RR)], [.ref RR], me_w M J3)) rfl k
                  obtain ⟨d1, o1, ed, kc, k⟩ := lz_c (g := 56) (q := 1) (vs := [.ref RR]) (rest := []) rfl rfl (by decide) (Or.inr (Or.inl ⟨_, rfl, rfl⟩)) rfl k
                  have e1 := lc_opAt hP hS3 (Nat.le_refl t) kc
                  subst e1
                  have hop := lb_op_in (lb_g f t t)
                  have k : nt_rn X _ 49 (19, [(2, .int (nI (j + 1))), (1, .int (lb_op (lb_g f t z.1))), (4, .int (Int32.ofInt 0)), (3, .int (lb_op (lb_g f t z.1))), (0, .ref RR)], [.int (lb_op (lb_g f t t))], me_w M J3) _ := k
                  have he : lb_op (lb_g f t t) = Int32.ofInt (-1) := by
                    unfold lb_g
                    rw [if_neg (by omega)]
                    decide
                  have k := ly_revb 4 (c' := (if (lb_op (lb_g f t t)) = (Int32.ofInt (-1)) then 25 else 28, [(3, .int (lb_op (lb_g f t t))), (2, .int (nI (j + 1))), (1, .int (lb_op (lb_g f t z.1))), (4, .int (Int32.ofInt 0)), (0, .ref RR)], [], me_w M J3)) rfl k
                  rw [if_pos (show (lb_op (lb_g f t t)) = (Int32.ofInt (-1)) from he)] at k
                  have k := ly_revb 3 (c' := (93, [(3, .int (lb_op (lb_g f t t))), (2, .int (nI (j + 1))), (1, .int (lb_op (lb_g f t z.1))), (4, .int (Int32.ofInt 0)), (0, .ref RR)], [.int (lb_op (lb_g f t z.1)), .ref RR], me_w M J3)) rfl k
                  obtain ⟨d1, o1, ed, kc, k⟩ := lz_c (g := 57) (q := 1) (vs := [.ref RR, .int (lb_op (lb_g f t z.1))]) (rest := []) rfl rfl (by decide) (Or.inr (Or.inl ⟨_, rfl, rfl⟩)) rfl k
                  obtain ⟨J4, e1, hS4⟩ := lc_addn hP hS3 (Nat.le_refl t) kc
                  subst e1
                  have k : nt_rn X _ 49 (96, [(3, .int (lb_op (lb_g f t t))), (2, .int (nI (j + 1))), (1, .int (lb_op (lb_g f t z.1))), (4, .int (Int32.ofInt 0)), (0, .ref RR)], [], me_w M J4) _ := k
                  have k := lz_rv rfl rfl k
                  exact ⟨1, .inl c, _, k, Or.inr (Or.inr ⟨hadd, _, hv, Or.inl ⟨c, rfl, rfl⟩⟩), hfa, _, _, hS4⟩
              | inr z1 =>
                obtain ⟨hS9, hp9⟩ := hq
                have hup := lb_val_up hp2 hv
                have k : nt_rn X _ 49 (71, [(1, .int (lb_op (lb_g f t z.1))), (4, .int (Int32.ofInt 0)), (3, .int (lb_op (lb_g f t z.1))), (2, .int (nI j)), (0, .ref RR)], [], me_w M J8) _ := k
                have k := ly_revb 3 (c' := (if (Int32.ofInt 0) = 0 then 81 else 77, [(1, .int (lb_op (lb_g f t z.1))), (4, .int (Int32.ofInt 0)), (3, .int (lb_op (lb_g f t z.1))), (2, .int (nI j)), (0, .ref RR)], [.ref RR], me_w M J8)) rfl k
                rw [if_pos (show (Int32.ofInt 0) = 0 from by decide)] at k
                have k := ly_revb 1 (c' := (82, [(1, .int (lb_op (lb_g f t z.1))), (4, .int (Int32.ofInt 0)), (3, .int (lb_op (lb_g f t z.1))), (2, .int (nI j)), (0, .ref RR)], [.int (Int32.ofInt (-1)), .ref RR], me_w M J8)) rfl k
                obtain ⟨d1, o1, ed, kc, k⟩ := lz_c (g := 57) (q := 1) (vs := [.ref RR, .int (Int32.ofInt (-1))]) (rest := []) rfl rfl (by decide) (Or.inr (Or.inl ⟨_, rfl, rfl⟩)) rfl k
                obtain ⟨J3, e1, hS3⟩ := lc_addn hP hS9 hp9 kc
                subst e1
                have k : nt_rn X _ 49 (85, [(1, .int (lb_op (lb_g f t z.1))), (4, .int (Int32.ofInt 0)), (3, .int (lb_op (lb_g f t z.1))), (2, .int (nI j)), (0, .ref RR)], [], me_w M J3) _ := k
                have k := ly_revb 1 (c' := (88, [(2, .int ((nI j) + Int32.ofInt 1)), (1, .int (lb_op (lb_g f t z.1))), (4, .int (Int32.ofInt 0)), (3, .int (lb_op (lb_g f t z.1))), (0, .ref RR)], [], me_w M J3)) rfl k
                rw [show ((nI j) + Int32.ofInt 1 : Int32) = nI (j + 1) from me_add (k := 1)] at k
                have k := ly_revb 1 (c' := (8, [(2, .int (nI (j + 1))), (1, .int (lb_op (lb_g f t z.1))), (4, .int (Int32.ofInt 0)), (3, .int (lb_op (lb_g f t z.1))), (0, .ref RR)], [], me_w M J3)) rfl k
                have hsl := lb_s_le (f := f) (t := t) (t - (z.1 + 1)) (z.1 + 1) (by omega)
                dsimp only at hup
                obtain ⟨k1, r1, J7, e2, hsr, hq⟩ := ih (t - z1.1) (by omega) (j + 1) (lb_op (lb_g f t z.1)) z1 _ _ rfl hp9 (by omega) (Or.inr (Or.inl ⟨_, _, rfl⟩)) hS3 k
                exact ⟨k1 + 1, r1, J7, e2, Or.inr (Or.inr ⟨hadd, _, hv, Or.inr ⟨z1, rfl, hsr⟩⟩), hq⟩
    · have k := ly_revb 3 (c' := (if (Int32.ofInt 400) ≤ (nI j) then 91 else 15, [(2, .int (nI j)), (1, .int (w)), (4, .int (b)), (3, .int (a)), (0, .ref RR)], [], me_w M J)) rfl k
      by_cases h12 : 400 ≤ j
      · rw [if_pos (show (Int32.ofInt 400) ≤ (nI j) from show nI 400 ≤ nI j from nI_le h12 (by omega))] at k
        have k := ly_revb 2 (c' := (93, [(2, .int (nI j)), (1, .int (w)), (4, .int (b)), (3, .int (a)), (0, .ref RR)], [.int (w), .ref RR], me_w M J)) rfl k
        obtain ⟨d1, o1, ed, kc, k⟩ := lz_c (g := 57) (q := 1) (vs := [.ref RR, .int (w)]) (rest := []) rfl rfl (by decide) (Or.inr (Or.inl ⟨_, rfl, rfl⟩)) rfl k
        obtain ⟨J1, e1, hS1⟩ := lc_addn hP hS hp kc
        subst e1
        have k : nt_rn X _ 49 (96, [(2, .int (nI j)), (1, .int (w)), (4, .int (b)), (3, .int (a)), (0, .ref RR)], [], me_w M J1) _ := k
        have k := lz_rv rfl rfl k
        refine ⟨1, .inr (z.1, z.2.1, lb_ew z.2.2 w), _, k, Or.inl ⟨Classical.byContradiction (fun hh => absurd (lb_op_lt hh) (by omega)), rfl⟩, ?_, hp⟩
        dsimp only
        rw [lb_ew1]
        exact hS1
      · rw [if_neg (show ¬ ((Int32.ofInt 400) ≤ (nI j)) from show ¬ nI 400 ≤ nI j from nI_ge (Nat.not_le.mp h12) (by omega))] at k
        have k := ly_revb 1 (c' := (16, [(2, .int (nI j)), (1, .int (w)), (4, .int (b)), (3, .int (a)), (0, .ref RR)], [.ref RR], me_w M J)) rfl k
        obtain ⟨d1, o1, ed, kc, k⟩ := lz_c (g := 56) (q := 1) (vs := [.ref RR]) (rest := []) rfl rfl (by decide) (Or.inr (Or.inl ⟨_, rfl, rfl⟩)) rfl k
        have e1 := lc_opAt hP hS hp kc
        subst e1
        have hop := lb_op_in (lb_g f t z.1)
        have k : nt_rn X _ 49 (19, [(2, .int (nI j)), (1, .int (w)), (4, .int (b)), (3, .int (a)), (0, .ref RR)], [.int (lb_op (lb_g f t z.1))], me_w M J) _ := k
        have k := ly_revb 4 (c' := (if (lb_op (lb_g f t z.1)) = (Int32.ofInt (-1)) then 25 else 28, [(3, .int (lb_op (lb_g f t z.1))), (2, .int (nI j)), (1, .int (w)), (4, .int (b)), (0, .ref RR)], [], me_w M J)) rfl k
        by_cases h22 : lb_op (lb_g f t z.1) = Int32.ofInt (-1)
        · rw [if_pos (show (lb_op (lb_g f t z.1)) = (Int32.ofInt (-1)) from h22)] at k
          have k := ly_revb 3 (c' := (93, [(3, .int (lb_op (lb_g f t z.1))), (2, .int (nI j)), (1, .int (w)), (4, .int (b)), (0, .ref RR)], [.int (w), .ref RR], me_w M J)) rfl k
          obtain ⟨d1, o1, ed, kc, k⟩ := lz_c (g := 57) (q := 1) (vs := [.ref RR, .int (w)]) (rest := []) rfl rfl (by decide) (Or.inr (Or.inl ⟨_, rfl, rfl⟩)) rfl k
          obtain ⟨J1, e1, hS1⟩ := lc_addn hP hS hp kc
          subst e1
          have k : nt_rn X _ 49 (96, [(3, .int (lb_op (lb_g f t z.1))), (2, .int (nI j)), (1, .int (w)), (4, .int (b)), (0, .ref RR)], [], me_w M J1) _ := k
          have k := lz_rv rfl rfl k
          refine ⟨1, .inr (z.1, z.2.1, lb_ew z.2.2 w), _, k, Or.inl ⟨h22, rfl⟩, ?_, hp⟩
          dsimp only
          rw [lb_ew1]
          exact hS1
        · rw [if_neg (show ¬ ((lb_op (lb_g f t z.1)) = (Int32.ofInt (-1))) from h22)] at k
          have k := ly_revb 3 (c' := (if (lb_op (lb_g f t z.1)) = (Int32.ofInt 12) then 40 else 34, [(3, .int (lb_op (lb_g f t z.1))), (2, .int (nI j)), (1, .int (w)), (4, .int (b)), (0, .ref RR)], [], me_w M J)) rfl k
          by_cases h31 : (lb_op (lb_g f t z.1)) = (Int32.ofInt 12)
          · rw [if_pos (show (lb_op (lb_g f t z.1)) = (Int32.ofInt 12) from h31)] at k
            have k := ly_revb 5 (c' := (if (Int32.ofInt 1) = 0 then 52 else 59, [(4, .int (Int32.ofInt 1)), (3, .int (lb_op (lb_g f t z.1))), (2, .int (nI j)), (1, .int (w)), (0, .ref RR)], [], me_w M J)) rfl k
            rw [if_neg (show ¬ ((Int32.ofInt 1) = 0) from by decide)] at k
            have k := ly_revb 1 (c' := (60, [(4, .int (Int32.ofInt 1)), (3, .int (lb_op (lb_g f t z.1))), (2, .int (nI j)), (1, .int (w)), (0, .ref RR)], [.ref RR], me_w M J)) rfl k
            have k := lz_get (a := RR) (g := 500) (M := me_w M J) (v := .ref Rd) rfl (nt_gfR rfl hP.1.2.2.1) k
            have k := ly_revb 1 (c' := (64, [(4, .int (Int32.ofInt 1)), (3, .int (lb_op (lb_g f t z.1))), (2, .int (nI j)), (1, .int (w)), (0, .ref RR)], [.int (Int32.ofInt 1), .ref Rd], me_w M J)) rfl k
            obtain ⟨d1, o1, ed, kc, k⟩ := lz_c (g := 29) (q := 1) (vs := [.ref Rd, .int (Int32.ofInt 1)]) (rest := []) rfl rfl (by decide) (Or.inr (Or.inl ⟨_, rfl, rfl⟩)) rfl k
            have hlt := lb_op_lt h22
            have e1 := lc_skip (b := 1) hP hS hp (by first | omega | decide | (have := lb_W_len (a := lb_wd w); omega)) kc
            rw [Nat.min_eq_left (hlt)] at e1
            subst e1
            have hS1 := lc_Spp (q := lb_s f t (z.1 + 1)) hP hS
            have hp1 : lb_s f t (z.1 + 1) ≤ t := (lb_s_le (t - (z.1 + 1)) (z.1 + 1) (by have := (hlt); omega)).2
            have k : nt_rn X _ 49 (67, [(4, .int (Int32.ofInt 1)), (3, .int (lb_op (lb_g f t z.1))), (2, .int (nI j)), (1, .int (w)), (0, .ref RR)], [], me_w M (nt_u J Rd 1 (nI (lb_s f t (z.1 + 1))))) _ := k
            have k := ly_revb 1 (c' := (68, [(4, .int (Int32.ofInt 1)), (3, .int (lb_op (lb_g f t z.1))), (2, .int (nI j)), (1, .int (w)), (0, .ref RR)], [.ref RR], me_w M (nt_u J Rd 1 (nI (lb_s f t (z.1 + 1)))))) rfl k
            obtain ⟨d1, o1, ed, kc, k⟩ := lz_c (g := 50) (q := 1) (vs := [.ref RR]) (rest := []) rfl rfl (by decide) (Or.inr (Or.inl ⟨_, rfl, rfl⟩)) rfl k
            obtain ⟨r1, J8, e1, hv, hq⟩ := lc_readValue (e := z.2.2) hP hS1 hp1 kc
            subst e1
            cases r1 with
            | inl c =>
              obtain ⟨hfa, m8, s8, hS8⟩ := hq
              have k : nt_rn X _ 49 (71, [(4, .int (Int32.ofInt 1)), (3, .int (lb_op (lb_g f t z.1))), (2, .int (nI j)), (1, .int (w)), (0, .ref RR)], [], me_w M J8) _ := k
              have k := ly_revb 3 (c' := (if (Int32.ofInt 1) = 0 then 81 else 77, [(4, .int (Int32.ofInt 1)), (3, .int (lb_op (lb_g f t z.1))), (2, .int (nI j)), (1, .int (w)), (0, .ref RR)], [.ref RR], me_w M J8)) rfl k
              rw [if_neg (show ¬ ((Int32.ofInt 1) = 0) from by decide)] at k
              have k := ly_revb 2 (c' := (82, [(4, .int (Int32.ofInt 1)), (3, .int (lb_op (lb_g f t z.1))), (2, .int (nI j)), (1, .int (w)), (0, .ref RR)], [.int (lb_op (lb_g f t z.1)), .ref RR], me_w M J8)) rfl k
              obtain ⟨d1, o1, ed, kc, k⟩ := lz_c (g := 57) (q := 1) (vs := [.ref RR, .int (lb_op (lb_g f t z.1))]) (rest := []) rfl rfl (by decide) (Or.inr (Or.inl ⟨_, rfl, rfl⟩)) rfl k
              obtain ⟨J2, e1, hS2⟩ := lc_addn hP hS8 (Nat.le_refl t) kc
              subst e1
              have k : nt_rn X _ 49 (85, [(4, .int (Int32.ofInt 1)), (3, .int (lb_op (lb_g f t z.1))), (2, .int (nI j)), (1, .int (w)), (0, .ref RR)], [], me_w M J2) _ := k
              have k := ly_revb 1 (c' := (88, [(2, .int ((nI j) + Int32.ofInt 1)), (4, .int (Int32.ofInt 1)), (3, .int (lb_op (lb_g f t z.1))), (1, .int (w)), (0, .ref RR)], [], me_w M J2)) rfl k
              rw [show ((nI j) + Int32.ofInt 1 : Int32) = nI (j + 1) from me_add (k := 1)] at k
              have k := ly_revb 1 (c' := (8, [(2, .int (nI (j + 1))), (4, .int (Int32.ofInt 1)), (3, .int (lb_op (lb_g f t z.1))), (1, .int (w)), (0, .ref RR)], [], me_w M J2)) rfl k
              have k := ly_revb 3 (c' := (if (Int32.ofInt 400) ≤ (nI (j + 1)) then 91 else 15, [(2, .int (nI (j + 1))), (4, .int (Int32.ofInt 1)), (3, .int (lb_op (lb_g f t z.1))), (1, .int (w)), (0, .ref RR)], [], me_w M J2)) rfl k
              by_cases h12' : 400 ≤ (j + 1)
              · rw [if_pos (show (Int32.ofInt 400) ≤ (nI (j + 1)) from show nI 400 ≤ nI ((j + 1)) from nI_le h12' (by omega))] at k
                have k := ly_revb 2 (c' := (93, [(2, .int (nI (j + 1))), (4, .int (Int32.ofInt 1)), (3, .int (lb_op (lb_g f t z.1))), (1, .int (w)), (0, .ref RR)], [.int (w), .ref RR], me_w M J2)) rfl k
                obtain ⟨d1, o1, ed, kc, k⟩ := lz_c (g := 57) (q := 1) (vs := [.ref RR, .int (w)]) (rest := []) rfl rfl (by decide) (Or.inr (Or.inl ⟨_, rfl, rfl⟩)) rfl k
                obtain ⟨J3, e1, hS3⟩ := lc_addn hP hS2 (Nat.le_refl t) kc
                subst e1
                have k : nt_rn X _ 49 (96, [(2, .int (nI (j + 1))), (4, .int (Int32.ofInt 1)), (3, .int (lb_op (lb_g f t z.1))), (1, .int (w)), (0, .ref RR)], [], me_w M J3) _ := k
                have k := lz_rv rfl rfl k
                exact ⟨1, .inl c, _, k, Or.inr (Or.inl ⟨Or.inl h31, _, hv, Or.inl ⟨c, rfl, rfl⟩⟩), hfa, _, _, hS3⟩
              · rw [if_neg (show ¬ ((Int32.ofInt 400) ≤ (nI (j + 1))) from show ¬ nI 400 ≤ nI ((j + 1)) from nI_ge (Nat.not_le.mp h12') (by omega))] at k
                have k := ly_revb 1 (c' := (16, [(2, .int (nI (j + 1))), (4, .int (Int32.ofInt 1)), (3, .int (lb_op (lb_g f t z.1))), (1, .int (w)), (0, .ref RR)], [.ref RR], me_w M J2)) rfl k
                obtain ⟨d1, o1, ed, kc, k⟩ := lz_c (g := 56) (q := 1) (vs := [.ref RR]) (rest := []) rfl rfl (by decide) (Or.inr (Or.inl ⟨_, rfl, rfl⟩)) rfl k
                have e1 := lc_opAt hP hS2 (Nat.le_refl t) kc
                subst e1
                have hop := lb_op_in (lb_g f t t)
                have k : nt_rn X _ 49 (19, [(2, .int (nI (j + 1))), (4, .int (Int32.ofInt 1)), (3, .int (lb_op (lb_g f t z.1))), (1, .int (w)), (0, .ref RR)], [.int (lb_op (lb_g f t t))], me_w M J2) _ := k
                have he : lb_op (lb_g f t t) = Int32.ofInt (-1) := by
                  unfold lb_g
                  rw [if_neg (by omega)]
                  decide
                have k := ly_revb 4 (c' := (if (lb_op (lb_g f t t)) = (Int32.ofInt (-1)) then 25 else 28, [(3, .int (lb_op (lb_g f t t))), (2, .int (nI (j + 1))), (4, .int (Int32.ofInt 1)), (1, .int (w)), (0, .ref RR)], [], me_w M J2)) rfl k
                rw [if_pos (show (lb_op (lb_g f t t)) = (Int32.ofInt (-1)) from he)] at k
                have k := ly_revb 3 (c' := (93, [(3, .int (lb_op (lb_g f t t))), (2, .int (nI (j + 1))), (4, .int (Int32.ofInt 1)), (1, .int (w)), (0, .ref RR)], [.int (w), .ref RR], me_w M J2)) rfl k
                obtain ⟨d1, o1, ed, kc, k⟩ := lz_c (g := 57) (q := 1) (vs := [.ref RR, .int (w)]) (rest := []) rfl rfl (by decide) (Or.inr (Or.inl ⟨_, rfl, rfl⟩)) rfl k
                obtain ⟨J3, e1, hS3⟩ := lc_addn hP hS2 (Nat.le_refl t) kc
                subst e1
                have k : nt_rn X _ 49 (96, [(3, .int (lb_op (lb_g f t t))), (2, .int (nI (j + 1))), (4, .int (Int32.ofInt 1)), (1, .int (w)), (0, .ref RR)], [], me_w M J3) _ := k
                have k := lz_rv rfl rfl k
                exact ⟨1, .inl c, _, k, Or.inr (Or.inl ⟨Or.inl h31, _, hv, Or.inl ⟨c, rfl, rfl⟩⟩), hfa, _, _, hS3⟩
            | inr z1 =>
              obtain ⟨hS9, hp9⟩ := hq
              have hup := lb_val_up hp1 hv
              have k : nt_rn X _ 49 (71, [(4, .int (Int32.ofInt 1)), (3, .int (lb_op (lb_g f t z.1))), (2, .int (nI j)), (1, .int (w)), (0, .ref RR)], [], me_w M J8) _ := k
              have k := ly_revb 3 (c' := (if (Int32.ofInt 1) = 0 then 81 else 77, [(4, .int (Int32.ofInt 1)), (3, .int (lb_op (lb_g f t z.1))), (2, .int (nI j)), (1, .int (w)), (0, .ref RR)], [.ref RR], me_w M J8)) rfl k
              rw [if_neg (show ¬ ((Int32.ofInt 1) = 0) from by decide)] at k
              have k := ly_revb 2 (c' := (82, [(4, .int (Int32.ofInt 1)), (3, .int (lb_op (lb_g f t z.1))), (2, .int (nI j)), (1, .int (w)), (0, .ref RR)], [.int (lb_op (lb_g f t z.1)), .ref RR], me_w M J8)) rfl k
              obtain ⟨d1, o1, ed, kc, k⟩ := lz_c (g := 57) (q := 1) (vs := [.ref RR, .int (lb_op (lb_g f t z.1))]) (rest := []) rfl rfl (by decide) (Or.inr (Or.inl ⟨_, rfl, rfl⟩)) rfl k
              obtain ⟨J2, e1, hS2⟩ := lc_addn hP hS9 hp9 kc
              subst e1
              have k : nt_rn X _ 49 (85, [(4, .int (Int32.ofInt 1)), (3, .int (lb_op (lb_g f t z.1))), (2, .int (nI j)), (1, .int (w)), (0, .ref RR)], [], me_w M J2) _ := k
              have k := ly_revb 1 (c' := (88, [(2, .int ((nI j) + Int32.ofInt 1)), (4, .int (Int32.ofInt 1)), (3, .int (lb_op (lb_g f t z.1))), (1, .int (w)), (0, .ref RR)], [], me_w M J2)) rfl k
              rw [show ((nI j) + Int32.ofInt 1 : Int32) = nI (j + 1) from me_add (k := 1)] at k
              have k := ly_revb 1 (c' := (8, [(2, .int (nI (j + 1))), (4, .int (Int32.ofInt 1)), (3, .int (lb_op (lb_g f t z.1))), (1, .int (w)), (0, .ref RR)], [], me_w M J2)) rfl k
              have hsl := lb_s_le (f := f) (t := t) (t - (z.1 + 1)) (z.1 + 1) (by omega)
              dsimp only at hup
              obtain ⟨k1, r1, J7, e2, hsr, hq⟩ := ih (t - z1.1) (by omega) (j + 1) w (z1.1, z1.2.1, lb_ew z1.2.2 (lb_op (lb_g f t z.1))) _ _ rfl hp9 (by dsimp only; omega) (Or.inr (Or.inr ⟨_, _, rfl⟩)) (by dsimp only; rw [lb_ew1]; exact hS2) k
              exact ⟨k1 + 1, r1, J7, e2, Or.inr (Or.inl ⟨Or.inl h31, _, hv, Or.inr ⟨z1, rfl, hsr⟩⟩), hq⟩
          · rw [if_neg (show ¬ ((lb_op (lb_g f t z.1)) = (Int32.ofInt 12)) from h31)] at k
            have k := ly_revb 3 (c' := (if (lb_op (lb_g f t z.1)) = (Int32.ofInt 13) then 40 else 44, [(3, .int (lb_op (lb_g f t z.1))), (2, .int (nI j)), (1, .int (w)), (4, .int (b)), (0, .ref RR)], [], me_w M J)) rfl k
            by_cases h37 : (lb_op (lb_g f t z.1)) = (Int32.ofInt 13)
            · rw [if_pos (show (lb_op (lb_g f t z.1)) = (Int32.ofInt 13) from h37)] at k
              have k := ly_revb 5 (c' := (if (Int32.ofInt 1) = 0 then 52 else 59, [(4, .int (Int32.ofInt 1)), (3, .int (lb_op (lb_g f t z.1))), (2, .int (nI j)), (1, .int (w)), (0, .ref RR)], [], me_w M J)) rfl k
              rw [if_neg (show ¬ ((Int32.ofInt 1) = 0) from by decide)] at k
              have k := ly_revb 1 (c' := (60, [(4, .int (Int32.ofInt 1)), (3, .int (lb_op (lb_g f t z.1))), (2, .int (nI j)), (1, .int (w)), (0, .ref RR)], [.ref RR], me_w M J)) rfl k
              have k := lz_get (a := RR) (g := 500) (M := me_w M J) (v := .ref Rd) rfl (nt_gfR rfl hP.1.2.2.1) k
              have k := ly_revb 1 (c' := (64, [(4, .int (Int32.ofInt 1)), (3, .int (lb_op (lb_g f t z.1))), (2, .int (nI j)), (1, .int (w)), (0, .ref RR)], [.int (Int32.ofInt 1), .ref Rd], me_w M J)) rfl k
              obtain ⟨d1, o1, ed, kc, k⟩ := lz_c (g := 29) (q := 1) (vs := [.ref Rd, .int (Int32.ofInt 1)]) (rest := []) rfl rfl (by decide) (Or.inr (Or.inl ⟨_, rfl, rfl⟩)) rfl k
              have hlt := lb_op_lt h22
              have e1 := lc_skip (b := 1) hP hS hp (by first | omega | decide | (have := lb_W_len (a := lb_wd w); omega)) kc
              rw [Nat.min_eq_left (hlt)] at e1
              subst e1
              have hS1 := lc_Spp (q := lb_s f t (z.1 + 1)) hP hS
              have hp1 : lb_s f t (z.1 + 1) ≤ t := (lb_s_le (t - (z.1 + 1)) (z.1 + 1) (by have := (hlt); omega)).2
              have k : nt_rn X _ 49 (67, [(4, .int (Int32.ofInt 1)), (3, .int (lb_op (lb_g f t z.1))), (2, .int (nI j)), (1, .int (w)), (0, .ref RR)], [], me_w M (nt_u J Rd 1 (nI (lb_s f t (z.1 + 1))))) _ := k
              have k := ly_revb 1 (c' := (68, [(4, .int (Int32.ofInt 1)), (3, .int (lb_op (lb_g f t z.1))), (2, .int (nI j)), (1, .int (w)), (0, .ref RR)], [.ref RR], me_w M (nt_u J Rd 1 (nI (lb_s f t (z.1 + 1)))))) rfl k
              obtain ⟨d1, o1, ed, kc, k⟩ := lz_c (g := 50) (q := 1) (vs := [.ref RR]) (rest := []) rfl rfl (by decide) (Or.inr (Or.inl ⟨_, rfl, rfl⟩)) rfl k
              obtain ⟨r1, J8, e1, hv, hq⟩ := lc_readValue (e := z.2.2) hP hS1 hp1 kc
              subst e1
              cases r1 with
              | inl c =>
                obtain ⟨hfa, m8, s8, hS8⟩ := hq
                have k : nt_rn X _ 49 (71, [(4, .int (Int32.ofInt 1)), (3, .int (lb_op (lb_g f t z.1))), (2, .int (nI j)), (1, .int (w)), (0, .ref RR)], [], me_w M J8) _ := k
                have k := ly_revb 3 (c' := (if (Int32.ofInt 1) = 0 then 81 else 77, [(4, .int (Int32.ofInt 1)), (3, .int (lb_op (lb_g f t z.1))), (2, .int (nI j)), (1, .int (w)), (0, .ref RR)], [.ref RR], me_w M J8)) rfl k
                rw [if_neg (show ¬ ((Int32.ofInt 1) = 0) from by decide)] at k
                have k := ly_revb 2 (c' := (82, [(4, .int (Int32.ofInt 1)), (3, .int (lb_op (lb_g f t z.1))), (2, .int (nI j)), (1, .int (w)), (0, .ref RR)], [.int (lb_op (lb_g f t z.1)), .ref RR], me_w M J8)) rfl k
                obtain ⟨d1, o1, ed, kc, k⟩ := lz_c (g := 57) (q := 1) (vs := [.ref RR, .int (lb_op (lb_g f t z.1))]) (rest := []) rfl rfl (by decide) (Or.inr (Or.inl ⟨_, rfl, rfl⟩)) rfl k
                obtain ⟨J2, e1, hS2⟩ := lc_addn hP hS8 (Nat.le_refl t) kc
                subst e1
                have k : nt_rn X _ 49 (85, [(4, .int (Int32.ofInt 1)), (3, .int (lb_op (lb_g f t z.1))), (2, .int (nI j)), (1, .int (w)), (0, .ref RR)], [], me_w M J2) _ := k
                have k := ly_revb 1 (c' := (88, [(2, .int ((nI j) + Int32.ofInt 1)), (4, .int (Int32.ofInt 1)), (3, .int (lb_op (lb_g f t z.1))), (1, .int (w)), (0, .ref RR)], [], me_w M J2)) rfl k
                rw [show ((nI j) + Int32.ofInt 1 : Int32) = nI (j + 1) from me_add (k := 1)] at k
                have k := ly_revb 1 (c' := (8, [(2, .int (nI (j + 1))), (4, .int (Int32.ofInt 1)), (3, .int (lb_op (lb_g f t z.1))), (1, .int (w)), (0, .ref RR)], [], me_w M J2)) rfl k
                have k := ly_revb 3 (c' := (if (Int32.ofInt 400) ≤ (nI (j + 1)) then 91 else 15, [(2, .int (nI (j + 1))), (4, .int (Int32.ofInt 1)), (3, .int (lb_op (lb_g f t z.1))), (1, .int (w)), (0, .ref RR)], [], me_w M J2)) rfl k
                by_cases h12' : 400 ≤ (j + 1)
                · rw [if_pos (show (Int32.ofInt 400) ≤ (nI (j + 1)) from show nI 400 ≤ nI ((j + 1)) from nI_le h12' (by omega))] at k
                  have k := ly_revb 2 (c' := (93, [(2, .int (nI (j + 1))), (4, .int (Int32.ofInt 1)), (3, .int (lb_op (lb_g f t z.1))), (1, .int (w)), (0, .ref RR)], [.int (w), .ref RR], me_w M J2)) rfl k
                  obtain ⟨d1, o1, ed, kc, k⟩ := lz_c (g := 57) (q := 1) (vs := [.ref RR, .int (w)]) (rest := []) rfl rfl (by decide) (Or.inr (Or.inl ⟨_, rfl, rfl⟩)) rfl k
                  obtain ⟨J3, e1, hS3⟩ := lc_addn hP hS2 (Nat.le_refl t) kc
                  subst e1
                  have k : nt_rn X _ 49 (96, [(2, .int (nI (j + 1))), (4, .int (Int32.ofInt 1)), (3, .int (lb_op (lb_g f t z.1))), (1, .int (w)), (0, .ref RR)], [], me_w M J3) _ := k
                  have k := lz_rv rfl rfl k
                  exact ⟨1, .inl c, _, k, Or.inr (Or.inl ⟨Or.inr h37, _, hv, Or.inl ⟨c, rfl, rfl⟩⟩), hfa, _, _, hS3⟩
                · rw [if_neg (show ¬ ((Int32.ofInt 400) ≤ (nI (j + 1))) from show ¬ nI 400 ≤ nI ((j + 1)) from nI_ge (Nat.not_le.mp h12') (by omega))] at k
                  have k := ly_revb 1 (c' := (16, [(2, .int (nI (j + 1))), (4, .int (Int32.ofInt 1)), (3, .int (lb_op (lb_g f t z.1))), (1, .int (w)), (0, .ref RR)], [.ref RR], me_w M J2)) rfl k
                  obtain ⟨d1, o1, ed, kc, k⟩ := lz_c (g := 56) (q := 1) (vs := [.ref RR]) (rest := []) rfl rfl (by decide) (Or.inr (Or.inl ⟨_, rfl, rfl⟩)) rfl k
                  have e1 := lc_opAt hP hS2 (Nat.le_refl t) kc
                  subst e1
                  have hop := lb_op_in (lb_g f t t)
                  have k : nt_rn X _ 49 (19, [(2, .int (nI (j + 1))), (4, .int (Int32.ofInt 1)), (3, .int (lb_op (lb_g f t z.1))), (1, .int (w)), (0, .ref RR)], [.int (lb_op (lb_g f t t))], me_w M J2) _ := k
                  have he : lb_op (lb_g f t t) = Int32.ofInt (-1) := by
                    unfold lb_g
                    rw [if_neg (by omega)]
                    decide
                  have k := ly_revb 4 (c' := (if (lb_op (lb_g f t t)) = (Int32.ofInt (-1)) then 25 else 28, [(3, .int (lb_op (lb_g f t t))), (2, .int (nI (j + 1))), (4, .int (Int32.ofInt 1)), (1, .int (w)), (0, .ref RR)], [], me_w M J2)) rfl k
                  rw [if_pos (show (lb_op (lb_g f t t)) = (Int32.ofInt (-1)) from he)] at k
                  have k := ly_revb 3 (c' := (93, [(3, .int (lb_op (lb_g f t t))), (2, .int (nI (j + 1))), (4, .int (Int32.ofInt 1)), (1, .int (w)), (0, .ref RR)], [.int (w), .ref RR], me_w M J2)) rfl k
                  obtain ⟨d1, o1, ed, kc, k⟩ := lz_c (g := 57) (q := 1) (vs := [.ref RR, .int (w)]) (rest := []) rfl rfl (by decide) (Or.inr (Or.inl ⟨_, rfl, rfl⟩)) rfl k
                  obtain ⟨J3, e1, hS3⟩ := lc_addn hP hS2 (Nat.le_refl t) kc
                  subst e1
                  have k : nt_rn X _ 49 (96, [(3, .int (lb_op (lb_g f t t))), (2, .int (nI (j + 1))), (4, .int (Int32.ofInt 1)), (1, .int (w)), (0, .ref RR)], [], me_w M J3) _ := k
                  have k := lz_rv rfl rfl k
                  exact ⟨1, .inl c, _, k, Or.inr (Or.inl ⟨Or.inr h37, _, hv, Or.inl ⟨c, rfl, rfl⟩⟩), hfa, _, _, hS3⟩
              | inr z1 =>
                obtain ⟨hS9, hp9⟩ := hq
                have hup := lb_val_up hp1 hv
                have k : nt_rn X _ 49 (71, [(4, .int (Int32.ofInt 1)), (3, .int (lb_op (lb_g f t z.1))), (2, .int (nI j)), (1, .int (w)), (0, .ref RR)], [], me_w M J8) _ := k
                have k := ly_revb 3 (c' := (if (Int32.ofInt 1) = 0 then 81 else 77, [(4, .int (Int32.ofInt 1)), (3, .int (lb_op (lb_g f t z.1))), (2, .int (nI j)), (1, .int (w)), (0, .ref RR)], [.ref RR], me_w M J8)) rfl k
                rw [if_neg (show ¬ ((Int32.ofInt 1) = 0) from by decide)] at k
                have k := ly_revb 2 (c' := (82, [(4, .int (Int32.ofInt 1)), (3, .int (lb_op (lb_g f t z.1))), (2, .int (nI j)), (1, .int (w)), (0, .ref RR)], [.int (lb_op (lb_g f t z.1)), .ref RR], me_w M J8)) rfl k
                obtain ⟨d1, o1, ed, kc, k⟩ := lz_c (g := 57) (q := 1) (vs := [.ref RR, .int (lb_op (lb_g f t z.1))]) (rest := []) rfl rfl (by decide) (Or.inr (Or.inl ⟨_, rfl, rfl⟩)) rfl k
                obtain ⟨J2, e1, hS2⟩ := lc_addn hP hS9 hp9 kc
                subst e1
                have k : nt_rn X _ 49 (85, [(4, .int (Int32.ofInt 1)), (3, .int (lb_op (lb_g f t z.1))), (2, .int (nI j)), (1, .int (w)), (0, .ref RR)], [], me_w M J2) _ := k
                have k := ly_revb 1 (c' := (88, [(2, .int ((nI j) + Int32.ofInt 1)), (4, .int (Int32.ofInt 1)), (3, .int (lb_op (lb_g f t z.1))), (1, .int (w)), (0, .ref RR)], [], me_w M J2)) rfl k
                rw [show ((nI j) + Int32.ofInt 1 : Int32) = nI (j + 1) from me_add (k := 1)] at k
                have k := ly_revb 1 (c' := (8, [(2, .int (nI (j + 1))), (4, .int (Int32.ofInt 1)), (3, .int (lb_op (lb_g f t z.1))), (1, .int (w)), (0, .ref RR)], [], me_w M J2)) rfl k
                have hsl := lb_s_le (f := f) (t := t) (t - (z.1 + 1)) (z.1 + 1) (by omega)
                dsimp only at hup
                obtain ⟨k1, r1, J7, e2, hsr, hq⟩ := ih (t - z1.1) (by omega) (j + 1) w (z1.1, z1.2.1, lb_ew z1.2.2 (lb_op (lb_g f t z.1))) _ _ rfl hp9 (by dsimp only; omega) (Or.inr (Or.inr ⟨_, _, rfl⟩)) (by dsimp only; rw [lb_ew1]; exact hS2) k
                exact ⟨k1 + 1, r1, J7, e2, Or.inr (Or.inl ⟨Or.inr h37, _, hv, Or.inr ⟨z1, rfl, hsr⟩⟩), hq⟩
            · rw [if_neg (show ¬ ((lb_op (lb_g f t z.1)) = (Int32.ofInt 13)) from h37)] at k
              have hadd : lb_op (lb_g f t z.1) = Int32.ofInt 10 ∨ lb_op (lb_g f t z.1) = Int32.ofInt 11 := by
                rcases hop with h | h | h | h | h
                · exact Or.inl h
                · exact Or.inr h
                · exact absurd h h31
                · exact absurd h h37
                · exact absurd h h22
              have k := ly_revb 4 (c' := (if (Int32.ofInt 0) = 0 then 52 else 59, [(4, .int (Int32.ofInt 0)), (3, .int (lb_op (lb_g f t z.1))), (2, .int (nI j)), (1, .int (w)), (0, .ref RR)], [], me_w M J)) rfl k
              rw [if_pos (show (Int32.ofInt 0) = 0 from by decide)] at k
              have k := ly_revb 2 (c' := (54, [(4, .int (Int32.ofInt 0)), (3, .int (lb_op (lb_g f t z.1))), (2, .int (nI j)), (1, .int (w)), (0, .ref RR)], [.int (w), .ref RR], me_w M J)) rfl k
              obtain ⟨d1, o1, ed, kc, k⟩ := lz_c (g := 57) (q := 1) (vs := [.ref RR, .int (w)]) (rest := []) rfl rfl (by decide) (Or.inr (Or.inl ⟨_, rfl, rfl⟩)) rfl k
              obtain ⟨J1, e1, hS1⟩ := lc_addn hP hS hp kc
              subst e1
              have k : nt_rn X _ 49 (57, [(4, .int (Int32.ofInt 0)), (3, .int (lb_op (lb_g f t z.1))), (2, .int (nI j)), (1, .int (w)), (0, .ref RR)], [], me_w M J1) _ := k
              have k := ly_revb 3 (c' := (60, [(1, .int (lb_op (lb_g f t z.1))), (4, .int (Int32.ofInt 0)), (3, .int (lb_op (lb_g f t z.1))), (2, .int (nI j)), (0, .ref RR)], [.ref RR], me_w M J1)) rfl k
              have k := lz_get (a := RR) (g := 500) (M := me_w M J1) (v := .ref Rd) rfl (nt_gfR rfl hP.1.2.2.1) k
              have k := ly_revb 1 (c' := (64, [(1, .int (lb_op (lb_g f t z.1))), (4, .int (Int32.ofInt 0)), (3, .int (lb_op (lb_g f t z.1))), (2, .int (nI j)), (0, .ref RR)], [.int (Int32.ofInt 1), .ref Rd], me_w M J1)) rfl k
              obtain ⟨d1, o1, ed, kc, k⟩ := lz_c (g := 29) (q := 1) (vs := [.ref Rd, .int (Int32.ofInt 1)]) (rest := []) rfl rfl (by decide) (Or.inr (Or.inl ⟨_, rfl, rfl⟩)) rfl k
              have hlt := lb_op_lt h22
              have e1 := lc_skip (b := 1) hP hS1 hp (by first | omega | decide | (have := lb_W_len (a := lb_wd w); omega)) kc
              rw [Nat.min_eq_left (hlt)] at e1
              subst e1
              have hS2 := lc_Spp (q := lb_s f t (z.1 + 1)) hP hS1
              have hp2 : lb_s f t (z.1 + 1) ≤ t := (lb_s_le (t - (z.1 + 1)) (z.1 + 1) (by have := (hlt); omega)).2
              have k : nt_rn X _ 49 (67, [(1, .int (lb_op (lb_g f t z.1))), (4, .int (Int32.ofInt 0)), (3, .int (lb_op (lb_g f t z.1))), (2, .int (nI j)), (0, .ref RR)], [], me_w M (nt_u J1 Rd 1 (nI (lb_s f t (z.1 + 1))))) _ := k
              have k := ly_revb 1 (c' := (68, [(1, .int (lb_op (lb_g f t z.1))), (4, .int (Int32.ofInt 0)), (3, .int (lb_op (lb_g f t z.1))), (2, .int (nI j)), (0, .ref RR)], [.ref RR], me_w M (nt_u J1 Rd 1 (nI (lb_s f t (z.1 + 1)))))) rfl k
              obtain ⟨d1, o1, ed, kc, k⟩ := lz_c (g := 50) (q := 1) (vs := [.ref RR]) (rest := []) rfl rfl (by decide) (Or.inr (Or.inl ⟨_, rfl, rfl⟩)) rfl k
              obtain ⟨r1, J8, e1, hv, hq⟩ := lc_readValue (e := lb_ew z.2.2 w) hP (by rw [lb_ew1]; exact hS2) hp2 kc
              subst e1
              cases r1 with
              | inl c =>
                obtain ⟨hfa, m8, s8, hS8⟩ := hq
                have k : nt_rn X _ 49 (71, [(1, .int (lb_op (lb_g f t z.1))), (4, .int (Int32.ofInt 0)), (3, .int (lb_op (lb_g f t z.1))), (2, .int (nI j)), (0, .ref RR)], [], me_w M J8) _ := k
                have k := ly_revb 3 (c' := (if (Int32.ofInt 0) = 0 then 81 else 77, [(1, .int (lb_op (lb_g f t z.1))), (4, .int (Int32.ofInt 0)), (3, .int (lb_op (lb_g f t z.1))), (2, .int (nI j)), (0, .ref RR)], [.ref RR], me_w M J8)) rfl k
                rw [if_pos (show (Int32.ofInt 0) = 0 from by decide)] at k
                have k := ly_revb 1 (c' := (82, [(1, .int (lb_op (lb_g f t z.1))), (4, .int (Int32.ofInt 0)), (3, .int (lb_op (lb_g f t z.1))), (2, .int (nI j)), (0, .ref RR)], [.int (Int32.ofInt (-1)), .ref RR], me_w M J8)) rfl k
                obtain ⟨d1, o1, ed, kc, k⟩ := lz_c (g := 57) (q := 1) (vs := [.ref RR, .int (Int32.ofInt (-1))]) (rest := []) rfl rfl (by decide) (Or.inr (Or.inl ⟨_, rfl, rfl⟩)) rfl k
                obtain ⟨J3, e1, hS3⟩ := lc_addn hP hS8 (Nat.le_refl t) kc
                subst e1
                have k : nt_rn X _ 49 (85, [(1, .int (lb_op (lb_g f t z.1))), (4, .int (Int32.ofInt 0)), (3, .int (lb_op (lb_g f t z.1))), (2, .int (nI j)), (0, .ref RR)], [], me_w M J3) _ := k
                have k := ly_revb 1 (c' := (88, [(2, .int ((nI j) + Int32.ofInt 1)), (1, .int (lb_op (lb_g f t z.1))), (4, .int (Int32.ofInt 0)), (3, .int (lb_op (lb_g f t z.1))), (0, .ref RR)], [], me_w M J3)) rfl k
                rw [show ((nI j) + Int32.ofInt 1 : Int32) = nI (j + 1) from me_add (k := 1)] at k
                have k := ly_revb 1 (c' := (8, [(2, .int (nI (j + 1))), (1, .int (lb_op (lb_g f t z.1))), (4, .int (Int32.ofInt 0)), (3, .int (lb_op (lb_g f t z.1))), (0, .ref RR)], [], me_w M J3)) rfl k
                have k := ly_revb 3 (c' := (if (Int32.ofInt 400) ≤ (nI (j + 1)) then 91 else 15, [(2, .int (nI (j + 1))), (1, .int (lb_op (lb_g f t z.1))), (4, .int (Int32.ofInt 0)), (3, .int (lb_op (lb_g f t z.1))), (0, .ref RR)], [], me_w M J3)) rfl k
                by_cases h12' : 400 ≤ (j + 1)
                · rw [if_pos (show (Int32.ofInt 400) ≤ (nI (j + 1)) from show nI 400 ≤ nI ((j + 1)) from nI_le h12' (by omega))] at k
                  have k := ly_revb 2 (c' := (93, [(2, .int (nI (j + 1))), (1, .int (lb_op (lb_g f t z.1))), (4, .int (Int32.ofInt 0)), (3, .int (lb_op (lb_g f t z.1))), (0, .ref RR)], [.int (lb_op (lb_g f t z.1)), .ref RR], me_w M J3)) rfl k
                  obtain ⟨d1, o1, ed, kc, k⟩ := lz_c (g := 57) (q := 1) (vs := [.ref RR, .int (lb_op (lb_g f t z.1))]) (rest := []) rfl rfl (by decide) (Or.inr (Or.inl ⟨_, rfl, rfl⟩)) rfl k
                  obtain ⟨J4, e1, hS4⟩ := lc_addn hP hS3 (Nat.le_refl t) kc
                  subst e1
                  have k : nt_rn X _ 49 (96, [(2, .int (nI (j + 1))), (1, .int (lb_op (lb_g f t z.1))), (4, .int (Int32.ofInt 0)), (3, .int (lb_op (lb_g f t z.1))), (0, .ref RR)], [], me_w M J4) _ := k
                  have k := lz_rv rfl rfl k
                  exact ⟨1, .inl c, _, k, Or.inr (Or.inr ⟨hadd, _, hv, Or.inl ⟨c, rfl, rfl⟩⟩), hfa, _, _, hS4⟩
                · rw [if_neg (show ¬ ((Int32.ofInt 400) ≤ (nI (j + 1))) from show ¬ nI 400 ≤ nI ((j + 1)) from nI_ge (Nat.not_le.mp h12') (by omega))] at k
                  have k := ly_revb 1 (c' := (16, [(2, .int (nI (j + 1))), (1, .int (lb_op (lb_g f t z.1))), (4, .int (Int32.ofInt 0)), (3, .int (lb_op (lb_g f t z.1))), (0, .ref RR)], [.ref RR], me_w M J3)) rfl k
                  obtain ⟨d1, o1, ed, kc, k⟩ := lz_c (g := 56) (q := 1) (vs := [.ref RR]) (rest := []) rfl rfl (by decide) (Or.inr (Or.inl ⟨_, rfl, rfl⟩)) rfl k
                  have e1 := lc_opAt hP hS3 (Nat.le_refl t) kc
                  subst e1
                  have hop := lb_op_in (lb_g f t t)
                  have k : nt_rn X _ 49 (19, [(2, .int (nI (j + 1))), (1, .int (lb_op (lb_g f t z.1))), (4, .int (Int32.ofInt 0)), (3, .int (lb_op (lb_g f t z.1))), (0, .ref RR)], [.int (lb_op (lb_g f t t))], me_w M J3) _ := k
                  have he : lb_op (lb_g f t t) = Int32.ofInt (-1) := by
                    unfold lb_g
                    rw [if_neg (by omega)]
                    decide
                  have k := ly_revb 4 (c' := (if (lb_op (lb_g f t t)) = (Int32.ofInt (-1)) then 25 else 28, [(3, .int (lb_op (lb_g f t t))), (2, .int (nI (j + 1))), (1, .int (lb_op (lb_g f t z.1))), (4, .int (Int32.ofInt 0)), (0, .ref RR)], [], me_w M J3)) rfl k
                  rw [if_pos (show (lb_op (lb_g f t t)) = (Int32.ofInt (-1)) from he)] at k
                  have k := ly_revb 3 (c' := (93, [(3, .int (lb_op (lb_g f t t))), (2, .int (nI (j + 1))), (1, .int (lb_op (lb_g f t z.1))), (4, .int (Int32.ofInt 0)), (0, .ref RR)], [.int (lb_op (lb_g f t z.1)), .ref RR], me_w M J3)) rfl k
                  obtain ⟨d1, o1, ed, kc, k⟩ := lz_c (g := 57) (q := 1) (vs := [.ref RR, .int (lb_op (lb_g f t z.1))]) (rest := []) rfl rfl (by decide) (Or.inr (Or.inl ⟨_, rfl, rfl⟩)) rfl k
                  obtain ⟨J4, e1, hS4⟩ := lc_addn hP hS3 (Nat.le_refl t) kc
                  subst e1
                  have k : nt_rn X _ 49 (96, [(3, .int (lb_op (lb_g f t t))), (2, .int (nI (j + 1))), (1, .int (lb_op (lb_g f t z.1))), (4, .int (Int32.ofInt 0)), (0, .ref RR)], [], me_w M J4) _ := k
                  have k := lz_rv rfl rfl k
                  exact ⟨1, .inl c, _, k, Or.inr (Or.inr ⟨hadd, _, hv, Or.inl ⟨c, rfl, rfl⟩⟩), hfa, _, _, hS4⟩
              | inr z1 =>
                obtain ⟨hS9, hp9⟩ := hq
                have hup := lb_val_up hp2 hv
                have k : nt_rn X _ 49 (71, [(1, .int (lb_op (lb_g f t z.1))), (4, .int (Int32.ofInt 0)), (3, .int (lb_op (lb_g f t z.1))), (2, .int (nI j)), (0, .ref RR)], [], me_w M J8) _ := k
                have k := ly_revb 3 (c' := (if (Int32.ofInt 0) = 0 then 81 else 77, [(1, .int (lb_op (lb_g f t z.1))), (4, .int (Int32.ofInt 0)), (3, .int (lb_op (lb_g f t z.1))), (2, .int (nI j)), (0, .ref RR)], [.ref RR], me_w M J8)) rfl k
                rw [if_pos (show (Int32.ofInt 0) = 0 from by decide)] at k
                have k := ly_revb 1 (c' := (82, [(1, .int (lb_op (lb_g f t z.1))), (4, .int (Int32.ofInt 0)), (3, .int (lb_op (lb_g f t z.1))), (2, .int (nI j)), (0, .ref RR)], [.int (Int32.ofInt (-1)), .ref RR], me_w M J8)) rfl k
                obtain ⟨d1, o1, ed, kc, k⟩ := lz_c (g := 57) (q := 1) (vs := [.ref RR, .int (Int32.ofInt (-1))]) (rest := []) rfl rfl (by decide) (Or.inr (Or.inl ⟨_, rfl, rfl⟩)) rfl k
                obtain ⟨J3, e1, hS3⟩ := lc_addn hP hS9 hp9 kc
                subst e1
                have k : nt_rn X _ 49 (85, [(1, .int (lb_op (lb_g f t z.1))), (4, .int (Int32.ofInt 0)), (3, .int (lb_op (lb_g f t z.1))), (2, .int (nI j)), (0, .ref RR)], [], me_w M J3) _ := k
                have k := ly_revb 1 (c' := (88, [(2, .int ((nI j) + Int32.ofInt 1)), (1, .int (lb_op (lb_g f t z.1))), (4, .int (Int32.ofInt 0)), (3, .int (lb_op (lb_g f t z.1))), (0, .ref RR)], [], me_w M J3)) rfl k
                rw [show ((nI j) + Int32.ofInt 1 : Int32) = nI (j + 1) from me_add (k := 1)] at k
                have k := ly_revb 1 (c' := (8, [(2, .int (nI (j + 1))), (1, .int (lb_op (lb_g f t z.1))), (4, .int (Int32.ofInt 0)), (3, .int (lb_op (lb_g f t z.1))), (0, .ref RR)], [], me_w M J3)) rfl k
                have hsl := lb_s_le (f := f) (t := t) (t - (z.1 + 1)) (z.1 + 1) (by omega)
                dsimp only at hup
                obtain ⟨k1, r1, J7, e2, hsr, hq⟩ := ih (t - z1.1) (by omega) (j + 1) (lb_op (lb_g f t z.1)) z1 _ _ rfl hp9 (by omega) (Or.inr (Or.inl ⟨_, _, rfl⟩)) hS3 k
                exact ⟨k1 + 1, r1, J7, e2, Or.inr (Or.inr ⟨hadd, _, hv, Or.inr ⟨z1, rfl, hsr⟩⟩), hq⟩
    · have k := ly_revb 3 (c' := (if (Int32.ofInt 400) ≤ (nI j) then 91 else 15, [(2, .int (nI j)), (4, .int (b)), (3, .int (a)), (1, .int (w)), (0, .ref RR)], [], me_w M J)) rfl k
      by_cases h12 : 400 ≤ j
      · rw [if_pos (show (Int32.ofInt 400) ≤ (nI j) from show nI 400 ≤ nI j from nI_le h12 (by omega))] at k
        have k := ly_revb 2 (c' := (93, [(2, .int (nI j)), (4, .int (b)), (3, .int (a)), (1, .int (w)), (0, .ref RR)], [.int (w), .ref RR], me_w M J)) rfl k
        obtain ⟨d1, o1, ed, kc, k⟩ := lz_c (g := 57) (q := 1) (vs := [.ref RR, .int (w)]) (rest := []) rfl rfl (by decide) (Or.inr (Or.inl ⟨_, rfl, rfl⟩)) rfl k
        obtain ⟨J1, e1, hS1⟩ := lc_addn hP hS hp kc
        subst e1
        have k : nt_rn X _ 49 (96, [(2, .int (nI j)), (4, .int (b)), (3, .int (a)), (1, .int (w)), (0, .ref RR)], [], me_w M J1) _ := k
        have k := lz_rv rfl rfl k
        refine ⟨1, .inr (z.1, z.2.1, lb_ew z.2.2 w), _, k, Or.inl ⟨Classical.byContradiction (fun hh => absurd (lb_op_lt hh) (by omega)), rfl⟩, ?_, hp⟩
        dsimp only
        rw [lb_ew1]
        exact hS1
      · rw [if_neg (show ¬ ((Int32.ofInt 400) ≤ (nI j)) from show ¬ nI 400 ≤ nI j from nI_ge (Nat.not_le.mp h12) (by omega))] at k
        have k := ly_revb 1 (c' := (16, [(2, .int (nI j)), (4, .int (b)), (3, .int (a)), (1, .int (w)), (0, .ref RR)], [.ref RR], me_w M J)) rfl k
        obtain ⟨d1, o1, ed, kc, k⟩ := lz_c (g := 56) (q := 1) (vs := [.ref RR]) (rest := []) rfl rfl (by decide) (Or.inr (Or.inl ⟨_, rfl, rfl⟩)) rfl k
        have e1 := lc_opAt hP hS hp kc
        subst e1
        have hop := lb_op_in (lb_g f t z.1)
        have k : nt_rn X _ 49 (19, [(2, .int (nI j)), (4, .int (b)), (3, .int (a)), (1, .int (w)), (0, .ref RR)], [.int (lb_op (lb_g f t z.1))], me_w M J) _ := k
        have k := ly_revb 4 (c' := (if (lb_op (lb_g f t z.1)) = (Int32.ofInt (-1)) then 25 else 28, [(3, .int (lb_op (lb_g f t z.1))), (2, .int (nI j)), (4, .int (b)), (1, .int (w)), (0, .ref RR)], [], me_w M J)) rfl k
        by_cases h22 : lb_op (lb_g f t z.1) = Int32.ofInt (-1)
        · rw [if_pos (show (lb_op (lb_g f t z.1)) = (Int32.ofInt (-1)) from h22)] at k
          have k := ly_revb 3 (c' := (93, [(3, .int (lb_op (lb_g f t z.1))), (2, .int (nI j)), (4, .int (b)), (1, .int (w)), (0, .ref RR)], [.int (w), .ref RR], me_w M J)) rfl k
          obtain ⟨d1, o1, ed, kc, k⟩ := lz_c (g := 57) (q := 1) (vs := [.ref RR, .int (w)]) (rest := []) rfl rfl (by decide) (Or.inr (Or.inl ⟨_, rfl, rfl⟩)) rfl k
          obtain ⟨J1, e1, hS1⟩ := lc_addn hP hS hp kc
          subst e1
          have k : nt_rn X _ 49 (96, [(3, .int (lb_op (lb_g f t z.1))), (2, .int (nI j)), (4, .int (b)), (1, .int (w)), (0, .ref RR)], [], me_w M J1) _ := k
          have k := lz_rv rfl rfl k
          refine ⟨1, .inr (z.1, z.2.1, lb_ew z.2.2 w), _, k, Or.inl ⟨h22, rfl⟩, ?_, hp⟩
          dsimp only
          rw [lb_ew1]
          exact hS1
        · rw [if_neg (show ¬ ((lb_op (lb_g f t z.1)) = (Int32.ofInt (-1))) from h22)] at k
          have k := ly_revb 3 (c' := (if (lb_op (lb_g f t z.1)) = (Int32.ofInt 12) then 40 else 34, [(3, .int (lb_op (lb_g f t z.1))), (2, .int (nI j)), (4, .int (b)), (1, .int (w)), (0, .ref RR)], [], me_w M J)) rfl k
          by_cases h31 : (lb_op (lb_g f t z.1)) = (Int32.ofInt 12)
          · rw [if_pos (show (lb_op (lb_g f t z.1)) = (Int32.ofInt 12) from h31)] at k
            have k := ly_revb 5 (c' := (if (Int32.ofInt 1) = 0 then 52 else 59, [(4, .int (Int32.ofInt 1)), (3, .int (lb_op (lb_g f t z.1))), (2, .int (nI j)), (1, .int (w)), (0, .ref RR)], [], me_w M J)) rfl k
            rw [if_neg (show ¬ ((Int32.ofInt 1) = 0) from by decide)] at k
            have k := ly_revb 1 (c' := (60, [(4, .int (Int32.ofInt 1)), (3, .int (lb_op (lb_g f t z.1))), (2, .int (nI j)), (1, .int (w)), (0, .ref RR)], [.ref RR], me_w M J)) rfl k
            have k := lz_get (a := RR) (g := 500) (M := me_w M J) (v := .ref Rd) rfl (nt_gfR rfl hP.1.2.2.1) k
            have k := ly_revb 1 (c' := (64, [(4, .int (Int32.ofInt 1)), (3, .int (lb_op (lb_g f t z.1))), (2, .int (nI j)), (1, .int (w)), (0, .ref RR)], [.int (Int32.ofInt 1), .ref Rd], me_w M J)) rfl k
            obtain ⟨d1, o1, ed, kc, k⟩ := lz_c (g := 29) (q := 1) (vs := [.ref Rd, .int (Int32.ofInt 1)]) (rest := []) rfl rfl (by decide) (Or.inr (Or.inl ⟨_, rfl, rfl⟩)) rfl k
            have hlt := lb_op_lt h22
            have e1 := lc_skip (b := 1) hP hS hp (by first | omega | decide | (have := lb_W_len (a := lb_wd w); omega)) kc
            rw [Nat.min_eq_left (hlt)] at e1
            subst e1
            have hS1 := lc_Spp (q := lb_s f t (z.1 + 1)) hP hS
            have hp1 : lb_s f t (z.1 + 1) ≤ t := (lb_s_le (t - (z.1 + 1)) (z.1 + 1) (by have := (hlt); omega)).2
            have k : nt_rn X _ 49 (67, [(4, .int (Int32.ofInt 1)), (3, .int (lb_op (lb_g f t z.1))), (2, .int (nI j)), (1, .int (w)), (0, .ref RR)], [], me_w M (nt_u J Rd 1 (nI (lb_s f t (z.1 + 1))))) _ := k
            have k := ly_revb 1 (c' := (68, [(4, .int (Int32.ofInt 1)), (3, .int (lb_op (lb_g f t z.1))), (2, .int (nI j)), (1, .int (w)), (0, .ref RR)], [.ref RR], me_w M (nt_u J Rd 1 (nI (lb_s f t (z.1 + 1)))))) rfl k
            obtain ⟨d1, o1, ed, kc, k⟩ := lz_c (g := 50) (q := 1) (vs := [.ref RR]) (rest := []) rfl rfl (by decide) (Or.inr (Or.inl ⟨_, rfl, rfl⟩)) rfl k
            obtain ⟨r1, J8, e1, hv, hq⟩ := lc_readValue (e := z.2.2) hP hS1 hp1 kc
            subst e1
            cases r1 with
            | inl c =>
              obtain ⟨hfa, m8, s8, hS8⟩ := hq
              have k : nt_rn X _ 49 (71, [(4, .int (Int32.ofInt 1)), (3, .int (lb_op (lb_g f t z.1))), (2, .int (nI j)), (1, .int (w)), (0, .ref RR)], [], me_w M J8) _ := k
              have k := ly_revb 3 (c' := (if (Int32.ofInt 1) = 0 then 81 else 77, [(4, .int (Int32.ofInt 1)), (3, .int (lb_op (lb_g f t z.1))), (2, .int (nI j)), (1, .int (w)), (0, .ref RR)], [.ref RR], me_w M J8)) rfl k
              rw [if_neg (show ¬ ((Int32.ofInt 1) = 0) from by decide)] at k
              have k := ly_revb 2 (c' := (82, [(4, .int (Int32.ofInt 1)), (3, .int (lb_op (lb_g f t z.1))), (2, .int (nI j)), (1, .int (w)), (0, .ref RR)], [.int (lb_op (lb_g f t z.1)), .ref RR], me_w M J8)) rfl k
              obtain ⟨d1, o1, ed, kc, k⟩ := lz_c (g := 57) (q := 1) (vs := [.ref RR, .int (lb_op (lb_g f t z.1))]) (rest := []) rfl rfl (by decide) (Or.inr (Or.inl ⟨_, rfl, rfl⟩)) rfl k
              obtain ⟨J2, e1, hS2⟩ := lc_addn hP hS8 (Nat.le_refl t) kc
              subst e1
              have k : nt_rn X _ 49 (85, [(4, .int (Int32.ofInt 1)), (3, .int (lb_op (lb_g f t z.1))), (2, .int (nI j)), (1, .int (w)), (0, .ref RR)], [], me_w M J2) _ := k
              have k := ly_revb 1 (c' := (88, [(2, .int ((nI j) + Int32.ofInt 1)), (4, .int (Int32.ofInt 1)), (3, .int (lb_op (lb_g f t z.1))), (1, .int (w)), (0, .ref RR)], [], me_w M J2)) rfl k
              rw [show ((nI j) + Int32.ofInt 1 : Int32) = nI (j + 1) from me_add (k := 1)] at k
              have k := ly_revb 1 (c' := (8, [(2, .int (nI (j + 1))), (4, .int (Int32.ofInt 1)), (3, .int (lb_op (lb_g f t z.1))), (1, .int (w)), (0, .ref RR)], [], me_w M J2)) rfl k
              have k := ly_revb 3 (c' := (if (Int32.ofInt 400) ≤ (nI (j + 1)) then 91 else 15, [(2, .int (nI (j + 1))), (4, .int (Int32.ofInt 1)), (3, .int (lb_op (lb_g f t z.1))), (1, .int (w)), (0, .ref RR)], [], me_w M J2)) rfl k
              by_cases h12' : 400 ≤ (j + 1)
              · rw [if_pos (show (Int32.ofInt 400) ≤ (nI (j + 1)) from show nI 400 ≤ nI ((j + 1)) from nI_le h12' (by omega))] at k
                have k := ly_revb 2 (c' := (93, [(2, .int (nI (j + 1))), (4, .int (Int32.ofInt 1)), (3, .int (lb_op (lb_g f t z.1))), (1, .int (w)), (0, .ref RR)], [.int (w), .ref RR], me_w M J2)) rfl k
                obtain ⟨d1, o1, ed, kc, k⟩ := lz_c (g := 57) (q := 1) (vs := [.ref RR, .int (w)]) (rest := []) rfl rfl (by decide) (Or.inr (Or.inl ⟨_, rfl, rfl⟩)) rfl k
                obtain ⟨J3, e1, hS3⟩ := lc_addn hP hS2 (Nat.le_refl t) kc
                subst e1
                have k : nt_rn X _ 49 (96, [(2, .int (nI (j + 1))), (4, .int (Int32.ofInt 1)), (3, .int (lb_op (lb_g f t z.1))), (1, .int (w)), (0, .ref RR)], [], me_w M J3) _ := k
                have k := lz_rv rfl rfl k
                exact ⟨1, .inl c, _, k, Or.inr (Or.inl ⟨Or.inl h31, _, hv, Or.inl ⟨c, rfl, rfl⟩⟩), hfa, _, _, hS3⟩
              · rw [if_neg (show ¬ ((Int32.ofInt 400) ≤ (nI (j + 1))) from show ¬ nI 400 ≤ nI ((j + 1)) from nI_ge (Nat.not_le.mp h12') (by omega))] at k
                have k := ly_revb 1 (c' := (16, [(2, .int (nI (j + 1))), (4, .int (Int32.ofInt 1)), (3, .int (lb_op (lb_g f t z.1))), (1, .int (w)), (0, .ref RR)], [.ref RR], me_w M J2)) rfl k
                obtain ⟨d1, o1, ed, kc, k⟩ := lz_c (g := 56) (q := 1) (vs := [.ref RR]) (rest := []) rfl rfl (by decide) (Or.inr (Or.inl ⟨_, rfl, rfl⟩)) rfl k
                have e1 := lc_opAt hP hS2 (Nat.le_refl t) kc
                subst e1
                have hop := lb_op_in (lb_g f t t)
                have k : nt_rn X _ 49 (19, [(2, .int (nI (j + 1))), (4, .int (Int32.ofInt 1)), (3, .int (lb_op (lb_g f t z.1))), (1, .int (w)), (0, .ref RR)], [.int (lb_op (lb_g f t t))], me_w M J2) _ := k
                have he : lb_op (lb_g f t t) = Int32.ofInt (-1) := by
                  unfold lb_g
                  rw [if_neg (by omega)]
                  decide
                have k := ly_revb 4 (c' := (if (lb_op (lb_g f t t)) = (Int32.ofInt (-1)) then 25 else 28, [(3, .int (lb_op (lb_g f t t))), (2, .int (nI (j + 1))), (4, .int (Int32.ofInt 1)), (1, .int (w)), (0, .ref RR)], [], me_w M J2)) rfl k
                rw [if_pos (show (lb_op (lb_g f t t)) = (Int32.ofInt (-1)) from he)] at k
                have k := ly_revb 3 (c' := (93, [(3, .int (lb_op (lb_g f t t))), (2, .int (nI (j + 1))), (4, .int (Int32.ofInt 1)), (1, .int (w)), (0, .ref RR)], [.int (w), .ref RR], me_w M J2)) rfl k
                obtain ⟨d1, o1, ed, kc, k⟩ := lz_c (g := 57) (q := 1) (vs := [.ref RR, .int (w)]) (rest := []) rfl rfl (by decide) (Or.inr (Or.inl ⟨_, rfl, rfl⟩)) rfl k
                obtain ⟨J3, e1, hS3⟩ := lc_addn hP hS2 (Nat.le_refl t) kc
                subst e1
                have k : nt_rn X _ 49 (96, [(3, .int (lb_op (lb_g f t t))), (2, .int (nI (j + 1))), (4, .int (Int32.ofInt 1)), (1, .int (w)), (0, .ref RR)], [], me_w M J3) _ := k
                have k := lz_rv rfl rfl k
                exact ⟨1, .inl c, _, k, Or.inr (Or.inl ⟨Or.inl h31, _, hv, Or.inl ⟨c, rfl, rfl⟩⟩), hfa, _, _, hS3⟩
            | inr z1 =>
              obtain ⟨hS9, hp9⟩ := hq
              have hup := lb_val_up hp1 hv
              have k : nt_rn X _ 49 (71, [(4, .int (Int32.ofInt 1)), (3, .int (lb_op (lb_g f t z.1))), (2, .int (nI j)), (1, .int (w)), (0, .ref RR)], [], me_w M J8) _ := k
              have k := ly_revb 3 (c' := (if (Int32.ofInt 1) = 0 then 81 else 77, [(4, .int (Int32.ofInt 1)), (3, .int (lb_op (lb_g f t z.1))), (2, .int (nI j)), (1, .int (w)), (0, .ref RR)], [.ref RR], me_w M J8)) rfl k
              rw [if_neg (show ¬ ((Int32.ofInt 1) = 0) from by decide)] at k
              have k := ly_revb 2 (c' := (82, [(4, .int (Int32.ofInt 1)), (3, .int (lb_op (lb_g f t z.1))), (2, .int (nI j)), (1, .int (w)), (0, .ref RR)], [.int (lb_op (lb_g f t z.1)), .ref RR], me_w M J8)) rfl k
              obtain ⟨d1, o1, ed, kc, k⟩ := lz_c (g := 57) (q := 1) (vs := [.ref RR, .int (lb_op (lb_g f t z.1))]) (rest := []) rfl rfl (by decide) (Or.inr (Or.inl ⟨_, rfl, rfl⟩)) rfl k
              obtain ⟨J2, e1, hS2⟩ := lc_addn hP hS9 hp9 kc
              subst e1
              have k : nt_rn X _ 49 (85, [(4, .int (Int32.ofInt 1)), (3, .int (lb_op (lb_g f t z.1))), (2, .int (nI j)), (1, .int (w)), (0, .ref RR)], [], me_w M J2) _ := k
              have k := ly_revb 1 (c' := (88, [(2, .int ((nI j) + Int32.ofInt 1)), (4, .int (Int32.ofInt 1)), (3, .int (lb_op (lb_g f t z.1))), (1, .int (w)), (0, .ref RR)], [], me_w M J2)) rfl k
              rw [show ((nI j) + Int32.ofInt 1 : Int32) = nI (j + 1) from me_add (k := 1)] at k
              have k := ly_revb 1 (c' := (8, [(2, .int (nI (j + 1))), (4, .int (Int32.ofInt 1)), (3, .int (lb_op (lb_g f t z.1))), (1, .int (w)), (0, .ref RR)], [], me_w M J2)) rfl k
              have hsl := lb_s_le (f := f) (t := t) (t - (z.1 + 1)) (z.1 + 1) (by omega)
              dsimp only at hup
              obtain ⟨k1, r1, J7, e2, hsr, hq⟩ := ih (t - z1.1) (by omega) (j + 1) w (z1.1, z1.2.1, lb_ew z1.2.2 (lb_op (lb_g f t z.1))) _ _ rfl hp9 (by dsimp only; omega) (Or.inr (Or.inr ⟨_, _, rfl⟩)) (by dsimp only; rw [lb_ew1]; exact hS2) k
              exact ⟨k1 + 1, r1, J7, e2, Or.inr (Or.inl ⟨Or.inl h31, _, hv, Or.inr ⟨z1, rfl, hsr⟩⟩), hq⟩
          · rw [if_neg (show ¬ ((lb_op (lb_g f t z.1)) = (Int32.ofInt 12)) from h31)] at k
            have k := ly_revb 3 (c' := (if (lb_op (lb_g f t z.1)) = (Int32.ofInt 13) then 40 else 44, [(3, .int (lb_op (lb_g f t z.1))), (2, .int (nI j)), (4, .int (b)), (1, .int (w)), (0, .ref RR)], [], me_w M J)) rfl k
            by_cases h37 : (lb_op (lb_g f t z.1)) = (Int32.ofInt 13)
            · rw [if_pos (show (lb_op (lb_g f t z.1)) = (Int32.ofInt 13) from h37)] at k
              have k := ly_revb 5 (c' := (if (Int32.ofInt 1) = 0 then 52 else 59, [(4, .int (Int32.ofInt 1)), (3, .int (lb_op (lb_g f t z.1))), (2, .int (nI j)), (1, .int (w)), (0, .ref RR)], [], me_w M J)) rfl k
              rw [if_neg (show ¬ ((Int32.ofInt 1) = 0) from by decide)] at k
              have k := ly_revb 1 (c' := (60, [(4, .int (Int32.ofInt 1)), (3, .int (lb_op (lb_g f t z.1))), (2, .int (nI j)), (1, .int (w)), (0, .ref RR)], [.ref RR], me_w M J)) rfl k
              have k := lz_get (a := RR) (g := 500) (M := me_w M J) (v := .ref Rd) rfl (nt_gfR rfl hP.1.2.2.1) k
              have k := ly_revb 1 (c' := (64, [(4, .int (Int32.ofInt 1)), (3, .int (lb_op (lb_g f t z.1))), (2, .int (nI j)), (1, .int (w)), (0, .ref RR)], [.int (Int32.ofInt 1), .ref Rd], me_w M J)) rfl k
              obtain ⟨d1, o1, ed, kc, k⟩ := lz_c (g := 29) (q := 1) (vs := [.ref Rd, .int (Int32.ofInt 1)]) (rest := []) rfl rfl (by decide) (Or.inr (Or.inl ⟨_, rfl, rfl⟩)) rfl k
              have hlt := lb_op_lt h22
              have e1 := lc_skip (b := 1) hP hS hp (by first | omega | decide | (have := lb_W_len (a := lb_wd w); omega)) kc
              rw [Nat.min_eq_left (hlt)] at e1
              subst e1
              have hS1 := lc_Spp (q := lb_s f t (z.1 + 1)) hP hS
              have hp1 : lb_s f t (z.1 + 1) ≤ t := (lb_s_le (t - (z.1 + 1)) (z.1 + 1) (by have := (hlt); omega)).2
              have k : nt_rn X _ 49 (67, [(4, .int (Int32.ofInt 1)), (3, .int (lb_op (lb_g f t z.1))), (2, .int (nI j)), (1, .int (w)), (0, .ref RR)], [], me_w M (nt_u J Rd 1 (nI (lb_s f t (z.1 + 1))))) _ := k
              have k := ly_revb 1 (c' := (68, [(4, .int (Int32.ofInt 1)), (3, .int (lb_op (lb_g f t z.1))), (2, .int (nI j)), (1, .int (w)), (0, .ref RR)], [.ref RR], me_w M (nt_u J Rd 1 (nI (lb_s f t (z.1 + 1)))))) rfl k
              obtain ⟨d1, o1, ed, kc, k⟩ := lz_c (g := 50) (q := 1) (vs := [.ref RR]) (rest := []) rfl rfl (by decide) (Or.inr (Or.inl ⟨_, rfl, rfl⟩)) rfl k
              obtain ⟨r1, J8, e1, hv, hq⟩ := lc_readValue (e := z.2.2) hP hS1 hp1 kc
              subst e1
              cases r1 with
              | inl c =>
                obtain ⟨hfa, m8, s8, hS8⟩ := hq
                have k : nt_rn X _ 49 (71, [(4, .int (Int32.ofInt 1)), (3, .int (lb_op (lb_g f t z.1))), (2, .int (nI j)), (1, .int (w)), (0, .ref RR)], [], me_w M J8) _ := k
                have k := ly_revb 3 (c' := (if (Int32.ofInt 1) = 0 then 81 else 77, [(4, .int (Int32.ofInt 1)), (3, .int (lb_op (lb_g f t z.1))), (2, .int (nI j)), (1, .int (w)), (0, .ref RR)], [.ref RR], me_w M J8)) rfl k
                rw [if_neg (show ¬ ((Int32.ofInt 1) = 0) from by decide)] at k
                have k := ly_revb 2 (c' := (82, [(4, .int (Int32.ofInt 1)), (3, .int (lb_op (lb_g f t z.1))), (2, .int (nI j)), (1, .int (w)), (0, .ref RR)], [.int (lb_op (lb_g f t z.1)), .ref RR], me_w M J8)) rfl k
                obtain ⟨d1, o1, ed, kc, k⟩ := lz_c (g := 57) (q := 1) (vs := [.ref RR, .int (lb_op (lb_g f t z.1))]) (rest := []) rfl rfl (by decide) (Or.inr (Or.inl ⟨_, rfl, rfl⟩)) rfl k
                obtain ⟨J2, e1, hS2⟩ := lc_addn hP hS8 (Nat.le_refl t) kc
                subst e1
                have k : nt_rn X _ 49 (85, [(4, .int (Int32.ofInt 1)), (3, .int (lb_op (lb_g f t z.1))), (2, .int (nI j)), (1, .int (w)), (0, .ref RR)], [], me_w M J2) _ := k
                have k := ly_revb 1 (c' := (88, [(2, .int ((nI j) + Int32.ofInt 1)), (4, .int (Int32.ofInt 1)), (3, .int (lb_op (lb_g f t z.1))), (1, .int (w)), (0, .ref RR)], [], me_w M J2)) rfl k
                rw [show ((nI j) + Int32.ofInt 1 : Int32) = nI (j + 1) from me_add (k := 1)] at k
                have k := ly_revb 1 (c' := (8, [(2, .int (nI (j + 1))), (4, .int (Int32.ofInt 1)), (3, .int (lb_op (lb_g f t z.1))), (1, .int (w)), (0, .ref RR)], [], me_w M J2)) rfl k
                have k := ly_revb 3 (c' := (if (Int32.ofInt 400) ≤ (nI (j + 1)) then 91 else 15, [(2, .int (nI (j + 1))), (4, .int (Int32.ofInt 1)), (3, .int (lb_op (lb_g f t z.1))), (1, .int (w)), (0, .ref RR)], [], me_w M J2)) rfl k
                by_cases h12' : 400 ≤ (j + 1)
                · rw [if_pos (show (Int32.ofInt 400) ≤ (nI (j + 1)) from show nI 400 ≤ nI ((j + 1)) from nI_le h12' (by omega))] at k
                  have k := ly_revb 2 (c' := (93, [(2, .int (nI (j + 1))), (4, .int (Int32.ofInt 1)), (3, .int (lb_op (lb_g f t z.1))), (1, .int (w)), (0, .ref RR)], [.int (w), .ref RR], me_w M J2)) rfl k
                  obtain ⟨d1, o1, ed, kc, k⟩ := lz_c (g := 57) (q := 1) (vs := [.ref RR, .int (w)]) (rest := []) rfl rfl (by decide) (Or.inr (Or.inl ⟨_, rfl, rfl⟩)) rfl k
                  obtain ⟨J3, e1, hS3⟩ := lc_addn hP hS2 (Nat.le_refl t) kc
                  subst e1
                  have k : nt_rn X _ 49 (96, [(2, .int (nI (j + 1))), (4, .int (Int32.ofInt 1)), (3, .int (lb_op (lb_g f t z.1))), (1, .int (w)), (0, .ref RR)], [], me_w M J3) _ := k
                  have k := lz_rv rfl rfl k
                  exact ⟨1, .inl c, _, k, Or.inr (Or.inl ⟨Or.inr h37, _, hv, Or.inl ⟨c, rfl, rfl⟩⟩), hfa, _, _, hS3⟩
                · rw [if_neg (show ¬ ((Int32.ofInt 400) ≤ (nI (j + 1))) from show ¬ nI 400 ≤ nI ((j + 1)) from nI_ge (Nat.not_le.mp h12') (by omega))] at k
                  have k := ly_revb 1 (c' := (16, [(2, .int (nI (j + 1))), (4, .int (Int32.ofInt 1)), (3, .int (lb_op (lb_g f t z.1))), (1, .int (w)), (0, .ref RR)], [.ref RR], me_w M J2)) rfl k
                  obtain ⟨d1, o1, ed, kc, k⟩ := lz_c (g := 56) (q := 1) (vs := [.ref RR]) (rest := []) rfl rfl (by decide) (Or.inr (Or.inl ⟨_, rfl, rfl⟩)) rfl k
                  have e1 := lc_opAt hP hS2 (Nat.le_refl t) kc
                  subst e1
                  have hop := lb_op_in (lb_g f t t)
                  have k : nt_rn X _ 49 (19, [(2, .int (nI (j + 1))), (4, .int (Int32.ofInt 1)), (3, .int (lb_op (lb_g f t z.1))), (1, .int (w)), (0, .ref RR)], [.int (lb_op (lb_g f t t))], me_w M J2) _ := k
                  have he : lb_op (lb_g f t t) = Int32.ofInt (-1) := by
                    unfold lb_g
                    rw [if_neg (by omega)]
                    decide
                  have k := ly_revb 4 (c' := (if (lb_op (lb_g f t t)) = (Int32.ofInt (-1)) then 25 else 28, [(3, .int (lb_op (lb_g f t t))), (2, .int (nI (j + 1))), (4, .int (Int32.ofInt 1)), (1, .int (w)), (0, .ref RR)], [], me_w M J2)) rfl k
                  rw [if_pos (show (lb_op (lb_g f t t)) = (Int32.ofInt (-1)) from he)] at k
                  have k := ly_revb 3 (c' := (93, [(3, .int (lb_op (lb_g f t t))), (2, .int (nI (j + 1))), (4, .int (Int32.ofInt 1)), (1, .int (w)), (0, .ref RR)], [.int (w), .ref RR], me_w M J2)) rfl k
                  obtain ⟨d1, o1, ed, kc, k⟩ := lz_c (g := 57) (q := 1) (vs := [.ref RR, .int (w)]) (rest := []) rfl rfl (by decide) (Or.inr (Or.inl ⟨_, rfl, rfl⟩)) rfl k
                  obtain ⟨J3, e1, hS3⟩ := lc_addn hP hS2 (Nat.le_refl t) kc
                  subst e1
                  have k : nt_rn X _ 49 (96, [(3, .int (lb_op (lb_g f t t))), (2, .int (nI (j + 1))), (4, .int (Int32.ofInt 1)), (1, .int (w)), (0, .ref RR)], [], me_w M J3) _ := k
                  have k := lz_rv rfl rfl k
                  exact ⟨1, .inl c, _, k, Or.inr (Or.inl ⟨Or.inr h37, _, hv, Or.inl ⟨c, rfl, rfl⟩⟩), hfa, _, _, hS3⟩
              | inr z1 =>
                obtain ⟨hS9, hp9⟩ := hq
                have hup := lb_val_up hp1 hv
                have k : nt_rn X _ 49 (71, [(4, .int (Int32.ofInt 1)), (3, .int (lb_op (lb_g f t z.1))), (2, .int (nI j)), (1, .int (w)), (0, .ref RR)], [], me_w M J8) _ := k
                have k := ly_revb 3 (c' := (if (Int32.ofInt 1) = 0 then 81 else 77, [(4, .int (Int32.ofInt 1)), (3, .int (lb_op (lb_g f t z.1))), (2, .int (nI j)), (1, .int (w)), (0, .ref RR)], [.ref RR], me_w M J8)) rfl k
                rw [if_neg (show ¬ ((Int32.ofInt 1) = 0) from by decide)] at k
                have k := ly_revb 2 (c' := (82, [(4, .int (Int32.ofInt 1)), (3, .int (lb_op (lb_g f t z.1))), (2, .int (nI j)), (1, .int (w)), (0, .ref RR)], [.int (lb_op (lb_g f t z.1)), .ref RR], me_w M J8)) rfl k
                obtain ⟨d1, o1, ed, kc, k⟩ := lz_c (g := 57) (q := 1) (vs := [.ref RR, .int (lb_op (lb_g f t z.1))]) (rest := []) rfl rfl (by decide) (Or.inr (Or.inl ⟨_, rfl, rfl⟩)) rfl k
                obtain ⟨J2, e1, hS2⟩ := lc_addn hP hS9 hp9 kc
                subst e1
                have k : nt_rn X _ 49 (85, [(4, .int (Int32.ofInt 1)), (3, .int (lb_op (lb_g f t z.1))), (2, .int (nI j)), (1, .int (w)), (0, .ref RR)], [], me_w M J2) _ := k
                have k := ly_revb 1 (c' := (88, [(2, .int ((nI j) + Int32.ofInt 1)), (4, .int (Int32.ofInt 1)), (3, .int (lb_op (lb_g f t z.1))), (1, .int (w)), (0, .ref RR)], [], me_w M J2)) rfl k
                rw [show ((nI j) + Int32.ofInt 1 : Int32) = nI (j + 1) from me_add (k := 1)] at k
                have k := ly_revb 1 (c' := (8, [(2, .int (nI (j + 1))), (4, .int (Int32.ofInt 1)), (3, .int (lb_op (lb_g f t z.1))), (1, .int (w)), (0, .ref RR)], [], me_w M J2)) rfl k
                have hsl := lb_s_le (f := f) (t := t) (t - (z.1 + 1)) (z.1 + 1) (by omega)
                dsimp only at hup
                obtain ⟨k1, r1, J7, e2, hsr, hq⟩ := ih (t - z1.1) (by omega) (j + 1) w (z1.1, z1.2.1, lb_ew z1.2.2 (lb_op (lb_g f t z.1))) _ _ rfl hp9 (by dsimp only; omega) (Or.inr (Or.inr ⟨_, _, rfl⟩)) (by dsimp only; rw [lb_ew1]; exact hS2) k
                exact ⟨k1 + 1, r1, J7, e2, Or.inr (Or.inl ⟨Or.inr h37, _, hv, Or.inr ⟨z1, rfl, hsr⟩⟩), hq⟩
            · rw [if_neg (show ¬ ((lb_op (lb_g f t z.1)) = (Int32.ofInt 13)) from h37)] at k
              have hadd : lb_op (lb_g f t z.1) = Int32.ofInt 10 ∨ lb_op (lb_g f t z.1) = Int32.ofInt 11 := by
                rcases hop with h | h | h | h | h
                · exact Or.inl h
                · exact Or.inr h
                · exact absurd h h31
                · exact absurd h h37
                · exact absurd h h22
              have k := ly_revb 4 (c' := (if (Int32.ofInt 0) = 0 then 52 else 59, [(4, .int (Int32.ofInt 0)), (3, .int (lb_op (lb_g f t z.1))), (2, .int (nI j)), (1, .int (w)), (0, .ref RR)], [], me_w M J)) rfl k
              rw [if_pos (show (Int32.ofInt 0) = 0 from by decide)] at k
              have k := ly_revb 2 (c' := (54, [(4, .int (Int32.ofInt 0)), (3, .int (lb_op (lb_g f t z.1))), (2, .int (nI j)), (1, .int (w)), (0, .ref RR)], [.int (w), .ref RR], me_w M J)) rfl k
              obtain ⟨d1, o1, ed, kc, k⟩ := lz_c (g := 57) (q := 1) (vs := [.ref RR, .int (w)]) (rest := []) rfl rfl (by decide) (Or.inr (Or.inl ⟨_, rfl, rfl⟩)) rfl k
              obtain ⟨J1, e1, hS1⟩ := lc_addn hP hS hp kc
              subst e1
              have k : nt_rn X _ 49 (57, [(4, .int (Int32.ofInt 0)), (3, .int (lb_op (lb_g f t z.1))), (2, .int (nI j)), (1, .int (w)), (0, .ref RR)], [], me_w M J1) _ := k
              have k := ly_revb 3 (c' := (60, [(1, .int (lb_op (lb_g f t z.1))), (4, .int (Int32.ofInt 0)), (3, .int (lb_op (lb_g f t z.1))), (2, .int (nI j)), (0, .ref RR)], [.ref RR], me_w M J1)) rfl k
              have k := lz_get (a := RR) (g := 500) (M := me_w M J1) (v := .ref Rd) rfl (nt_gfR rfl hP.1.2.2.1) k
              have k := ly_revb 1 (c' := (64, [(1, .int (lb_op (lb_g f t z.1))), (4, .int (Int32.ofInt 0)), (3, .int (lb_op (lb_g f t z.1))), (2, .int (nI j)), (0, .ref RR)], [.int (Int32.ofInt 1), .ref Rd], me_w M J1)) rfl k
              obtain ⟨d1, o1, ed, kc, k⟩ := lz_c (g := 29) (q := 1) (vs := [.ref Rd, .int (Int32.ofInt 1)]) (rest := []) rfl rfl (by decide) (Or.inr (Or.inl ⟨_, rfl, rfl⟩)) rfl k
              have hlt := lb_op_lt h22
              have e1 := lc_skip (b := 1) hP hS1 hp (by first | omega | decide | (have := lb_W_len (a := lb_wd w); omega)) kc
              rw [Nat.min_eq_left (hlt)] at e1
              subst e1
              have hS2 := lc_Spp (q := lb_s f t (z.1 + 1)) hP hS1
              have hp2 : lb_s f t (z.1 + 1) ≤ t := (lb_s_le (t - (z.1 + 1)) (z.1 + 1) (by have := (hlt); omega)).2
              have k : nt_rn X _ 49 (67, [(1, .int (lb_op (lb_g f t z.1))), (4, .int (Int32.ofInt 0)), (3, .int (lb_op (lb_g f t z.1))), (2, .int (nI j)), (0, .ref RR)], [], me_w M (nt_u J1 Rd 1 (nI (lb_s f t (z.1 + 1))))) _ := k
              have k := ly_revb 1 (c' := (68, [(1, .int (lb_op (lb_g f t z.1))), (4, .int (Int32.ofInt 0)), (3, .int (lb_op (lb_g f t z.1))), (2, .int (nI j)), (0, .ref RR)], [.ref RR], me_w M (nt_u J1 Rd 1 (nI (lb_s f t (z.1 + 1)))))) rfl k
              obtain ⟨d1, o1, ed, kc, k⟩ := lz_c (g := 50) (q := 1) (vs := [.ref RR]) (rest := []) rfl rfl (by decide) (Or.inr (Or.inl ⟨_, rfl, rfl⟩)) rfl k
              obtain ⟨r1, J8, e1, hv, hq⟩ := lc_readValue (e := lb_ew z.2.2 w) hP (by rw [lb_ew1]; exact hS2) hp2 kc
              subst e1
              cases r1 with
              | inl c =>
                obtain ⟨hfa, m8, s8, hS8⟩ := hq
                have k : nt_rn X _ 49 (71, [(1, .int (lb_op (lb_g f t z.1))), (4, .int (Int32.ofInt 0)), (3, .int (lb_op (lb_g f t z.1))), (2, .int (nI j)), (0, .ref RR)], [], me_w M J8) _ := k
                have k := ly_revb 3 (c' := (if (Int32.ofInt 0) = 0 then 81 else 77, [(1, .int (lb_op (lb_g f t z.1))), (4, .int (Int32.ofInt 0)), (3, .int (lb_op (lb_g f t z.1))), (2, .int (nI j)), (0, .ref RR)], [.ref RR], me_w M J8)) rfl k
                rw [if_pos (show (Int32.ofInt 0) = 0 from by decide)] at k
                have k := ly_revb 1 (c' := (82, [(1, .int (lb_op (lb_g f t z.1))), (4, .int (Int32.ofInt 0)), (3, .int (lb_op (lb_g f t z.1))), (2, .int (nI j)), (0, .ref RR)], [.int (Int32.ofInt (-1)), .ref RR], me_w M J8)) rfl k
                obtain ⟨d1, o1, ed, kc, k⟩ := lz_c (g := 57) (q := 1) (vs := [.ref RR, .int (Int32.ofInt (-1))]) (rest := []) rfl rfl (by decide) (Or.inr (Or.inl ⟨_, rfl, rfl⟩)) rfl k
                obtain ⟨J3, e1, hS3⟩ := lc_addn hP hS8 (Nat.le_refl t) kc
                subst e1
                have k : nt_rn X _ 49 (85, [(1, .int (lb_op (lb_g f t z.1))), (4, .int (Int32.ofInt 0)), (3, .int (lb_op (lb_g f t z.1))), (2, .int (nI j)), (0, .ref RR)], [], me_w M J3) _ := k
                have k := ly_revb 1 (c' := (88, [(2, .int ((nI j) + Int32.ofInt 1)), (1, .int (lb_op (lb_g f t z.1))), (4, .int (Int32.ofInt 0)), (3, .int (lb_op (lb_g f t z.1))), (0, .ref RR)], [], me_w M J3)) rfl k
                rw [show ((nI j) + Int32.ofInt 1 : Int32) = nI (j + 1) from me_add (k := 1)] at k
                have k := ly_revb 1 (c' := (8, [(2, .int (nI (j + 1))), (1, .int (lb_op (lb_g f t z.1))), (4, .int (Int32.ofInt 0)), (3, .int (lb_op (lb_g f t z.1))), (0, .ref RR)], [], me_w M J3)) rfl k
                have k := ly_revb 3 (c' := (if (Int32.ofInt 400) ≤ (nI (j + 1)) then 91 else 15, [(2, .int (nI (j + 1))), (1, .int (lb_op (lb_g f t z.1))), (4, .int (Int32.ofInt 0)), (3, .int (lb_op (lb_g f t z.1))), (0, .ref RR)], [], me_w M J3)) rfl k
                by_cases h12' : 400 ≤ (j + 1)
                · rw [if_pos (show (Int32.ofInt 400) ≤ (nI (j + 1)) from show nI 400 ≤ nI ((j + 1)) from nI_le h12' (by omega))] at k
                  have k := ly_revb 2 (c' := (93, [(2, .int (nI (j + 1))), (1, .int (lb_op (lb_g f t z.1))), (4, .int (Int32.ofInt 0)), (3, .int (lb_op (lb_g f t z.1))), (0, .ref RR)], [.int (lb_op (lb_g f t z.1)), .ref RR], me_w M J3)) rfl k
                  obtain ⟨d1, o1, ed, kc, k⟩ := lz_c (g := 57) (q := 1) (vs := [.ref RR, .int (lb_op (lb_g f t z.1))]) (rest := []) rfl rfl (by decide) (Or.inr (Or.inl ⟨_, rfl, rfl⟩)) rfl k
                  obtain ⟨J4, e1, hS4⟩ := lc_addn hP hS3 (Nat.le_refl t) kc
                  subst e1
                  have k : nt_rn X _ 49 (96, [(2, .int (nI (j + 1))), (1, .int (lb_op (lb_g f t z.1))), (4, .int (Int32.ofInt 0)), (3, .int (lb_op (lb_g f t z.1))), (0, .ref RR)], [], me_w M J4) _ := k
                  have k := lz_rv rfl rfl k
                  exact ⟨1, .inl c, _, k, Or.inr (Or.inr ⟨hadd, _, hv, Or.inl ⟨c, rfl, rfl⟩⟩), hfa, _, _, hS4⟩
                · rw [if_neg (show ¬ ((Int32.ofInt 400) ≤ (nI (j + 1))) from show ¬ nI 400 ≤ nI ((j + 1)) from nI_ge (Nat.not_le.mp h12') (by omega))] at k
                  have k := ly_revb 1 (c' := (16, [(2, .int (nI (j + 1))), (1, .int (lb_op (lb_g f t z.1))), (4, .int (Int32.ofInt 0)), (3, .int (lb_op (lb_g f t z.1))), (0, .ref RR)], [.ref RR], me_w M J3)) rfl k
                  obtain ⟨d1, o1, ed, kc, k⟩ := lz_c (g := 56) (q := 1) (vs := [.ref RR]) (rest := []) rfl rfl (by decide) (Or.inr (Or.inl ⟨_, rfl, rfl⟩)) rfl k
                  have e1 := lc_opAt hP hS3 (Nat.le_refl t) kc
                  subst e1
                  have hop := lb_op_in (lb_g f t t)
                  have k : nt_rn X _ 49 (19, [(2, .int (nI (j + 1))), (1, .int (lb_op (lb_g f t z.1))), (4, .int (Int32.ofInt 0)), (3, .int (lb_op (lb_g f t z.1))), (0, .ref RR)], [.int (lb_op (lb_g f t t))], me_w M J3) _ := k
                  have he : lb_op (lb_g f t t) = Int32.ofInt (-1) := by
                    unfold lb_g
                    rw [if_neg (by omega)]
                    decide
                  have k := ly_revb 4 (c' := (if (lb_op (lb_g f t t)) = (Int32.ofInt (-1)) then 25 else 28, [(3, .int (lb_op (lb_g f t t))), (2, .int (nI (j + 1))), (1, .int (lb_op (lb_g f t z.1))), (4, .int (Int32.ofInt 0)), (0, .ref RR)], [], me_w M J3)) rfl k
                  rw [if_pos (show (lb_op (lb_g f t t)) = (Int32.ofInt (-1)) from he)] at k
                  have k := ly_revb 3 (c' := (93, [(3, .int (lb_op (lb_g f t t))), (2, .int (nI (j + 1))), (1, .int (lb_op (lb_g f t z.1))), (4, .int (Int32.ofInt 0)), (0, .ref RR)], [.int (lb_op (lb_g f t z.1)), .ref RR], me_w M J3)) rfl k
                  obtain ⟨d1, o1, ed, kc, k⟩ := lz_c (g := 57) (q := 1) (vs := [.ref RR, .int (lb_op (lb_g f t z.1))]) (rest := []) rfl rfl (by decide) (Or.inr (Or.inl ⟨_, rfl, rfl⟩)) rfl k
                  obtain ⟨J4, e1, hS4⟩ := lc_addn hP hS3 (Nat.le_refl t) kc
                  subst e1
                  have k : nt_rn X _ 49 (96, [(3, .int (lb_op (lb_g f t t))), (2, .int (nI (j + 1))), (1, .int (lb_op (lb_g f t z.1))), (4, .int (Int32.ofInt 0)), (0, .ref RR)], [], me_w M J4) _ := k
                  have k := lz_rv rfl rfl k
                  exact ⟨1, .inl c, _, k, Or.inr (Or.inr ⟨hadd, _, hv, Or.inl ⟨c, rfl, rfl⟩⟩), hfa, _, _, hS4⟩
              | inr z1 =>
                obtain ⟨hS9, hp9⟩ := hq
                have hup := lb_val_up hp2 hv
                have k : nt_rn X _ 49 (71, [(1, .int (lb_op (lb_g f t z.1))), (4, .int (Int32.ofInt 0)), (3, .int (lb_op (lb_g f t z.1))), (2, .int (nI j)), (0, .ref RR)], [], me_w M J8) _ := k
                have k := ly_revb 3 (c' := (if (Int32.ofInt 0) = 0 then 81 else 77, [(1, .int (lb_op (lb_g f t z.1))), (4, .int (Int32.ofInt 0)), (3, .int (lb_op (lb_g f t z.1))), (2, .int (nI j)), (0, .ref RR)], [.ref RR], me_w M J8)) rfl k
                rw [if_pos (show (Int32.ofInt 0) = 0 from by decide)] at k
                have k := ly_revb 1 (c' := (82, [(1, .int (lb_op (lb_g f t z.1))), (4, .int (Int32.ofInt 0)), (3, .int (lb_op (lb_g f t z.1))), (2, .int (nI j)), (0, .ref RR)], [.int (Int32.ofInt (-1)), .ref RR], me_w M J8)) rfl k
                obtain ⟨d1, o1, ed, kc, k⟩ := lz_c (g := 57) (q := 1) (vs := [.ref RR, .int (Int32.ofInt (-1))]) (rest := []) rfl rfl (by decide) (Or.inr (Or.inl ⟨_, rfl, rfl⟩)) rfl k
                obtain ⟨J3, e1, hS3⟩ := lc_addn hP hS9 hp9 kc
                subst e1
                have k : nt_rn X _ 49 (85, [(1, .int (lb_op (lb_g f t z.1))), (4, .int (Int32.ofInt 0)), (3, .int (lb_op (lb_g f t z.1))), (2, .int (nI j)), (0, .ref RR)], [], me_w M J3) _ := k
                have k := ly_revb 1 (c' := (88, [(2, .int ((nI j) + Int32.ofInt 1)), (1, .int (lb_op (lb_g f t z.1))), (4, .int (Int32.ofInt 0)), (3, .int (lb_op (lb_g f t z.1))), (0, .ref RR)], [], me_w M J3)) rfl k
                rw [show ((nI j) + Int32.ofInt 1 : Int32) = nI (j + 1) from me_add (k := 1)] at k
                have k := ly_revb 1 (c' := (8, [(2, .int (nI (j + 1))), (1, .int (lb_op (lb_g f t z.1))), (4, .int (Int32.ofInt 0)), (3, .int (lb_op (lb_g f t z.1))), (0, .ref RR)], [], me_w M J3)) rfl k
                have hsl := lb_s_le (f := f) (t := t) (t - (z.1 + 1)) (z.1 + 1) (by omega)
                dsimp only at hup
                obtain ⟨k1, r1, J7, e2, hsr, hq⟩ := ih (t - z1.1) (by omega) (j + 1) (lb_op (lb_g f t z.1)) z1 _ _ rfl hp9 (by omega) (Or.inr (Or.inl ⟨_, _, rfl⟩)) hS3 k
                exact ⟨k1 + 1, r1, J7, e2, Or.inr (Or.inr ⟨hadd, _, hv, Or.inr ⟨z1, rfl, hsr⟩⟩), hq⟩
