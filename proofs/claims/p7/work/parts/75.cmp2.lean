/-! a comparison's sign read -/
theorem lb_g_lt {f : Nat → Int32} {t p : Nat} (h : lb_g f t p ≠ Int32.ofInt (-1)) : p < t := by
  by_cases c : p < t
  · exact c
  · exact absurd (if_neg c) h
theorem lb_cm_1 {f : Nat → Int32} {t p : Nat} {x : Int32} (h : lb_cm f t p x) (hx : ¬ x = Int32.ofInt (-1)) : p + 1 ≤ t := by
  have q : lb_g f t p ≠ Int32.ofInt (-1) → p + 1 ≤ t := fun h => lb_g_lt h
  rcases h with h | h | h | h | h | h
  · exact q (by rw [h.1]; decide)
  · exact q (by rw [h.1]; decide)
  · exact q (by rw [h.1]; decide)
  · exact q (by rw [h.1]; decide)
  · exact q (by rw [h.1]; decide)
  · exact absurd h.2 hx
theorem lb_cm_2 {f : Nat → Int32} {t p : Nat} {x : Int32} (h : lb_cm f t p x) (hx : x = Int32.ofInt 15 ∨ x = Int32.ofInt 17) : p + 2 ≤ t := by
  rcases h with h | h | h | h | h | h
  · exact h.2.1.1
  · rcases hx with hx | hx <;> (rw [hx] at h; exact absurd h.2.2 (by decide))
  · rcases hx with hx | hx <;> (rw [hx] at h; exact absurd h.2 (by decide))
  · exact h.2.1.1
  · rcases hx with hx | hx <;> (rw [hx] at h; exact absurd h.2.2 (by decide))
  · rcases hx with hx | hx <;> (rw [hx] at h; exact absurd h.2 (by decide))
theorem lb_Wp : ∀ i, i < 18 → 0 < (lb_W (nt_sp + 1 + i)).length := by decide +kernel
theorem lb_at_t {f : Nat → Int32} {t i : Nat} (hi : i < 18) : ¬ lb_at f t (lb_W (nt_sp + 1 + i)) t := by
  intro h
  have a := h.1
  have b := lb_Wp i hi
  omega
def lb_cl (x : Int32) : Nat := if x = Int32.ofInt 15 then 2 else if x = Int32.ofInt 17 then 2 else 1
def lb_cp (f : Nat → Int32) (t : Nat) (z : lb_Z) (x : Int32) (r : lb_Y) : Prop := lb_cm f t z.1 x ∧ ((x = Int32.ofInt (-1) ∧ r = .inl (lb_c z.1 (Int32.ofInt 0))) ∨ (¬ x = Int32.ofInt (-1) ∧ z.2.1 = 60 ∧ r = .inl (lb_c z.1 (Int32.ofInt 3))) ∨ (¬ x = Int32.ofInt (-1) ∧ z.2.1 < 60 ∧ r = .inr (lb_s f t (z.1 + lb_cl x), z.2.1 + 1, z.2.2)))
theorem lc_readCmp {X : nt_X} {d t Rd Tp By RR Sp : Nat} {f : Nat → Int32} {M : nt_M} {J0 J : Nat → Nat → Int32} {o : Option Value × nt_M} {p m : Nat} {e : lb_E}  (hP : lc_P M J0 f t Rd Tp By RR Sp) (hS : lc_S J0 Rd RR Sp p 0 m e.1 J) (hp : p ≤ t) (k : nt_ev X d 60 [.ref RR] (me_w M J) o) : ∃ x r J', o = (some (.int x), me_w M J') ∧ lb_cp f t (p, m, e) x r ∧ lc_Q J0 Rd RR Sp t r J' := by
  have k : nt_rn X d 60 (0, [(0, .ref RR)], [], me_w M J) o := k
  have t4 : t ≤ 400 := hP.2.2.2.2.1
  have m6 : m ≤ 60 := hS.2.2.2.2.2.2.2
  have k := ly_revb 1 (c' := (1, [(0, .ref RR)], [.ref RR], me_w M J)) rfl k
  obtain ⟨d1, o1, ed, kc, k⟩ := lz_c (g := 61) (q := 1) (vs := [.ref RR]) (rest := []) rfl rfl (by decide) (Or.inr (Or.inl ⟨_, rfl, rfl⟩)) rfl k
  obtain ⟨x, e1, hcm⟩ := lc_cmpAt hP hS hp kc
  subst e1
  have k : nt_rn X _ 60 (4, [(0, .ref RR)], [.int (x)], me_w M J) _ := k
  have k := ly_revb 4 (c' := (if x = (Int32.ofInt (-1)) then 10 else 21, [(1, .int (x)), (0, .ref RR)], [], me_w M J)) rfl k
  by_cases h7 : x = Int32.ofInt (-1)
  · rw [if_pos (show x = (Int32.ofInt (-1)) from h7)] at k
    have k := ly_revb 1 (c' := (11, [(1, .int (x)), (0, .ref RR)], [.ref RR], me_w M J)) rfl k
    have k := lz_get (a := RR) (g := 500) (M := me_w M J) (v := .ref Rd) rfl (nt_gfR rfl hP.1.2.2.1) k
    have k := ly_revb 1 (c' := (15, [(1, .int (x)), (0, .ref RR)], [.int (Int32.ofInt 0), .ref Rd], me_w M J)) rfl k
    obtain ⟨d1, o1, ed, kc, k⟩ := lz_c (g := 31) (q := 1) (vs := [.ref Rd, .int (Int32.ofInt 0)]) (rest := []) rfl rfl (by decide) (Or.inr (Or.inl ⟨_, rfl, rfl⟩)) rfl k
    obtain ⟨hf, e1⟩ := (lc_fail hP hS hp kc).resolve_right (fun c => c.1 rfl)
    subst e1
    have hS1 := lc_Spp (q := t) hP (lc_Sf (fb := lb_c p (Int32.ofInt 0)) hP hS)
    have k : nt_rn X _ 60 (18, [(1, .int (x)), (0, .ref RR)], [], me_w M (nt_u (nt_u J Rd 2 (lb_c p (Int32.ofInt 0))) Rd 1 (nI t))) _ := k
    have k := ly_revb 2 (c' := (53, [(1, .int (x)), (0, .ref RR)], [.int (x)], me_w M (nt_u (nt_u J Rd 2 (lb_c p (Int32.ofInt 0))) Rd 1 (nI t)))) rfl k
    have k := lz_ri rfl (by decide) k
    exact ⟨x, .inl (lb_c p (Int32.ofInt 0)), _, k, ⟨hcm, Or.inl ⟨h7, rfl⟩⟩, (lb_c_ne (by omega) (by decide) (by decide)), _, _, hS1⟩
  · rw [if_neg (show ¬ (x = (Int32.ofInt (-1))) from h7)] at k
    have k := ly_revb 1 (c' := (22, [(1, .int (x)), (0, .ref RR)], [.ref RR], me_w M J)) rfl k
    obtain ⟨d1, o1, ed, kc, k⟩ := lz_c (g := 53) (q := 1) (vs := [.ref RR]) (rest := []) rfl rfl (by decide) (Or.inr (Or.inl ⟨_, rfl, rfl⟩)) rfl k
    rcases lc_counts hP hS hp kc with ⟨hm, e1⟩ | ⟨hm, _, e1⟩ | ⟨_, hf, _⟩
    · subst e1
      have hS1 := lc_Sm (q := m + 1) hP hS (by omega)
      have k : nt_rn X _ 60 (25, [(1, .int (x)), (0, .ref RR)], [.int (Int32.ofInt 1)], me_w M (nt_u J RR 3 (nI (m + 1)))) _ := k
      have k := ly_revb 1 (c' := (if (Int32.ofInt 1) = 0 then 52 else 28, [(1, .int (x)), (0, .ref RR)], [], me_w M (nt_u J RR 3 (nI (m + 1))))) rfl k
      rw [if_neg (show ¬ ((Int32.ofInt 1) = 0) from by decide)] at k
      have k := ly_revb 1 (c' := (29, [(1, .int (x)), (0, .ref RR)], [.ref RR], me_w M (nt_u J RR 3 (nI (m + 1))))) rfl k
      have k := lz_get (a := RR) (g := 500) (M := me_w M (nt_u J RR 3 (nI (m + 1)))) (v := .ref Rd) rfl (nt_gfR rfl hP.1.2.2.1) k
      have k := ly_revb 3 (c' := (if x = (Int32.ofInt 15) then 44 else 38, [(1, .int (x)), (0, .ref RR)], [.ref Rd], me_w M (nt_u J RR 3 (nI (m + 1))))) rfl k
      by_cases h35 : x = Int32.ofInt 15
      · rw [if_pos (show x = (Int32.ofInt 15) from h35)] at k
        have k := ly_revb 2 (c' := (49, [(1, .int (x)), (0, .ref RR)], [.int (Int32.ofInt 2), .ref Rd], me_w M (nt_u J RR 3 (nI (m + 1))))) rfl k
        obtain ⟨d1, o1, ed, kc, k⟩ := lz_c (g := 29) (q := 1) (vs := [.ref Rd, .int (Int32.ofInt 2)]) (rest := []) rfl rfl (by decide) (Or.inr (Or.inl ⟨_, rfl, rfl⟩)) rfl k
        have e1 := lc_skip (b := 2) hP hS1 hp (by first | omega | decide | (have := lb_W_len (a := lb_wd w); omega)) kc
        rw [Nat.min_eq_left (lb_cm_2 hcm (Or.inl h35))] at e1
        subst e1
        have hS2 := lc_Spp (q := lb_s f t (p + 2)) hP hS1
        have hp2 : lb_s f t (p + 2) ≤ t := (lb_s_le (t - (p + 2)) (p + 2) (by have := (lb_cm_2 hcm (Or.inl h35)); omega)).2
        have k : nt_rn X _ 60 (52, [(1, .int (x)), (0, .ref RR)], [], me_w M (nt_u (nt_u J RR 3 (nI (m + 1))) Rd 1 (nI (lb_s f t (p + 2))))) _ := k
        have k := ly_revb 1 (c' := (53, [(1, .int (x)), (0, .ref RR)], [.int (x)], me_w M (nt_u (nt_u J RR 3 (nI (m + 1))) Rd 1 (nI (lb_s f t (p + 2)))))) rfl k
        have k := lz_ri rfl (by decide) k
        have hl : lb_cl x = 2 := by
          unfold lb_cl
          rw [if_pos h35]
        refine ⟨x, .inr (lb_s f t (p + lb_cl x), m + 1, e), _, k, ⟨hcm, Or.inr (Or.inr ⟨h7, hm, rfl⟩)⟩, ?_⟩
        rw [hl]
        exact ⟨hS2, hp2⟩
      · rw [if_neg (show ¬ (x = (Int32.ofInt 15)) from h35)] at k
        have k := ly_revb 3 (c' := (if x = (Int32.ofInt 17) then 44 else 48, [(1, .int (x)), (0, .ref RR)], [.ref Rd], me_w M (nt_u J RR 3 (nI (m + 1))))) rfl k
        by_cases h41 : x = Int32.ofInt 17
        · rw [if_pos (show x = (Int32.ofInt 17) from h41)] at k
          have k := ly_revb 2 (c' := (49, [(1, .int (x)), (0, .ref RR)], [.int (Int32.ofInt 2), .ref Rd], me_w M (nt_u J RR 3 (nI (m + 1))))) rfl k
          obtain ⟨d1, o1, ed, kc, k⟩ := lz_c (g := 29) (q := 1) (vs := [.ref Rd, .int (Int32.ofInt 2)]) (rest := []) rfl rfl (by decide) (Or.inr (Or.inl ⟨_, rfl, rfl⟩)) rfl k
          have e1 := lc_skip (b := 2) hP hS1 hp (by first | omega | decide | (have := lb_W_len (a := lb_wd w); omega)) kc
          rw [Nat.min_eq_left (lb_cm_2 hcm (Or.inr h41))] at e1
          subst e1
          have hS2 := lc_Spp (q := lb_s f t (p + 2)) hP hS1
          have hp2 : lb_s f t (p + 2) ≤ t := (lb_s_le (t - (p + 2)) (p + 2) (by have := (lb_cm_2 hcm (Or.inr h41)); omega)).2
          have k : nt_rn X _ 60 (52, [(1, .int (x)), (0, .ref RR)], [], me_w M (nt_u (nt_u J RR 3 (nI (m + 1))) Rd 1 (nI (lb_s f t (p + 2))))) _ := k
          have k := ly_revb 1 (c' := (53, [(1, .int (x)), (0, .ref RR)], [.int (x)], me_w M (nt_u (nt_u J RR 3 (nI (m + 1))) Rd 1 (nI (lb_s f t (p + 2)))))) rfl k
          have k := lz_ri rfl (by decide) k
          have hl : lb_cl x = 2 := by
            unfold lb_cl
            rw [if_neg h35, if_pos h41]
          refine ⟨x, .inr (lb_s f t (p + lb_cl x), m + 1, e), _, k, ⟨hcm, Or.inr (Or.inr ⟨h7, hm, rfl⟩)⟩, ?_⟩
          rw [hl]
          exact ⟨hS2, hp2⟩
        · rw [if_neg (show ¬ (x = (Int32.ofInt 17)) from h41)] at k
          have k := ly_revb 1 (c' := (49, [(1, .int (x)), (0, .ref RR)], [.int (Int32.ofInt 1), .ref Rd], me_w M (nt_u J RR 3 (nI (m + 1))))) rfl k
          obtain ⟨d1, o1, ed, kc, k⟩ := lz_c (g := 29) (q := 1) (vs := [.ref Rd, .int (Int32.ofInt 1)]) (rest := []) rfl rfl (by decide) (Or.inr (Or.inl ⟨_, rfl, rfl⟩)) rfl k
          have e1 := lc_skip (b := 1) hP hS1 hp (by first | omega | decide | (have := lb_W_len (a := lb_wd w); omega)) kc
          rw [Nat.min_eq_left (lb_cm_1 hcm h7)] at e1
          subst e1
          have hS2 := lc_Spp (q := lb_s f t (p + 1)) hP hS1
          have hp2 : lb_s f t (p + 1) ≤ t := (lb_s_le (t - (p + 1)) (p + 1) (by have := (lb_cm_1 hcm h7); omega)).2
          have k : nt_rn X _ 60 (52, [(1, .int (x)), (0, .ref RR)], [], me_w M (nt_u (nt_u J RR 3 (nI (m + 1))) Rd 1 (nI (lb_s f t (p + 1))))) _ := k
          have k := ly_revb 1 (c' := (53, [(1, .int (x)), (0, .ref RR)], [.int (x)], me_w M (nt_u (nt_u J RR 3 (nI (m + 1))) Rd 1 (nI (lb_s f t (p + 1)))))) rfl k
          have k := lz_ri rfl (by decide) k
          have hl : lb_cl x = 1 := by
            unfold lb_cl
            rw [if_neg h35, if_neg h41]
          refine ⟨x, .inr (lb_s f t (p + lb_cl x), m + 1, e), _, k, ⟨hcm, Or.inr (Or.inr ⟨h7, hm, rfl⟩)⟩, ?_⟩
          rw [hl]
          exact ⟨hS2, hp2⟩
    · subst e1
      have hS1 := lc_Spp (q := t) hP (lc_Sf (fb := lb_c p (Int32.ofInt 3)) hP hS)
      have k : nt_rn X _ 60 (25, [(1, .int (x)), (0, .ref RR)], [.int (Int32.ofInt 0)], me_w M (nt_u (nt_u J Rd 2 (lb_c p (Int32.ofInt 3))) Rd 1 (nI t))) _ := k
      have k := ly_revb 1 (c' := (if (Int32.ofInt 0) = 0 then 52 else 28, [(1, .int (x)), (0, .ref RR)], [], me_w M (nt_u (nt_u J Rd 2 (lb_c p (Int32.ofInt 3))) Rd 1 (nI t)))) rfl k
      rw [if_pos (show (Int32.ofInt 0) = 0 from by decide)] at k
      have k := ly_revb 1 (c' := (53, [(1, .int (x)), (0, .ref RR)], [.int (x)], me_w M (nt_u (nt_u J Rd 2 (lb_c p (Int32.ofInt 3))) Rd 1 (nI t)))) rfl k
      have k := lz_ri rfl (by decide) k
      exact ⟨x, .inl (lb_c p (Int32.ofInt 3)), _, k, ⟨hcm, Or.inr (Or.inl ⟨h7, hm, rfl⟩)⟩, (lb_c_ne (by omega) (by decide) (by decide)), _, _, hS1⟩
    · exact absurd rfl hf
theorem lc_readCmpF {X : nt_X} {d t Rd Tp By RR Sp : Nat} {f : Nat → Int32} {M : nt_M} {J0 J : Nat → Nat → Int32} {o : Option Value × nt_M} { m : Nat} {fa : Int32} {s : Nat × (Nat → Int32)}  (hP : lc_P M J0 f t Rd Tp By RR Sp) (hS : lc_S J0 Rd RR Sp t fa m s J) (hfa : ¬ fa = 0) (k : nt_ev X d 60 [.ref RR] (me_w M J) o) : ∃ x m' s' J', o = (some (.int x), me_w M J') ∧ lc_S J0 Rd RR Sp t fa m' s' J' := by
  have k : nt_rn X d 60 (0, [(0, .ref RR)], [], me_w M J) o := k
  have t4 : t ≤ 400 := hP.2.2.2.2.1
  have m6 : m ≤ 60 := hS.2.2.2.2.2.2.2
  have k := ly_revb 1 (c' := (1, [(0, .ref RR)], [.ref RR], me_w M J)) rfl k
  obtain ⟨d1, o1, ed, kc, k⟩ := lz_c (g := 61) (q := 1) (vs := [.ref RR]) (rest := []) rfl rfl (by decide) (Or.inr (Or.inl ⟨_, rfl, rfl⟩)) rfl k
  obtain ⟨x, e1, hcm⟩ := lc_cmpAt hP hS (Nat.le_refl t) kc
  subst e1
  have hx : x = Int32.ofInt (-1) := Classical.byContradiction (fun hh => absurd (lb_cm_1 hcm hh) (by omega))
  subst hx
  have k : nt_rn X _ 60 (4, [(0, .ref RR)], [.int (Int32.ofInt (-1))], me_w M J) _ := k
  have k := ly_revb 4 (c' := (if (Int32.ofInt (-1)) = (Int32.ofInt (-1)) then 10 else 21, [(1, .int (Int32.ofInt (-1))), (0, .ref RR)], [], me_w M J)) rfl k
  rw [if_pos (show (Int32.ofInt (-1)) = (Int32.ofInt (-1)) from rfl)] at k
  have k := ly_revb 1 (c' := (11, [(1, .int (Int32.ofInt (-1))), (0, .ref RR)], [.ref RR], me_w M J)) rfl k
  have k := lz_get (a := RR) (g := 500) (M := me_w M J) (v := .ref Rd) rfl (nt_gfR rfl hP.1.2.2.1) k
  have k := ly_revb 1 (c' := (15, [(1, .int (Int32.ofInt (-1))), (0, .ref RR)], [.int (Int32.ofInt 0), .ref Rd], me_w M J)) rfl k
  obtain ⟨d1, o1, ed, kc, k⟩ := lz_c (g := 31) (q := 1) (vs := [.ref Rd, .int (Int32.ofInt 0)]) (rest := []) rfl rfl (by decide) (Or.inr (Or.inl ⟨_, rfl, rfl⟩)) rfl k
  obtain ⟨hf, e1⟩ := (lc_fail hP hS (Nat.le_refl t) kc).resolve_left (fun c => hfa c.1)
  subst e1
  have hS1 := lc_Spp (q := t) hP hS
  have k : nt_rn X _ 60 (18, [(1, .int (Int32.ofInt (-1))), (0, .ref RR)], [], me_w M (nt_u J Rd 1 (nI t))) _ := k
  have k := ly_revb 2 (c' := (53, [(1, .int (Int32.ofInt (-1))), (0, .ref RR)], [.int (Int32.ofInt (-1))], me_w M (nt_u J Rd 1 (nI t)))) rfl k
  have k := lz_ri rfl (by decide) k
  exact ⟨_, _, _, _, k, hS1⟩
theorem lc_readFactF {X : nt_X} {d t Rd Tp By RR Sp : Nat} {f : Nat → Int32} {M : nt_M} {J0 J : Nat → Nat → Int32} {o : Option Value × nt_M} { m : Nat} {fa : Int32} {s : Nat × (Nat → Int32)} {y : Int32} (hP : lc_P M J0 f t Rd Tp By RR Sp) (hS : lc_S J0 Rd RR Sp t fa m s J) (hfa : ¬ fa = 0) (k : nt_ev X d 59 [.ref RR, .int (y)] (me_w M J) o) : ∃ m' s' J', o = (none, me_w M J') ∧ lc_S J0 Rd RR Sp t fa m' s' J' := by
  have k : nt_rn X d 59 (0, [(0, .ref RR), (1, .int (y))], [], me_w M J) o := k
  have t4 : t ≤ 400 := hP.2.2.2.2.1
  have m6 : m ≤ 60 := hS.2.2.2.2.2.2.2
  have k := ly_revb 1 (c' := (1, [(0, .ref RR), (1, .int (y))], [.ref RR], me_w M J)) rfl k
  have k := lz_get (a := RR) (g := 500) (M := me_w M J) (v := .ref Rd) rfl (nt_gfR rfl hP.1.2.2.1) k
  have k := ly_revb 1 (c' := (6, [(0, .ref RR), (1, .int (y))], [.ref (nt_sp + 1 + 15), .ref Rd], me_w M J)) rfl k
  obtain ⟨d1, o1, ed, kc, k⟩ := lz_c (g := 30) (q := 1) (vs := [.ref Rd, .ref (nt_sp + 1 + 15)]) (rest := []) rfl rfl (by decide) (Or.inr (Or.inl ⟨_, rfl, rfl⟩)) rfl k
  obtain ⟨r, e1, hr⟩ := lc_isAt hP hS (Nat.le_refl t) kc
  subst e1
  obtain ⟨rfl, hr⟩ := hr.resolve_left (fun hh => lb_at_t (by decide) hh.2)
  have k : nt_rn X _ 59 (9, [(0, .ref RR), (1, .int (y))], [.int (Int32.ofInt 0)], me_w M J) _ := k
  have k := ly_revb 2 (c' := (11, [(2, .int (Int32.ofInt 0)), (0, .ref RR), (1, .int (y))], [.ref RR], me_w M J)) rfl k
  have k := lz_get (a := RR) (g := 500) (M := me_w M J) (v := .ref Rd) rfl (nt_gfR rfl hP.1.2.2.1) k
  obtain ⟨d1, o1, ed, kc, k⟩ := lz_c (g := 37) (q := 1) (vs := [.ref Rd]) (rest := []) rfl rfl (by decide) (Or.inr (Or.inl ⟨_, rfl, rfl⟩)) rfl k
  have e1 := lc_sign hP hS (Nat.le_refl t) kc
  subst e1
  have k : nt_rn X _ 59 (17, [(2, .int (Int32.ofInt 0)), (0, .ref RR), (1, .int (y))], [.int (lb_g f t t)], me_w M J) _ := k
  have k := ly_revb 2 (c' := (if (lb_g f t t) = (Int32.ofInt 91) then 22 else 26, [(2, .int (Int32.ofInt 0)), (0, .ref RR), (1, .int (y))], [], me_w M J)) rfl k
  rw [if_neg (show ¬ ((lb_g f t t) = (Int32.ofInt 91)) from by unfold lb_g; rw [if_neg (by omega)]; decide)] at k
  have k := ly_revb 4 (c' := (if (Int32.ofInt 0) = 0 then 32 else 36, [(3, .int (Int32.ofInt 0)), (2, .int (Int32.ofInt 0)), (0, .ref RR), (1, .int (y))], [], me_w M J)) rfl k
  rw [if_pos (show (Int32.ofInt 0) = 0 from by decide)] at k
  have k := ly_revb 2 (c' := (if (Int32.ofInt 0) = 0 then 53 else 36, [(3, .int (Int32.ofInt 0)), (2, .int (Int32.ofInt 0)), (0, .ref RR), (1, .int (y))], [], me_w M J)) rfl k
  rw [if_pos (show (Int32.ofInt 0) = 0 from by decide)] at k
  have k := ly_revb 2 (c' := (if (Int32.ofInt 0) = 0 then 83 else 57, [(3, .int (Int32.ofInt 0)), (2, .int (Int32.ofInt 0)), (0, .ref RR), (1, .int (y))], [], me_w M J)) rfl k
  rw [if_pos (show (Int32.ofInt 0) = 0 from by decide)] at k
  have k := ly_revb 2 (c' := (if (Int32.ofInt 0) = 0 then 125 else 87, [(3, .int (Int32.ofInt 0)), (2, .int (Int32.ofInt 0)), (0, .ref RR), (1, .int (y))], [], me_w M J)) rfl k
  rw [if_pos (show (Int32.ofInt 0) = 0 from by decide)] at k
  have k := ly_revb 1 (c' := (126, [(3, .int (Int32.ofInt 0)), (2, .int (Int32.ofInt 0)), (0, .ref RR), (1, .int (y))], [.ref RR], me_w M J)) rfl k
  obtain ⟨d1, o1, ed, kc, k⟩ := lz_c (g := 49) (q := 1) (vs := [.ref RR]) (rest := []) rfl rfl (by decide) (Or.inr (Or.inl ⟨_, rfl, rfl⟩)) rfl k
  obtain ⟨m1, s1, J1, e1, hT1⟩ := lc_readSumF hP hS hfa kc
  subst e1
  have k : nt_rn X _ 59 (129, [(3, .int (Int32.ofInt 0)), (2, .int (Int32.ofInt 0)), (0, .ref RR), (1, .int (y))], [], me_w M J1) _ := k
  have k := ly_revb 1 (c' := (130, [(3, .int (Int32.ofInt 0)), (2, .int (Int32.ofInt 0)), (0, .ref RR), (1, .int (y))], [.ref RR], me_w M J1)) rfl k
  obtain ⟨d1, o1, ed, kc, k⟩ := lz_c (g := 60) (q := 1) (vs := [.ref RR]) (rest := []) rfl rfl (by decide) (Or.inr (Or.inl ⟨_, rfl, rfl⟩)) rfl k
  obtain ⟨x, m2, s2, J2, e1, hT2⟩ := lc_readCmpF hP hT1 hfa kc
  subst e1
  have k : nt_rn X _ 59 (133, [(3, .int (Int32.ofInt 0)), (2, .int (Int32.ofInt 0)), (0, .ref RR), (1, .int (y))], [.int (x)], me_w M J2) _ := k
  have k := ly_revb 2 (c' := (136, [(4, .int (x)), (3, .int (Int32.ofInt 0)), (2, .int (Int32.ofInt 0)), (0, .ref RR), (1, .int (y))], [.ref RR], me_w M J2)) rfl k
  obtain ⟨d1, o1, ed, kc, k⟩ := lz_c (g := 49) (q := 1) (vs := [.ref RR]) (rest := []) rfl rfl (by decide) (Or.inr (Or.inl ⟨_, rfl, rfl⟩)) rfl k
  obtain ⟨m3, s3, J3, e1, hT3⟩ := lc_readSumF hP hT2 hfa kc
  subst e1
  have k : nt_rn X _ 59 (139, [(4, .int (x)), (3, .int (Int32.ofInt 0)), (2, .int (Int32.ofInt 0)), (0, .ref RR), (1, .int (y))], [], me_w M J3) _ := k
  have k := ly_revb 2 (c' := (142, [(4, .int (x)), (3, .int (Int32.ofInt 0)), (2, .int (Int32.ofInt 0)), (0, .ref RR), (1, .int (y))], [.int (x), .ref RR], me_w M J3)) rfl k
  obtain ⟨d1, o1, ed, kc, k⟩ := lz_c (g := 54) (q := 1) (vs := [.ref RR, .int (x)]) (rest := []) rfl rfl (by decide) (Or.inr (Or.inl ⟨_, rfl, rfl⟩)) rfl k
  obtain ⟨J1, e1, hS1⟩ := lc_add hP hT3 (Nat.le_refl t) kc
  subst e1
  have k : nt_rn X _ 59 (145, [(4, .int (x)), (3, .int (Int32.ofInt 0)), (2, .int (Int32.ofInt 0)), (0, .ref RR), (1, .int (y))], [], me_w M J1) _ := k
  have k := lz_rv rfl rfl k
  exact ⟨_, _, _, k, hS1⟩
theorem lc_readTestF {X : nt_X} {d t Rd Tp By RR Sp : Nat} {f : Nat → Int32} {M : nt_M} {J0 J : Nat → Nat → Int32} {o : Option Value × nt_M} { m : Nat} {fa : Int32} {s : Nat × (Nat → Int32)} {y : Int32} (hP : lc_P M J0 f t Rd Tp By RR Sp) (hS : lc_S J0 Rd RR Sp t fa m s J) (hfa : ¬ fa = 0) (k : nt_ev X d 58 [.ref RR, .int (y)] (me_w M J) o) : ∃ m' s' J', o = (none, me_w M J') ∧ lc_S J0 Rd RR Sp t fa m' s' J' := by
  have k : nt_rn X d 58 (0, [(0, .ref RR), (1, .int (y))], [], me_w M J) o := k
  have t4 : t ≤ 400 := hP.2.2.2.2.1
  have m6 : m ≤ 60 := hS.2.2.2.2.2.2.2
  have k := ly_revb 4 (c' := (4, [(2, .int (Int32.ofInt 0)), (0, .ref RR), (1, .int (y))], [.int (y), .ref RR], me_w M J)) rfl k
  obtain ⟨d1, o1, ed, kc, k⟩ := lz_c (g := 59) (q := 1) (vs := [.ref RR, .int (y)]) (rest := []) rfl rfl (by decide) (Or.inr (Or.inl ⟨_, rfl, rfl⟩)) rfl k
  obtain ⟨m1, s1, J1, e1, hT1⟩ := lc_readFactF hP hS hfa kc
  subst e1
  have k : nt_rn X _ 58 (7, [(2, .int (Int32.ofInt 0)), (0, .ref RR), (1, .int (y))], [], me_w M J1) _ := k
  have k := ly_revb 5 (c' := (if (Int32.ofInt 400) ≤ (Int32.ofInt 1) then 77 else 16, [(3, .int (Int32.ofInt 1)), (2, .int (Int32.ofInt 0)), (0, .ref RR), (1, .int (y))], [], me_w M J1)) rfl k
  rw [if_neg (show ¬ ((Int32.ofInt 400) ≤ (Int32.ofInt 1)) from show ¬ nI 400 ≤ nI 1 from nI_ge (by omega) (by omega))] at k
  have k := ly_revb 1 (c' := (17, [(3, .int (Int32.ofInt 1)), (2, .int (Int32.ofInt 0)), (0, .ref RR), (1, .int (y))], [.ref RR], me_w M J1)) rfl k
  have k := lz_get (a := RR) (g := 500) (M := me_w M J1) (v := .ref Rd) rfl (nt_gfR rfl hP.1.2.2.1) k
  have k := ly_revb 1 (c' := (22, [(3, .int (Int32.ofInt 1)), (2, .int (Int32.ofInt 0)), (0, .ref RR), (1, .int (y))], [.ref (nt_sp + 1 + 16), .ref Rd], me_w M J1)) rfl k
  obtain ⟨d1, o1, ed, kc, k⟩ := lz_c (g := 32) (q := 1) (vs := [.ref Rd, .ref (nt_sp + 1 + 16)]) (rest := []) rfl rfl (by decide) (Or.inr (Or.inl ⟨_, rfl, rfl⟩)) rfl k
  obtain ⟨hn, e1⟩ := (lc_takesWord hP hT1 (Nat.le_refl t) kc).resolve_left (fun hh => lb_at_t (by decide) hh.1)
  subst e1
  have k : nt_rn X _ 58 (25, [(3, .int (Int32.ofInt 1)), (2, .int (Int32.ofInt 0)), (0, .ref RR), (1, .int (y))], [.int (Int32.ofInt 0)], me_w M J1) _ := k
  have k := ly_revb 1 (c' := (if (Int32.ofInt 0) = 0 then 42 else 28, [(3, .int (Int32.ofInt 1)), (2, .int (Int32.ofInt 0)), (0, .ref RR), (1, .int (y))], [], me_w M J1)) rfl k
  rw [if_pos (show (Int32.ofInt 0) = 0 from by decide)] at k
  have k := ly_revb 1 (c' := (43, [(3, .int (Int32.ofInt 1)), (2, .int (Int32.ofInt 0)), (0, .ref RR), (1, .int (y))], [.ref RR], me_w M J1)) rfl k
  have k := lz_get (a := RR) (g := 500) (M := me_w M J1) (v := .ref Rd) rfl (nt_gfR rfl hP.1.2.2.1) k
  have k := ly_revb 1 (c' := (48, [(3, .int (Int32.ofInt 1)), (2, .int (Int32.ofInt 0)), (0, .ref RR), (1, .int (y))], [.ref (nt_sp + 1 + 17), .ref Rd], me_w M J1)) rfl k
  obtain ⟨d1, o1, ed, kc, k⟩ := lz_c (g := 32) (q := 1) (vs := [.ref Rd, .ref (nt_sp + 1 + 17)]) (rest := []) rfl rfl (by decide) (Or.inr (Or.inl ⟨_, rfl, rfl⟩)) rfl k
  obtain ⟨hn, e1⟩ := (lc_takesWord hP hT1 (Nat.le_refl t) kc).resolve_left (fun hh => lb_at_t (by decide) hh.1)
  subst e1
  have k : nt_rn X _ 58 (51, [(3, .int (Int32.ofInt 1)), (2, .int (Int32.ofInt 0)), (0, .ref RR), (1, .int (y))], [.int (Int32.ofInt 0)], me_w M J1) _ := k
  have k := ly_revb 1 (c' := (if (Int32.ofInt 0) = 0 then 77 else 54, [(3, .int (Int32.ofInt 1)), (2, .int (Int32.ofInt 0)), (0, .ref RR), (1, .int (y))], [], me_w M J1)) rfl k
  rw [if_pos (show (Int32.ofInt 0) = 0 from by decide)] at k
  have k := ly_revb 2 (c' := (if (Int32.ofInt 0) = 0 then 87 else 81, [(3, .int (Int32.ofInt 1)), (2, .int (Int32.ofInt 0)), (0, .ref RR), (1, .int (y))], [], me_w M J1)) rfl k
  rw [if_pos (show (Int32.ofInt 0) = 0 from by decide)] at k
  have k := lz_rv rfl rfl k
  exact ⟨_, _, _, k, hT1⟩
