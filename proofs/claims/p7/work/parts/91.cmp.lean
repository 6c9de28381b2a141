/-! a comparison, the other side -/
theorem md_sum {X : nt_X} {d t x B Tb Sg Ln q m : Nat} {f : Nat → Int32} {M : nt_M} {J0 J : Nat → Nat → Int32} {o : Option Value × nt_M} {e : Nat × (Nat → Int32)} {s0 : Nat × (Nat → Int32)} (hP : md_P M J0 f t x B Tb Sg Ln) (hB : lb_by f t) (hS : md_S J0 B Sg Ln x q 0 m e J) (hp : q ≤ t) (k : nt_ev X d 151 [.ref B] (me_w M J) o) : ∃ r a J', o = (some (.int a), me_w M J') ∧ lb_sum f t (lb_s f t q, m, (s0, e)) r ∧ md_Q J0 B Sg Ln x t f r a J' := by
  obtain ⟨r, a, J', h1, h2, h3⟩ := md_sum0 (s0 := s0) hP hB hS hp k
  exact ⟨r, a, J', h1, lb_su_sum (lb_s_le (t - q) q (by omega)).2 h2, h3⟩
theorem md_cmp {X : nt_X} {d t x B Tb Sg Ln q m : Nat} {f : Nat → Int32} {M : nt_M} {J0 J : Nat → Nat → Int32} {o : Option Value × nt_M} {e : Nat × (Nat → Int32)} {s0 : Nat × (Nat → Int32)} (hP : md_P M J0 f t x B Tb Sg Ln) (hB : lb_by f t) (hS : md_S J0 B Sg Ln x q 0 m e J) (hp : q ≤ t) (k : nt_ev X d 161 [.ref B] (me_w M J) o) : ∃ r a J', o = (some (.int a), me_w M J') ∧ lb_fa f t (lb_s f t q, m, (s0, e)) r ∧ md_Q J0 B Sg Ln x t f r a J' := by
  have k : nt_rn X d 161 (0, [(0, .ref B)], [], me_w M J) o := k
  have t4 : t ≤ 400 := hP.2.2.2.2.2.1
  have k := ly_revb 1 (c' := (1, [(0, .ref B)], [.ref B], me_w M J)) rfl k
  obtain ⟨d1, o1, ed, kc, k⟩ := lz_c (g := 151) (q := 1) (vs := [.ref B]) (rest := []) rfl rfl (by decide) (Or.inr (Or.inl ⟨_, rfl, rfl⟩)) rfl k
  obtain ⟨r1, a1, J1, e1, hv1, hQ1⟩ := md_sum (s0 := s0) hP hB hS hp kc
  subst e1
  rcases r1 with c | z1
  · obtain ⟨hc, rfl, q1, m1, e1, hT1, hq1⟩ := hQ1
    have k : nt_rn X _ 161 (4, [(0, .ref B)], [.int (Int32.ofInt 0)], me_w M J1) _ := k
    have k := ly_revb 1 (c' := (if (Int32.ofInt 0) = 0 then 7 else 9, [(0, .ref B)], [], me_w M J1)) rfl k
    rw [if_pos (show (Int32.ofInt 0) = 0 from by decide)] at k
    have k := ly_revb 1 (c' := (8, [(0, .ref B)], [.int (Int32.ofInt 0)], me_w M J1)) rfl k
    have k := lz_ri rfl (by decide) k
    exact ⟨.inl c, _, _, k, ⟨_, hv1, Or.inl ⟨c, rfl, rfl⟩⟩, hc, rfl, _, _, _, hT1, hq1⟩
  · obtain ⟨rfl, q1, hz1, hq1, hT1⟩ := hQ1
    have k : nt_rn X _ 161 (4, [(0, .ref B)], [.int (Int32.ofInt 1)], me_w M J1) _ := k
    have k := ly_revb 1 (c' := (if (Int32.ofInt 1) = 0 then 7 else 9, [(0, .ref B)], [], me_w M J1)) rfl k
    rw [if_neg (show ¬ ((Int32.ofInt 1) = 0) from by decide)] at k
    have k := ly_revb 1 (c' := (10, [(0, .ref B)], [.ref B], me_w M J1)) rfl k
    obtain ⟨d1, o1, ed, kc, k⟩ := lz_c (g := 136) (q := 1) (vs := [.ref B]) (rest := []) rfl rfl (by decide) (Or.inr (Or.inl ⟨_, rfl, rfl⟩)) rfl k
    have e1 := md_see hP hT1 hq1 kc
    rw [hz1] at e1
    subst e1
    have hS2 := md_Sq (y := z1.1) hP hT1
    have hp2 : z1.1 ≤ t := by rw [← hz1]; exact (lb_s_le (t - q1) q1 (by omega)).2
    have k : nt_rn X _ 161 (13, [(0, .ref B)], [.int (lb_g f t z1.1)], me_w M (nt_u J1 B 15 (nI z1.1))) _ := k
    have k := ly_revb 2 (c' := (15, [(1, .int (lb_g f t z1.1)), (0, .ref B)], [.ref B], me_w M (nt_u J1 B 15 (nI z1.1)))) rfl k
    have k := lz_get (a := B) (g := 1115) (M := me_w M (nt_u J1 B 15 (nI z1.1))) (v := .int (nI z1.1)) rfl (congrArg Value.int (hS2.1)) k
    have k := ly_revb 4 (c' := (if (lb_g f t z1.1) = (Int32.ofInt 60) then 44 else 25, [(2, .int (nI z1.1)), (1, .int (lb_g f t z1.1)), (0, .ref B)], [], me_w M (nt_u J1 B 15 (nI z1.1)))) rfl k
    by_cases h22 : lb_g f t z1.1 = Int32.ofInt 60
    · rw [if_pos (show (lb_g f t z1.1) = (Int32.ofInt 60) from h22)] at k
      have k := ly_revb 2 (c' := (46, [(2, .int (nI z1.1)), (1, .int (lb_g f t z1.1)), (0, .ref B)], [.ref B, .ref B], me_w M (nt_u J1 B 15 (nI z1.1)))) rfl k
      have k := lz_get (a := B) (g := 1115) (M := me_w M (nt_u J1 B 15 (nI z1.1))) (v := .int (nI z1.1)) rfl (congrArg Value.int (hS2.1)) k
      have k := ly_revb 2 (c' := (51, [(2, .int (nI z1.1)), (1, .int (lb_g f t z1.1)), (0, .ref B)], [.int ((nI z1.1) + (Int32.ofInt 1)), .ref B], me_w M (nt_u J1 B 15 (nI z1.1)))) rfl k
      rw [show ((nI z1.1) + (Int32.ofInt 1) : Int32) = nI (z1.1 + 1) from me_add (k := 1)] at k
      have k := me_put rfl (by decide) k
      have k : nt_rn X _ 161 (54, [(2, .int (nI z1.1)), (1, .int (lb_g f t z1.1)), (0, .ref B)], [], me_w M (nt_u (nt_u J1 B 15 (nI z1.1)) B 15 (nI (z1.1 + 1)))) _ := k
      have hN1 := md_Sq (y := z1.1 + 1) hP hS2
      have hlt : z1.1 < t := lb_g_lt (by rw [h22]; decide)
      have k := ly_revb 3 (c' := (if (lb_g f t z1.1) = (Int32.ofInt 61) then 89 else 60, [(2, .int (nI z1.1)), (1, .int (lb_g f t z1.1)), (0, .ref B)], [], me_w M (nt_u (nt_u J1 B 15 (nI z1.1)) B 15 (nI (z1.1 + 1))))) rfl k
      rw [if_neg (show ¬ ((lb_g f t z1.1) = (Int32.ofInt 61)) from by rw [h22]; decide)] at k
      have k := ly_revb 1 (c' := (61, [(2, .int (nI z1.1)), (1, .int (lb_g f t z1.1)), (0, .ref B)], [.ref B], me_w M (nt_u (nt_u J1 B 15 (nI z1.1)) B 15 (nI (z1.1 + 1))))) rfl k
      have k := lz_get (a := B) (g := 1115) (M := me_w M (nt_u (nt_u J1 B 15 (nI z1.1)) B 15 (nI (z1.1 + 1)))) (v := .int (nI (z1.1 + 1))) rfl (congrArg Value.int (hN1.1)) k
      have k := ly_revb 1 (c' := (65, [(2, .int (nI z1.1)), (1, .int (lb_g f t z1.1)), (0, .ref B)], [.ref B, .int (nI (z1.1 + 1))], me_w M (nt_u (nt_u J1 B 15 (nI z1.1)) B 15 (nI (z1.1 + 1))))) rfl k
      have k := lz_get (a := B) (g := 1101) (M := me_w M (nt_u (nt_u J1 B 15 (nI z1.1)) B 15 (nI (z1.1 + 1)))) (v := .int (nI t)) rfl (congrArg Value.int (md_t hP hN1)) k
      have k := ly_revb 1 (c' := (if (nI t) ≤ (nI (z1.1 + 1)) then 89 else 71, [(2, .int (nI z1.1)), (1, .int (lb_g f t z1.1)), (0, .ref B)], [], me_w M (nt_u (nt_u J1 B 15 (nI z1.1)) B 15 (nI (z1.1 + 1))))) rfl k
      by_cases h68 : t ≤ (z1.1 + 1)
      · rw [if_pos (show (nI t) ≤ (nI (z1.1 + 1)) from show nI t ≤ nI ((z1.1 + 1)) from nI_le h68 (by omega))] at k
        have k := ly_revb 4 (c' := (if (Int32.ofInt 0) = 0 then 105 else 95, [(3, .int (Int32.ofInt 0)), (2, .int (nI z1.1)), (1, .int (lb_g f t z1.1)), (0, .ref B)], [], me_w M (nt_u (nt_u J1 B 15 (nI z1.1)) B 15 (nI (z1.1 + 1))))) rfl k
        rw [if_pos (show (Int32.ofInt 0) = 0 from by decide)] at k
        have k := ly_revb 2 (c' := (107, [(3, .int (Int32.ofInt 0)), (2, .int (nI z1.1)), (1, .int (lb_g f t z1.1)), (0, .ref B)], [.int (nI z1.1), .ref B], me_w M (nt_u (nt_u J1 B 15 (nI z1.1)) B 15 (nI (z1.1 + 1))))) rfl k
        obtain ⟨d1, o1, ed, kc, k⟩ := lz_c (g := 154) (q := 1) (vs := [.ref B, .int (nI z1.1)]) (rest := []) rfl rfl (by decide) (Or.inr (Or.inl ⟨_, rfl, rfl⟩)) rfl k
        rcases md_makes (a := z1.1) hP hN1 (show z1.1 + 1 ≤ t from hlt) rfl kc with ⟨hm, e1⟩ | ⟨hm, e1⟩
        · subst e1
          have hS6 := md_Sw (y := lb_c z1.1 (Int32.ofInt 3)) hP hN1
          have k : nt_rn X _ 161 (110, [(3, .int (Int32.ofInt 0)), (2, .int (nI z1.1)), (1, .int (lb_g f t z1.1)), (0, .ref B)], [.int (Int32.ofInt 0)], me_w M (nt_u (nt_u (nt_u J1 B 15 (nI z1.1)) B 15 (nI (z1.1 + 1))) B 16 (lb_c z1.1 (Int32.ofInt 3)))) _ := k
          have k := ly_revb 1 (c' := (if (Int32.ofInt 0) = 0 then 113 else 115, [(3, .int (Int32.ofInt 0)), (2, .int (nI z1.1)), (1, .int (lb_g f t z1.1)), (0, .ref B)], [], me_w M (nt_u (nt_u (nt_u J1 B 15 (nI z1.1)) B 15 (nI (z1.1 + 1))) B 16 (lb_c z1.1 (Int32.ofInt 3))))) rfl k
          rw [if_pos (show (Int32.ofInt 0) = 0 from by decide)] at k
          have k := ly_revb 1 (c' := (114, [(3, .int (Int32.ofInt 0)), (2, .int (nI z1.1)), (1, .int (lb_g f t z1.1)), (0, .ref B)], [.int (Int32.ofInt 0)], me_w M (nt_u (nt_u (nt_u J1 B 15 (nI z1.1)) B 15 (nI (z1.1 + 1))) B 16 (lb_c z1.1 (Int32.ofInt 3))))) rfl k
          have k := lz_ri rfl (by decide) k
          have hcm : lb_cm f t z1.1 (Int32.ofInt 14) := Or.inr (Or.inl ⟨h22, fun c => absurd c.1 (by omega), rfl⟩)
          exact ⟨.inl (lb_c z1.1 (Int32.ofInt 3)), _, _, k, ⟨_, hv1, Or.inr ⟨z1, rfl, _, _, ⟨hcm, Or.inr (Or.inl ⟨by decide, hm, rfl⟩)⟩, Or.inl ⟨_, rfl, rfl⟩⟩⟩, (lb_c_ne (by omega) (by decide) (by decide)), rfl, _, _, _, hS6, (show z1.1 + 1 ≤ t from hlt)⟩
        · subst e1
          have hS6 := md_Sm (y := z1.2.1 + 1) hP hN1 (by omega)
          have k : nt_rn X _ 161 (110, [(3, .int (Int32.ofInt 0)), (2, .int (nI z1.1)), (1, .int (lb_g f t z1.1)), (0, .ref B)], [.int (Int32.ofInt 1)], me_w M (nt_u (nt_u (nt_u J1 B 15 (nI z1.1)) B 15 (nI (z1.1 + 1))) B 19 (nI (z1.2.1 + 1)))) _ := k
          have k := ly_revb 1 (c' := (if (Int32.ofInt 1) = 0 then 113 else 115, [(3, .int (Int32.ofInt 0)), (2, .int (nI z1.1)), (1, .int (lb_g f t z1.1)), (0, .ref B)], [], me_w M (nt_u (nt_u (nt_u J1 B 15 (nI z1.1)) B 15 (nI (z1.1 + 1))) B 19 (nI (z1.2.1 + 1))))) rfl k
          rw [if_neg (show ¬ ((Int32.ofInt 1) = 0) from by decide)] at k
          have k := ly_revb 3 (c' := (if (lb_g f t z1.1) = (Int32.ofInt 60) then 121 else 133, [(3, .int (Int32.ofInt 0)), (2, .int (nI z1.1)), (1, .int (lb_g f t z1.1)), (0, .ref B)], [], me_w M (nt_u (nt_u (nt_u J1 B 15 (nI z1.1)) B 15 (nI (z1.1 + 1))) B 19 (nI (z1.2.1 + 1))))) rfl k
          rw [if_pos (show (lb_g f t z1.1) = (Int32.ofInt 60) from h22)] at k
          have k := ly_revb 2 (c' := (if (Int32.ofInt 0) = 0 then 129 else 125, [(3, .int (Int32.ofInt 0)), (2, .int (nI z1.1)), (1, .int (lb_g f t z1.1)), (0, .ref B)], [], me_w M (nt_u (nt_u (nt_u J1 B 15 (nI z1.1)) B 15 (nI (z1.1 + 1))) B 19 (nI (z1.2.1 + 1))))) rfl k
          rw [if_pos (show (Int32.ofInt 0) = 0 from by decide)] at k
          have k := ly_revb 4 (c' := (155, [(4, .int (Int32.ofInt 0)), (3, .int (Int32.ofInt 0)), (2, .int (nI z1.1)), (1, .int (lb_g f t z1.1)), (0, .ref B)], [.ref B], me_w M (nt_u (nt_u (nt_u J1 B 15 (nI z1.1)) B 15 (nI (z1.1 + 1))) B 19 (nI (z1.2.1 + 1))))) rfl k
          obtain ⟨d1, o1, ed, kc, k⟩ := lz_c (g := 151) (q := 1) (vs := [.ref B]) (rest := []) rfl rfl (by decide) (Or.inr (Or.inl ⟨_, rfl, rfl⟩)) rfl k
          obtain ⟨r2, a2, J2, e1, hv2, hQ2⟩ := md_sum (s0 := z1.2.2.1) hP hB hS6 (show z1.1 + 1 ≤ t from hlt) kc
          subst e1
          rcases r2 with c | z2
          · obtain ⟨hc, rfl, q2, m2, e2, hT2, hq2⟩ := hQ2
            have k : nt_rn X _ 161 (158, [(4, .int (Int32.ofInt 0)), (3, .int (Int32.ofInt 0)), (2, .int (nI z1.1)), (1, .int (lb_g f t z1.1)), (0, .ref B)], [.int (Int32.ofInt 0)], me_w M J2) _ := k
            have k := ly_revb 1 (c' := (if (Int32.ofInt 0) = 0 then 161 else 163, [(4, .int (Int32.ofInt 0)), (3, .int (Int32.ofInt 0)), (2, .int (nI z1.1)), (1, .int (lb_g f t z1.1)), (0, .ref B)], [], me_w M J2)) rfl k
            rw [if_pos (show (Int32.ofInt 0) = 0 from by decide)] at k
            have k := ly_revb 1 (c' := (162, [(4, .int (Int32.ofInt 0)), (3, .int (Int32.ofInt 0)), (2, .int (nI z1.1)), (1, .int (lb_g f t z1.1)), (0, .ref B)], [.int (Int32.ofInt 0)], me_w M J2)) rfl k
            have k := lz_ri rfl (by decide) k
            have hcm : lb_cm f t z1.1 (Int32.ofInt 14) := Or.inr (Or.inl ⟨h22, fun c => absurd c.1 (by omega), rfl⟩)
            have hcl : lb_cl (Int32.ofInt 14) = 1 := by decide
            have hv3 : lb_sum f t (lb_s f t (z1.1 + lb_cl (Int32.ofInt 14)), z1.2.1 + 1, z1.2.2) (.inl c) := by rw [hcl]; exact hv2
            exact ⟨.inl c, _, _, k, ⟨_, hv1, Or.inr ⟨z1, rfl, _, _, ⟨hcm, Or.inr (Or.inr ⟨by decide, hm, rfl⟩)⟩, Or.inr ⟨_, rfl, _, hv3, Or.inl ⟨c, rfl, rfl⟩⟩⟩⟩, hc, rfl, _, _, _, hT2, hq2⟩
          · obtain ⟨rfl, q2, hz2, hq2, hT2⟩ := hQ2
            have k : nt_rn X _ 161 (158, [(4, .int (Int32.ofInt 0)), (3, .int (Int32.ofInt 0)), (2, .int (nI z1.1)), (1, .int (lb_g f t z1.1)), (0, .ref B)], [.int (Int32.ofInt 1)], me_w M J2) _ := k
            have k := ly_revb 1 (c' := (if (Int32.ofInt 1) = 0 then 161 else 163, [(4, .int (Int32.ofInt 0)), (3, .int (Int32.ofInt 0)), (2, .int (nI z1.1)), (1, .int (lb_g f t z1.1)), (0, .ref B)], [], me_w M J2)) rfl k
            rw [if_neg (show ¬ ((Int32.ofInt 1) = 0) from by decide)] at k
            have k := ly_revb 5 (c' := (170, [(4, .int (Int32.ofInt 0)), (3, .int (Int32.ofInt 0)), (2, .int (nI z1.1)), (1, .int (lb_g f t z1.1)), (0, .ref B)], [.int (Int32.ofInt 0), .int ((Int32.ofInt 6) + (Int32.ofInt 0)), .ref B], me_w M J2)) rfl k
            obtain ⟨d1, o1, ed, kc, k⟩ := lz_c (g := 155) (q := 1) (vs := [.ref B, .int ((Int32.ofInt 6) + (Int32.ofInt 0)), .int (Int32.ofInt 0)]) (rest := []) rfl rfl (by decide) (Or.inr (Or.inl ⟨_, rfl, rfl⟩)) rfl k
            obtain ⟨hb, e1⟩ := md_puts hP hT2 hq2 kc
            subst e1
            have hU2 := md_Se (y := ((Int32.ofInt 6) + (Int32.ofInt 0)) + Int32.ofInt 16 * (Int32.ofInt 0)) hP hT2 hb
            have k : nt_rn X _ 161 (173, [(4, .int (Int32.ofInt 0)), (3, .int (Int32.ofInt 0)), (2, .int (nI z1.1)), (1, .int (lb_g f t z1.1)), (0, .ref B)], [], me_w M (nt_u (nt_u J2 Sg (400 * x + z2.2.2.2.1) (((Int32.ofInt 6) + (Int32.ofInt 0)) + Int32.ofInt 16 * (Int32.ofInt 0))) Ln x (nI (z2.2.2.2.1 + 1)))) _ := k
            have k := ly_revb 1 (c' := (174, [(4, .int (Int32.ofInt 0)), (3, .int (Int32.ofInt 0)), (2, .int (nI z1.1)), (1, .int (lb_g f t z1.1)), (0, .ref B)], [.int (Int32.ofInt 1)], me_w M (nt_u (nt_u J2 Sg (400 * x + z2.2.2.2.1) (((Int32.ofInt 6) + (Int32.ofInt 0)) + Int32.ofInt 16 * (Int32.ofInt 0))) Ln x (nI (z2.2.2.2.1 + 1))))) rfl k
            have k := lz_ri rfl (by decide) k
            have hcm : lb_cm f t z1.1 (Int32.ofInt 14) := Or.inr (Or.inl ⟨h22, fun c => absurd c.1 (by omega), rfl⟩)
            have hcl : lb_cl (Int32.ofInt 14) = 1 := by decide
            have hv3 : lb_sum f t (lb_s f t (z1.1 + lb_cl (Int32.ofInt 14)), z1.2.1 + 1, z1.2.2) (.inr z2) := by rw [hcl]; exact hv2
            rw [show ((Int32.ofInt 6) + (Int32.ofInt 0)) + Int32.ofInt 16 * (Int32.ofInt 0) = Int32.ofInt 14 - Int32.ofInt 8 from by decide] at hU2
            rw [show ((Int32.ofInt 6) + (Int32.ofInt 0)) + Int32.ofInt 16 * (Int32.ofInt 0) = Int32.ofInt 14 - Int32.ofInt 8 from by decide] at k
            exact ⟨.inr (z2.1, z2.2.1, lb_em z2.2.2 (Int32.ofInt 14) (Int32.ofInt 14 - Int32.ofInt 8)), _, _, k, ⟨_, hv1, Or.inr ⟨z1, rfl, _, _, ⟨hcm, Or.inr (Or.inr ⟨by decide, hm, rfl⟩)⟩, Or.inr ⟨_, rfl, _, hv3, Or.inr ⟨z2, rfl, rfl⟩⟩⟩⟩, rfl, _, hz2, hq2, hU2⟩
      · rw [if_neg (show ¬ ((nI t) ≤ (nI (z1.1 + 1))) from show ¬ nI t ≤ nI ((z1.1 + 1)) from nI_ge (Nat.not_le.mp h68) (by omega))] at k
        have k := ly_revb 1 (c' := (72, [(2, .int (nI z1.1)), (1, .int (lb_g f t z1.1)), (0, .ref B)], [.ref B], me_w M (nt_u (nt_u J1 B 15 (nI z1.1)) B 15 (nI (z1.1 + 1))))) rfl k
        have k := lz_get (a := B) (g := 1100) (M := me_w M (nt_u (nt_u J1 B 15 (nI z1.1)) B 15 (nI (z1.1 + 1)))) (v := .ref Tb) rfl (nt_gfR rfl hP.1.1) k
        have k := ly_revb 1 (c' := (76, [(2, .int (nI z1.1)), (1, .int (lb_g f t z1.1)), (0, .ref B)], [.ref B, .ref Tb], me_w M (nt_u (nt_u J1 B 15 (nI z1.1)) B 15 (nI (z1.1 + 1))))) rfl k
        have k := lz_get (a := B) (g := 1115) (M := me_w M (nt_u (nt_u J1 B 15 (nI z1.1)) B 15 (nI (z1.1 + 1)))) (v := .int (nI (z1.1 + 1))) rfl (congrArg Value.int (hN1.1)) k
        have k := me_bald (q := (z1.1 + 1)) (v := f ((z1.1 + 1))) rfl (rfl) (by omega) (md_f hP hN1 ((z1.1 + 1))) k
        have k := ly_revb 2 (c' := (if (f ((z1.1 + 1))) = (Int32.ofInt 61) then 85 else 89, [(2, .int (nI z1.1)), (1, .int (lb_g f t z1.1)), (0, .ref B)], [], me_w M (nt_u (nt_u J1 B 15 (nI z1.1)) B 15 (nI (z1.1 + 1))))) rfl k
        by_cases h82 : f (z1.1 + 1) = Int32.ofInt 61
        · rw [if_pos (show (f ((z1.1 + 1))) = (Int32.ofInt 61) from h82)] at k
          have k := ly_revb 5 (c' := (if (Int32.ofInt 1) = 0 then 105 else 95, [(3, .int (Int32.ofInt 1)), (2, .int (nI z1.1)), (1, .int (lb_g f t z1.1)), (0, .ref B)], [], me_w M (nt_u (nt_u J1 B 15 (nI z1.1)) B 15 (nI (z1.1 + 1))))) rfl k
          rw [if_neg (show ¬ ((Int32.ofInt 1) = 0) from by decide)] at k
          have k := ly_revb 2 (c' := (97, [(3, .int (Int32.ofInt 1)), (2, .int (nI z1.1)), (1, .int (lb_g f t z1.1)), (0, .ref B)], [.ref B, .ref B], me_w M (nt_u (nt_u J1 B 15 (nI z1.1)) B 15 (nI (z1.1 + 1))))) rfl k
          have k := lz_get (a := B) (g := 1115) (M := me_w M (nt_u (nt_u J1 B 15 (nI z1.1)) B 15 (nI (z1.1 + 1)))) (v := .int (nI (z1.1 + 1))) rfl (congrArg Value.int (hN1.1)) k
          have k := ly_revb 2 (c' := (102, [(3, .int (Int32.ofInt 1)), (2, .int (nI z1.1)), (1, .int (lb_g f t z1.1)), (0, .ref B)], [.int ((nI (z1.1 + 1)) + (Int32.ofInt 1)), .ref B], me_w M (nt_u (nt_u J1 B 15 (nI z1.1)) B 15 (nI (z1.1 + 1))))) rfl k
          rw [show ((nI (z1.1 + 1)) + (Int32.ofInt 1) : Int32) = nI ((z1.1 + 1) + 1) from me_add (k := 1)] at k
          have k := me_put rfl (by decide) k
          have k : nt_rn X _ 161 (105, [(3, .int (Int32.ofInt 1)), (2, .int (nI z1.1)), (1, .int (lb_g f t z1.1)), (0, .ref B)], [], me_w M (nt_u (nt_u (nt_u J1 B 15 (nI z1.1)) B 15 (nI (z1.1 + 1))) B 15 (nI ((z1.1 + 1) + 1)))) _ := k
          have hN2 := md_Sq (y := z1.1 + 2) hP hN1
          have k := ly_revb 2 (c' := (107, [(3, .int (Int32.ofInt 1)), (2, .int (nI z1.1)), (1, .int (lb_g f t z1.1)), (0, .ref B)], [.int (nI z1.1), .ref B], me_w M (nt_u (nt_u (nt_u J1 B 15 (nI z1.1)) B 15 (nI (z1.1 + 1))) B 15 (nI ((z1.1 + 1) + 1))))) rfl k
          obtain ⟨d1, o1, ed, kc, k⟩ := lz_c (g := 154) (q := 1) (vs := [.ref B, .int (nI z1.1)]) (rest := []) rfl rfl (by decide) (Or.inr (Or.inl ⟨_, rfl, rfl⟩)) rfl k
          rcases md_makes (a := z1.1) hP hN2 (show z1.1 + 2 ≤ t by omega) rfl kc with ⟨hm, e1⟩ | ⟨hm, e1⟩
          · subst e1
            have hS6 := md_Sw (y := lb_c z1.1 (Int32.ofInt 3)) hP hN2
            have k : nt_rn X _ 161 (110, [(3, .int (Int32.ofInt 1)), (2, .int (nI z1.1)), (1, .int (lb_g f t z1.1)), (0, .ref B)], [.int (Int32.ofInt 0)], me_w M (nt_u (nt_u (nt_u (nt_u J1 B 15 (nI z1.1)) B 15 (nI (z1.1 + 1))) B 15 (nI ((z1.1 + 1) + 1))) B 16 (lb_c z1.1 (Int32.ofInt 3)))) _ := k
            have k := ly_revb 1 (c' := (if (Int32.ofInt 0) = 0 then 113 else 115, [(3, .int (Int32.ofInt 1)), (2, .int (nI z1.1)), (1, .int (lb_g f t z1.1)), (0, .ref B)], [], me_w M (nt_u (nt_u (nt_u (nt_u J1 B 15 (nI z1.1)) B 15 (nI (z1.1 + 1))) B 15 (nI ((z1.1 + 1) + 1))) B 16 (lb_c z1.1 (Int32.ofInt 3))))) rfl k
            rw [if_pos (show (Int32.ofInt 0) = 0 from by decide)] at k
            have k := ly_revb 1 (c' := (114, [(3, .int (Int32.ofInt 1)), (2, .int (nI z1.1)), (1, .int (lb_g f t z1.1)), (0, .ref B)], [.int (Int32.ofInt 0)], me_w M (nt_u (nt_u (nt_u (nt_u J1 B 15 (nI z1.1)) B 15 (nI (z1.1 + 1))) B 15 (nI ((z1.1 + 1) + 1))) B 16 (lb_c z1.1 (Int32.ofInt 3))))) rfl k
            have k := lz_ri rfl (by decide) k
            have hcm : lb_cm f t z1.1 (Int32.ofInt 15) := Or.inl ⟨h22, ⟨by omega, h82⟩, rfl⟩
            exact ⟨.inl (lb_c z1.1 (Int32.ofInt 3)), _, _, k, ⟨_, hv1, Or.inr ⟨z1, rfl, _, _, ⟨hcm, Or.inr (Or.inl ⟨by decide, hm, rfl⟩)⟩, Or.inl ⟨_, rfl, rfl⟩⟩⟩, (lb_c_ne (by omega) (by decide) (by decide)), rfl, _, _, _, hS6, (show z1.1 + 2 ≤ t by omega)⟩
          · subst e1
            have hS6 := md_Sm (y := z1.2.1 + 1) hP hN2 (by omega)
            have k : nt_rn X _ 161 (110, [(3, .int (Int32.ofInt 1)), (2, .int (nI z1.1)), (1, .int (lb_g f t z1.1)), (0, .ref B)], [.int (Int32.ofInt 1)], me_w M (nt_u (nt_u (nt_u (nt_u J1 B 15 (nI z1.1)) B 15 (nI (z1.1 + 1))) B 15 (nI ((z1.1 + 1) + 1))) B 19 (nI (z1.2.1 + 1)))) _ := k
            have k := ly_revb 1 (c' := (if (Int32.ofInt 1) = 0 then 113 else 115, [(3, .int (Int32.ofInt 1)), (2, .int (nI z1.1)), (1, .int (lb_g f t z1.1)), (0, .ref B)], [], me_w M (nt_u (nt_u (nt_u (nt_u J1 B 15 (nI z1.1)) B 15 (nI (z1.1 + 1))) B 15 (nI ((z1.1 + 1) + 1))) B 19 (nI (z1.2.1 + 1))))) rfl k
            rw [if_neg (show ¬ ((Int32.ofInt 1) = 0) from by decide)] at k
            have k := ly_revb 3 (c' := (if (lb_g f t z1.1) = (Int32.ofInt 60) then 121 else 133, [(3, .int (Int32.ofInt 1)), (2, .int (nI z1.1)), (1, .int (lb_g f t z1.1)), (0, .ref B)], [], me_w M (nt_u (nt_u (nt_u (nt_u J1 B 15 (nI z1.1)) B 15 (nI (z1.1 + 1))) B 15 (nI ((z1.1 + 1) + 1))) B 19 (nI (z1.2.1 + 1))))) rfl k
            rw [if_pos (show (lb_g f t z1.1) = (Int32.ofInt 60) from h22)] at k
            have k := ly_revb 2 (c' := (if (Int32.ofInt 1) = 0 then 129 else 125, [(3, .int (Int32.ofInt 1)), (2, .int (nI z1.1)), (1, .int (lb_g f t z1.1)), (0, .ref B)], [], me_w M (nt_u (nt_u (nt_u (nt_u J1 B 15 (nI z1.1)) B 15 (nI (z1.1 + 1))) B 15 (nI ((z1.1 + 1) + 1))) B 19 (nI (z1.2.1 + 1))))) rfl k
            rw [if_neg (show ¬ ((Int32.ofInt 1) = 0) from by decide)] at k
            have k := ly_revb 4 (c' := (155, [(4, .int (Int32.ofInt 1)), (3, .int (Int32.ofInt 1)), (2, .int (nI z1.1)), (1, .int (lb_g f t z1.1)), (0, .ref B)], [.ref B], me_w M (nt_u (nt_u (nt_u (nt_u J1 B 15 (nI z1.1)) B 15 (nI (z1.1 + 1))) B 15 (nI ((z1.1 + 1) + 1))) B 19 (nI (z1.2.1 + 1))))) rfl k
            obtain ⟨d1, o1, ed, kc, k⟩ := lz_c (g := 151) (q := 1) (vs := [.ref B]) (rest := []) rfl rfl (by decide) (Or.inr (Or.inl ⟨_, rfl, rfl⟩)) rfl k
            obtain ⟨r2, a2, J2, e1, hv2, hQ2⟩ := md_sum (s0 := z1.2.2.1) hP hB hS6 (show z1.1 + 2 ≤ t by omega) kc
            subst e1
            rcases r2 with c | z2
            · obtain ⟨hc, rfl, q2, m2, e2, hT2, hq2⟩ := hQ2
              have k : nt_rn X _ 161 (158, [(4, .int (Int32.ofInt 1)), (3, .int (Int32.ofInt 1)), (2, .int (nI z1.1)), (1, .int (lb_g f t z1.1)), (0, .ref B)], [.int (Int32.ofInt 0)], me_w M J2) _ := k
              have k := ly_revb 1 (c' := (if (Int32.ofInt 0) = 0 then 161 else 163, [(4, .int (Int32.ofInt 1)), (3, .int (Int32.ofInt 1)), (2, .int (nI z1.1)), (1, .int (lb_g f t z1.1)), (0, .ref B)], [], me_w M J2)) rfl k
              rw [if_pos (show (Int32.ofInt 0) = 0 from by decide)] at k
              have k := ly_revb 1 (c' := (162, [(4, .int (Int32.ofInt 1)), (3, .int (Int32.ofInt 1)), (2, .int (nI z1.1)), (1, .int (lb_g f t z1.1)), (0, .ref B)], [.int (Int32.ofInt 0)], me_w M J2)) rfl k
              have k := lz_ri rfl (by decide) k
              have hcm : lb_cm f t z1.1 (Int32.ofInt 15) := Or.inl ⟨h22, ⟨by omega, h82⟩, rfl⟩
              have hcl : lb_cl (Int32.ofInt 15) = 2 := by decide
              have hv3 : lb_sum f t (lb_s f t (z1.1 + lb_cl (Int32.ofInt 15)), z1.2.1 + 1, z1.2.2) (.inl c) := by rw [hcl]; exact hv2
              exact ⟨.inl c, _, _, k, ⟨_, hv1, Or.inr ⟨z1, rfl, _, _, ⟨hcm, Or.inr (Or.inr ⟨by decide, hm, rfl⟩)⟩, Or.inr ⟨_, rfl, _, hv3, Or.inl ⟨c, rfl, rfl⟩⟩⟩⟩, hc, rfl, _, _, _, hT2, hq2⟩
            · obtain ⟨rfl, q2, hz2, hq2, hT2⟩ := hQ2
              have k : nt_rn X _ 161 (158, [(4, .int (Int32.ofInt 1)), (3, .int (Int32.ofInt 1)), (2, .int (nI z1.1)), (1, .int (lb_g f t z1.1)), (0, .ref B)], [.int (Int32.ofInt 1)], me_w M J2) _ := k
              have k := ly_revb 1 (c' := (if (Int32.ofInt 1) = 0 then 161 else 163, [(4, .int (Int32.ofInt 1)), (3, .int (Int32.ofInt 1)), (2, .int (nI z1.1)), (1, .int (lb_g f t z1.1)), (0, .ref B)], [], me_w M J2)) rfl k
              rw [if_neg (show ¬ ((Int32.ofInt 1) = 0) from by decide)] at k
              have k := ly_revb 5 (c' := (170, [(4, .int (Int32.ofInt 1)), (3, .int (Int32.ofInt 1)), (2, .int (nI z1.1)), (1, .int (lb_g f t z1.1)), (0, .ref B)], [.int (Int32.ofInt 0), .int ((Int32.ofInt 6) + (Int32.ofInt 1)), .ref B], me_w M J2)) rfl k
              obtain ⟨d1, o1, ed, kc, k⟩ := lz_c (g := 155) (q := 1) (vs := [.ref B, .int ((Int32.ofInt 6) + (Int32.ofInt 1)), .int (Int32.ofInt 0)]) (rest := []) rfl rfl (by decide) (Or.inr (Or.inl ⟨_, rfl, rfl⟩)) rfl k
              obtain ⟨hb, e1⟩ := md_puts hP hT2 hq2 kc
              subst e1
              have hU2 := md_Se (y := ((Int32.ofInt 6) + (Int32.ofInt 1)) + Int32.ofInt 16 * (Int32.ofInt 0)) hP hT2 hb
              have k : nt_rn X _ 161 (173, [(4, .int (Int32.ofInt 1)), (3, .int (Int32.ofInt 1)), (2, .int (nI z1.1)), (1, .int (lb_g f t z1.1)), (0, .ref B)], [], me_w M (nt_u (nt_u J2 Sg (400 * x + z2.2.2.2.1) (((Int32.ofInt 6) + (Int32.ofInt 1)) + Int32.ofInt 16 * (Int32.ofInt 0))) Ln x (nI (z2.2.2.2.1 + 1)))) _ := k
              have k := ly_revb 1 (c' := (174, [(4, .int (Int32.ofInt 1)), (3, .int (Int32.ofInt 1)), (2, .int (nI z1.1)), (1, .int (lb_g f t z1.1)), (0, .ref B)], [.int (Int32.ofInt 1)], me_w M (nt_u (nt_u J2 Sg (400 * x + z2.2.2.2.1) (((Int32.ofInt 6) + (Int32.ofInt 1)) + Int32.ofInt 16 * (Int32.ofInt 0))) Ln x (nI (z2.2.2.2.1 + 1))))) rfl k
              have k := lz_ri rfl (by decide) k
              have hcm : lb_cm f t z1.1 (Int32.ofInt 15) := Or.inl ⟨h22, ⟨by omega, h82⟩, rfl⟩
              have hcl : lb_cl (Int32.ofInt 15) = 2 := by decide
              have hv3 : lb_sum f t (lb_s f t (z1.1 + lb_cl (Int32.ofInt 15)), z1.2.1 + 1, z1.2.2) (.inr z2) := by rw [hcl]; exact hv2
              rw [show ((Int32.ofInt 6) + (Int32.ofInt 1)) + Int32.ofInt 16 * (Int32.ofInt 0) = Int32.ofInt 15 - Int32.ofInt 8 from by decide] at hU2
              rw [show ((Int32.ofInt 6) + (Int32.ofInt 1)) + Int32.ofInt 16 * (Int32.ofInt 0) = Int32.ofInt 15 - Int32.ofInt 8 from by decide] at k
              exact ⟨.inr (z2.1, z2.2.1, lb_em z2.2.2 (Int32.ofInt 15) (Int32.ofInt 15 - Int32.ofInt 8)), _, _, k, ⟨_, hv1, Or.inr ⟨z1, rfl, _, _, ⟨hcm, Or.inr (Or.inr ⟨by decide, hm, rfl⟩)⟩, Or.inr ⟨_, rfl, _, hv3, Or.inr ⟨z2, rfl, rfl⟩⟩⟩⟩, rfl, _, hz2, hq2, hU2⟩
        · rw [if_neg (show ¬ ((f ((z1.1 + 1))) = (Int32.ofInt 61)) from h82)] at k
          have k := ly_revb 4 (c' := (if (Int32.ofInt 0) = 0 then 105 else 95, [(3, .int (Int32.ofInt 0)), (2, .int (nI z1.1)), (1, .int (lb_g f t z1.1)), (0, .ref B)], [], me_w M (nt_u (nt_u J1 B 15 (nI z1.1)) B 15 (nI (z1.1 + 1))))) rfl k
          rw [if_pos (show (Int32.ofInt 0) = 0 from by decide)] at k
          have k := ly_revb 2 (c' := (107, [(3, .int (Int32.ofInt 0)), (2, .int (nI z1.1)), (1, .int (lb_g f t z1.1)), (0, .ref B)], [.int (nI z1.1), .ref B], me_w M (nt_u (nt_u J1 B 15 (nI z1.1)) B 15 (nI (z1.1 + 1))))) rfl k
          obtain ⟨d1, o1, ed, kc, k⟩ := lz_c (g := 154) (q := 1) (vs := [.ref B, .int (nI z1.1)]) (rest := []) rfl rfl (by decide) (Or.inr (Or.inl ⟨_, rfl, rfl⟩)) rfl k
          rcases md_makes (a := z1.1) hP hN1 (show z1.1 + 1 ≤ t from hlt) rfl kc with ⟨hm, e1⟩ | ⟨hm, e1⟩
          · subst e1
            have hS6 := md_Sw (y := lb_c z1.1 (Int32.ofInt 3)) hP hN1
            have k : nt_rn X _ 161 (110, [(3, .int (Int32.ofInt 0)), (2, .int (nI z1.1)), (1, .int (lb_g f t z1.1)), (0, .ref B)], [.int (Int32.ofInt 0)], me_w M (nt_u (nt_u (nt_u J1 B 15 (nI z1.1)) B 15 (nI (z1.1 + 1))) B 16 (lb_c z1.1 (Int32.ofInt 3)))) _ := k
            have k := ly_revb 1 (c' := (if (Int32.ofInt 0) = 0 then 113 else 115, [(3, .int (Int32.ofInt 0)), (2, .int (nI z1.1)), (1, .int (lb_g f t z1.1)), (0, .ref B)], [], me_w M (nt_u (nt_u (nt_u J1 B 15 (nI z1.1)) B 15 (nI (z1.1 + 1))) B 16 (lb_c z1.1 (Int32.ofInt 3))))) rfl k
            rw [if_pos (show (Int32.ofInt 0) = 0 from by decide)] at k
            have k := ly_revb 1 (c' := (114, [(3, .int (Int32.ofInt 0)), (2, .int (nI z1.1)), (1, .int (lb_g f t z1.1)), (0, .ref B)], [.int (Int32.ofInt 0)], me_w M (nt_u (nt_u (nt_u J1 B 15 (nI z1.1)) B 15 (nI (z1.1 + 1))) B 16 (lb_c z1.1 (Int32.ofInt 3))))) rfl k
            have k := lz_ri rfl (by decide) k
            have hcm : lb_cm f t z1.1 (Int32.ofInt 14) := Or.inr (Or.inl ⟨h22, fun c => h82 c.2, rfl⟩)
            exact ⟨.inl (lb_c z1.1 (Int32.ofInt 3)), _, _, k, ⟨_, hv1, Or.inr ⟨z1, rfl, _, _, ⟨hcm, Or.inr (Or.inl ⟨by decide, hm, rfl⟩)⟩, Or.inl ⟨_, rfl, rfl⟩⟩⟩, (lb_c_ne (by omega) (by decide) (by decide)), rfl, _, _, _, hS6, (show z1.1 + 1 ≤ t from hlt)⟩
          · subst e1
            have hS6 := md_Sm (y := z1.2.1 + 1) hP hN1 (by omega)
            have k : nt_rn X _ 161 (110, [(3, .int (Int32.ofInt 0)), (2, .int (nI z1.1)), (1, .int (lb_g f t z1.1)), (0, .ref B)], [.int (Int32.ofInt 1)], me_w M (nt_u (nt_u (nt_u J1 B 15 (nI z1.1)) B 15 (nI (z1.1 + 1))) B 19 (nI (z1.2.1 + 1)))) _ := k
            have k := ly_revb 1 (c' := (if (Int32.ofInt 1) = 0 then 113 else 115, [(3, .int (Int32.ofInt 0)), (2, .int (nI z1.1)), (1, .int (lb_g f t z1.1)), (0, .ref B)], [], me_w M (nt_u (nt_u (nt_u J1 B 15 (nI z1.1)) B 15 (nI (z1.1 + 1))) B 19 (nI (z1.2.1 + 1))))) rfl k
            rw [if_neg (show ¬ ((Int32.ofInt 1) = 0) from by decide)] at k
            have k := ly_revb 3 (c' := (if (lb_g f t z1.1) = (Int32.ofInt 60) then 121 else 133, [(3, .int (Int32.ofInt 0)), (2, .int (nI z1.1)), (1, .int (lb_g f t z1.1)), (0, .ref B)], [], me_w M (nt_u (nt_u (nt_u J1 B 15 (nI z1.1)) B 15 (nI (z1.1 + 1))) B 19 (nI (z1.2.1 + 1))))) rfl k
            rw [if_pos (show (lb_g f t z1.1) = (Int32.ofInt 60) from h22)] at k
            have k := ly_revb 2 (c' := (if (Int32.ofInt 0) = 0 then 129 else 125, [(3, .int (Int32.ofInt 0)), (2, .int (nI z1.1)), (1, .int (lb_g f t z1.1)), (0, .ref B)], [], me_w M (nt_u (nt_u (nt_u J1 B 15 (nI z1.1)) B 15 (nI (z1.1 + 1))) B 19 (nI (z1.2.1 + 1))))) rfl k
            rw [if_pos (show (Int32.ofInt 0) = 0 from by decide)] at k
            have k := ly_revb 4 (c' := (155, [(4, .int (Int32.ofInt 0)), (3, .int (Int32.ofInt 0)), (2, .int (nI z1.1)), (1, .int (lb_g f t z1.1)), (0, .ref B)], [.ref B], me_w M (nt_u (nt_u (nt_u J1 B 15 (nI z1.1)) B 15 (nI (z1.1 + 1))) B 19 (nI (z1.2.1 + 1))))) rfl k
            obtain ⟨d1, o1, ed, kc, k⟩ := lz_c (g := 151) (q := 1) (vs := [.ref B]) (rest := []) rfl rfl (by decide) (Or.inr (Or.inl ⟨_, rfl, rfl⟩)) rfl k
            obtain ⟨r2, a2, J2, e1, hv2, hQ2⟩ := md_sum (s0 := z1.2.2.1) hP hB hS6 (show z1.1 + 1 ≤ t from hlt) kc
            subst e1
            rcases r2 with c | z2
            · obtain ⟨hc, rfl, q2, m2, e2, hT2, hq2⟩ := hQ2
              have k : nt_rn X _ 161 (158, [(4, .int (Int32.ofInt 0)), (3, .int (Int32.ofInt 0)), (2, .int (nI z1.1)), (1, .int (lb_g f t z1.1)), (0, .ref B)], [.int (Int32.ofInt 0)], me_w M J2) _ := k
              have k := ly_revb 1 (c' := (if (Int32.ofInt 0) = 0 then 161 else 163, [(4, .int (Int32.ofInt 0)), (3, .int (Int32.ofInt 0)), (2, .int (nI z1.1)), (1, .int (lb_g f t z1.1)), (0, .ref B)], [], me_w M J2)) rfl k
              rw [if_pos (show (Int32.ofInt 0) = 0 from by decide)] at k
              have k := ly_revb 1 (c' := (162, [(4, .int (Int32.ofInt 0)), (3, .int (Int32.ofInt 0)), (2, .int (nI z1.1)), (1, .int (lb_g f t z1.1)), (0, .ref B)], [.int (Int32.ofInt 0)], me_w M J2)) rfl k
              have k := lz_ri rfl (by decide) k
              have hcm : lb_cm f t z1.1 (Int32.ofInt 14) := Or.inr (Or.inl ⟨h22, fun c => h82 c.2, rfl⟩)
              have hcl : lb_cl (Int32.ofInt 14) = 1 := by decide
              have hv3 : lb_sum f t (lb_s f t (z1.1 + lb_cl (Int32.ofInt 14)), z1.2.1 + 1, z1.2.2) (.inl c) := by rw [hcl]; exact hv2
              exact ⟨.inl c, _, _, k, ⟨_, hv1, Or.inr ⟨z1, rfl, _, _, ⟨hcm, Or.inr (Or.inr ⟨by decide, hm, rfl⟩)⟩, Or.inr ⟨_, rfl, _, hv3, Or.inl ⟨c, rfl, rfl⟩⟩⟩⟩, hc, rfl, _, _, _, hT2, hq2⟩
            · obtain ⟨rfl, q2, hz2, hq2, hT2⟩ := hQ2
              have k : nt_rn X _ 161 (158, [(4, .int (Int32.ofInt 0)), (3, .int (Int32.ofInt 0)), (2, .int (nI z1.1)), (1, .int (lb_g f t z1.1)), (0, .ref B)], [.int (Int32.ofInt 1)], me_w M J2) _ := k
              have k := ly_revb 1 (c' := (if (Int32.ofInt 1) = 0 then 161 else 163, [(4, .int (Int32.ofInt 0)), (3, .int (Int32.ofInt 0)), (2, .int (nI z1.1)), (1, .int (lb_g f t z1.1)), (0, .ref B)], [], me_w M J2)) rfl k
              rw [if_neg (show ¬ ((Int32.ofInt 1) = 0) from by decide)] at k
              have k := ly_revb 5 (c' := (170, [(4, .int (Int32.ofInt 0)), (3, .int (Int32.ofInt 0)), (2, .int (nI z1.1)), (1, .int (lb_g f t z1.1)), (0, .ref B)], [.int (Int32.ofInt 0), .int ((Int32.ofInt 6) + (Int32.ofInt 0)), .ref B], me_w M J2)) rfl k
              obtain ⟨d1, o1, ed, kc, k⟩ := lz_c (g := 155) (q := 1) (vs := [.ref B, .int ((Int32.ofInt 6) + (Int32.ofInt 0)), .int (Int32.ofInt 0)]) (rest := []) rfl rfl (by decide) (Or.inr (Or.inl ⟨_, rfl, rfl⟩)) rfl k
              obtain ⟨hb, e1⟩ := md_puts hP hT2 hq2 kc
              subst e1
              have hU2 := md_Se (y := ((Int32.ofInt 6) + (Int32.ofInt 0)) + Int32.ofInt 16 * (Int32.ofInt 0)) hP hT2 hb
              have k : nt_rn X _ 161 (173, [(4, .int (Int32.ofInt 0)), (3, .int (Int32.ofInt 0)), (2, .int (nI z1.1)), (1, .int (lb_g f t z1.1)), (0, .ref B)], [], me_w M (nt_u (nt_u J2 Sg (400 * x + z2.2.2.2.1) (((Int32.ofInt 6) + (Int32.ofInt 0)) + Int32.ofInt 16 * (Int32.ofInt 0))) Ln x (nI (z2.2.2.2.1 + 1)))) _ := k
              have k := ly_revb 1 (c' := (174, [(4, .int (Int32.ofInt 0)), (3, .int (Int32.ofInt 0)), (2, .int (nI z1.1)), (1, .int (lb_g f t z1.1)), (0, .ref B)], [.int (Int32.ofInt 1)], me_w M (nt_u (nt_u J2 Sg (400 * x + z2.2.2.2.1) (((Int32.ofInt 6) + (Int32.ofInt 0)) + Int32.ofInt 16 * (Int32.ofInt 0))) Ln x (nI (z2.2.2.2.1 + 1))))) rfl k
              have k := lz_ri rfl (by decide) k
              have hcm : lb_cm f t z1.1 (Int32.ofInt 14) := Or.inr (Or.inl ⟨h22, fun c => h82 c.2, rfl⟩)
              have hcl : lb_cl (Int32.ofInt 14) = 1 := by decide
              have hv3 : lb_sum f t (lb_s f t (z1.1 + lb_cl (Int32.ofInt 14)), z1.2.1 + 1, z1.2.2) (.inr z2) := by rw [hcl]; exact hv2
              rw [show ((Int32.ofInt 6) + (Int32.ofInt 0)) + Int32.ofInt 16 * (Int32.ofInt 0) = Int32.ofInt 14 - Int32.ofInt 8 from by decide] at hU2
              rw [show ((Int32.ofInt 6) + (Int32.ofInt 0)) + Int32.ofInt 16 * (Int32.ofInt 0) = Int32.ofInt 14 - Int32.ofInt 8 from by decide] at k
              exact ⟨.inr (z2.1, z2.2.1, lb_em z2.2.2 (Int32.ofInt 14) (Int32.ofInt 14 - Int32.ofInt 8)), _, _, k, ⟨_, hv1, Or.inr ⟨z1, rfl, _, _, ⟨hcm, Or.inr (Or.inr ⟨by decide, hm, rfl⟩)⟩, Or.inr ⟨_, rfl, _, hv3, Or.inr ⟨z2, rfl, rfl⟩⟩⟩⟩, rfl, _, hz2, hq2, hU2⟩
    · rw [if_neg (show ¬ ((lb_g f t z1.1) = (Int32.ofInt 60)) from h22)] at k
      have k := ly_revb 3 (c' := (if (lb_g f t z1.1) = (Int32.ofInt 61) then 44 else 31, [(2, .int (nI z1.1)), (1, .int (lb_g f t z1.1)), (0, .ref B)], [], me_w M (nt_u J1 B 15 (nI z1.1)))) rfl k
      by_cases h28 : lb_g f t z1.1 = Int32.ofInt 61
      · rw [if_pos (show (lb_g f t z1.1) = (Int32.ofInt 61) from h28)] at k
        have k := ly_revb 2 (c' := (46, [(2, .int (nI z1.1)), (1, .int (lb_g f t z1.1)), (0, .ref B)], [.ref B, .ref B], me_w M (nt_u J1 B 15 (nI z1.1)))) rfl k
        have k := lz_get (a := B) (g := 1115) (M := me_w M (nt_u J1 B 15 (nI z1.1))) (v := .int (nI z1.1)) rfl (congrArg Value.int (hS2.1)) k
        have k := ly_revb 2 (c' := (51, [(2, .int (nI z1.1)), (1, .int (lb_g f t z1.1)), (0, .ref B)], [.int ((nI z1.1) + (Int32.ofInt 1)), .ref B], me_w M (nt_u J1 B 15 (nI z1.1)))) rfl k
        rw [show ((nI z1.1) + (Int32.ofInt 1) : Int32) = nI (z1.1 + 1) from me_add (k := 1)] at k
        have k := me_put rfl (by decide) k
        have k : nt_rn X _ 161 (54, [(2, .int (nI z1.1)), (1, .int (lb_g f t z1.1)), (0, .ref B)], [], me_w M (nt_u (nt_u J1 B 15 (nI z1.1)) B 15 (nI (z1.1 + 1)))) _ := k
        have hN1 := md_Sq (y := z1.1 + 1) hP hS2
        have hlt : z1.1 < t := lb_g_lt (by rw [h28]; decide)
        have k := ly_revb 3 (c' := (if (lb_g f t z1.1) = (Int32.ofInt 61) then 89 else 60, [(2, .int (nI z1.1)), (1, .int (lb_g f t z1.1)), (0, .ref B)], [], me_w M (nt_u (nt_u J1 B 15 (nI z1.1)) B 15 (nI (z1.1 + 1))))) rfl k
        rw [if_pos (show (lb_g f t z1.1) = (Int32.ofInt 61) from h28)] at k
        have k := ly_revb 4 (c' := (if (Int32.ofInt 0) = 0 then 105 else 95, [(3, .int (Int32.ofInt 0)), (2, .int (nI z1.1)), (1, .int (lb_g f t z1.1)), (0, .ref B)], [], me_w M (nt_u (nt_u J1 B 15 (nI z1.1)) B 15 (nI (z1.1 + 1))))) rfl k
        rw [if_pos (show (Int32.ofInt 0) = 0 from by decide)] at k
        have k := ly_revb 2 (c' := (107, [(3, .int (Int32.ofInt 0)), (2, .int (nI z1.1)), (1, .int (lb_g f t z1.1)), (0, .ref B)], [.int (nI z1.1), .ref B], me_w M (nt_u (nt_u J1 B 15 (nI z1.1)) B 15 (nI (z1.1 + 1))))) rfl k
        obtain ⟨d1, o1, ed, kc, k⟩ := lz_c (g := 154) (q := 1) (vs := [.ref B, .int (nI z1.1)]) (rest := []) rfl rfl (by decide) (Or.inr (Or.inl ⟨_, rfl, rfl⟩)) rfl k
        rcases md_makes (a := z1.1) hP hN1 (show z1.1 + 1 ≤ t from hlt) rfl kc with ⟨hm, e1⟩ | ⟨hm, e1⟩
        · subst e1
          have hS6 := md_Sw (y := lb_c z1.1 (Int32.ofInt 3)) hP hN1
          have k : nt_rn X _ 161 (110, [(3, .int (Int32.ofInt 0)), (2, .int (nI z1.1)), (1, .int (lb_g f t z1.1)), (0, .ref B)], [.int (Int32.ofInt 0)], me_w M (nt_u (nt_u (nt_u J1 B 15 (nI z1.1)) B 15 (nI (z1.1 + 1))) B 16 (lb_c z1.1 (Int32.ofInt 3)))) _ := k
          have k := ly_revb 1 (c' := (if (Int32.ofInt 0) = 0 then 113 else 115, [(3, .int (Int32.ofInt 0)), (2, .int (nI z1.1)), (1, .int (lb_g f t z1.1)), (0, .ref B)], [], me_w M (nt_u (nt_u (nt_u J1 B 15 (nI z1.1)) B 15 (nI (z1.1 + 1))) B 16 (lb_c z1.1 (Int32.ofInt 3))))) rfl k
          rw [if_pos (show (Int32.ofInt 0) = 0 from by decide)] at k
          have k := ly_revb 1 (c' := (114, [(3, .int (Int32.ofInt 0)), (2, .int (nI z1.1)), (1, .int (lb_g f t z1.1)), (0, .ref B)], [.int (Int32.ofInt 0)], me_w M (nt_u (nt_u (nt_u J1 B 15 (nI z1.1)) B 15 (nI (z1.1 + 1))) B 16 (lb_c z1.1 (Int32.ofInt 3))))) rfl k
          have k := lz_ri rfl (by decide) k
          have hcm : lb_cm f t z1.1 (Int32.ofInt 16) := Or.inr (Or.inr (Or.inl ⟨h28, rfl⟩))
          exact ⟨.inl (lb_c z1.1 (Int32.ofInt 3)), _, _, k, ⟨_, hv1, Or.inr ⟨z1, rfl, _, _, ⟨hcm, Or.inr (Or.inl ⟨by decide, hm, rfl⟩)⟩, Or.inl ⟨_, rfl, rfl⟩⟩⟩, (lb_c_ne (by omega) (by decide) (by decide)), rfl, _, _, _, hS6, (show z1.1 + 1 ≤ t from hlt)⟩
        · subst e1
          have hS6 := md_Sm (y := z1.2.1 + 1) hP hN1 (by omega)
          have k : nt_rn X _ 161 (110, [(3, .int (Int32.ofInt 0)), (2, .int (nI z1.1)), (1, .int (lb_g f t z1.1)), (0, .ref B)], [.int (Int32.ofInt 1)], me_w M (nt_u (nt_u (nt_u J1 B 15 (nI z1.1)) B 15 (nI (z1.1 + 1))) B 19 (nI (z1.2.1 + 1)))) _ := k
          have k := ly_revb 1 (c' := (if (Int32.ofInt 1) = 0 then 113 else 115, [(3, .int (Int32.ofInt 0)), (2, .int (nI z1.1)), (1, .int (lb_g f t z1.1)), (0, .ref B)], [], me_w M (nt_u (nt_u (nt_u J1 B 15 (nI z1.1)) B 15 (nI (z1.1 + 1))) B 19 (nI (z1.2.1 + 1))))) rfl k
          rw [if_neg (show ¬ ((Int32.ofInt 1) = 0) from by decide)] at k
          have k := ly_revb 3 (c' := (if (lb_g f t z1.1) = (Int32.ofInt 60) then 121 else 133, [(3, .int (Int32.ofInt 0)), (2, .int (nI z1.1)), (1, .int (lb_g f t z1.1)), (0, .ref B)], [], me_w M (nt_u (nt_u (nt_u J1 B 15 (nI z1.1)) B 15 (nI (z1.1 + 1))) B 19 (nI (z1.2.1 + 1))))) rfl k
          rw [if_neg (show ¬ ((lb_g f t z1.1) = (Int32.ofInt 60)) from h22)] at k
          have k := ly_revb 3 (c' := (if (lb_g f t z1.1) = (Int32.ofInt 61) then 139 else 143, [(3, .int (Int32.ofInt 0)), (2, .int (nI z1.1)), (1, .int (lb_g f t z1.1)), (0, .ref B)], [], me_w M (nt_u (nt_u (nt_u J1 B 15 (nI z1.1)) B 15 (nI (z1.1 + 1))) B 19 (nI (z1.2.1 + 1))))) rfl k
          rw [if_pos (show (lb_g f t z1.1) = (Int32.ofInt 61) from h28)] at k
          have k := ly_revb 4 (c' := (155, [(4, .int (Int32.ofInt 2)), (3, .int (Int32.ofInt 0)), (2, .int (nI z1.1)), (1, .int (lb_g f t z1.1)), (0, .ref B)], [.ref B], me_w M (nt_u (nt_u (nt_u J1 B 15 (nI z1.1)) B 15 (nI (z1.1 + 1))) B 19 (nI (z1.2.1 + 1))))) rfl k
          obtain ⟨d1, o1, ed, kc, k⟩ := lz_c (g := 151) (q := 1) (vs := [.ref B]) (rest := []) rfl rfl (by decide) (Or.inr (Or.inl ⟨_, rfl, rfl⟩)) rfl k
          obtain ⟨r2, a2, J2, e1, hv2, hQ2⟩ := md_sum (s0 := z1.2.2.1) hP hB hS6 (show z1.1 + 1 ≤ t from hlt) kc
          subst e1
          rcases r2 with c | z2
          · obtain ⟨hc, rfl, q2, m2, e2, hT2, hq2⟩ := hQ2
            have k : nt_rn X _ 161 (158, [(4, .int (Int32.ofInt 2)), (3, .int (Int32.ofInt 0)), (2, .int (nI z1.1)), (1, .int (lb_g f t z1.1)), (0, .ref B)], [.int (Int32.ofInt 0)], me_w M J2) _ := k
            have k := ly_revb 1 (c' := (if (Int32.ofInt 0) = 0 then 161 else 163, [(4, .int (Int32.ofInt 2)), (3, .int (Int32.ofInt 0)), (2, .int (nI z1.1)), (1, .int (lb_g f t z1.1)), (0, .ref B)], [], me_w M J2)) rfl k
            rw [if_pos (show (Int32.ofInt 0) = 0 from by decide)] at k
            have k := ly_revb 1 (c' := (162, [(4, .int (Int32.ofInt 2)), (3, .int (Int32.ofInt 0)), (2, .int (nI z1.1)), (1, .int (lb_g f t z1.1)), (0, .ref B)], [.int (Int32.ofInt 0)], me_w M J2)) rfl k
            have k := lz_ri rfl (by decide) k
            have hcm : lb_cm f t z1.1 (Int32.ofInt 16) := Or.inr (Or.inr (Or.inl ⟨h28, rfl⟩))
            have hcl : lb_cl (Int32.ofInt 16) = 1 := by decide
            have hv3 : lb_sum f t (lb_s f t (z1.1 + lb_cl (Int32.ofInt 16)), z1.2.1 + 1, z1.2.2) (.inl c) := by rw [hcl]; exact hv2
            exact ⟨.inl c, _, _, k, ⟨_, hv1, Or.inr ⟨z1, rfl, _, _, ⟨hcm, Or.inr (Or.inr ⟨by decide, hm, rfl⟩)⟩, Or.inr ⟨_, rfl, _, hv3, Or.inl ⟨c, rfl, rfl⟩⟩⟩⟩, hc, rfl, _, _, _, hT2, hq2⟩
          · obtain ⟨rfl, q2, hz2, hq2, hT2⟩ := hQ2
            have k : nt_rn X _ 161 (158, [(4, .int (Int32.ofInt 2)), (3, .int (Int32.ofInt 0)), (2, .int (nI z1.1)), (1, .int (lb_g f t z1.1)), (0, .ref B)], [.int (Int32.ofInt 1)], me_w M J2) _ := k
            have k := ly_revb 1 (c' := (if (Int32.ofInt 1) = 0 then 161 else 163, [(4, .int (Int32.ofInt 2)), (3, .int (Int32.ofInt 0)), (2, .int (nI z1.1)), (1, .int (lb_g f t z1.1)), (0, .ref B)], [], me_w M J2)) rfl k
            rw [if_neg (show ¬ ((Int32.ofInt 1) = 0) from by decide)] at k
            have k := ly_revb 5 (c' := (170, [(4, .int (Int32.ofInt 2)), (3, .int (Int32.ofInt 0)), (2, .int (nI z1.1)), (1, .int (lb_g f t z1.1)), (0, .ref B)], [.int (Int32.ofInt 0), .int ((Int32.ofInt 6) + (Int32.ofInt 2)), .ref B], me_w M J2)) rfl k
            obtain ⟨d1, o1, ed, kc, k⟩ := lz_c (g := 155) (q := 1) (vs := [.ref B, .int ((Int32.ofInt 6) + (Int32.ofInt 2)), .int (Int32.ofInt 0)]) (rest := []) rfl rfl (by decide) (Or.inr (Or.inl ⟨_, rfl, rfl⟩)) rfl k
            obtain ⟨hb, e1⟩ := md_puts hP hT2 hq2 kc
            subst e1
            have hU2 := md_Se (y := ((Int32.ofInt 6) + (Int32.ofInt 2)) + Int32.ofInt 16 * (Int32.ofInt 0)) hP hT2 hb
            have k : nt_rn X _ 161 (173, [(4, .int (Int32.ofInt 2)), (3, .int (Int32.ofInt 0)), (2, .int (nI z1.1)), (1, .int (lb_g f t z1.1)), (0, .ref B)], [], me_w M (nt_u (nt_u J2 Sg (400 * x + z2.2.2.2.1) (((Int32.ofInt 6) + (Int32.ofInt 2)) + Int32.ofInt 16 * (Int32.ofInt 0))) Ln x (nI (z2.2.2.2.1 + 1)))) _ := k
            have k := ly_revb 1 (c' := (174, [(4, .int (Int32.ofInt 2)), (3, .int (Int32.ofInt 0)), (2, .int (nI z1.1)), (1, .int (lb_g f t z1.1)), (0, .ref B)], [.int (Int32.ofInt 1)], me_w M (nt_u (nt_u J2 Sg (400 * x + z2.2.2.2.1) (((Int32.ofInt 6) + (Int32.ofInt 2)) + Int32.ofInt 16 * (Int32.ofInt 0))) Ln x (nI (z2.2.2.2.1 + 1))))) rfl k
            have k := lz_ri rfl (by decide) k
            have hcm : lb_cm f t z1.1 (Int32.ofInt 16) := Or.inr (Or.inr (Or.inl ⟨h28, rfl⟩))
            have hcl : lb_cl (Int32.ofInt 16) = 1 := by decide
            have hv3 : lb_sum f t (lb_s f t (z1.1 + lb_cl (Int32.ofInt 16)), z1.2.1 + 1, z1.2.2) (.inr z2) := by rw [hcl]; exact hv2
            rw [show ((Int32.ofInt 6) + (Int32.ofInt 2)) + Int32.ofInt 16 * (Int32.ofInt 0) = Int32.ofInt 16 - Int32.ofInt 8 from by decide] at hU2
            rw [show ((Int32.ofInt 6) + (Int32.ofInt 2)) + Int32.ofInt 16 * (Int32.ofInt 0) = Int32.ofInt 16 - Int32.ofInt 8 from by decide] at k
            exact ⟨.inr (z2.1, z2.2.1, lb_em z2.2.2 (Int32.ofInt 16) (Int32.ofInt 16 - Int32.ofInt 8)), _, _, k, ⟨_, hv1, Or.inr ⟨z1, rfl, _, _, ⟨hcm, Or.inr (Or.inr ⟨by decide, hm, rfl⟩)⟩, Or.inr ⟨_, rfl, _, hv3, Or.inr ⟨z2, rfl, rfl⟩⟩⟩⟩, rfl, _, hz2, hq2, hU2⟩
      · rw [if_neg (show ¬ ((lb_g f t z1.1) = (Int32.ofInt 61)) from h28)] at k
        have k := ly_revb 3 (c' := (if (lb_g f t z1.1) = (Int32.ofInt 62) then 44 else 37, [(2, .int (nI z1.1)), (1, .int (lb_g f t z1.1)), (0, .ref B)], [], me_w M (nt_u J1 B 15 (nI z1.1)))) rfl k
        by_cases h34 : lb_g f t z1.1 = Int32.ofInt 62
        · rw [if_pos (show (lb_g f t z1.1) = (Int32.ofInt 62) from h34)] at k
          have k := ly_revb 2 (c' := (46, [(2, .int (nI z1.1)), (1, .int (lb_g f t z1.1)), (0, .ref B)], [.ref B, .ref B], me_w M (nt_u J1 B 15 (nI z1.1)))) rfl k
          have k := lz_get (a := B) (g := 1115) (M := me_w M (nt_u J1 B 15 (nI z1.1))) (v := .int (nI z1.1)) rfl (congrArg Value.int (hS2.1)) k
          have k := ly_revb 2 (c' := (51, [(2, .int (nI z1.1)), (1, .int (lb_g f t z1.1)), (0, .ref B)], [.int ((nI z1.1) + (Int32.ofInt 1)), .ref B], me_w M (nt_u J1 B 15 (nI z1.1)))) rfl k
          rw [show ((nI z1.1) + (Int32.ofInt 1) : Int32) = nI (z1.1 + 1) from me_add (k := 1)] at k
          have k := me_put rfl (by decide) k
          have k : nt_rn X _ 161 (54, [(2, .int (nI z1.1)), (1, .int (lb_g f t z1.1)), (0, .ref B)], [], me_w M (nt_u (nt_u J1 B 15 (nI z1.1)) B 15 (nI (z1.1 + 1)))) _ := k
          have hN1 := md_Sq (y := z1.1 + 1) hP hS2
          have hlt : z1.1 < t := lb_g_lt (by rw [h34]; decide)
          have k := ly_revb 3 (c' := (if (lb_g f t z1.1) = (Int32.ofInt 61) then 89 else 60, [(2, .int (nI z1.1)), (1, .int (lb_g f t z1.1)), (0, .ref B)], [], me_w M (nt_u (nt_u J1 B 15 (nI z1.1)) B 15 (nI (z1.1 + 1))))) rfl k
          rw [if_neg (show ¬ ((lb_g f t z1.1) = (Int32.ofInt 61)) from by rw [h34]; decide)] at k
          have k := ly_revb 1 (c' := (61, [(2, .int (nI z1.1)), (1, .int (lb_g f t z1.1)), (0, .ref B)], [.ref B], me_w M (nt_u (nt_u J1 B 15 (nI z1.1)) B 15 (nI (z1.1 + 1))))) rfl k
          have k := lz_get (a := B) (g := 1115) (M := me_w M (nt_u (nt_u J1 B 15 (nI z1.1)) B 15 (nI (z1.1 + 1)))) (v := .int (nI (z1.1 + 1))) rfl (congrArg Value.int (hN1.1)) k
          have k := ly_revb 1 (c' := (65, [(2, .int (nI z1.1)), (1, .int (lb_g f t z1.1)), (0, .ref B)], [.ref B, .int (nI (z1.1 + 1))], me_w M (nt_u (nt_u J1 B 15 (nI z1.1)) B 15 (nI (z1.1 + 1))))) rfl k
          have k := lz_get (a := B) (g := 1101) (M := me_w M (nt_u (nt_u J1 B 15 (nI z1.1)) B 15 (nI (z1.1 + 1)))) (v := .int (nI t)) rfl (congrArg Value.int (md_t hP hN1)) k
          have k := ly_revb 1 (c' := (if (nI t) ≤ (nI (z1.1 + 1)) then 89 else 71, [(2, .int (nI z1.1)), (1, .int (lb_g f t z1.1)), (0, .ref B)], [], me_w M (nt_u (nt_u J1 B 15 (nI z1.1)) B 15 (nI (z1.1 + 1))))) rfl k
          by_cases h68 : t ≤ (z1.1 + 1)
          · rw [if_pos (show (nI t) ≤ (nI (z1.1 + 1)) from show nI t ≤ nI ((z1.1 + 1)) from nI_le h68 (by omega))] at k
            have k := ly_revb 4 (c' := (if (Int32.ofInt 0) = 0 then 105 else 95, [(3, .int (Int32.ofInt 0)), (2, .int (nI z1.1)), (1, .int (lb_g f t z1.1)), (0, .ref B)], [], me_w M (nt_u (nt_u J1 B 15 (nI z1.1)) B 15 (nI (z1.1 + 1))))) rfl k
            rw [if_pos (show (Int32.ofInt 0) = 0 from by decide)] at k
            have k := ly_revb 2 (c' := (107, [(3, .int (Int32.ofInt 0)), (2, .int (nI z1.1)), (1, .int (lb_g f t z1.1)), (0, .ref B)], [.int (nI z1.1), .ref B], me_w M (nt_u (nt_u J1 B 15 (nI z1.1)) B 15 (nI (z1.1 + 1))))) rfl k
            obtain ⟨d1, o1, ed, kc, k⟩ := lz_c (g := 154) (q := 1) (vs := [.ref B, .int (nI z1.1)]) (rest := []) rfl rfl (by decide) (Or.inr (Or.inl ⟨_, rfl, rfl⟩)) rfl k
            rcases md_makes (a := z1.1) hP hN1 (show z1.1 + 1 ≤ t from hlt) rfl kc with ⟨hm, e1⟩ | ⟨hm, e1⟩
            · subst e1
              have hS6 := md_Sw (y := lb_c z1.1 (Int32.ofInt 3)) hP hN1
              have k : nt_rn X _ 161 (110, [(3, .int (Int32.ofInt 0)), (2, .int (nI z1.1)), (1, .int (lb_g f t z1.1)), (0, .ref B)], [.int (Int32.ofInt 0)], me_w M (nt_u (nt_u (nt_u J1 B 15 (nI z1.1)) B 15 (nI (z1.1 + 1))) B 16 (lb_c z1.1 (Int32.ofInt 3)))) _ := k
              have k := ly_revb 1 (c' := (if (Int32.ofInt 0) = 0 then 113 else 115, [(3, .int (Int32.ofInt 0)), (2, .int (nI z1.1)), (1, .int (lb_g f t z1.1)), (0, .ref B)], [], me_w M (nt_u (nt_u (nt_u J1 B 15 (nI z1.1)) B 15 (nI (z1.1 + 1))) B 16 (lb_c z1.1 (Int32.ofInt 3))))) rfl k
              rw [if_pos (show (Int32.ofInt 0) = 0 from by decide)] at k
              have k := ly_revb 1 (c' := (114, [(3, .int (Int32.ofInt 0)), (2, .int (nI z1.1)), (1, .int (lb_g f t z1.1)), (0, .ref B)], [.int (Int32.ofInt 0)], me_w M (nt_u (nt_u (nt_u J1 B 15 (nI z1.1)) B 15 (nI (z1.1 + 1))) B 16 (lb_c z1.1 (Int32.ofInt 3))))) rfl k
              have k := lz_ri rfl (by decide) k
              have hcm : lb_cm f t z1.1 (Int32.ofInt 18) := Or.inr (Or.inr (Or.inr (Or.inr (Or.inl ⟨h34, fun c => absurd c.1 (by omega), rfl⟩))))
              exact ⟨.inl (lb_c z1.1 (Int32.ofInt 3)), _, _, k, ⟨_, hv1, Or.inr ⟨z1, rfl, _, _, ⟨hcm, Or.inr (Or.inl ⟨by decide, hm, rfl⟩)⟩, Or.inl ⟨_, rfl, rfl⟩⟩⟩, (lb_c_ne (by omega) (by decide) (by decide)), rfl, _, _, _, hS6, (show z1.1 + 1 ≤ t from hlt)⟩
            · subst e1
              have hS6 := md_Sm (y := z1.2.1 + 1) hP hN1 (by omega)
              have k : nt_rn X _ 161 (110, [(3, .int (Int32.ofInt 0)), (2, .int (nI z1.1)), (1, .int (lb_g f t z1.1)), (0, .ref B)], [.int (Int32.ofInt 1)], me_w M (nt_u (nt_u (nt_u J1 B 15 (nI z1.1)) B 15 (nI (z1.1 + 1))) B 19 (nI (z1.2.1 + 1)))) _ := k
              have k := ly_revb 1 (c' := (if (Int32.ofInt 1) = 0 then 113 else 115, [(3, .int (Int32.ofInt 0)), (2, .int (nI z1.1)), (1, .int (lb_g f t z1.1)), (0, .ref B)], [], me_w M (nt_u (nt_u (nt_u J1 B 15 (nI z1.1)) B 15 (nI (z1.1 + 1))) B 19 (nI (z1.2.1 + 1))))) rfl k
              rw [if_neg (show ¬ ((Int32.ofInt 1) = 0) from by decide)] at k
              have k := ly_revb 3 (c' := (if (lb_g f t z1.1) = (Int32.ofInt 60) then 121 else 133, [(3, .int (Int32.ofInt 0)), (2, .int (nI z1.1)), (1, .int (lb_g f t z1.1)), (0, .ref B)], [], me_w M (nt_u (nt_u (nt_u J1 B 15 (nI z1.1)) B 15 (nI (z1.1 + 1))) B 19 (nI (z1.2.1 + 1))))) rfl k
              rw [if_neg (show ¬ ((lb_g f t z1.1) = (Int32.ofInt 60)) from h22)] at k
              have k := ly_revb 3 (c' := (if (lb_g f t z1.1) = (Int32.ofInt 61) then 139 else 143, [(3, .int (Int32.ofInt 0)), (2, .int (nI z1.1)), (1, .int (lb_g f t z1.1)), (0, .ref B)], [], me_w M (nt_u (nt_u (nt_u J1 B 15 (nI z1.1)) B 15 (nI (z1.1 + 1))) B 19 (nI (z1.2.1 + 1))))) rfl k
              rw [if_neg (show ¬ ((lb_g f t z1.1) = (Int32.ofInt 61)) from h28)] at k
              have k := ly_revb 2 (c' := (if (Int32.ofInt 0) = 0 then 151 else 147, [(3, .int (Int32.ofInt 0)), (2, .int (nI z1.1)), (1, .int (lb_g f t z1.1)), (0, .ref B)], [], me_w M (nt_u (nt_u (nt_u J1 B 15 (nI z1.1)) B 15 (nI (z1.1 + 1))) B 19 (nI (z1.2.1 + 1))))) rfl k
              rw [if_pos (show (Int32.ofInt 0) = 0 from by decide)] at k
              have k := ly_revb 3 (c' := (155, [(4, .int (Int32.ofInt 4)), (3, .int (Int32.ofInt 0)), (2, .int (nI z1.1)), (1, .int (lb_g f t z1.1)), (0, .ref B)], [.ref B], me_w M (nt_u (nt_u (nt_u J1 B 15 (nI z1.1)) B 15 (nI (z1.1 + 1))) B 19 (nI (z1.2.1 + 1))))) rfl k
              obtain ⟨d1, o1, ed, kc, k⟩ := lz_c (g := 151) (q := 1) (vs := [.ref B]) (rest := []) rfl rfl (by decide) (Or.inr (Or.inl ⟨_, rfl, rfl⟩)) rfl k
              obtain ⟨r2, a2, J2, e1, hv2, hQ2⟩ := md_sum (s0 := z1.2.2.1) hP hB hS6 (show z1.1 + 1 ≤ t from hlt) kc
              subst e1
              rcases r2 with c | z2
              · obtain ⟨hc, rfl, q2, m2, e2, hT2, hq2⟩ := hQ2
                have k : nt_rn X _ 161 (158, [(4, .int (Int32.ofInt 4)), (3, .int (Int32.ofInt 0)), (2, .int (nI z1.1)), (1, .int (lb_g f t z1.1)), (0, .ref B)], [.int (Int32.ofInt 0)], me_w M J2) _ := k
                have k := ly_revb 1 (c' := (if (Int32.ofInt 0) = 0 then 161 else 163, [(4, .int (Int32.ofInt 4)), (3, .int (Int32.ofInt 0)), (2, .int (nI z1.1)), (1, .int (lb_g f t z1.1)), (0, .ref B)], [], me_w M J2)) rfl k
                rw [if_pos (show (Int32.ofInt 0) = 0 from by decide)] at k
                have k := ly_revb 1 (c' := (162, [(4, .int (Int32.ofInt 4)), (3, .int (Int32.ofInt 0)), (2, .int (nI z1.1)), (1, .int (lb_g f t z1.1)), (0, .ref B)], [.int (Int32.ofInt 0)], me_w M J2)) rfl k
                have k := lz_ri rfl (by decide) k
                have hcm : lb_cm f t z1.1 (Int32.ofInt 18) := Or.inr (Or.inr (Or.inr (Or.inr (Or.inl ⟨h34, fun c => absurd c.1 (by omega), rfl⟩))))
                have hcl : lb_cl (Int32.ofInt 18) = 1 := by decide
                have hv3 : lb_sum f t (lb_s f t (z1.1 + lb_cl (Int32.ofInt 18)), z1.2.1 + 1, z1.2.2) (.inl c) := by rw [hcl]; exact hv2
                exact ⟨.inl c, _, _, k, ⟨_, hv1, Or.inr ⟨z1, rfl, _, _, ⟨hcm, Or.inr (Or.inr ⟨by decide, hm, rfl⟩)⟩, Or.inr ⟨_, rfl, _, hv3, Or.inl ⟨c, rfl, rfl⟩⟩⟩⟩, hc, rfl, _, _, _, hT2, hq2⟩
              · obtain ⟨rfl, q2, hz2, hq2, hT2⟩ := hQ2
                have k : nt_rn X _ 161 (158, [(4, .int (Int32.ofInt 4)), (3, .int (Int32.ofInt 0)), (2, .int (nI z1.1)), (1, .int (lb_g f t z1.1)), (0, .ref B)], [.int (Int32.ofInt 1)], me_w M J2) _ := k
                have k := ly_revb 1 (c' := (if (Int32.ofInt 1) = 0 then 161 else 163, [(4, .int (Int32.ofInt 4)), (3, .int (Int32.ofInt 0)), (2, .int (nI z1.1)), (1, .int (lb_g f t z1.1)), (0, .ref B)], [], me_w M J2)) rfl k
                rw [if_neg (show ¬ ((Int32.ofInt 1) = 0) from by decide)] at k
                have k := ly_revb 5 (c' := (170, [(4, .int (Int32.ofInt 4)), (3, .int (Int32.ofInt 0)), (2, .int (nI z1.1)), (1, .int (lb_g f t z1.1)), (0, .ref B)], [.int (Int32.ofInt 0), .int ((Int32.ofInt 6) + (Int32.ofInt 4)), .ref B], me_w M J2)) rfl k
                obtain ⟨d1, o1, ed, kc, k⟩ := lz_c (g := 155) (q := 1) (vs := [.ref B, .int ((Int32.ofInt 6) + (Int32.ofInt 4)), .int (Int32.ofInt 0)]) (rest := []) rfl rfl (by decide) (Or.inr (Or.inl ⟨_, rfl, rfl⟩)) rfl k
                obtain ⟨hb, e1⟩ := md_puts hP hT2 hq2 kc
                subst e1
                have hU2 := md_Se (y := ((Int32.ofInt 6) + (Int32.ofInt 4)) + Int32.ofInt 16 * (Int32.ofInt 0)) hP hT2 hb
                have k : nt_rn X _ 161 (173, [(4, .int (Int32.ofInt 4)), (3, .int (Int32.ofInt 0)), (2, .int (nI z1.1)), (1, .int (lb_g f t z1.1)), (0, .ref B)], [], me_w M (nt_u (nt_u J2 Sg (400 * x + z2.2.2.2.1) (((Int32.ofInt 6) + (Int32.ofInt 4)) + Int32.ofInt 16 * (Int32.ofInt 0))) Ln x (nI (z2.2.2.2.1 + 1)))) _ := k
                have k := ly_revb 1 (c' := (174, [(4, .int (Int32.ofInt 4)), (3, .int (Int32.ofInt 0)), (2, .int (nI z1.1)), (1, .int (lb_g f t z1.1)), (0, .ref B)], [.int (Int32.ofInt 1)], me_w M (nt_u (nt_u J2 Sg (400 * x + z2.2.2.2.1) (((Int32.ofInt 6) + (Int32.ofInt 4)) + Int32.ofInt 16 * (Int32.ofInt 0))) Ln x (nI (z2.2.2.2.1 + 1))))) rfl k
                have k := lz_ri rfl (by decide) k
                have hcm : lb_cm f t z1.1 (Int32.ofInt 18) := Or.inr (Or.inr (Or.inr (Or.inr (Or.inl ⟨h34, fun c => absurd c.1 (by omega), rfl⟩))))
                have hcl : lb_cl (Int32.ofInt 18) = 1 := by decide
                have hv3 : lb_sum f t (lb_s f t (z1.1 + lb_cl (Int32.ofInt 18)), z1.2.1 + 1, z1.2.2) (.inr z2) := by rw [hcl]; exact hv2
                rw [show ((Int32.ofInt 6) + (Int32.ofInt 4)) + Int32.ofInt 16 * (Int32.ofInt 0) = Int32.ofInt 18 - Int32.ofInt 8 from by decide] at hU2
                rw [show ((Int32.ofInt 6) + (Int32.ofInt 4)) + Int32.ofInt 16 * (Int32.ofInt 0) = Int32.ofInt 18 - Int32.ofInt 8 from by decide] at k
                exact ⟨.inr (z2.1, z2.2.1, lb_em z2.2.2 (Int32.ofInt 18) (Int32.ofInt 18 - Int32.ofInt 8)), _, _, k, ⟨_, hv1, Or.inr ⟨z1, rfl, _, _, ⟨hcm, Or.inr (Or.inr ⟨by decide, hm, rfl⟩)⟩, Or.inr ⟨_, rfl, _, hv3, Or.inr ⟨z2, rfl, rfl⟩⟩⟩⟩, rfl, _, hz2, hq2, hU2⟩
          · rw [if_neg (show ¬ ((nI t) ≤ (nI (z1.1 + 1))) from show ¬ nI t ≤ nI ((z1.1 + 1)) from nI_ge (Nat.not_le.mp h68) (by omega))] at k
            have k := ly_revb 1 (c' := (72, [(2, .int (nI z1.1)), (1, .int (lb_g f t z1.1)), (0, .ref B)], [.ref B], me_w M (nt_u (nt_u J1 B 15 (nI z1.1)) B 15 (nI (z1.1 + 1))))) rfl k
            have k := lz_get (a := B) (g := 1100) (M := me_w M (nt_u (nt_u J1 B 15 (nI z1.1)) B 15 (nI (z1.1 + 1)))) (v := .ref Tb) rfl (nt_gfR rfl hP.1.1) k
            have k := ly_revb 1 (c' := (76, [(2, .int (nI z1.1)), (1, .int (lb_g f t z1.1)), (0, .ref B)], [.ref B, .ref Tb], me_w M (nt_u (nt_u J1 B 15 (nI z1.1)) B 15 (nI (z1.1 + 1))))) rfl k
            have k := lz_get (a := B) (g := 1115) (M := me_w M (nt_u (nt_u J1 B 15 (nI z1.1)) B 15 (nI (z1.1 + 1)))) (v := .int (nI (z1.1 + 1))) rfl (congrArg Value.int (hN1.1)) k
            have k := me_bald (q := (z1.1 + 1)) (v := f ((z1.1 + 1))) rfl (rfl) (by omega) (md_f hP hN1 ((z1.1 + 1))) k
            have k := ly_revb 2 (c' := (if (f ((z1.1 + 1))) = (Int32.ofInt 61) then 85 else 89, [(2, .int (nI z1.1)), (1, .int (lb_g f t z1.1)), (0, .ref B)], [], me_w M (nt_u (nt_u J1 B 15 (nI z1.1)) B 15 (nI (z1.1 + 1))))) rfl k
            by_cases h82 : f (z1.1 + 1) = Int32.ofInt 61
            · rw [if_pos (show (f ((z1.1 + 1))) = (Int32.ofInt 61) from h82)] at k
              have k := ly_revb 5 (c' := (if (Int32.ofInt 1) = 0 then 105 else 95, [(3, .int (Int32.ofInt 1)), (2, .int (nI z1.1)), (1, .int (lb_g f t z1.1)), (0, .ref B)], [], me_w M (nt_u (nt_u J1 B 15 (nI z1.1)) B 15 (nI (z1.1 + 1))))) rfl k
              rw [if_neg (show ¬ ((Int32.ofInt 1) = 0) from by decide)] at k
              have k := ly_revb 2 (c' := (97, [(3, .int (Int32.ofInt 1)), (2, .int (nI z1.1)), (1, .int (lb_g f t z1.1)), (0, .ref B)], [.ref B, .ref B], me_w M (nt_u (nt_u J1 B 15 (nI z1.1)) B 15 (nI (z1.1 + 1))))) rfl k
              have k := lz_get (a := B) (g := 1115) (M := me_w M (nt_u (nt_u J1 B 15 (nI z1.1)) B 15 (nI (z1.1 + 1)))) (v := .int (nI (z1.1 + 1))) rfl (congrArg Value.int (hN1.1)) k
              have k := ly_revb 2 (c' := (102, [(3, .int (Int32.ofInt 1)), (2, .int (nI z1.1)), (1, .int (lb_g f t z1.1)), (0, .ref B)], [.int ((nI (z1.1 + 1)) + (Int32.ofInt 1)), .ref B], me_w M (nt_u (nt_u J1 B 15 (nI z1.1)) B 15 (nI (z1.1 + 1))))) rfl k
              rw [show ((nI (z1.1 + 1)) + (Int32.ofInt 1) : Int32) = nI ((z1.1 + 1) + 1) from me_add (k := 1)] at k
              have k := me_put rfl (by decide) k
              have k : nt_rn X _ 161 (105, [(3, .int (Int32.ofInt 1)), (2, .int (nI z1.1)), (1, .int (lb_g f t z1.1)), (0, .ref B)], [], me_w M (nt_u (nt_u (nt_u J1 B 15 (nI z1.1)) B 15 (nI (z1.1 + 1))) B 15 (nI ((z1.1 + 1) + 1)))) _ := k
              have hN2 := md_Sq (y := z1.1 + 2) hP hN1
              have k := ly_revb 2 (c' := (107, [(3, .int (Int32.ofInt 1)), (2, .int (nI z1.1)), (1, .int (lb_g f t z1.1)), (0, .ref B)], [.int (nI z1.1), .ref B], me_w M (nt_u (nt_u (nt_u J1 B 15 (nI z1.1)) B 15 (nI (z1.1 + 1))) B 15 (nI ((z1.1 + 1) + 1))))) rfl k
              obtain ⟨d1, o1, ed, kc, k⟩ := lz_c (g := 154) (q := 1) (vs := [.ref B, .int (nI z1.1)]) (rest := []) rfl rfl (by decide) (Or.inr (Or.inl ⟨_, rfl, rfl⟩)) rfl k
              rcases md_makes (a := z1.1) hP hN2 (show z1.1 + 2 ≤ t by omega) rfl kc with ⟨hm, e1⟩ | ⟨hm, e1⟩
              · subst e1
                have hS6 := md_Sw (y := lb_c z1.1 (Int32.ofInt 3)) hP hN2
                have k : nt_rn X _ 161 (110, [(3, .int (Int32.ofInt 1)), (2, .int (nI z1.1)), (1, .int (lb_g f t z1.1)), (0, .ref B)], [.int (Int32.ofInt 0)], me_w M (nt_u (nt_u (nt_u (nt_u J1 B 15 (nI z1.1)) B 15 (nI (z1.1 + 1))) B 15 (nI ((z1.1 + 1) + 1))) B 16 (lb_c z1.1 (Int32.ofInt 3)))) _ := k
                have k := ly_revb 1 (c' := (if (Int32.ofInt 0) = 0 then 113 else 115, [(3, .int (Int32.ofInt 1)), (2, .int (nI z1.1)), (1, .int (lb_g f t z1.1)), (0, .ref B)], [], me_w M (nt_u (nt_u (nt_u (nt_u J1 B 15 (nI z1.1)) B 15 (nI (z1.1 + 1))) B 15 (nI ((z1.1 + 1) + 1))) B 16 (lb_c z1.1 (Int32.ofInt 3))))) rfl k
                rw [if_pos (show (Int32.ofInt 0) = 0 from by decide)] at k
                have k := ly_revb 1 (c' := (114, [(3, .int (Int32.ofInt 1)), (2, .int (nI z1.1)), (1, .int (lb_g f t z1.1)), (0, .ref B)], [.int (Int32.ofInt 0)], me_w M (nt_u (nt_u (nt_u (nt_u J1 B 15 (nI z1.1)) B 15 (nI (z1.1 + 1))) B 15 (nI ((z1.1 + 1) + 1))) B 16 (lb_c z1.1 (Int32.ofInt 3))))) rfl k
                have k := lz_ri rfl (by decide) k
                have hcm : lb_cm f t z1.1 (Int32.ofInt 17) := Or.inr (Or.inr (Or.inr (Or.inl ⟨h34, ⟨by omega, h82⟩, rfl⟩)))
                exact ⟨.inl (lb_c z1.1 (Int32.ofInt 3)), _, _, k, ⟨_, hv1, Or.inr ⟨z1, rfl, _, _, ⟨hcm, Or.inr (Or.inl ⟨by decide, hm, rfl⟩)⟩, Or.inl ⟨_, rfl, rfl⟩⟩⟩, (lb_c_ne (by omega) (by decide) (by decide)), rfl, _, _, _, hS6, (show z1.1 + 2 ≤ t by omega)⟩
              · subst e1
                have hS6 := md_Sm (y := z1.2.1 + 1) hP hN2 (by omega)
                have k : nt_rn X _ 161 (110, [(3, .int (Int32.ofInt 1)), (2, .int (nI z1.1)), (1, .int (lb_g f t z1.1)), (0, .ref B)], [.int (Int32.ofInt 1)], me_w M (nt_u (nt_u (nt_u (nt_u J1 B 15 (nI z1.1)) B 15 (nI (z1.1 + 1))) B 15 (nI ((z1.1 + 1) + 1))) B 19 (nI (z1.2.1 + 1)))) _ := k
                have k := ly_revb 1 (c' := (if (Int32.ofInt 1) = 0 then 113 else 115, [(3, .int (Int32.ofInt 1)), (2, .int (nI z1.1)), (1, .int (lb_g f t z1.1)), (0, .ref B)], [], me_w M (nt_u (nt_u (nt_u (nt_u J1 B 15 (nI z1.1)) B 15 (nI (z1.1 + 1))) B 15 (nI ((z1.1 + 1) + 1))) B 19 (nI (z1.2.1 + 1))))) rfl k
                rw [if_neg (show ¬ ((Int32.ofInt 1) = 0) from by decide)] at k
                have k := ly_revb 3 (c' := (if (lb_g f t z1.1) = (Int32.ofInt 60) then 121 else 133, [(3, .int (Int32.ofInt 1)), (2, .int (nI z1.1)), (1, .int (lb_g f t z1.1)), (0, .ref B)], [], me_w M (nt_u (nt_u (nt_u (nt_u J1 B 15 (nI z1.1)) B 15 (nI (z1.1 + 1))) B 15 (nI ((z1.1 + 1) + 1))) B 19 (nI (z1.2.1 + 1))))) rfl k
                rw [if_neg (show ¬ ((lb_g f t z1.1) = (Int32.ofInt 60)) from h22)] at k
                have k := ly_revb 3 (c' := (if (lb_g f t z1.1) = (Int32.ofInt 61) then 139 else 143, [(3, .int (Int32.ofInt 1)), (2, .int (nI z1.1)), (1, .int (lb_g f t z1.1)), (0, .ref B)], [], me_w M (nt_u (nt_u (nt_u (nt_u J1 B 15 (nI z1.1)) B 15 (nI (z1.1 + 1))) B 15 (nI ((z1.1 + 1) + 1))) B 19 (nI (z1.2.1 + 1))))) rfl k
                rw [if_neg (show ¬ ((lb_g f t z1.1) = (Int32.ofInt 61)) from h28)] at k
                have k := ly_revb 2 (c' := (if (Int32.ofInt 1) = 0 then 151 else 147, [(3, .int (Int32.ofInt 1)), (2, .int (nI z1.1)), (1, .int (lb_g f t z1.1)), (0, .ref B)], [], me_w M (nt_u (nt_u (nt_u (nt_u J1 B 15 (nI z1.1)) B 15 (nI (z1.1 + 1))) B 15 (nI ((z1.1 + 1) + 1))) B 19 (nI (z1.2.1 + 1))))) rfl k
                rw [if_neg (show ¬ ((Int32.ofInt 1) = 0) from by decide)] at k
                have k := ly_revb 4 (c' := (155, [(4, .int (Int32.ofInt 3)), (3, .int (Int32.ofInt 1)), (2, .int (nI z1.1)), (1, .int (lb_g f t z1.1)), (0, .ref B)], [.ref B], me_w M (nt_u (nt_u (nt_u (nt_u J1 B 15 (nI z1.1)) B 15 (nI (z1.1 + 1))) B 15 (nI ((z1.1 + 1) + 1))) B 19 (nI (z1.2.1 + 1))))) rfl k
                obtain ⟨d1, o1, ed, kc, k⟩ := lz_c (g := 151) (q := 1) (vs := [.ref B]) (rest := []) rfl rfl (by decide) (Or.inr (Or.inl ⟨_, rfl, rfl⟩)) rfl k
                obtain ⟨r2, a2, J2, e1, hv2, hQ2⟩ := md_sum (s0 := z1.2.2.1) hP hB hS6 (show z1.1 + 2 ≤ t by omega) kc
                subst e1
                rcases r2 with c | z2
                · obtain ⟨hc, rfl, q2, m2, e2, hT2, hq2⟩ := hQ2
                  have k : nt_rn X _ 161 (158, [(4, .int (Int32.ofInt 3)), (3, .int (Int32.ofInt 1)), (2, .int (nI z1.1)), (1, .int (lb_g f t z1.1)), (0, .ref B)], [.int (Int32.ofInt 0)], me_w M J2) _ := k
                  have k := ly_revb 1 (c' := (if (Int32.ofInt 0) = 0 then 161 else 163, [(4, .int (Int32.ofInt 3)), (3, .int (Int32.ofInt 1)), (2, .int (nI z1.1)), (1, .int (lb_g f t z1.1)), (0, .ref B)], [], me_w M J2)) rfl k
                  rw [if_pos (show (Int32.ofInt 0) = 0 from by decide)] at k
                  have k := ly_revb 1 (c' := (162, [(4, .int (Int32.ofInt 3)), (3, .int (Int32.ofInt 1)), (2, .int (nI z1.1)), (1, .int (lb_g f t z1.1)), (0, .ref B)], [.int (Int32.ofInt 0)], me_w M J2)) rfl k
                  have k := lz_ri rfl (by decide) k
                  have hcm : lb_cm f t z1.1 (Int32.ofInt 17) := Or.inr (Or.inr (Or.inr (Or.inl ⟨h34, ⟨by omega, h82⟩, rfl⟩)))
                  have hcl : lb_cl (Int32.ofInt 17) = 2 := by decide
                  have hv3 : lb_sum f t (lb_s f t (z1.1 + lb_cl (Int32.ofInt 17)), z1.2.1 + 1, z1.2.2) (.inl c) := by rw [hcl]; exact hv2
                  exact ⟨.inl c, _, _, k, ⟨_, hv1, Or.inr ⟨z1, rfl, _, _, ⟨hcm, Or.inr (Or.inr ⟨by decide, hm, rfl⟩)⟩, Or.inr ⟨_, rfl, _, hv3, Or.inl ⟨c, rfl, rfl⟩⟩⟩⟩, hc, rfl, _, _, _, hT2, hq2⟩
                · obtain ⟨rfl, q2, hz2, hq2, hT2⟩ := hQ2
                  have k : nt_rn X _ 161 (158, [(4, .int (Int32.ofInt 3)), (3, .int (Int32.ofInt 1)), (2, .int (nI z1.1)), (1, .int (lb_g f t z1.1)), (0, .ref B)], [.int (Int32.ofInt 1)], me_w M J2) _ := k
                  have k := ly_revb 1 (c' := (if (Int32.ofInt 1) = 0 then 161 else 163, [(4, .int (Int32.ofInt 3)), (3, .int (Int32.ofInt 1)), (2, .int (nI z1.1)), (1, .int (lb_g f t z1.1)), (0, .ref B)], [], me_w M J2)) rfl k
                  rw [if_neg (show ¬ ((Int32.ofInt 1) = 0) from by decide)] at k
                  have k := ly_revb 5 (c' := (170, [(4, .int (Int32.ofInt 3)), (3, .int (Int32.ofInt 1)), (2, .int (nI z1.1)), (1, .int (lb_g f t z1.1)), (0, .ref B)], [.int (Int32.ofInt 0), .int ((Int32.ofInt 6) + (Int32.ofInt 3)), .ref B], me_w M J2)) rfl k
                  obtain ⟨d1, o1, ed, kc, k⟩ := lz_c (g := 155) (q := 1) (vs := [.ref B, .int ((Int32.ofInt 6) + (Int32.ofInt 3)), .int (Int32.ofInt 0)]) (rest := []) rfl rfl (by decide) (Or.inr (Or.inl ⟨_, rfl, rfl⟩)) rfl k
                  obtain ⟨hb, e1⟩ := md_puts hP hT2 hq2 kc
                  subst e1
                  have hU2 := md_Se (y := ((Int32.ofInt 6) + (Int32.ofInt 3)) + Int32.ofInt 16 * (Int32.ofInt 0)) hP hT2 hb
                  have k : nt_rn X _ 161 (173, [(4, .int (Int32.ofInt 3)), (3, .int (Int32.ofInt 1)), (2, .int (nI z1.1)), (1, .int (lb_g f t z1.1)), (0, .ref B)], [], me_w M (nt_u (nt_u J2 Sg (400 * x + z2.2.2.2.1) (((Int32.ofInt 6) + (Int32.ofInt 3)) + Int32.ofInt 16 * (Int32.ofInt 0))) Ln x (nI (z2.2.2.2.1 + 1)))) _ := k
                  have k := ly_revb 1 (c' := (174, [(4, .int (Int32.ofInt 3)), (3, .int (Int32.ofInt 1)), (2, .int (nI z1.1)), (1, .int (lb_g f t z1.1)), (0, .ref B)], [.int (Int32.ofInt 1)], me_w M (nt_u (nt_u J2 Sg (400 * x + z2.2.2.2.1) (((Int32.ofInt 6) + (Int32.ofInt 3)) + Int32.ofInt 16 * (Int32.ofInt 0))) Ln x (nI (z2.2.2.2.1 + 1))))) rfl k
                  have k := lz_ri rfl (by decide) k
                  have hcm : lb_cm f t z1.1 (Int32.ofInt 17) := Or.inr (Or.inr (Or.inr (Or.inl ⟨h34, ⟨by omega, h82⟩, rfl⟩)))
                  have hcl : lb_cl (Int32.ofInt 17) = 2 := by decide
                  have hv3 : lb_sum f t (lb_s f t (z1.1 + lb_cl (Int32.ofInt 17)), z1.2.1 + 1, z1.2.2) (.inr z2) := by rw [hcl]; exact hv2
                  rw [show ((Int32.ofInt 6) + (Int32.ofInt 3)) + Int32.ofInt 16 * (Int32.ofInt 0) = Int32.ofInt 17 - Int32.ofInt 8 from by decide] at hU2
                  rw [show ((Int32.ofInt 6) + (Int32.ofInt 3)) + Int32.ofInt 16 * (Int32.ofInt 0) = Int32.ofInt 17 - Int32.ofInt 8 from by decide] at k
                  exact ⟨.inr (z2.1, z2.2.1, lb_em z2.2.2 (Int32.ofInt 17) (Int32.ofInt 17 - Int32.ofInt 8)), _, _, k, ⟨_, hv1, Or.inr ⟨z1, rfl, _, _, ⟨hcm, Or.inr (Or.inr ⟨by decide, hm, rfl⟩)⟩, Or.inr ⟨_, rfl, _, hv3, Or.inr ⟨z2, rfl, rfl⟩⟩⟩⟩, rfl, _, hz2, hq2, hU2⟩
            · rw [if_neg (show ¬ ((f ((z1.1 + 1))) = (Int32.ofInt 61)) from h82)] at k
              have k := ly_revb 4 (c' := (if (Int32.ofInt 0) = 0 then 105 else 95, [(3, .int (Int32.ofInt 0)), (2, .int (nI z1.1)), (1, .int (lb_g f t z1.1)), (0, .ref B)], [], me_w M (nt_u (nt_u J1 B 15 (nI z1.1)) B 15 (nI (z1.1 + 1))))) rfl k
              rw [if_pos (show (Int32.ofInt 0) = 0 from by decide)] at k
              have k := ly_revb 2 (c' := (107, [(3, .int (Int32.ofInt 0)), (2, .int (nI z1.1)), (1, .int (lb_g f t z1.1)), (0, .ref B)], [.int (nI z1.1), .ref B], me_w M (nt_u (nt_u J1 B 15 (nI z1.1)) B 15 (nI (z1.1 + 1))))) rfl k
              obtain ⟨d1, o1, ed, kc, k⟩ := lz_c (g := 154) (q := 1) (vs := [.ref B, .int (nI z1.1)]) (rest := []) rfl rfl (by decide) (Or.inr (Or.inl ⟨_, rfl, rfl⟩)) rfl k
              rcases md_makes (a := z1.1) hP hN1 (show z1.1 + 1 ≤ t from hlt) rfl kc with ⟨hm, e1⟩ | ⟨hm, e1⟩
              · subst e1
                have hS6 := md_Sw (y := lb_c z1.1 (Int32.ofInt 3)) hP hN1
                have k : nt_rn X _ 161 (110, [(3, .int (Int32.ofInt 0)), (2, .int (nI z1.1)), (1, .int (lb_g f t z1.1)), (0, .ref B)], [.int (Int32.ofInt 0)], me_w M (nt_u (nt_u (nt_u J1 B 15 (nI z1.1)) B 15 (nI (z1.1 + 1))) B 16 (lb_c z1.1 (Int32.ofInt 3)))) _ := k
                have k := ly_revb 1 (c' := (if (Int32.ofInt 0) = 0 then 113 else 115, [(3, .int (Int32.ofInt 0)), (2, .int (nI z1.1)), (1, .int (lb_g f t z1.1)), (0, .ref B)], [], me_w M (nt_u (nt_u (nt_u J1 B 15 (nI z1.1)) B 15 (nI (z1.1 + 1))) B 16 (lb_c z1.1 (Int32.ofInt 3))))) rfl k
                rw [if_pos (show (Int32.ofInt 0) = 0 from by decide)] at k
                have k := ly_revb 1 (c' := (114, [(3, .int (Int32.ofInt 0)), (2, .int (nI z1.1)), (1, .int (lb_g f t z1.1)), (0, .ref B)], [.int (Int32.ofInt 0)], me_w M (nt_u (nt_u (nt_u J1 B 15 (nI z1.1)) B 15 (nI (z1.1 + 1))) B 16 (lb_c z1.1 (Int32.ofInt 3))))) rfl k
                have k := lz_ri rfl (by decide) k
                have hcm : lb_cm f t z1.1 (Int32.ofInt 18) := Or.inr (Or.inr (Or.inr (Or.inr (Or.inl ⟨h34, fun c => h82 c.2, rfl⟩))))
                exact ⟨.inl (lb_c z1.1 (Int32.ofInt 3)), _, _, k, ⟨_, hv1, Or.inr ⟨z1, rfl, _, _, ⟨hcm, Or.inr (Or.inl ⟨by decide, hm, rfl⟩)⟩, Or.inl ⟨_, rfl, rfl⟩⟩⟩, (lb_c_ne (by omega) (by decide) (by decide)), rfl, _, _, _, hS6, (show z1.1 + 1 ≤ t from hlt)⟩
              · subst e1
                have hS6 := md_Sm (y := z1.2.1 + 1) hP hN1 (by omega)
                have k : nt_rn X _ 161 (110, [(3, .int (Int32.ofInt 0)), (2, .int (nI z1.1)), (1, .int (lb_g f t z1.1)), (0, .ref B)], [.int (Int32.ofInt 1)], me_w M (nt_u (nt_u (nt_u J1 B 15 (nI z1.1)) B 15 (nI (z1.1 + 1))) B 19 (nI (z1.2.1 + 1)))) _ := k
                have k := ly_revb 1 (c' := (if (Int32.ofInt 1) = 0 then 113 else 115, [(3, .int (Int32.ofInt 0)), (2, .int (nI z1.1)), (1, .int (lb_g f t z1.1)), (0, .ref B)], [], me_w M (nt_u (nt_u (nt_u J1 B 15 (nI z1.1)) B 15 (nI (z1.1 + 1))) B 19 (nI (z1.2.1 + 1))))) rfl k
                rw [if_neg (show ¬ ((Int32.ofInt 1) = 0) from by decide)] at k
                have k := ly_revb 3 (c' := (if (lb_g f t z1.1) = (Int32.ofInt 60) then 121 else 133, [(3, .int (Int32.ofInt 0)), (2, .int (nI z1.1)), (1, .int (lb_g f t z1.1)), (0, .ref B)], [], me_w M (nt_u (nt_u (nt_u J1 B 15 (nI z1.1)) B 15 (nI (z1.1 + 1))) B 19 (nI (z1.2.1 + 1))))) rfl k
                rw [if_neg (show ¬ ((lb_g f t z1.1) = (Int32.ofInt 60)) from h22)] at k
                have k := ly_revb 3 (c' := (if (lb_g f t z1.1) = (Int32.ofInt 61) then 139 else 143, [(3, .int (Int32.ofInt 0)), (2, .int (nI z1.1)), (1, .int (lb_g f t z1.1)), (0, .ref B)], [], me_w M (nt_u (nt_u (nt_u J1 B 15 (nI z1.1)) B 15 (nI (z1.1 + 1))) B 19 (nI (z1.2.1 + 1))))) rfl k
                rw [if_neg (show ¬ ((lb_g f t z1.1) = (Int32.ofInt 61)) from h28)] at k
                have k := ly_revb 2 (c' := (if (Int32.ofInt 0) = 0 then 151 else 147, [(3, .int (Int32.ofInt 0)), (2, .int (nI z1.1)), (1, .int (lb_g f t z1.1)), (0, .ref B)], [], me_w M (nt_u (nt_u (nt_u J1 B 15 (nI z1.1)) B 15 (nI (z1.1 + 1))) B 19 (nI (z1.2.1 + 1))))) rfl k
                rw [if_pos (show (Int32.ofInt 0) = 0 from by decide)] at k
                have k := ly_revb 3 (c' := (155, [(4, .int (Int32.ofInt 4)), (3, .int (Int32.ofInt 0)), (2, .int (nI z1.1)), (1, .int (lb_g f t z1.1)), (0, .ref B)], [.ref B], me_w M (nt_u (nt_u (nt_u J1 B 15 (nI z1.1)) B 15 (nI (z1.1 + 1))) B 19 (nI (z1.2.1 + 1))))) rfl k
                obtain ⟨d1, o1, ed, kc, k⟩ := lz_c (g := 151) (q := 1) (vs := [.ref B]) (rest := []) rfl rfl (by decide) (Or.inr (Or.inl ⟨_, rfl, rfl⟩)) rfl k
                obtain ⟨r2, a2, J2, e1, hv2, hQ2⟩ := md_sum (s0 := z1.2.2.1) hP hB hS6 (show z1.1 + 1 ≤ t from hlt) kc
                subst e1
                rcases r2 with c | z2
                · obtain ⟨hc, rfl, q2, m2, e2, hT2, hq2⟩ := hQ2
                  have k : nt_rn X _ 161 (158, [(4, .int (Int32.ofInt 4)), (3, .int (Int32.ofInt 0)), (2, .int (nI z1.1)), (1, .int (lb_g f t z1.1)), (0, .ref B)], [.int (Int32.ofInt 0)], me_w M J2) _ := k
                  have k := ly_revb 1 (c' := (if (Int32.ofInt 0) = 0 then 161 else 163, [(4, .int (Int32.ofInt 4)), (3, .int (Int32.ofInt 0)), (2, .int (nI z1.1)), (1, .int (lb_g f t z1.1)), (0, .ref B)], [], me_w M J2)) rfl k
                  rw [if_pos (show (Int32.ofInt 0) = 0 from by decide)] at k
                  have k := ly_revb 1 (c' := (162, [(4, .int (Int32.ofInt 4)), (3, .int (Int32.ofInt 0)), (2, .int (nI z1.1)), (1, .int (lb_g f t z1.1)), (0, .ref B)], [.int (Int32.ofInt 0)], me_w M J2)) rfl k
                  have k := lz_ri rfl (by decide) k
                  have hcm : lb_cm f t z1.1 (Int32.ofInt 18) := Or.inr (Or.inr (Or.inr (Or.inr (Or.inl ⟨h34, fun c => h82 c.2, rfl⟩))))
                  have hcl : lb_cl (Int32.ofInt 18) = 1 := by decide
                  have hv3 : lb_sum f t (lb_s f t (z1.1 + lb_cl (Int32.ofInt 18)), z1.2.1 + 1, z1.2.2) (.inl c) := by rw [hcl]; exact hv2
                  exact ⟨.inl c, _, _, k, ⟨_, hv1, Or.inr ⟨z1, rfl, _, _, ⟨hcm, Or.inr (Or.inr ⟨by decide, hm, rfl⟩)⟩, Or.inr ⟨_, rfl, _, hv3, Or.inl ⟨c, rfl, rfl⟩⟩⟩⟩, hc, rfl, _, _, _, hT2, hq2⟩
                · obtain ⟨rfl, q2, hz2, hq2, hT2⟩ := hQ2
                  have k : nt_rn X _ 161 (158, [(4, .int (Int32.ofInt 4)), (3, .int (Int32.ofInt 0)), (2, .int (nI z1.1)), (1, .int (lb_g f t z1.1)), (0, .ref B)], [.int (Int32.ofInt 1)], me_w M J2) _ := k
                  have k := ly_revb 1 (c' := (if (Int32.ofInt 1) = 0 then 161 else 163, [(4, .int (Int32.ofInt 4)), (3, .int (Int32.ofInt 0)), (2, .int (nI z1.1)), (1, .int (lb_g f t z1.1)), (0, .ref B)], [], me_w M J2)) rfl k
                  rw [if_neg (show ¬ ((Int32.ofInt 1) = 0) from by decide)] at k
                  have k := ly_revb 5 (c' := (170, [(4, .int (Int32.ofInt 4)), (3, .int (Int32.ofInt 0)), (2, .int (nI z1.1)), (1, .int (lb_g f t z1.1)), (0, .ref B)], [.int (Int32.ofInt 0), .int ((Int32.ofInt 6) + (Int32.ofInt 4)), .ref B], me_w M J2)) rfl k
                  obtain ⟨d1, o1, ed, kc, k⟩ := lz_c (g := 155) (q := 1) (vs := [.ref B, .int ((Int32.ofInt 6) + (Int32.ofInt 4)), .int (Int32.ofInt 0)]) (rest := []) rfl rfl (by decide) (Or.inr (Or.inl ⟨_, rfl, rfl⟩)) rfl k
                  obtain ⟨hb, e1⟩ := md_puts hP hT2 hq2 kc
                  subst e1
                  have hU2 := md_Se (y := ((Int32.ofInt 6) + (Int32.ofInt 4)) + Int32.ofInt 16 * (Int32.ofInt 0)) hP hT2 hb
                  have k : nt_rn X _ 161 (173, [(4, .int (Int32.ofInt 4)), (3, .int (Int32.ofInt 0)), (2, .int (nI z1.1)), (1, .int (lb_g f t z1.1)), (0, .ref B)], [], me_w M (nt_u (nt_u J2 Sg (400 * x + z2.2.2.2.1) (((Int32.ofInt 6) + (Int32.ofInt 4)) + Int32.ofInt 16 * (Int32.ofInt 0))) Ln x (nI (z2.2.2.2.1 + 1)))) _ := k
                  have k := ly_revb 1 (c' := (174, [(4, .int (Int32.ofInt 4)), (3, .int (Int32.ofInt 0)), (2, .int (nI z1.1)), (1, .int (lb_g f t z1.1)), (0, .ref B)], [.int (Int32.ofInt 1)], me_w M (nt_u (nt_u J2 Sg (400 * x + z2.2.2.2.1) (((Int32.ofInt 6) + (Int32.ofInt 4)) + Int32.ofInt 16 * (Int32.ofInt 0))) Ln x (nI (z2.2.2.2.1 + 1))))) rfl k
                  have k := lz_ri rfl (by decide) k
                  have hcm : lb_cm f t z1.1 (Int32.ofInt 18) := Or.inr (Or.inr (Or.inr (Or.inr (Or.inl ⟨h34, fun c => h82 c.2, rfl⟩))))
                  have hcl : lb_cl (Int32.ofInt 18) = 1 := by decide
                  have hv3 : lb_sum f t (lb_s f t (z1.1 + lb_cl (Int32.ofInt 18)), z1.2.1 + 1, z1.2.2) (.inr z2) := by rw [hcl]; exact hv2
                  rw [show ((Int32.ofInt 6) + (Int32.ofInt 4)) + Int32.ofInt 16 * (Int32.ofInt 0) = Int32.ofInt 18 - Int32.ofInt 8 from by decide] at hU2
                  rw [show ((Int32.ofInt 6) + (Int32.ofInt 4)) + Int32.ofInt 16 * (Int32.ofInt 0) = Int32.ofInt 18 - Int32.ofInt 8 from by decide] at k
                  exact ⟨.inr (z2.1, z2.2.1, lb_em z2.2.2 (Int32.ofInt 18) (Int32.ofInt 18 - Int32.ofInt 8)), _, _, k, ⟨_, hv1, Or.inr ⟨z1, rfl, _, _, ⟨hcm, Or.inr (Or.inr ⟨by decide, hm, rfl⟩)⟩, Or.inr ⟨_, rfl, _, hv3, Or.inr ⟨z2, rfl, rfl⟩⟩⟩⟩, rfl, _, hz2, hq2, hU2⟩
        · rw [if_neg (show ¬ ((lb_g f t z1.1) = (Int32.ofInt 62)) from h34)] at k
          have k := ly_revb 3 (c' := (40, [(2, .int (nI z1.1)), (1, .int (lb_g f t z1.1)), (0, .ref B)], [.int (nI z1.1), .int (Int32.ofInt 0), .ref B], me_w M (nt_u J1 B 15 (nI z1.1)))) rfl k
          obtain ⟨d1, o1, ed, kc, k⟩ := lz_c (g := 139) (q := 1) (vs := [.ref B, .int (Int32.ofInt 0), .int (nI z1.1)]) (rest := []) rfl rfl (by decide) (Or.inr (Or.inl ⟨_, rfl, rfl⟩)) rfl k
          obtain ⟨hf, e1⟩ := (md_fails (a := z1.1) hP hS2 hp2 kc).resolve_right (fun c => c.1 rfl)
          subst e1
          have hS9 := md_Sw (y := lb_c z1.1 (Int32.ofInt 0)) hP hS2
          have k : nt_rn X _ 161 (43, [(2, .int (nI z1.1)), (1, .int (lb_g f t z1.1)), (0, .ref B)], [.int (Int32.ofInt 0)], me_w M (nt_u (nt_u J1 B 15 (nI z1.1)) B 16 (lb_c z1.1 (Int32.ofInt 0)))) _ := k
          have k := lz_ri rfl (by decide) k
          have hcm : lb_cm f t z1.1 (Int32.ofInt (-1)) := Or.inr (Or.inr (Or.inr (Or.inr (Or.inr ⟨⟨h22, h28, h34⟩, rfl⟩))))
          exact ⟨.inl (lb_c z1.1 (Int32.ofInt 0)), _, _, k, ⟨_, hv1, Or.inr ⟨z1, rfl, _, _, ⟨hcm, Or.inl ⟨rfl, rfl⟩⟩, Or.inl ⟨_, rfl, rfl⟩⟩⟩, (lb_c_ne (by omega) (by decide) (by decide)), rfl, _, _, _, hS9, hp2⟩
