/-! tests of the rule reader -/
def lb_wi : Bool → Int32
  | true => Int32.ofInt 1
  | false => Int32.ofInt 0
theorem lc_tel {X : nt_X} {t Rd Tp By RR Sp : Nat} {f : Nat → Int32} {M : nt_M} {J0 : Nat → Nat → Int32} {n dep : Nat} {o : Option Value × nt_M} (hP : lc_P M J0 f t Rd Tp By RR Sp) (hd : dep ≤ 10) (ih0 : ∀ n1, n = n1 + 1 → lc_FOK X t Rd RR Sp f M J0 n1) : ∀ (c j : Nat) (w : Bool) (z : lb_Z) (J : Nat → Nat → Int32), t - z.1 = c → z.1 ≤ t → j ≤ z.1 → lc_S J0 Rd RR Sp z.1 0 z.2.1 z.2.2.1 J → nt_rn X n 58 (9, [(3, .int (nI j)), (2, .int (lb_wi w)), (0, .ref RR), (1, .int (nI dep))], [], me_w M J) o → ∃ k r J', o = (none, me_w M J') ∧ lb_ft f t k false dep w z r ∧ lc_Q J0 Rd RR Sp t r J' := by
  have t4 : t ≤ 400 := hP.2.2.2.2.1
  intro c
  induction c using Nat.strongRecOn with
  | ind c ih =>
    intro j w z J hc hp hj hS k
    have w16 := lb_Wp 16 (by decide)
    have w17 := lb_Wp 17 (by decide)
    cases w with
    | true =>
      have k : nt_rn X n 58 (9, [(3, .int (nI j)), (2, .int (Int32.ofInt 1)), (0, .ref RR), (1, .int (nI dep))], [], me_w M J) o := k
      have k := ly_revb 3 (c' := (if (Int32.ofInt 400) ≤ (nI j) then 77 else 16, [(3, .int (nI j)), (2, .int (Int32.ofInt 1)), (0, .ref RR), (1, .int (nI dep))], [], me_w M J)) rfl k
      by_cases h13 : 400 ≤ j
      · rw [if_pos (show (Int32.ofInt 400) ≤ (nI j) from show nI 400 ≤ nI j from nI_le h13 (by omega))] at k
        have k := ly_revb 2 (c' := (if (Int32.ofInt 1) = 0 then 87 else 81, [(3, .int (nI j)), (2, .int (Int32.ofInt 1)), (0, .ref RR), (1, .int (nI dep))], [], me_w M J)) rfl k
        rw [if_neg (show ¬ ((Int32.ofInt 1) = 0) from by decide)] at k
        have k := ly_revb 2 (c' := (84, [(3, .int (nI j)), (2, .int (Int32.ofInt 1)), (0, .ref RR), (1, .int (nI dep))], [.int (Int32.ofInt 20), .ref RR], me_w M J)) rfl k
        obtain ⟨d1, o1, ed, kc, k⟩ := lz_c (g := 54) (q := 1) (vs := [.ref RR, .int (Int32.ofInt 20)]) (rest := []) rfl rfl (by decide) (Or.inr (Or.inl ⟨_, rfl, rfl⟩)) rfl k
        obtain ⟨J1, e1, hS1⟩ := lc_add hP hS hp kc
        subst e1
        have k : nt_rn X _ 58 (87, [(3, .int (nI j)), (2, .int (Int32.ofInt 1)), (0, .ref RR), (1, .int (nI dep))], [], me_w M J1) _ := k
        have k := lz_rv rfl rfl k
        exact ⟨1, .inr (z.1, z.2.1, lb_oe z.2.2 true), _, k, Or.inr (Or.inr ⟨(fun hh => absurd hh.1 (by omega)), (fun hh => absurd hh.1 (by omega)), rfl⟩), hS1, hp⟩
      · rw [if_neg (show ¬ ((Int32.ofInt 400) ≤ (nI j)) from show ¬ nI 400 ≤ nI j from nI_ge (Nat.not_le.mp h13) (by omega))] at k
        have k := ly_revb 1 (c' := (17, [(3, .int (nI j)), (2, .int (Int32.ofInt 1)), (0, .ref RR), (1, .int (nI dep))], [.ref RR], me_w M J)) rfl k
        have k := lz_get (a := RR) (g := 500) (M := me_w M J) (v := .ref Rd) rfl (nt_gfR rfl hP.1.2.2.1) k
        have k := ly_revb 1 (c' := (22, [(3, .int (nI j)), (2, .int (Int32.ofInt 1)), (0, .ref RR), (1, .int (nI dep))], [.ref (nt_sp + 1 + 16), .ref Rd], me_w M J)) rfl k
        obtain ⟨d1, o1, ed, kc, k⟩ := lz_c (g := 32) (q := 1) (vs := [.ref Rd, .ref (nt_sp + 1 + 16)]) (rest := []) rfl rfl (by decide) (Or.inr (Or.inl ⟨_, rfl, rfl⟩)) rfl k
        rcases lc_takesWord hP hS hp kc with ⟨hw16, e1⟩ | ⟨hw16, e1⟩
        · subst e1
          have hwl := hw16.1
          have hS1 := lc_Spp (q := lb_s f t (z.1 + (lb_W (nt_sp + 1 + 16)).length)) hP hS
          have hp1 : lb_s f t (z.1 + (lb_W (nt_sp + 1 + 16)).length) ≤ t := (lb_s_le (t - (z.1 + (lb_W (nt_sp + 1 + 16)).length)) (z.1 + (lb_W (nt_sp + 1 + 16)).length) (by omega)).2
          have hg1 := (lb_s_le (f := f) (t := t) (t - (z.1 + (lb_W (nt_sp + 1 + 16)).length)) (z.1 + (lb_W (nt_sp + 1 + 16)).length) (by omega)).1
          have k : nt_rn X _ 58 (25, [(3, .int (nI j)), (2, .int (Int32.ofInt 1)), (0, .ref RR), (1, .int (nI dep))], [.int (Int32.ofInt 1)], me_w M (nt_u J Rd 1 (nI (lb_s f t (z.1 + (lb_W (nt_sp + 1 + 16)).length))))) _ := k
          have k := ly_revb 1 (c' := (if (Int32.ofInt 1) = 0 then 42 else 28, [(3, .int (nI j)), (2, .int (Int32.ofInt 1)), (0, .ref RR), (1, .int (nI dep))], [], me_w M (nt_u J Rd 1 (nI (lb_s f t (z.1 + (lb_W (nt_sp + 1 + 16)).length)))))) rfl k
          rw [if_neg (show ¬ ((Int32.ofInt 1) = 0) from by decide)] at k
          have k := ly_revb 2 (c' := (30, [(3, .int (nI j)), (2, .int (Int32.ofInt 1)), (0, .ref RR), (1, .int (nI dep))], [.int (nI dep), .ref RR], me_w M (nt_u J Rd 1 (nI (lb_s f t (z.1 + (lb_W (nt_sp + 1 + 16)).length)))))) rfl k
          obtain ⟨d1, o1, ed, kc, k⟩ := lz_c (g := 59) (q := 1) (vs := [.ref RR, .int (nI dep)]) (rest := []) rfl rfl (by decide) (Or.inr (Or.inl ⟨_, rfl, rfl⟩)) rfl k
          obtain ⟨k21, r21, J21, e1, hv21, hq21⟩ := (ih0 d1 ed) dep _ _ z.2.2 _ _ hS1 hp1 (by omega) kc
          subst e1
          cases r21 with
          | inl c21 =>
            obtain ⟨hfa, m21, s21, hS21⟩ := hq21
            have k : nt_rn X _ 58 (33, [(3, .int (nI j)), (2, .int (Int32.ofInt 1)), (0, .ref RR), (1, .int (nI dep))], [], me_w M J21) _ := k
            have k := ly_revb 2 (c' := (36, [(3, .int (nI j)), (2, .int (Int32.ofInt 1)), (0, .ref RR), (1, .int (nI dep))], [.int (Int32.ofInt 19), .ref RR], me_w M J21)) rfl k
            obtain ⟨d1, o1, ed, kc, k⟩ := lz_c (g := 54) (q := 1) (vs := [.ref RR, .int (Int32.ofInt 19)]) (rest := []) rfl rfl (by decide) (Or.inr (Or.inl ⟨_, rfl, rfl⟩)) rfl k
            obtain ⟨J2, e1, hS2⟩ := lc_add hP hS21 (Nat.le_refl t) kc
            subst e1
            have k : nt_rn X _ 58 (39, [(3, .int (nI j)), (2, .int (Int32.ofInt 1)), (0, .ref RR), (1, .int (nI dep))], [], me_w M J2) _ := k
            have k := ly_revb 2 (c' := (74, [(3, .int ((nI j) + Int32.ofInt 1)), (2, .int (Int32.ofInt 1)), (0, .ref RR), (1, .int (nI dep))], [], me_w M J2)) rfl k
            rw [show ((nI j) + Int32.ofInt 1 : Int32) = nI (j + 1) from me_add (k := 1)] at k
            have k := ly_revb 1 (c' := (9, [(3, .int (nI (j + 1))), (2, .int (Int32.ofInt 1)), (0, .ref RR), (1, .int (nI dep))], [], me_w M J2)) rfl k
            have k := ly_revb 3 (c' := (if (Int32.ofInt 400) ≤ (nI (j + 1)) then 77 else 16, [(3, .int (nI (j + 1))), (2, .int (Int32.ofInt 1)), (0, .ref RR), (1, .int (nI dep))], [], me_w M J2)) rfl k
            by_cases h13' : 400 ≤ (j + 1)
            · rw [if_pos (show (Int32.ofInt 400) ≤ (nI (j + 1)) from show nI 400 ≤ nI ((j + 1)) from nI_le h13' (by omega))] at k
              have k := ly_revb 2 (c' := (if (Int32.ofInt 1) = 0 then 87 else 81, [(3, .int (nI (j + 1))), (2, .int (Int32.ofInt 1)), (0, .ref RR), (1, .int (nI dep))], [], me_w M J2)) rfl k
              rw [if_neg (show ¬ ((Int32.ofInt 1) = 0) from by decide)] at k
              have k := ly_revb 2 (c' := (84, [(3, .int (nI (j + 1))), (2, .int (Int32.ofInt 1)), (0, .ref RR), (1, .int (nI dep))], [.int (Int32.ofInt 20), .ref RR], me_w M J2)) rfl k
              obtain ⟨d1, o1, ed, kc, k⟩ := lz_c (g := 54) (q := 1) (vs := [.ref RR, .int (Int32.ofInt 20)]) (rest := []) rfl rfl (by decide) (Or.inr (Or.inl ⟨_, rfl, rfl⟩)) rfl k
              obtain ⟨J3, e1, hS3⟩ := lc_add hP hS2 (Nat.le_refl t) kc
              subst e1
              have k : nt_rn X _ 58 (87, [(3, .int (nI (j + 1))), (2, .int (Int32.ofInt 1)), (0, .ref RR), (1, .int (nI dep))], [], me_w M J3) _ := k
              have k := lz_rv rfl rfl k
              exact ⟨k21 + 1, .inl (c21), _, k, Or.inl ⟨hw16, _, hv21, Or.inl ⟨_, rfl, rfl⟩⟩, hfa, _, _, hS3⟩
            · rw [if_neg (show ¬ ((Int32.ofInt 400) ≤ (nI (j + 1))) from show ¬ nI 400 ≤ nI ((j + 1)) from nI_ge (Nat.not_le.mp h13') (by omega))] at k
              have k := ly_revb 1 (c' := (17, [(3, .int (nI (j + 1))), (2, .int (Int32.ofInt 1)), (0, .ref RR), (1, .int (nI dep))], [.ref RR], me_w M J2)) rfl k
              have k := lz_get (a := RR) (g := 500) (M := me_w M J2) (v := .ref Rd) rfl (nt_gfR rfl hP.1.2.2.1) k
              have k := ly_revb 1 (c' := (22, [(3, .int (nI (j + 1))), (2, .int (Int32.ofInt 1)), (0, .ref RR), (1, .int (nI dep))], [.ref (nt_sp + 1 + 16), .ref Rd], me_w M J2)) rfl k
              obtain ⟨d1, o1, ed, kc, k⟩ := lz_c (g := 32) (q := 1) (vs := [.ref Rd, .ref (nt_sp + 1 + 16)]) (rest := []) rfl rfl (by decide) (Or.inr (Or.inl ⟨_, rfl, rfl⟩)) rfl k
              obtain ⟨hn, e1⟩ := (lc_takesWord hP hS2 (Nat.le_refl t) kc).resolve_left (fun hh => lb_at_t (by decide) hh.1)
              subst e1
              have k : nt_rn X _ 58 (25, [(3, .int (nI (j + 1))), (2, .int (Int32.ofInt 1)), (0, .ref RR), (1, .int (nI dep))], [.int (Int32.ofInt 0)], me_w M J2) _ := k
              have k := ly_revb 1 (c' := (if (Int32.ofInt 0) = 0 then 42 else 28, [(3, .int (nI (j + 1))), (2, .int (Int32.ofInt 1)), (0, .ref RR), (1, .int (nI dep))], [], me_w M J2)) rfl k
              rw [if_pos (show (Int32.ofInt 0) = 0 from by decide)] at k
              have k := ly_revb 1 (c' := (43, [(3, .int (nI (j + 1))), (2, .int (Int32.ofInt 1)), (0, .ref RR), (1, .int (nI dep))], [.ref RR], me_w M J2)) rfl k
              have k := lz_get (a := RR) (g := 500) (M := me_w M J2) (v := .ref Rd) rfl (nt_gfR rfl hP.1.2.2.1) k
              have k := ly_revb 1 (c' := (48, [(3, .int (nI (j + 1))), (2, .int (Int32.ofInt 1)), (0, .ref RR), (1, .int (nI dep))], [.ref (nt_sp + 1 + 17), .ref Rd], me_w M J2)) rfl k
              obtain ⟨d1, o1, ed, kc, k⟩ := lz_c (g := 32) (q := 1) (vs := [.ref Rd, .ref (nt_sp + 1 + 17)]) (rest := []) rfl rfl (by decide) (Or.inr (Or.inl ⟨_, rfl, rfl⟩)) rfl k
              obtain ⟨hn, e1⟩ := (lc_takesWord hP hS2 (Nat.le_refl t) kc).resolve_left (fun hh => lb_at_t (by decide) hh.1)
              subst e1
              have k : nt_rn X _ 58 (51, [(3, .int (nI (j + 1))), (2, .int (Int32.ofInt 1)), (0, .ref RR), (1, .int (nI dep))], [.int (Int32.ofInt 0)], me_w M J2) _ := k
              have k := ly_revb 1 (c' := (if (Int32.ofInt 0) = 0 then 77 else 54, [(3, .int (nI (j + 1))), (2, .int (Int32.ofInt 1)), (0, .ref RR), (1, .int (nI dep))], [], me_w M J2)) rfl k
              rw [if_pos (show (Int32.ofInt 0) = 0 from by decide)] at k
              have k := ly_revb 2 (c' := (if (Int32.ofInt 1) = 0 then 87 else 81, [(3, .int (nI (j + 1))), (2, .int (Int32.ofInt 1)), (0, .ref RR), (1, .int (nI dep))], [], me_w M J2)) rfl k
              rw [if_neg (show ¬ ((Int32.ofInt 1) = 0) from by decide)] at k
              have k := ly_revb 2 (c' := (84, [(3, .int (nI (j + 1))), (2, .int (Int32.ofInt 1)), (0, .ref RR), (1, .int (nI dep))], [.int (Int32.ofInt 20), .ref RR], me_w M J2)) rfl k
              obtain ⟨d1, o1, ed, kc, k⟩ := lz_c (g := 54) (q := 1) (vs := [.ref RR, .int (Int32.ofInt 20)]) (rest := []) rfl rfl (by decide) (Or.inr (Or.inl ⟨_, rfl, rfl⟩)) rfl k
              obtain ⟨J3, e1, hS3⟩ := lc_add hP hS2 (Nat.le_refl t) kc
              subst e1
              have k : nt_rn X _ 58 (87, [(3, .int (nI (j + 1))), (2, .int (Int32.ofInt 1)), (0, .ref RR), (1, .int (nI dep))], [], me_w M J3) _ := k
              have k := lz_rv rfl rfl k
              exact ⟨k21 + 1, .inl (c21), _, k, Or.inl ⟨hw16, _, hv21, Or.inl ⟨_, rfl, rfl⟩⟩, hfa, _, _, hS3⟩
          | inr z21 =>
            obtain ⟨hS21, hp21⟩ := hq21
            have k : nt_rn X _ 58 (33, [(3, .int (nI j)), (2, .int (Int32.ofInt 1)), (0, .ref RR), (1, .int (nI dep))], [], me_w M J21) _ := k
            have k := ly_revb 2 (c' := (36, [(3, .int (nI j)), (2, .int (Int32.ofInt 1)), (0, .ref RR), (1, .int (nI dep))], [.int (Int32.ofInt 19), .ref RR], me_w M J21)) rfl k
            obtain ⟨d1, o1, ed, kc, k⟩ := lz_c (g := 54) (q := 1) (vs := [.ref RR, .int (Int32.ofInt 19)]) (rest := []) rfl rfl (by decide) (Or.inr (Or.inl ⟨_, rfl, rfl⟩)) rfl k
            obtain ⟨J2, e1, hS2⟩ := lc_add hP hS21 hp21 kc
            subst e1
            have k : nt_rn X _ 58 (39, [(3, .int (nI j)), (2, .int (Int32.ofInt 1)), (0, .ref RR), (1, .int (nI dep))], [], me_w M J2) _ := k
            have k := ly_revb 2 (c' := (74, [(3, .int ((nI j) + Int32.ofInt 1)), (2, .int (Int32.ofInt 1)), (0, .ref RR), (1, .int (nI dep))], [], me_w M J2)) rfl k
            rw [show ((nI j) + Int32.ofInt 1 : Int32) = nI (j + 1) from me_add (k := 1)] at k
            have k := ly_revb 1 (c' := (9, [(3, .int (nI (j + 1))), (2, .int (Int32.ofInt 1)), (0, .ref RR), (1, .int (nI dep))], [], me_w M J2)) rfl k
            have hup := lb_ft_up _ _ _ _ _ _ hp1 hv21
            dsimp only at hup
            have hu3 := hup.2.2 rfl
            obtain ⟨k1, r1, J7, e2, hsr, hq⟩ := ih (t - z21.1) (by omega) (j + 1) true (z21.1, z21.2.1, lb_em z21.2.2 (Int32.ofInt 19) (Int32.ofInt 12)) _ rfl hp21 (by dsimp only; omega) hS2 k
            exact ⟨k21 + k1 + 1, r1, J7, e2, Or.inl ⟨hw16, _, lb_ft_le hv21 (by omega), Or.inr ⟨z21, rfl, lb_ft_le hsr (by omega)⟩⟩, hq⟩
        · subst e1
          have k : nt_rn X _ 58 (25, [(3, .int (nI j)), (2, .int (Int32.ofInt 1)), (0, .ref RR), (1, .int (nI dep))], [.int (Int32.ofInt 0)], me_w M J) _ := k
          have k := ly_revb 1 (c' := (if (Int32.ofInt 0) = 0 then 42 else 28, [(3, .int (nI j)), (2, .int (Int32.ofInt 1)), (0, .ref RR), (1, .int (nI dep))], [], me_w M J)) rfl k
          rw [if_pos (show (Int32.ofInt 0) = 0 from by decide)] at k
          have k := ly_revb 1 (c' := (43, [(3, .int (nI j)), (2, .int (Int32.ofInt 1)), (0, .ref RR), (1, .int (nI dep))], [.ref RR], me_w M J)) rfl k
          have k := lz_get (a := RR) (g := 500) (M := me_w M J) (v := .ref Rd) rfl (nt_gfR rfl hP.1.2.2.1) k
          have k := ly_revb 1 (c' := (48, [(3, .int (nI j)), (2, .int (Int32.ofInt 1)), (0, .ref RR), (1, .int (nI dep))], [.ref (nt_sp + 1 + 17), .ref Rd], me_w M J)) rfl k
          obtain ⟨d1, o1, ed, kc, k⟩ := lz_c (g := 32) (q := 1) (vs := [.ref Rd, .ref (nt_sp + 1 + 17)]) (rest := []) rfl rfl (by decide) (Or.inr (Or.inl ⟨_, rfl, rfl⟩)) rfl k
          rcases lc_takesWord hP hS hp kc with ⟨hw17, e1⟩ | ⟨hw17, e1⟩
          · subst e1
            have hwl := hw17.1
            have hS1 := lc_Spp (q := lb_s f t (z.1 + (lb_W (nt_sp + 1 + 17)).length)) hP hS
            have hp1 : lb_s f t (z.1 + (lb_W (nt_sp + 1 + 17)).length) ≤ t := (lb_s_le (t - (z.1 + (lb_W (nt_sp + 1 + 17)).length)) (z.1 + (lb_W (nt_sp + 1 + 17)).length) (by omega)).2
            have hg1 := (lb_s_le (f := f) (t := t) (t - (z.1 + (lb_W (nt_sp + 1 + 17)).length)) (z.1 + (lb_W (nt_sp + 1 + 17)).length) (by omega)).1
            have k : nt_rn X _ 58 (51, [(3, .int (nI j)), (2, .int (Int32.ofInt 1)), (0, .ref RR), (1, .int (nI dep))], [.int (Int32.ofInt 1)], me_w M (nt_u J Rd 1 (nI (lb_s f t (z.1 + (lb_W (nt_sp + 1 + 17)).length))))) _ := k
            have k := ly_revb 1 (c' := (if (Int32.ofInt 1) = 0 then 77 else 54, [(3, .int (nI j)), (2, .int (Int32.ofInt 1)), (0, .ref RR), (1, .int (nI dep))], [], me_w M (nt_u J Rd 1 (nI (lb_s f t (z.1 + (lb_W (nt_sp + 1 + 17)).length)))))) rfl k
            rw [if_neg (show ¬ ((Int32.ofInt 1) = 0) from by decide)] at k
            have k := ly_revb 2 (c' := (if (Int32.ofInt 1) = 0 then 64 else 58, [(3, .int (nI j)), (2, .int (Int32.ofInt 1)), (0, .ref RR), (1, .int (nI dep))], [], me_w M (nt_u J Rd 1 (nI (lb_s f t (z.1 + (lb_W (nt_sp + 1 + 17)).length)))))) rfl k
            rw [if_neg (show ¬ ((Int32.ofInt 1) = 0) from by decide)] at k
            have k := ly_revb 2 (c' := (61, [(3, .int (nI j)), (2, .int (Int32.ofInt 1)), (0, .ref RR), (1, .int (nI dep))], [.int (Int32.ofInt 20), .ref RR], me_w M (nt_u J Rd 1 (nI (lb_s f t (z.1 + (lb_W (nt_sp + 1 + 17)).length)))))) rfl k
            obtain ⟨d1, o1, ed, kc, k⟩ := lz_c (g := 54) (q := 1) (vs := [.ref RR, .int (Int32.ofInt 20)]) (rest := []) rfl rfl (by decide) (Or.inr (Or.inl ⟨_, rfl, rfl⟩)) rfl k
            obtain ⟨J2, e1, hS2⟩ := lc_add hP hS1 hp1 kc
            subst e1
            have k : nt_rn X _ 58 (64, [(3, .int (nI j)), (2, .int (Int32.ofInt 1)), (0, .ref RR), (1, .int (nI dep))], [], me_w M J2) _ := k
            have k := ly_revb 4 (c' := (68, [(2, .int (Int32.ofInt 1)), (3, .int (nI j)), (0, .ref RR), (1, .int (nI dep))], [.int (nI dep), .ref RR], me_w M J2)) rfl k
            obtain ⟨d1, o1, ed, kc, k⟩ := lz_c (g := 59) (q := 1) (vs := [.ref RR, .int (nI dep)]) (rest := []) rfl rfl (by decide) (Or.inr (Or.inl ⟨_, rfl, rfl⟩)) rfl k
            obtain ⟨k21, r21, J21, e1, hv21, hq21⟩ := (ih0 d1 ed) dep _ _ ((lb_em z.2.2 (Int32.ofInt 20) (Int32.ofInt 13))) _ _ hS2 hp1 (by omega) kc
            subst e1
            cases r21 with
            | inl c21 =>
              obtain ⟨hfa, m21, s21, hS21⟩ := hq21
              have k : nt_rn X _ 58 (71, [(2, .int (Int32.ofInt 1)), (3, .int (nI j)), (0, .ref RR), (1, .int (nI dep))], [], me_w M J21) _ := k
              have k := ly_revb 1 (c' := (74, [(3, .int ((nI j) + Int32.ofInt 1)), (2, .int (Int32.ofInt 1)), (0, .ref RR), (1, .int (nI dep))], [], me_w M J21)) rfl k
              rw [show ((nI j) + Int32.ofInt 1 : Int32) = nI (j + 1) from me_add (k := 1)] at k
              have k := ly_revb 1 (c' := (9, [(3, .int (nI (j + 1))), (2, .int (Int32.ofInt 1)), (0, .ref RR), (1, .int (nI dep))], [], me_w M J21)) rfl k
              have k := ly_revb 3 (c' := (if (Int32.ofInt 400) ≤ (nI (j + 1)) then 77 else 16, [(3, .int (nI (j + 1))), (2, .int (Int32.ofInt 1)), (0, .ref RR), (1, .int (nI dep))], [], me_w M J21)) rfl k
              by_cases h13' : 400 ≤ (j + 1)
              · rw [if_pos (show (Int32.ofInt 400) ≤ (nI (j + 1)) from show nI 400 ≤ nI ((j + 1)) from nI_le h13' (by omega))] at k
                have k := ly_revb 2 (c' := (if (Int32.ofInt 1) = 0 then 87 else 81, [(3, .int (nI (j + 1))), (2, .int (Int32.ofInt 1)), (0, .ref RR), (1, .int (nI dep))], [], me_w M J21)) rfl k
                rw [if_neg (show ¬ ((Int32.ofInt 1) = 0) from by decide)] at k
                have k := ly_revb 2 (c' := (84, [(3, .int (nI (j + 1))), (2, .int (Int32.ofInt 1)), (0, .ref RR), (1, .int (nI dep))], [.int (Int32.ofInt 20), .ref RR], me_w M J21)) rfl k
                obtain ⟨d1, o1, ed, kc, k⟩ := lz_c (g := 54) (q := 1) (vs := [.ref RR, .int (Int32.ofInt 20)]) (rest := []) rfl rfl (by decide) (Or.inr (Or.inl ⟨_, rfl, rfl⟩)) rfl k
                obtain ⟨J3, e1, hS3⟩ := lc_add hP hS21 (Nat.le_refl t) kc
                subst e1
                have k : nt_rn X _ 58 (87, [(3, .int (nI (j + 1))), (2, .int (Int32.ofInt 1)), (0, .ref RR), (1, .int (nI dep))], [], me_w M J3) _ := k
                have k := lz_rv rfl rfl k
                exact ⟨k21 + 1, .inl (c21), _, k, Or.inr (Or.inl ⟨hw16, hw17, _, hv21, Or.inl ⟨_, rfl, rfl⟩⟩), hfa, _, _, hS3⟩
              · rw [if_neg (show ¬ ((Int32.ofInt 400) ≤ (nI (j + 1))) from show ¬ nI 400 ≤ nI ((j + 1)) from nI_ge (Nat.not_le.mp h13') (by omega))] at k
                have k := ly_revb 1 (c' := (17, [(3, .int (nI (j + 1))), (2, .int (Int32.ofInt 1)), (0, .ref RR), (1, .int (nI dep))], [.ref RR], me_w M J21)) rfl k
                have k := lz_get (a := RR) (g := 500) (M := me_w M J21) (v := .ref Rd) rfl (nt_gfR rfl hP.1.2.2.1) k
                have k := ly_revb 1 (c' := (22, [(3, .int (nI (j + 1))), (2, .int (Int32.ofInt 1)), (0, .ref RR), (1, .int (nI dep))], [.ref (nt_sp + 1 + 16), .ref Rd], me_w M J21)) rfl k
                obtain ⟨d1, o1, ed, kc, k⟩ := lz_c (g := 32) (q := 1) (vs := [.ref Rd, .ref (nt_sp + 1 + 16)]) (rest := []) rfl rfl (by decide) (Or.inr (Or.inl ⟨_, rfl, rfl⟩)) rfl k
                obtain ⟨hn, e1⟩ := (lc_takesWord hP hS21 (Nat.le_refl t) kc).resolve_left (fun hh => lb_at_t (by decide) hh.1)
                subst e1
                have k : nt_rn X _ 58 (25, [(3, .int (nI (j + 1))), (2, .int (Int32.ofInt 1)), (0, .ref RR), (1, .int (nI dep))], [.int (Int32.ofInt 0)], me_w M J21) _ := k
                have k := ly_revb 1 (c' := (if (Int32.ofInt 0) = 0 then 42 else 28, [(3, .int (nI (j + 1))), (2, .int (Int32.ofInt 1)), (0, .ref RR), (1, .int (nI dep))], [], me_w M J21)) rfl k
                rw [if_pos (show (Int32.ofInt 0) = 0 from by decide)] at k
                have k := ly_revb 1 (c' := (43, [(3, .int (nI (j + 1))), (2, .int (Int32.ofInt 1)), (0, .ref RR), (1, .int (nI dep))], [.ref RR], me_w M J21)) rfl k
                have k := lz_get (a := RR) (g := 500) (M := me_w M J21) (v := .ref Rd) rfl (nt_gfR rfl hP.1.2.2.1) k
                have k := ly_revb 1 (c' := (48, [(3, .int (nI (j + 1))), (2, .int (Int32.ofInt 1)), (0, .ref RR), (1, .int (nI dep))], [.ref (nt_sp + 1 + 17), .ref Rd], me_w M J21)) rfl k
                obtain ⟨d1, o1, ed, kc, k⟩ := lz_c (g := 32) (q := 1) (vs := [.ref Rd, .ref (nt_sp + 1 + 17)]) (rest := []) rfl rfl (by decide) (Or.inr (Or.inl ⟨_, rfl, rfl⟩)) rfl k
                obtain ⟨hn, e1⟩ := (lc_takesWord hP hS21 (Nat.le_refl t) kc).resolve_left (fun hh => lb_at_t (by decide) hh.1)
                subst e1
                have k : nt_rn X _ 58 (51, [(3, .int (nI (j + 1))), (2, .int (Int32.ofInt 1)), (0, .ref RR), (1, .int (nI dep))], [.int (Int32.ofInt 0)], me_w M J21) _ := k
                have k := ly_revb 1 (c' := (if (Int32.ofInt 0) = 0 then 77 else 54, [(3, .int (nI (j + 1))), (2, .int (Int32.ofInt 1)), (0, .ref RR), (1, .int (nI dep))], [], me_w M J21)) rfl k
                rw [if_pos (show (Int32.ofInt 0) = 0 from by decide)] at k
                have k := ly_revb 2 (c' := (if (Int32.ofInt 1) = 0 then 87 else 81, [(3, .int (nI (j + 1))), (2, .int (Int32.ofInt 1)), (0, .ref RR), (1, .int (nI dep))], [], me_w M J21)) rfl k
                rw [if_neg (show ¬ ((Int32.ofInt 1) = 0) from by decide)] at k
                have k := ly_revb 2 (c' := (84, [(3, .int (nI (j + 1))), (2, .int (Int32.ofInt 1)), (0, .ref RR), (1, .int (nI dep))], [.int (Int32.ofInt 20), .ref RR], me_w M J21)) rfl k
                obtain ⟨d1, o1, ed, kc, k⟩ := lz_c (g := 54) (q := 1) (vs := [.ref RR, .int (Int32.ofInt 20)]) (rest := []) rfl rfl (by decide) (Or.inr (Or.inl ⟨_, rfl, rfl⟩)) rfl k
                obtain ⟨J3, e1, hS3⟩ := lc_add hP hS21 (Nat.le_refl t) kc
                subst e1
                have k : nt_rn X _ 58 (87, [(3, .int (nI (j + 1))), (2, .int (Int32.ofInt 1)), (0, .ref RR), (1, .int (nI dep))], [], me_w M J3) _ := k
                have k := lz_rv rfl rfl k
                exact ⟨k21 + 1, .inl (c21), _, k, Or.inr (Or.inl ⟨hw16, hw17, _, hv21, Or.inl ⟨_, rfl, rfl⟩⟩), hfa, _, _, hS3⟩
            | inr z21 =>
              obtain ⟨hS21, hp21⟩ := hq21
              have k : nt_rn X _ 58 (71, [(2, .int (Int32.ofInt 1)), (3, .int (nI j)), (0, .ref RR), (1, .int (nI dep))], [], me_w M J21) _ := k
              have k := ly_revb 1 (c' := (74, [(3, .int ((nI j) + Int32.ofInt 1)), (2, .int (Int32.ofInt 1)), (0, .ref RR), (1, .int (nI dep))], [], me_w M J21)) rfl k
              rw [show ((nI j) + Int32.ofInt 1 : Int32) = nI (j + 1) from me_add (k := 1)] at k
              have k := ly_revb 1 (c' := (9, [(3, .int (nI (j + 1))), (2, .int (Int32.ofInt 1)), (0, .ref RR), (1, .int (nI dep))], [], me_w M J21)) rfl k
              have hup := lb_ft_up _ _ _ _ _ _ hp1 hv21
              dsimp only at hup
              have hu3 := hup.2.2 rfl
              obtain ⟨k1, r1, J7, e2, hsr, hq⟩ := ih (t - z21.1) (by omega) (j + 1) true z21 _ rfl hp21 (by omega) hS21 k
              exact ⟨k21 + k1 + 1, r1, J7, e2, Or.inr (Or.inl ⟨hw16, hw17, _, lb_ft_le hv21 (by omega), Or.inr ⟨z21, rfl, lb_ft_le hsr (by omega)⟩⟩), hq⟩
          · subst e1
            have k : nt_rn X _ 58 (51, [(3, .int (nI j)), (2, .int (Int32.ofInt 1)), (0, .ref RR), (1, .int (nI dep))], [.int (Int32.ofInt 0)], me_w M J) _ := k
            have k := ly_revb 1 (c' := (if (Int32.ofInt 0) = 0 then 77 else 54, [(3, .int (nI j)), (2, .int (Int32.ofInt 1)), (0, .ref RR), (1, .int (nI dep))], [], me_w M J)) rfl k
            rw [if_pos (show (Int32.ofInt 0) = 0 from by decide)] at k
            have k := ly_revb 2 (c' := (if (Int32.ofInt 1) = 0 then 87 else 81, [(3, .int (nI j)), (2, .int (Int32.ofInt 1)), (0, .ref RR), (1, .int (nI dep))], [], me_w M J)) rfl k
            rw [if_neg (show ¬ ((Int32.ofInt 1) = 0) from by decide)] at k
            have k := ly_revb 2 (c' := (84, [(3, .int (nI j)), (2, .int (Int32.ofInt 1)), (0, .ref RR), (1, .int (nI dep))], [.int (Int32.ofInt 20), .ref RR], me_w M J)) rfl k
            obtain ⟨d1, o1, ed, kc, k⟩ := lz_c (g := 54) (q := 1) (vs := [.ref RR, .int (Int32.ofInt 20)]) (rest := []) rfl rfl (by decide) (Or.inr (Or.inl ⟨_, rfl, rfl⟩)) rfl k
            obtain ⟨J1, e1, hS1⟩ := lc_add hP hS hp kc
            subst e1
            have k : nt_rn X _ 58 (87, [(3, .int (nI j)), (2, .int (Int32.ofInt 1)), (0, .ref RR), (1, .int (nI dep))], [], me_w M J1) _ := k
            have k := lz_rv rfl rfl k
            exact ⟨1, .inr (z.1, z.2.1, lb_oe z.2.2 true), _, k, Or.inr (Or.inr ⟨hw16, hw17, rfl⟩), hS1, hp⟩
    | false =>
      have k : nt_rn X n 58 (9, [(3, .int (nI j)), (2, .int (Int32.ofInt 0)), (0, .ref RR), (1, .int (nI dep))], [], me_w M J) o := k
      have k := ly_revb 3 (c' := (if (Int32.ofInt 400) ≤ (nI j) then 77 else 16, [(3, .int (nI j)), (2, .int (Int32.ofInt 0)), (0, .ref RR), (1, .int (nI dep))], [], me_w M J)) rfl k
      by_cases h13 : 400 ≤ j
      · rw [if_pos (show (Int32.ofInt 400) ≤ (nI j) from show nI 400 ≤ nI j from nI_le h13 (by omega))] at k
        have k := ly_revb 2 (c' := (if (Int32.ofInt 0) = 0 then 87 else 81, [(3, .int (nI j)), (2, .int (Int32.ofInt 0)), (0, .ref RR), (1, .int (nI dep))], [], me_w M J)) rfl k
        rw [if_pos (show (Int32.ofInt 0) = 0 from by decide)] at k
        have k := lz_rv rfl rfl k
        exact ⟨1, .inr (z.1, z.2.1, lb_oe z.2.2 false), _, k, Or.inr (Or.inr ⟨(fun hh => absurd hh.1 (by omega)), (fun hh => absurd hh.1 (by omega)), rfl⟩), hS, hp⟩
      · rw [if_neg (show ¬ ((Int32.ofInt 400) ≤ (nI j)) from show ¬ nI 400 ≤ nI j from nI_ge (Nat.not_le.mp h13) (by omega))] at k
        have k := ly_revb 1 (c' := (17, [(3, .int (nI j)), (2, .int (Int32.ofInt 0)), (0, .ref RR), (1, .int (nI dep))], [.ref RR], me_w M J)) rfl k
        have k := lz_get (a := RR) (g := 500) (M := me_w M J) (v := .ref Rd) rfl (nt_gfR rfl hP.1.2.2.1) k
        have k := ly_revb 1 (c' := (22, [(3, .int (nI j)), (2, .int (Int32.ofInt 0)), (0, .ref RR), (1, .int (nI dep))], [.ref (nt_sp + 1 + 16), .ref Rd], me_w M J)) rfl k
        obtain ⟨d1, o1, ed, kc, k⟩ := lz_c (g := 32) (q := 1) (vs := [.ref Rd, .ref (nt_sp + 1 + 16)]) (rest := []) rfl rfl (by decide) (Or.inr (Or.inl ⟨_, rfl, rfl⟩)) rfl k
        rcases lc_takesWord hP hS hp kc with ⟨hw16, e1⟩ | ⟨hw16, e1⟩
        · subst e1
          have hwl := hw16.1
          have hS1 := lc_Spp (q := lb_s f t (z.1 + (lb_W (nt_sp + 1 + 16)).length)) hP hS
          have hp1 : lb_s f t (z.1 + (lb_W (nt_sp + 1 + 16)).length) ≤ t := (lb_s_le (t - (z.1 + (lb_W (nt_sp + 1 + 16)).length)) (z.1 + (lb_W (nt_sp + 1 + 16)).length) (by omega)).2
          have hg1 := (lb_s_le (f := f) (t := t) (t - (z.1 + (lb_W (nt_sp + 1 + 16)).length)) (z.1 + (lb_W (nt_sp + 1 + 16)).length) (by omega)).1
          have k : nt_rn X _ 58 (25, [(3, .int (nI j)), (2, .int (Int32.ofInt 0)), (0, .ref RR), (1, .int (nI dep))], [.int (Int32.ofInt 1)], me_w M (nt_u J Rd 1 (nI (lb_s f t (z.1 + (lb_W (nt_sp + 1 + 16)).length))))) _ := k
          have k := ly_revb 1 (c' := (if (Int32.ofInt 1) = 0 then 42 else 28, [(3, .int (nI j)), (2, .int (Int32.ofInt 0)), (0, .ref RR), (1, .int (nI dep))], [], me_w M (nt_u J Rd 1 (nI (lb_s f t (z.1 + (lb_W (nt_sp + 1 + 16)).length)))))) rfl k
          rw [if_neg (show ¬ ((Int32.ofInt 1) = 0) from by decide)] at k
          have k := ly_revb 2 (c' := (30, [(3, .int (nI j)), (2, .int (Int32.ofInt 0)), (0, .ref RR), (1, .int (nI dep))], [.int (nI dep), .ref RR], me_w M (nt_u J Rd 1 (nI (lb_s f t (z.1 + (lb_W (nt_sp + 1 + 16)).length)))))) rfl k
          obtain ⟨d1, o1, ed, kc, k⟩ := lz_c (g := 59) (q := 1) (vs := [.ref RR, .int (nI dep)]) (rest := []) rfl rfl (by decide) (Or.inr (Or.inl ⟨_, rfl, rfl⟩)) rfl k
          obtain ⟨k21, r21, J21, e1, hv21, hq21⟩ := (ih0 d1 ed) dep _ _ z.2.2 _ _ hS1 hp1 (by omega) kc
          subst e1
          cases r21 with
          | inl c21 =>
            obtain ⟨hfa, m21, s21, hS21⟩ := hq21
            have k : nt_rn X _ 58 (33, [(3, .int (nI j)), (2, .int (Int32.ofInt 0)), (0, .ref RR), (1, .int (nI dep))], [], me_w M J21) _ := k
            have k := ly_revb 2 (c' := (36, [(3, .int (nI j)), (2, .int (Int32.ofInt 0)), (0, .ref RR), (1, .int (nI dep))], [.int (Int32.ofInt 19), .ref RR], me_w M J21)) rfl k
            obtain ⟨d1, o1, ed, kc, k⟩ := lz_c (g := 54) (q := 1) (vs := [.ref RR, .int (Int32.ofInt 19)]) (rest := []) rfl rfl (by decide) (Or.inr (Or.inl ⟨_, rfl, rfl⟩)) rfl k
            obtain ⟨J2, e1, hS2⟩ := lc_add hP hS21 (Nat.le_refl t) kc
            subst e1
            have k : nt_rn X _ 58 (39, [(3, .int (nI j)), (2, .int (Int32.ofInt 0)), (0, .ref RR), (1, .int (nI dep))], [], me_w M J2) _ := k
            have k := ly_revb 2 (c' := (74, [(3, .int ((nI j) + Int32.ofInt 1)), (2, .int (Int32.ofInt 0)), (0, .ref RR), (1, .int (nI dep))], [], me_w M J2)) rfl k
            rw [show ((nI j) + Int32.ofInt 1 : Int32) = nI (j + 1) from me_add (k := 1)] at k
            have k := ly_revb 1 (c' := (9, [(3, .int (nI (j + 1))), (2, .int (Int32.ofInt 0)), (0, .ref RR), (1, .int (nI dep))], [], me_w M J2)) rfl k
            have k := ly_revb 3 (c' := (if (Int32.ofInt 400) ≤ (nI (j + 1)) then 77 else 16, [(3, .int (nI (j + 1))), (2, .int (Int32.ofInt 0)), (0, .ref RR), (1, .int (nI dep))], [], me_w M J2)) rfl k
            by_cases h13' : 400 ≤ (j + 1)
            · rw [if_pos (show (Int32.ofInt 400) ≤ (nI (j + 1)) from show nI 400 ≤ nI ((j + 1)) from nI_le h13' (by omega))] at k
              have k := ly_revb 2 (c' := (if (Int32.ofInt 0) = 0 then 87 else 81, [(3, .int (nI (j + 1))), (2, .int (Int32.ofInt 0)), (0, .ref RR), (1, .int (nI dep))], [], me_w M J2)) rfl k
              rw [if_pos (show (Int32.ofInt 0) = 0 from by decide)] at k
              have k := lz_rv rfl rfl k
              exact ⟨k21 + 1, .inl (c21), _, k, Or.inl ⟨hw16, _, hv21, Or.inl ⟨_, rfl, rfl⟩⟩, hfa, _, _, hS2⟩
            · rw [if_neg (show ¬ ((Int32.ofInt 400) ≤ (nI (j + 1))) from show ¬ nI 400 ≤ nI ((j + 1)) from nI_ge (Nat.not_le.mp h13') (by omega))] at k
              have k := ly_revb 1 (c' := (17, [(3, .int (nI (j + 1))), (2, .int (Int32.ofInt 0)), (0, .ref RR), (1, .int (nI dep))], [.ref RR], me_w M J2)) rfl k
              have k := lz_get (a := RR) (g := 500) (M := me_w M J2) (v := .ref Rd) rfl (nt_gfR rfl hP.1.2.2.1) k
              have k := ly_revb 1 (c' := (22, [(3, .int (nI (j + 1))), (2, .int (Int32.ofInt 0)), (0, .ref RR), (1, .int (nI dep))], [.ref (nt_sp + 1 + 16), .ref Rd], me_w M J2)) rfl k
              obtain ⟨d1, o1, ed, kc, k⟩ := lz_c (g := 32) (q := 1) (vs := [.ref Rd, .ref (nt_sp + 1 + 16)]) (rest := []) rfl rfl (by decide) (Or.inr (Or.inl ⟨_, rfl, rfl⟩)) rfl k
              obtain ⟨hn, e1⟩ := (lc_takesWord hP hS2 (Nat.le_refl t) kc).resolve_left (fun hh => lb_at_t (by decide) hh.1)
              subst e1
              have k : nt_rn X _ 58 (25, [(3, .int (nI (j + 1))), (2, .int (Int32.ofInt 0)), (0, .ref RR), (1, .int (nI dep))], [.int (Int32.ofInt 0)], me_w M J2) _ := k
              have k := ly_revb 1 (c' := (if (Int32.ofInt 0) = 0 then 42 else 28, [(3, .int (nI (j + 1))), (2, .int (Int32.ofInt 0)), (0, .ref RR), (1, .int (nI dep))], [], me_w M J2)) rfl k
              rw [if_pos (show (Int32.ofInt 0) = 0 from by decide)] at k
              have k := ly_revb 1 (c' := (43, [(3, .int (nI (j + 1))), (2, .int (Int32.ofInt 0)), (0, .ref RR), (1, .int (nI dep))], [.ref RR], me_w M J2)) rfl k
              have k := lz_get (a := RR) (g := 500) (M := me_w M J2) (v := .ref Rd) rfl (nt_gfR rfl hP.1.2.2.1) k
              have k := ly_revb 1 (c' := (48, [(3, .int (nI (j + 1))), (2, .int (Int32.ofInt 0)), (0, .ref RR), (1, .int (nI dep))], [.ref (nt_sp + 1 + 17), .ref Rd], me_w M J2)) rfl k
              obtain ⟨d1, o1, ed, kc, k⟩ := lz_c (g := 32) (q := 1) (vs := [.ref Rd, .ref (nt_sp + 1 + 17)]) (rest := []) rfl rfl (by decide) (Or.inr (Or.inl ⟨_, rfl, rfl⟩)) rfl k
              obtain ⟨hn, e1⟩ := (lc_takesWord hP hS2 (Nat.le_refl t) kc).resolve_left (fun hh => lb_at_t (by decide) hh.1)
              subst e1
              have k : nt_rn X _ 58 (51, [(3, .int (nI (j + 1))), (2, .int (Int32.ofInt 0)), (0, .ref RR), (1, .int (nI dep))], [.int (Int32.ofInt 0)], me_w M J2) _ := k
              have k := ly_revb 1 (c' := (if (Int32.ofInt 0) = 0 then 77 else 54, [(3, .int (nI (j + 1))), (2, .int (Int32.ofInt 0)), (0, .ref RR), (1, .int (nI dep))], [], me_w M J2)) rfl k
              rw [if_pos (show (Int32.ofInt 0) = 0 from by decide)] at k
              have k := ly_revb 2 (c' := (if (Int32.ofInt 0) = 0 then 87 else 81, [(3, .int (nI (j + 1))), (2, .int (Int32.ofInt 0)), (0, .ref RR), (1, .int (nI dep))], [], me_w M J2)) rfl k
              rw [if_pos (show (Int32.ofInt 0) = 0 from by decide)] at k
              have k := lz_rv rfl rfl k
              exact ⟨k21 + 1, .inl (c21), _, k, Or.inl ⟨hw16, _, hv21, Or.inl ⟨_, rfl, rfl⟩⟩, hfa, _, _, hS2⟩
          | inr z21 =>
            obtain ⟨hS21, hp21⟩ := hq21
            have k : nt_rn X _ 58 (33, [(3, .int (nI j)), (2, .int (Int32.ofInt 0)), (0, .ref RR), (1, .int (nI dep))], [], me_w M J21) _ := k
            have k := ly_revb 2 (c' := (36, [(3, .int (nI j)), (2, .int (Int32.ofInt 0)), (0, .ref RR), (1, .int (nI dep))], [.int (Int32.ofInt 19), .ref RR], me_w M J21)) rfl k
            obtain ⟨d1, o1, ed, kc, k⟩ := lz_c (g := 54) (q := 1) (vs := [.ref RR, .int (Int32.ofInt 19)]) (rest := []) rfl rfl (by decide) (Or.inr (Or.inl ⟨_, rfl, rfl⟩)) rfl k
            obtain ⟨J2, e1, hS2⟩ := lc_add hP hS21 hp21 kc
            subst e1
            have k : nt_rn X _ 58 (39, [(3, .int (nI j)), (2, .int (Int32.ofInt 0)), (0, .ref RR), (1, .int (nI dep))], [], me_w M J2) _ := k
            have k := ly_revb 2 (c' := (74, [(3, .int ((nI j) + Int32.ofInt 1)), (2, .int (Int32.ofInt 0)), (0, .ref RR), (1, .int (nI dep))], [], me_w M J2)) rfl k
            rw [show ((nI j) + Int32.ofInt 1 : Int32) = nI (j + 1) from me_add (k := 1)] at k
            have k := ly_revb 1 (c' := (9, [(3, .int (nI (j + 1))), (2, .int (Int32.ofInt 0)), (0, .ref RR), (1, .int (nI dep))], [], me_w M J2)) rfl k
            have hup := lb_ft_up _ _ _ _ _ _ hp1 hv21
            dsimp only at hup
            have hu3 := hup.2.2 rfl
            obtain ⟨k1, r1, J7, e2, hsr, hq⟩ := ih (t - z21.1) (by omega) (j + 1) false (z21.1, z21.2.1, lb_em z21.2.2 (Int32.ofInt 19) (Int32.ofInt 12)) _ rfl hp21 (by dsimp only; omega) hS2 k
            exact ⟨k21 + k1 + 1, r1, J7, e2, Or.inl ⟨hw16, _, lb_ft_le hv21 (by omega), Or.inr ⟨z21, rfl, lb_ft_le hsr (by omega)⟩⟩, hq⟩
        · subst e1
          have k : nt_rn X _ 58 (25, [(3, .int (nI j)), (2, .int (Int32.ofInt 0)), (0, .ref RR), (1, .int (nI dep))], [.int (Int32.ofInt 0)], me_w M J) _ := k
          have k := ly_revb 1 (c' := (if (Int32.ofInt 0) = 0 then 42 else 28, [(3, .int (nI j)), (2, .int (Int32.ofInt 0)), (0, .ref RR), (1, .int (nI dep))], [], me_w M J)) rfl k
          rw [if_pos (show (Int32.ofInt 0) = 0 from by decide)] at k
          have k := ly_revb 1 (c' := (43, [(3, .int (nI j)), (2, .int (Int32.ofInt 0)), (0, .ref RR), (1, .int (nI dep))], [.ref RR], me_w M J)) rfl k
          have k := lz_get (a := RR) (g := 500) (M := me_w M J) (v := .ref Rd) rfl (nt_gfR rfl hP.1.2.2.1) k
          have k := ly_revb 1 (c' := (48, [(3, .int (nI j)), (2, .int (Int32.ofInt 0)), (0, .ref RR), (1, .int (nI dep))], [.ref (nt_sp + 1 + 17), .ref Rd], me_w M J)) rfl k
          obtain ⟨d1, o1, ed, kc, k⟩ := lz_c (g := 32) (q := 1) (vs := [.ref Rd, .ref (nt_sp + 1 + 17)]) (rest := []) rfl rfl (by decide) (Or.inr (Or.inl ⟨_, rfl, rfl⟩)) rfl k
          rcases lc_takesWord hP hS hp kc with ⟨hw17, e1⟩ | ⟨hw17, e1⟩
          · subst e1
            have hwl := hw17.1
            have hS1 := lc_Spp (q := lb_s f t (z.1 + (lb_W (nt_sp + 1 + 17)).length)) hP hS
            have hp1 : lb_s f t (z.1 + (lb_W (nt_sp + 1 + 17)).length) ≤ t := (lb_s_le (t - (z.1 + (lb_W (nt_sp + 1 + 17)).length)) (z.1 + (lb_W (nt_sp + 1 + 17)).length) (by omega)).2
            have hg1 := (lb_s_le (f := f) (t := t) (t - (z.1 + (lb_W (nt_sp + 1 + 17)).length)) (z.1 + (lb_W (nt_sp + 1 + 17)).length) (by omega)).1
            have k : nt_rn X _ 58 (51, [(3, .int (nI j)), (2, .int (Int32.ofInt 0)), (0, .ref RR), (1, .int (nI dep))], [.int (Int32.ofInt 1)], me_w M (nt_u J Rd 1 (nI (lb_s f t (z.1 + (lb_W (nt_sp + 1 + 17)).length))))) _ := k
            have k := ly_revb 1 (c' := (if (Int32.ofInt 1) = 0 then 77 else 54, [(3, .int (nI j)), (2, .int (Int32.ofInt 0)), (0, .ref RR), (1, .int (nI dep))], [], me_w M (nt_u J Rd 1 (nI (lb_s f t (z.1 + (lb_W (nt_sp + 1 + 17)).length)))))) rfl k
            rw [if_neg (show ¬ ((Int32.ofInt 1) = 0) from by decide)] at k
            have k := ly_revb 2 (c' := (if (Int32.ofInt 0) = 0 then 64 else 58, [(3, .int (nI j)), (2, .int (Int32.ofInt 0)), (0, .ref RR), (1, .int (nI dep))], [], me_w M (nt_u J Rd 1 (nI (lb_s f t (z.1 + (lb_W (nt_sp + 1 + 17)).length)))))) rfl k
            rw [if_pos (show (Int32.ofInt 0) = 0 from by decide)] at k
            have k := ly_revb 4 (c' := (68, [(2, .int (Int32.ofInt 1)), (3, .int (nI j)), (0, .ref RR), (1, .int (nI dep))], [.int (nI dep), .ref RR], me_w M (nt_u J Rd 1 (nI (lb_s f t (z.1 + (lb_W (nt_sp + 1 + 17)).length)))))) rfl k
            obtain ⟨d1, o1, ed, kc, k⟩ := lz_c (g := 59) (q := 1) (vs := [.ref RR, .int (nI dep)]) (rest := []) rfl rfl (by decide) (Or.inr (Or.inl ⟨_, rfl, rfl⟩)) rfl k
            obtain ⟨k21, r21, J21, e1, hv21, hq21⟩ := (ih0 d1 ed) dep _ _ z.2.2 _ _ hS1 hp1 (by omega) kc
            subst e1
            cases r21 with
            | inl c21 =>
              obtain ⟨hfa, m21, s21, hS21⟩ := hq21
              have k : nt_rn X _ 58 (71, [(2, .int (Int32.ofInt 1)), (3, .int (nI j)), (0, .ref RR), (1, .int (nI dep))], [], me_w M J21) _ := k
              have k := ly_revb 1 (c' := (74, [(3, .int ((nI j) + Int32.ofInt 1)), (2, .int (Int32.ofInt 1)), (0, .ref RR), (1, .int (nI dep))], [], me_w M J21)) rfl k
              rw [show ((nI j) + Int32.ofInt 1 : Int32) = nI (j + 1) from me_add (k := 1)] at k
              have k := ly_revb 1 (c' := (9, [(3, .int (nI (j + 1))), (2, .int (Int32.ofInt 1)), (0, .ref RR), (1, .int (nI dep))], [], me_w M J21)) rfl k
              have k := ly_revb 3 (c' := (if (Int32.ofInt 400) ≤ (nI (j + 1)) then 77 else 16, [(3, .int (nI (j + 1))), (2, .int (Int32.ofInt 1)), (0, .ref RR), (1, .int (nI dep))], [], me_w M J21)) rfl k
              by_cases h13' : 400 ≤ (j + 1)
              · rw [if_pos (show (Int32.ofInt 400) ≤ (nI (j + 1)) from show nI 400 ≤ nI ((j + 1)) from nI_le h13' (by omega))] at k
                have k := ly_revb 2 (c' := (if (Int32.ofInt 1) = 0 then 87 else 81, [(3, .int (nI (j + 1))), (2, .int (Int32.ofInt 1)), (0, .ref RR), (1, .int (nI dep))], [], me_w M J21)) rfl k
                rw [if_neg (show ¬ ((Int32.ofInt 1) = 0) from by decide)] at k
                have k := ly_revb 2 (c' := (84, [(3, .int (nI (j + 1))), (2, .int (Int32.ofInt 1)), (0, .ref RR), (1, .int (nI dep))], [.int (Int32.ofInt 20), .ref RR], me_w M J21)) rfl k
                obtain ⟨d1, o1, ed, kc, k⟩ := lz_c (g := 54) (q := 1) (vs := [.ref RR, .int (Int32.ofInt 20)]) (rest := []) rfl rfl (by decide) (Or.inr (Or.inl ⟨_, rfl, rfl⟩)) rfl k
                obtain ⟨J2, e1, hS2⟩ := lc_add hP hS21 (Nat.le_refl t) kc
                subst e1
                have k : nt_rn X _ 58 (87, [(3, .int (nI (j + 1))), (2, .int (Int32.ofInt 1)), (0, .ref RR), (1, .int (nI dep))], [], me_w M J2) _ := k
                have k := lz_rv rfl rfl k
                exact ⟨k21 + 1, .inl (c21), _, k, Or.inr (Or.inl ⟨hw16, hw17, _, hv21, Or.inl ⟨_, rfl, rfl⟩⟩), hfa, _, _, hS2⟩
              · rw [if_neg (show ¬ ((Int32.ofInt 400) ≤ (nI (j + 1))) from show ¬ nI 400 ≤ nI ((j + 1)) from nI_ge (Nat.not_le.mp h13') (by omega))] at k
                have k := ly_revb 1 (c' := (17, [(3, .int (nI (j + 1))), (2, .int (Int32.ofInt 1)), (0, .ref RR), (1, .int (nI dep))], [.ref RR], me_w M J21)) rfl k
                have k := lz_get (a := RR) (g := 500) (M := me_w M J21) (v := .ref Rd) rfl (nt_gfR rfl hP.1.2.2.1) k
                have k := ly_revb 1 (c' := (22, [(3, .int (nI (j + 1))), (2, .int (Int32.ofInt 1)), (0, .ref RR), (1, .int (nI dep))], [.ref (nt_sp + 1 + 16), .ref Rd], me_w M J21)) rfl k
                obtain ⟨d1, o1, ed, kc, k⟩ := lz_c (g := 32) (q := 1) (vs := [.ref Rd, .ref (nt_sp + 1 + 16)]) (rest := []) rfl rfl (by decide) (Or.inr (Or.inl ⟨_, rfl, rfl⟩)) rfl k
                obtain ⟨hn, e1⟩ := (lc_takesWord hP hS21 (Nat.le_refl t) kc).resolve_left (fun hh => lb_at_t (by decide) hh.1)
                subst e1
                have k : nt_rn X _ 58 (25, [(3, .int (nI (j + 1))), (2, .int (Int32.ofInt 1)), (0, .ref RR), (1, .int (nI dep))], [.int (Int32.ofInt 0)], me_w M J21) _ := k
                have k := ly_revb 1 (c' := (if (Int32.ofInt 0) = 0 then 42 else 28, [(3, .int (nI (j + 1))), (2, .int (Int32.ofInt 1)), (0, .ref RR), (1, .int (nI dep))], [], me_w M J21)) rfl k
                rw [if_pos (show (Int32.ofInt 0) = 0 from by decide)] at k
                have k := ly_revb 1 (c' := (43, [(3, .int (nI (j + 1))), (2, .int (Int32.ofInt 1)), (0, .ref RR), (1, .int (nI dep))], [.ref RR], me_w M J21)) rfl k
                have k := lz_get (a := RR) (g := 500) (M := me_w M J21) (v := .ref Rd) rfl (nt_gfR rfl hP.1.2.2.1) k
                have k := ly_revb 1 (c' := (48, [(3, .int (nI (j + 1))), (2, .int (Int32.ofInt 1)), (0, .ref RR), (1, .int (nI dep))], [.ref (nt_sp + 1 + 17), .ref Rd], me_w M J21)) rfl k
                obtain ⟨d1, o1, ed, kc, k⟩ := lz_c (g := 32) (q := 1) (vs := [.ref Rd, .ref (nt_sp + 1 + 17)]) (rest := []) rfl rfl (by decide) (Or.inr (Or.inl ⟨_, rfl, rfl⟩)) rfl k
                obtain ⟨hn, e1⟩ := (lc_takesWord hP hS21 (Nat.le_refl t) kc).resolve_left (fun hh => lb_at_t (by decide) hh.1)
                subst e1
                have k : nt_rn X _ 58 (51, [(3, .int (nI (j + 1))), (2, .int (Int32.ofInt 1)), (0, .ref RR), (1, .int (nI dep))], [.int (Int32.ofInt 0)], me_w M J21) _ := k
                have k := ly_revb 1 (c' := (if (Int32.ofInt 0) = 0 then 77 else 54, [(3, .int (nI (j + 1))), (2, .int (Int32.ofInt 1)), (0, .ref RR), (1, .int (nI dep))], [], me_w M J21)) rfl k
                rw [if_pos (show (Int32.ofInt 0) = 0 from by decide)] at k
                have k := ly_revb 2 (c' := (if (Int32.ofInt 1) = 0 then 87 else 81, [(3, .int (nI (j + 1))), (2, .int (Int32.ofInt 1)), (0, .ref RR), (1, .int (nI dep))], [], me_w M J21)) rfl k
                rw [if_neg (show ¬ ((Int32.ofInt 1) = 0) from by decide)] at k
                have k := ly_revb 2 (c' := (84, [(3, .int (nI (j + 1))), (2, .int (Int32.ofInt 1)), (0, .ref RR), (1, .int (nI dep))], [.int (Int32.ofInt 20), .ref RR], me_w M J21)) rfl k
                obtain ⟨d1, o1, ed, kc, k⟩ := lz_c (g := 54) (q := 1) (vs := [.ref RR, .int (Int32.ofInt 20)]) (rest := []) rfl rfl (by decide) (Or.inr (Or.inl ⟨_, rfl, rfl⟩)) rfl k
                obtain ⟨J2, e1, hS2⟩ := lc_add hP hS21 (Nat.le_refl t) kc
                subst e1
                have k : nt_rn X _ 58 (87, [(3, .int (nI (j + 1))), (2, .int (Int32.ofInt 1)), (0, .ref RR), (1, .int (nI dep))], [], me_w M J2) _ := k
                have k := lz_rv rfl rfl k
                exact ⟨k21 + 1, .inl (c21), _, k, Or.inr (Or.inl ⟨hw16, hw17, _, hv21, Or.inl ⟨_, rfl, rfl⟩⟩), hfa, _, _, hS2⟩
            | inr z21 =>
              obtain ⟨hS21, hp21⟩ := hq21
              have k : nt_rn X _ 58 (71, [(2, .int (Int32.ofInt 1)), (3, .int (nI j)), (0, .ref RR), (1, .int (nI dep))], [], me_w M J21) _ := k
              have k := ly_revb 1 (c' := (74, [(3, .int ((nI j) + Int32.ofInt 1)), (2, .int (Int32.ofInt 1)), (0, .ref RR), (1, .int (nI dep))], [], me_w M J21)) rfl k
              rw [show ((nI j) + Int32.ofInt 1 : Int32) = nI (j + 1) from me_add (k := 1)] at k
              have k := ly_revb 1 (c' := (9, [(3, .int (nI (j + 1))), (2, .int (Int32.ofInt 1)), (0, .ref RR), (1, .int (nI dep))], [], me_w M J21)) rfl k
              have hup := lb_ft_up _ _ _ _ _ _ hp1 hv21
              dsimp only at hup
              have hu3 := hup.2.2 rfl
              obtain ⟨k1, r1, J7, e2, hsr, hq⟩ := ih (t - z21.1) (by omega) (j + 1) true z21 _ rfl hp21 (by omega) hS21 k
              exact ⟨k21 + k1 + 1, r1, J7, e2, Or.inr (Or.inl ⟨hw16, hw17, _, lb_ft_le hv21 (by omega), Or.inr ⟨z21, rfl, lb_ft_le hsr (by omega)⟩⟩), hq⟩
          · subst e1
            have k : nt_rn X _ 58 (51, [(3, .int (nI j)), (2, .int (Int32.ofInt 0)), (0, .ref RR), (1, .int (nI dep))], [.int (Int32.ofInt 0)], me_w M J) _ := k
            have k := ly_revb 1 (c' := (if (Int32.ofInt 0) = 0 then 77 else 54, [(3, .int (nI j)), (2, .int (Int32.ofInt 0)), (0, .ref RR), (1, .int (nI dep))], [], me_w M J)) rfl k
            rw [if_pos (show (Int32.ofInt 0) = 0 from by decide)] at k
            have k := ly_revb 2 (c' := (if (Int32.ofInt 0) = 0 then 87 else 81, [(3, .int (nI j)), (2, .int (Int32.ofInt 0)), (0, .ref RR), (1, .int (nI dep))], [], me_w M J)) rfl k
            rw [if_pos (show (Int32.ofInt 0) = 0 from by decide)] at k
            have k := lz_rv rfl rfl k
            exact ⟨1, .inr (z.1, z.2.1, lb_oe z.2.2 false), _, k, Or.inr (Or.inr ⟨hw16, hw17, rfl⟩), hS, hp⟩
theorem lc_test_step {X : nt_X} {t Rd Tp By RR Sp : Nat} {f : Nat → Int32} {M : nt_M} {J0 : Nat → Nat → Int32} {n : Nat} (hP : lc_P M J0 f t Rd Tp By RR Sp) (ih : ∀ n1, n = n1 + 1 → lc_FOK X t Rd RR Sp f M J0 n1) : lc_TOK X t Rd RR Sp f M J0 n := by
  intro dep p m e J o hS hp hd k
  have k : nt_rn X n 58 (0, [(0, .ref RR), (1, .int (nI dep))], [], me_w M J) o := k
  have t4 : t ≤ 400 := hP.2.2.2.2.1
  have m6 : m ≤ 60 := hS.2.2.2.2.2.2.2
  have k := ly_revb 4 (c' := (4, [(2, .int (Int32.ofInt 0)), (0, .ref RR), (1, .int (nI dep))], [.int (nI dep), .ref RR], me_w M J)) rfl k
  obtain ⟨d1, o1, ed, kc, k⟩ := lz_c (g := 59) (q := 1) (vs := [.ref RR, .int (nI dep)]) (rest := []) rfl rfl (by decide) (Or.inr (Or.inl ⟨_, rfl, rfl⟩)) rfl k
  obtain ⟨k21, r21, J21, e1, hv21, hq21⟩ := (ih d1 ed) dep _ _ e _ _ hS hp (by omega) kc
  subst e1
  cases r21 with
  | inl c21 =>
    obtain ⟨hfa, m21, s21, hS21⟩ := hq21
    have k : nt_rn X _ 58 (7, [(2, .int (Int32.ofInt 0)), (0, .ref RR), (1, .int (nI dep))], [], me_w M J21) _ := k
    have k := ly_revb 2 (c' := (9, [(3, .int (Int32.ofInt 1)), (2, .int (Int32.ofInt 0)), (0, .ref RR), (1, .int (nI dep))], [], me_w M J21)) rfl k
    have k := ly_revb 3 (c' := (if (Int32.ofInt 400) ≤ (Int32.ofInt 1) then 77 else 16, [(3, .int (Int32.ofInt 1)), (2, .int (Int32.ofInt 0)), (0, .ref RR), (1, .int (nI dep))], [], me_w M J21)) rfl k
    rw [if_neg (show ¬ ((Int32.ofInt 400) ≤ (Int32.ofInt 1)) from show ¬ nI 400 ≤ nI 1 from nI_ge (by omega) (by omega))] at k
    have k := ly_revb 1 (c' := (17, [(3, .int (Int32.ofInt 1)), (2, .int (Int32.ofInt 0)), (0, .ref RR), (1, .int (nI dep))], [.ref RR], me_w M J21)) rfl k
    have k := lz_get (a := RR) (g := 500) (M := me_w M J21) (v := .ref Rd) rfl (nt_gfR rfl hP.1.2.2.1) k
    have k := ly_revb 1 (c' := (22, [(3, .int (Int32.ofInt 1)), (2, .int (Int32.ofInt 0)), (0, .ref RR), (1, .int (nI dep))], [.ref (nt_sp + 1 + 16), .ref Rd], me_w M J21)) rfl k
    obtain ⟨d1, o1, ed, kc, k⟩ := lz_c (g := 32) (q := 1) (vs := [.ref Rd, .ref (nt_sp + 1 + 16)]) (rest := []) rfl rfl (by decide) (Or.inr (Or.inl ⟨_, rfl, rfl⟩)) rfl k
    obtain ⟨hn, e1⟩ := (lc_takesWord hP hS21 (Nat.le_refl t) kc).resolve_left (fun hh => lb_at_t (by decide) hh.1)
    subst e1
    have k : nt_rn X _ 58 (25, [(3, .int (Int32.ofInt 1)), (2, .int (Int32.ofInt 0)), (0, .ref RR), (1, .int (nI dep))], [.int (Int32.ofInt 0)], me_w M J21) _ := k
    have k := ly_revb 1 (c' := (if (Int32.ofInt 0) = 0 then 42 else 28, [(3, .int (Int32.ofInt 1)), (2, .int (Int32.ofInt 0)), (0, .ref RR), (1, .int (nI dep))], [], me_w M J21)) rfl k
    rw [if_pos (show (Int32.ofInt 0) = 0 from by decide)] at k
    have k := ly_revb 1 (c' := (43, [(3, .int (Int32.ofInt 1)), (2, .int (Int32.ofInt 0)), (0, .ref RR), (1, .int (nI dep))], [.ref RR], me_w M J21)) rfl k
    have k := lz_get (a := RR) (g := 500) (M := me_w M J21) (v := .ref Rd) rfl (nt_gfR rfl hP.1.2.2.1) k
    have k := ly_revb 1 (c' := (48, [(3, .int (Int32.ofInt 1)), (2, .int (Int32.ofInt 0)), (0, .ref RR), (1, .int (nI dep))], [.ref (nt_sp + 1 + 17), .ref Rd], me_w M J21)) rfl k
    obtain ⟨d1, o1, ed, kc, k⟩ := lz_c (g := 32) (q := 1) (vs := [.ref Rd, .ref (nt_sp + 1 + 17)]) (rest := []) rfl rfl (by decide) (Or.inr (Or.inl ⟨_, rfl, rfl⟩)) rfl k
    obtain ⟨hn, e1⟩ := (lc_takesWord hP hS21 (Nat.le_refl t) kc).resolve_left (fun hh => lb_at_t (by decide) hh.1)
    subst e1
    have k : nt_rn X _ 58 (51, [(3, .int (Int32.ofInt 1)), (2, .int (Int32.ofInt 0)), (0, .ref RR), (1, .int (nI dep))], [.int (Int32.ofInt 0)], me_w M J21) _ := k
    have k := ly_revb 1 (c' := (if (Int32.ofInt 0) = 0 then 77 else 54, [(3, .int (Int32.ofInt 1)), (2, .int (Int32.ofInt 0)), (0, .ref RR), (1, .int (nI dep))], [], me_w M J21)) rfl k
    rw [if_pos (show (Int32.ofInt 0) = 0 from by decide)] at k
    have k := ly_revb 2 (c' := (if (Int32.ofInt 0) = 0 then 87 else 81, [(3, .int (Int32.ofInt 1)), (2, .int (Int32.ofInt 0)), (0, .ref RR), (1, .int (nI dep))], [], me_w M J21)) rfl k
    rw [if_pos (show (Int32.ofInt 0) = 0 from by decide)] at k
    have k := lz_rv rfl rfl k
    exact ⟨k21, _, .inl (c21), _, k, hv21, Or.inl ⟨_, rfl, rfl⟩, hfa, _, _, hS21⟩
  | inr z21 =>
    obtain ⟨hS21, hp21⟩ := hq21
    have k : nt_rn X _ 58 (7, [(2, .int (Int32.ofInt 0)), (0, .ref RR), (1, .int (nI dep))], [], me_w M J21) _ := k
    have k := ly_revb 2 (c' := (9, [(3, .int (Int32.ofInt 1)), (2, .int (Int32.ofInt 0)), (0, .ref RR), (1, .int (nI dep))], [], me_w M J21)) rfl k
    have hup := lb_ft_up _ _ _ _ _ _ hp hv21
    have hu3 := hup.2.2 rfl
    dsimp only at hup hu3
    obtain ⟨k1, r1, J7, e2, hsr, hq⟩ := lc_tel hP hd ih (t - z21.1) 1 false z21 _ rfl hp21 (by omega) hS21 k
    exact ⟨k21 + k1, _, r1, J7, e2, lb_ft_le hv21 (by omega), Or.inr ⟨z21, rfl, lb_ft_le hsr (by omega)⟩, hq⟩
theorem lc_FT {X : nt_X} {t Rd Tp By RR Sp : Nat} {f : Nat → Int32} {M : nt_M} {J0 : Nat → Nat → Int32} (hP : lc_P M J0 f t Rd Tp By RR Sp) : ∀ n, lc_FOK X t Rd RR Sp f M J0 n ∧ lc_TOK X t Rd RR Sp f M J0 n := by
  intro n
  induction n with
  | zero => exact ⟨lc_fact_step hP (fun n1 h => absurd h (by omega)), lc_test_step hP (fun n1 h => absurd h (by omega))⟩
  | succ n ih => exact ⟨lc_fact_step hP (fun n1 h => by cases h; exact ih), lc_test_step hP (fun n1 h => by cases h; exact ih.1)⟩
