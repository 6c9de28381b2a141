/-! facts and tests of the rule reader -/
def lc_FOK (X : nt_X) (t Rd RR Sp : Nat) (f : Nat → Int32) (M : nt_M) (J0 : Nat → Nat → Int32) (n : Nat) : Prop := ∀ (dep p m : Nat) (e : lb_E) (J : Nat → Nat → Int32) (o : Option Value × nt_M), lc_S J0 Rd RR Sp p 0 m e.1 J → p ≤ t → dep ≤ 10 → nt_ev X n 59 [.ref RR, .int (nI dep)] (me_w M J) o → ∃ k r J', o = (none, me_w M J') ∧ lb_ft f t k true dep false (p, m, e) r ∧ lc_Q J0 Rd RR Sp t r J'
def lc_TOK (X : nt_X) (t Rd RR Sp : Nat) (f : Nat → Int32) (M : nt_M) (J0 : Nat → Nat → Int32) (n : Nat) : Prop := ∀ (dep p m : Nat) (e : lb_E) (J : Nat → Nat → Int32) (o : Option Value × nt_M), lc_S J0 Rd RR Sp p 0 m e.1 J → p ≤ t → dep ≤ 10 → nt_ev X n 58 [.ref RR, .int (nI dep)] (me_w M J) o → ∃ k r1 r J', o = (none, me_w M J') ∧ lb_ft f t k true dep false (p, m, e) r1 ∧ lb_th r1 r (fun z1 => lb_ft f t k false dep false z1 r) ∧ lc_Q J0 Rd RR Sp t r J'
theorem lc_fact_step {X : nt_X} {t Rd Tp By RR Sp : Nat} {f : Nat → Int32} {M : nt_M} {J0 : Nat → Nat → Int32} {n : Nat} (hP : lc_P M J0 f t Rd Tp By RR Sp) (ih : ∀ n1, n = n1 + 1 → lc_FOK X t Rd RR Sp f M J0 n1 ∧ lc_TOK X t Rd RR Sp f M J0 n1) : lc_FOK X t Rd RR Sp f M J0 n := by
  intro dep p m e J o hS hp hd k
  have k : nt_rn X n 59 (0, [(0, .ref RR), (1, .int (nI dep))], [], me_w M J) o := k
  have t4 : t ≤ 400 := hP.2.2.2.2.1
  have m6 : m ≤ 60 := hS.2.2.2.2.2.2.2
  have k := ly_revb 1 (c' := (1, [(0, .ref RR), (1, .int (nI dep))], [.ref RR], me_w M J)) rfl k
  have k := lz_get (a := RR) (g := 500) (M := me_w M J) (v := .ref Rd) rfl (nt_gfR rfl hP.1.2.2.1) k
  have k := ly_revb 1 (c' := (6, [(0, .ref RR), (1, .int (nI dep))], [.ref (nt_sp + 1 + 15), .ref Rd], me_w M J)) rfl k
  obtain ⟨d1, o1, ed, kc, k⟩ := lz_c (g := 30) (q := 1) (vs := [.ref Rd, .ref (nt_sp + 1 + 15)]) (rest := []) rfl rfl (by decide) (Or.inr (Or.inl ⟨_, rfl, rfl⟩)) rfl k
  obtain ⟨r, e1, hr⟩ := lc_isAt hP hS hp kc
  subst e1
  rcases hr with ⟨rfl, hr⟩ | ⟨rfl, hr⟩
  · have k : nt_rn X _ 59 (9, [(0, .ref RR), (1, .int (nI dep))], [.int (Int32.ofInt 1)], me_w M J) _ := k
    have k := ly_revb 2 (c' := (11, [(2, .int (Int32.ofInt 1)), (0, .ref RR), (1, .int (nI dep))], [.ref RR], me_w M J)) rfl k
    have k := lz_get (a := RR) (g := 500) (M := me_w M J) (v := .ref Rd) rfl (nt_gfR rfl hP.1.2.2.1) k
    obtain ⟨d1, o1, ed, kc, k⟩ := lz_c (g := 37) (q := 1) (vs := [.ref Rd]) (rest := []) rfl rfl (by decide) (Or.inr (Or.inl ⟨_, rfl, rfl⟩)) rfl k
    have e1 := lc_sign hP hS hp kc
    subst e1
    have k : nt_rn X _ 59 (17, [(2, .int (Int32.ofInt 1)), (0, .ref RR), (1, .int (nI dep))], [.int (lb_g f t p)], me_w M J) _ := k
    have k := ly_revb 2 (c' := (if (lb_g f t p) = (Int32.ofInt 91) then 22 else 26, [(2, .int (Int32.ofInt 1)), (0, .ref RR), (1, .int (nI dep))], [], me_w M J)) rfl k
    by_cases h19 : lb_g f t p = Int32.ofInt 91
    · rw [if_pos (show (lb_g f t p) = (Int32.ofInt 91) from h19)] at k
      have k := ly_revb 5 (c' := (if (Int32.ofInt 1) = 0 then 32 else 36, [(3, .int (Int32.ofInt 1)), (2, .int (Int32.ofInt 1)), (0, .ref RR), (1, .int (nI dep))], [], me_w M J)) rfl k
      rw [if_neg (show ¬ ((Int32.ofInt 1) = 0) from by decide)] at k
      have k := ly_revb 3 (c' := (if (nI dep) < (Int32.ofInt 10) then 53 else 42, [(3, .int (Int32.ofInt 1)), (2, .int (Int32.ofInt 1)), (0, .ref RR), (1, .int (nI dep))], [], me_w M J)) rfl k
      by_cases h39 : dep < 10
      · rw [if_pos (show (nI dep) < (Int32.ofInt 10) from show nI dep < nI 10 from nI_lt h39 (by omega))] at k
        have k := ly_revb 2 (c' := (if (Int32.ofInt 1) = 0 then 83 else 57, [(3, .int (Int32.ofInt 1)), (2, .int (Int32.ofInt 1)), (0, .ref RR), (1, .int (nI dep))], [], me_w M J)) rfl k
        rw [if_neg (show ¬ ((Int32.ofInt 1) = 0) from by decide)] at k
        have k := ly_revb 1 (c' := (58, [(3, .int (Int32.ofInt 1)), (2, .int (Int32.ofInt 1)), (0, .ref RR), (1, .int (nI dep))], [.ref RR], me_w M J)) rfl k
        have k := lz_get (a := RR) (g := 500) (M := me_w M J) (v := .ref Rd) rfl (nt_gfR rfl hP.1.2.2.1) k
        have k := ly_revb 1 (c' := (63, [(3, .int (Int32.ofInt 1)), (2, .int (Int32.ofInt 1)), (0, .ref RR), (1, .int (nI dep))], [.ref (nt_sp + 1 + 15), .ref Rd], me_w M J)) rfl k
        obtain ⟨d1, o1, ed, kc, k⟩ := lz_c (g := 32) (q := 1) (vs := [.ref Rd, .ref (nt_sp + 1 + 15)]) (rest := []) rfl rfl (by decide) (Or.inr (Or.inl ⟨_, rfl, rfl⟩)) rfl k
        obtain ⟨_, e1⟩ := (lc_takesWord hP hS hp kc).resolve_right (fun hh => hh.1 hr)
        subst e1
        have hwl := hr.1
        have hS1 := lc_Spp (q := lb_s f t (p + (lb_W (nt_sp + 1 + 15)).length)) hP hS
        have hp1 : lb_s f t (p + (lb_W (nt_sp + 1 + 15)).length) ≤ t := (lb_s_le (t - (p + (lb_W (nt_sp + 1 + 15)).length)) (p + (lb_W (nt_sp + 1 + 15)).length) (by omega)).2
        have hg1 := (lb_s_le (f := f) (t := t) (t - (p + (lb_W (nt_sp + 1 + 15)).length)) (p + (lb_W (nt_sp + 1 + 15)).length) (by omega)).1
        have k : nt_rn X _ 59 (66, [(3, .int (Int32.ofInt 1)), (2, .int (Int32.ofInt 1)), (0, .ref RR), (1, .int (nI dep))], [.int (Int32.ofInt 1)], me_w M (nt_u J Rd 1 (nI (lb_s f t (p + (lb_W (nt_sp + 1 + 15)).length))))) _ := k
        have k := ly_revb 5 (c' := (71, [(3, .int (Int32.ofInt 1)), (2, .int (Int32.ofInt 1)), (0, .ref RR), (1, .int (nI dep))], [.int ((nI dep) + (Int32.ofInt 1)), .ref RR], me_w M (nt_u J Rd 1 (nI (lb_s f t (p + (lb_W (nt_sp + 1 + 15)).length)))))) rfl k
        rw [show ((nI dep) + (Int32.ofInt 1) : Int32) = nI (dep + 1) from me_add (k := 1)] at k
        obtain ⟨d1, o1, ed, kc, k⟩ := lz_c (g := 59) (q := 1) (vs := [.ref RR, .int (nI (dep + 1))]) (rest := []) rfl rfl (by decide) (Or.inr (Or.inl ⟨_, rfl, rfl⟩)) rfl k
        obtain ⟨k21, r21, J21, e1, hv21, hq21⟩ := (ih d1 ed).1 ((dep + 1)) _ _ e _ _ hS1 hp1 (by omega) kc
        subst e1
        cases r21 with
        | inl c21 =>
          obtain ⟨hfa, m21, s21, hS21⟩ := hq21
          have k : nt_rn X _ 59 (74, [(3, .int (Int32.ofInt 1)), (2, .int (Int32.ofInt 1)), (0, .ref RR), (1, .int (nI dep))], [], me_w M J21) _ := k
          have k := ly_revb 2 (c' := (77, [(3, .int (Int32.ofInt 1)), (2, .int (Int32.ofInt 1)), (0, .ref RR), (1, .int (nI dep))], [.int (Int32.ofInt 21), .ref RR], me_w M J21)) rfl k
          obtain ⟨d1, o1, ed, kc, k⟩ := lz_c (g := 54) (q := 1) (vs := [.ref RR, .int (Int32.ofInt 21)]) (rest := []) rfl rfl (by decide) (Or.inr (Or.inl ⟨_, rfl, rfl⟩)) rfl k
          obtain ⟨J2, e1, hS2⟩ := lc_add hP hS21 (Nat.le_refl t) kc
          subst e1
          have k : nt_rn X _ 59 (80, [(3, .int (Int32.ofInt 1)), (2, .int (Int32.ofInt 1)), (0, .ref RR), (1, .int (nI dep))], [], me_w M J2) _ := k
          have k := ly_revb 1 (c' := (145, [(3, .int (Int32.ofInt 1)), (2, .int (Int32.ofInt 1)), (0, .ref RR), (1, .int (nI dep))], [], me_w M J2)) rfl k
          have k := lz_rv rfl rfl k
          exact ⟨k21 + 1, .inl (c21), _, k, Or.inr (Or.inl ⟨hr, h39, _, hv21, Or.inl ⟨_, rfl, rfl⟩⟩), hfa, _, _, hS2⟩
        | inr z21 =>
          obtain ⟨hS21, hp21⟩ := hq21
          have k : nt_rn X _ 59 (74, [(3, .int (Int32.ofInt 1)), (2, .int (Int32.ofInt 1)), (0, .ref RR), (1, .int (nI dep))], [], me_w M J21) _ := k
          have k := ly_revb 2 (c' := (77, [(3, .int (Int32.ofInt 1)), (2, .int (Int32.ofInt 1)), (0, .ref RR), (1, .int (nI dep))], [.int (Int32.ofInt 21), .ref RR], me_w M J21)) rfl k
          obtain ⟨d1, o1, ed, kc, k⟩ := lz_c (g := 54) (q := 1) (vs := [.ref RR, .int (Int32.ofInt 21)]) (rest := []) rfl rfl (by decide) (Or.inr (Or.inl ⟨_, rfl, rfl⟩)) rfl k
          obtain ⟨J2, e1, hS2⟩ := lc_add hP hS21 hp21 kc
          subst e1
          have k : nt_rn X _ 59 (80, [(3, .int (Int32.ofInt 1)), (2, .int (Int32.ofInt 1)), (0, .ref RR), (1, .int (nI dep))], [], me_w M J2) _ := k
          have k := ly_revb 1 (c' := (145, [(3, .int (Int32.ofInt 1)), (2, .int (Int32.ofInt 1)), (0, .ref RR), (1, .int (nI dep))], [], me_w M J2)) rfl k
          have k := lz_rv rfl rfl k
          refine ⟨k21 + 1, .inr (z21.1, z21.2.1, lb_em z21.2.2 (Int32.ofInt 21) (Int32.ofInt 11)), _, k, Or.inr (Or.inl ⟨hr, h39, _, hv21, Or.inr ⟨z21, rfl, rfl⟩⟩), ?_⟩
          exact ⟨hS2, hp21⟩
      · rw [if_neg (show ¬ ((nI dep) < (Int32.ofInt 10)) from show ¬ nI dep < nI 10 from nI_nlt (Nat.not_lt.mp h39) (by omega))] at k
        have k := ly_revb 1 (c' := (43, [(3, .int (Int32.ofInt 1)), (2, .int (Int32.ofInt 1)), (0, .ref RR), (1, .int (nI dep))], [.ref RR], me_w M J)) rfl k
        have k := lz_get (a := RR) (g := 500) (M := me_w M J) (v := .ref Rd) rfl (nt_gfR rfl hP.1.2.2.1) k
        have k := ly_revb 1 (c' := (47, [(3, .int (Int32.ofInt 1)), (2, .int (Int32.ofInt 1)), (0, .ref RR), (1, .int (nI dep))], [.int (Int32.ofInt 2), .ref Rd], me_w M J)) rfl k
        obtain ⟨d1, o1, ed, kc, k⟩ := lz_c (g := 31) (q := 1) (vs := [.ref Rd, .int (Int32.ofInt 2)]) (rest := []) rfl rfl (by decide) (Or.inr (Or.inl ⟨_, rfl, rfl⟩)) rfl k
        obtain ⟨hf, e1⟩ := (lc_fail hP hS hp kc).resolve_right (fun c => c.1 rfl)
        subst e1
        have hS1 := lc_Spp (q := t) hP (lc_Sf (fb := lb_c p (Int32.ofInt 2)) hP hS)
        have k : nt_rn X _ 59 (50, [(3, .int (Int32.ofInt 1)), (2, .int (Int32.ofInt 1)), (0, .ref RR), (1, .int (nI dep))], [], me_w M (nt_u (nt_u J Rd 2 (lb_c p (Int32.ofInt 2))) Rd 1 (nI t))) _ := k
        have k := ly_revb 1 (c' := (145, [(3, .int (Int32.ofInt 1)), (2, .int (Int32.ofInt 1)), (0, .ref RR), (1, .int (nI dep))], [], me_w M (nt_u (nt_u J Rd 2 (lb_c p (Int32.ofInt 2))) Rd 1 (nI t)))) rfl k
        have k := lz_rv rfl rfl k
        exact ⟨1, .inl (lb_c p (Int32.ofInt 2)), _, k, Or.inl ⟨Or.inl hr, by omega, rfl⟩, (lb_c_ne (by omega) (by decide) (by decide)), _, _, hS1⟩
    · rw [if_neg (show ¬ ((lb_g f t p) = (Int32.ofInt 91)) from h19)] at k
      have k := ly_revb 4 (c' := (if (Int32.ofInt 1) = 0 then 32 else 36, [(3, .int (Int32.ofInt 0)), (2, .int (Int32.ofInt 1)), (0, .ref RR), (1, .int (nI dep))], [], me_w M J)) rfl k
      rw [if_neg (show ¬ ((Int32.ofInt 1) = 0) from by decide)] at k
      have k := ly_revb 3 (c' := (if (nI dep) < (Int32.ofInt 10) then 53 else 42, [(3, .int (Int32.ofInt 0)), (2, .int (Int32.ofInt 1)), (0, .ref RR), (1, .int (nI dep))], [], me_w M J)) rfl k
      by_cases h39 : dep < 10
      · rw [if_pos (show (nI dep) < (Int32.ofInt 10) from show nI dep < nI 10 from nI_lt h39 (by omega))] at k
        have k := ly_revb 2 (c' := (if (Int32.ofInt 1) = 0 then 83 else 57, [(3, .int (Int32.ofInt 0)), (2, .int (Int32.ofInt 1)), (0, .ref RR), (1, .int (nI dep))], [], me_w M J)) rfl k
        rw [if_neg (show ¬ ((Int32.ofInt 1) = 0) from by decide)] at k
        have k := ly_revb 1 (c' := (58, [(3, .int (Int32.ofInt 0)), (2, .int (Int32.ofInt 1)), (0, .ref RR), (1, .int (nI dep))], [.ref RR], me_w M J)) rfl k
        have k := lz_get (a := RR) (g := 500) (M := me_w M J) (v := .ref Rd) rfl (nt_gfR rfl hP.1.2.2.1) k
        have k := ly_revb 1 (c' := (63, [(3, .int (Int32.ofInt 0)), (2, .int (Int32.ofInt 1)), (0, .ref RR), (1, .int (nI dep))], [.ref (nt_sp + 1 + 15), .ref Rd], me_w M J)) rfl k
        obtain ⟨d1, o1, ed, kc, k⟩ := lz_c (g := 32) (q := 1) (vs := [.ref Rd, .ref (nt_sp + 1 + 15)]) (rest := []) rfl rfl (by decide) (Or.inr (Or.inl ⟨_, rfl, rfl⟩)) rfl k
        obtain ⟨_, e1⟩ := (lc_takesWord hP hS hp kc).resolve_right (fun hh => hh.1 hr)
        subst e1
        have hwl := hr.1
        have hS1 := lc_Spp (q := lb_s f t (p + (lb_W (nt_sp + 1 + 15)).length)) hP hS
        have hp1 : lb_s f t (p + (lb_W (nt_sp + 1 + 15)).length) ≤ t := (lb_s_le (t - (p + (lb_W (nt_sp + 1 + 15)).length)) (p + (lb_W (nt_sp + 1 + 15)).length) (by omega)).2
        have hg1 := (lb_s_le (f := f) (t := t) (t - (p + (lb_W (nt_sp + 1 + 15)).length)) (p + (lb_W (nt_sp + 1 + 15)).length) (by omega)).1
        have k : nt_rn X _ 59 (66, [(3, .int (Int32.ofInt 0)), (2, .int (Int32.ofInt 1)), (0, .ref RR), (1, .int (nI dep))], [.int (Int32.ofInt 1)], me_w M (nt_u J Rd 1 (nI (lb_s f t (p + (lb_W (nt_sp + 1 + 15)).length))))) _ := k
        have k := ly_revb 5 (c' := (71, [(3, .int (Int32.ofInt 0)), (2, .int (Int32.ofInt 1)), (0, .ref RR), (1, .int (nI dep))], [.int ((nI dep) + (Int32.ofInt 1)), .ref RR], me_w M (nt_u J Rd 1 (nI (lb_s f t (p + (lb_W (nt_sp + 1 + 15)).length)))))) rfl k
        rw [show ((nI dep) + (Int32.ofInt 1) : Int32) = nI (dep + 1) from me_add (k := 1)] at k
        obtain ⟨d1, o1, ed, kc, k⟩ := lz_c (g := 59) (q := 1) (vs := [.ref RR, .int (nI (dep + 1))]) (rest := []) rfl rfl (by decide) (Or.inr (Or.inl ⟨_, rfl, rfl⟩)) rfl k
        obtain ⟨k21, r21, J21, e1, hv21, hq21⟩ := (ih d1 ed).1 ((dep + 1)) _ _ e _ _ hS1 hp1 (by omega) kc
        subst e1
        cases r21 with
        | inl c21 =>
          obtain ⟨hfa, m21, s21, hS21⟩ := hq21
          have k : nt_rn X _ 59 (74, [(3, .int (Int32.ofInt 0)), (2, .int (Int32.ofInt 1)), (0, .ref RR), (1, .int (nI dep))], [], me_w M J21) _ := k
          have k := ly_revb 2 (c' := (77, [(3, .int (Int32.ofInt 0)), (2, .int (Int32.ofInt 1)), (0, .ref RR), (1, .int (nI dep))], [.int (Int32.ofInt 21), .ref RR], me_w M J21)) rfl k
          obtain ⟨d1, o1, ed, kc, k⟩ := lz_c (g := 54) (q := 1) (vs := [.ref RR, .int (Int32.ofInt 21)]) (rest := []) rfl rfl (by decide) (Or.inr (Or.inl ⟨_, rfl, rfl⟩)) rfl k
          obtain ⟨J2, e1, hS2⟩ := lc_add hP hS21 (Nat.le_refl t) kc
          subst e1
          have k : nt_rn X _ 59 (80, [(3, .int (Int32.ofInt 0)), (2, .int (Int32.ofInt 1)), (0, .ref RR), (1, .int (nI dep))], [], me_w M J2) _ := k
          have k := ly_revb 1 (c' := (145, [(3, .int (Int32.ofInt 0)), (2, .int (Int32.ofInt 1)), (0, .ref RR), (1, .int (nI dep))], [], me_w M J2)) rfl k
          have k := lz_rv rfl rfl k
          exact ⟨k21 + 1, .inl (c21), _, k, Or.inr (Or.inl ⟨hr, h39, _, hv21, Or.inl ⟨_, rfl, rfl⟩⟩), hfa, _, _, hS2⟩
        | inr z21 =>
          obtain ⟨hS21, hp21⟩ := hq21
          have k : nt_rn X _ 59 (74, [(3, .int (Int32.ofInt 0)), (2, .int (Int32.ofInt 1)), (0, .ref RR), (1, .int (nI dep))], [], me_w M J21) _ := k
          have k := ly_revb 2 (c' := (77, [(3, .int (Int32.ofInt 0)), (2, .int (Int32.ofInt 1)), (0, .ref RR), (1, .int (nI dep))], [.int (Int32.ofInt 21), .ref RR], me_w M J21)) rfl k
          obtain ⟨d1, o1, ed, kc, k⟩ := lz_c (g := 54) (q := 1) (vs := [.ref RR, .int (Int32.ofInt 21)]) (rest := []) rfl rfl (by decide) (Or.inr (Or.inl ⟨_, rfl, rfl⟩)) rfl k
          obtain ⟨J2, e1, hS2⟩ := lc_add hP hS21 hp21 kc
          subst e1
          have k : nt_rn X _ 59 (80, [(3, .int (Int32.ofInt 0)), (2, .int (Int32.ofInt 1)), (0, .ref RR), (1, .int (nI dep))], [], me_w M J2) _ := k
          have k := ly_revb 1 (c' := (145, [(3, .int (Int32.ofInt 0)), (2, .int (Int32.ofInt 1)), (0, .ref RR), (1, .int (nI dep))], [], me_w M J2)) rfl k
          have k := lz_rv rfl rfl k
          refine ⟨k21 + 1, .inr (z21.1, z21.2.1, lb_em z21.2.2 (Int32.ofInt 21) (Int32.ofInt 11)), _, k, Or.inr (Or.inl ⟨hr, h39, _, hv21, Or.inr ⟨z21, rfl, rfl⟩⟩), ?_⟩
          exact ⟨hS2, hp21⟩
      · rw [if_neg (show ¬ ((nI dep) < (Int32.ofInt 10)) from show ¬ nI dep < nI 10 from nI_nlt (Nat.not_lt.mp h39) (by omega))] at k
        have k := ly_revb 1 (c' := (43, [(3, .int (Int32.ofInt 0)), (2, .int (Int32.ofInt 1)), (0, .ref RR), (1, .int (nI dep))], [.ref RR], me_w M J)) rfl k
        have k := lz_get (a := RR) (g := 500) (M := me_w M J) (v := .ref Rd) rfl (nt_gfR rfl hP.1.2.2.1) k
        have k := ly_revb 1 (c' := (47, [(3, .int (Int32.ofInt 0)), (2, .int (Int32.ofInt 1)), (0, .ref RR), (1, .int (nI dep))], [.int (Int32.ofInt 2), .ref Rd], me_w M J)) rfl k
        obtain ⟨d1, o1, ed, kc, k⟩ := lz_c (g := 31) (q := 1) (vs := [.ref Rd, .int (Int32.ofInt 2)]) (rest := []) rfl rfl (by decide) (Or.inr (Or.inl ⟨_, rfl, rfl⟩)) rfl k
        obtain ⟨hf, e1⟩ := (lc_fail hP hS hp kc).resolve_right (fun c => c.1 rfl)
        subst e1
        have hS1 := lc_Spp (q := t) hP (lc_Sf (fb := lb_c p (Int32.ofInt 2)) hP hS)
        have k : nt_rn X _ 59 (50, [(3, .int (Int32.ofInt 0)), (2, .int (Int32.ofInt 1)), (0, .ref RR), (1, .int (nI dep))], [], me_w M (nt_u (nt_u J Rd 2 (lb_c p (Int32.ofInt 2))) Rd 1 (nI t))) _ := k
        have k := ly_revb 1 (c' := (145, [(3, .int (Int32.ofInt 0)), (2, .int (Int32.ofInt 1)), (0, .ref RR), (1, .int (nI dep))], [], me_w M (nt_u (nt_u J Rd 2 (lb_c p (Int32.ofInt 2))) Rd 1 (nI t)))) rfl k
        have k := lz_rv rfl rfl k
        exact ⟨1, .inl (lb_c p (Int32.ofInt 2)), _, k, Or.inl ⟨Or.inl hr, by omega, rfl⟩, (lb_c_ne (by omega) (by decide) (by decide)), _, _, hS1⟩
  · have k : nt_rn X _ 59 (9, [(0, .ref RR), (1, .int (nI dep))], [.int (Int32.ofInt 0)], me_w M J) _ := k
    have k := ly_revb 2 (c' := (11, [(2, .int (Int32.ofInt 0)), (0, .ref RR), (1, .int (nI dep))], [.ref RR], me_w M J)) rfl k
    have k := lz_get (a := RR) (g := 500) (M := me_w M J) (v := .ref Rd) rfl (nt_gfR rfl hP.1.2.2.1) k
    obtain ⟨d1, o1, ed, kc, k⟩ := lz_c (g := 37) (q := 1) (vs := [.ref Rd]) (rest := []) rfl rfl (by decide) (Or.inr (Or.inl ⟨_, rfl, rfl⟩)) rfl k
    have e1 := lc_sign hP hS hp kc
    subst e1
    have k : nt_rn X _ 59 (17, [(2, .int (Int32.ofInt 0)), (0, .ref RR), (1, .int (nI dep))], [.int (lb_g f t p)], me_w M J) _ := k
    have k := ly_revb 2 (c' := (if (lb_g f t p) = (Int32.ofInt 91) then 22 else 26, [(2, .int (Int32.ofInt 0)), (0, .ref RR), (1, .int (nI dep))], [], me_w M J)) rfl k
    by_cases h19 : lb_g f t p = Int32.ofInt 91
    · rw [if_pos (show (lb_g f t p) = (Int32.ofInt 91) from h19)] at k
      have k := ly_revb 5 (c' := (if (Int32.ofInt 0) = 0 then 32 else 36, [(3, .int (Int32.ofInt 1)), (2, .int (Int32.ofInt 0)), (0, .ref RR), (1, .int (nI dep))], [], me_w M J)) rfl k
      rw [if_pos (show (Int32.ofInt 0) = 0 from by decide)] at k
      have k := ly_revb 2 (c' := (if (Int32.ofInt 1) = 0 then 53 else 36, [(3, .int (Int32.ofInt 1)), (2, .int (Int32.ofInt 0)), (0, .ref RR), (1, .int (nI dep))], [], me_w M J)) rfl k
      rw [if_neg (show ¬ ((Int32.ofInt 1) = 0) from by decide)] at k
      have k := ly_revb 3 (c' := (if (nI dep) < (Int32.ofInt 10) then 53 else 42, [(3, .int (Int32.ofInt 1)), (2, .int (Int32.ofInt 0)), (0, .ref RR), (1, .int (nI dep))], [], me_w M J)) rfl k
      by_cases h39 : dep < 10
      · rw [if_pos (show (nI dep) < (Int32.ofInt 10) from show nI dep < nI 10 from nI_lt h39 (by omega))] at k
        have k := ly_revb 2 (c' := (if (Int32.ofInt 0) = 0 then 83 else 57, [(3, .int (Int32.ofInt 1)), (2, .int (Int32.ofInt 0)), (0, .ref RR), (1, .int (nI dep))], [], me_w M J)) rfl k
        rw [if_pos (show (Int32.ofInt 0) = 0 from by decide)] at k
        have k := ly_revb 2 (c' := (if (Int32.ofInt 1) = 0 then 125 else 87, [(3, .int (Int32.ofInt 1)), (2, .int (Int32.ofInt 0)), (0, .ref RR), (1, .int (nI dep))], [], me_w M J)) rfl k
        rw [if_neg (show ¬ ((Int32.ofInt 1) = 0) from by decide)] at k
        have k := ly_revb 1 (c' := (88, [(3, .int (Int32.ofInt 1)), (2, .int (Int32.ofInt 0)), (0, .ref RR), (1, .int (nI dep))], [.ref RR], me_w M J)) rfl k
        have k := lz_get (a := RR) (g := 500) (M := me_w M J) (v := .ref Rd) rfl (nt_gfR rfl hP.1.2.2.1) k
        have k := ly_revb 1 (c' := (92, [(3, .int (Int32.ofInt 1)), (2, .int (Int32.ofInt 0)), (0, .ref RR), (1, .int (nI dep))], [.int (Int32.ofInt 1), .ref Rd], me_w M J)) rfl k
        obtain ⟨d1, o1, ed, kc, k⟩ := lz_c (g := 29) (q := 1) (vs := [.ref Rd, .int (Int32.ofInt 1)]) (rest := []) rfl rfl (by decide) (Or.inr (Or.inl ⟨_, rfl, rfl⟩)) rfl k
        have e1 := lc_skip (b := 1) hP hS hp (by first | omega | decide | (have := lb_W_len (a := lb_wd w); omega)) kc
        rw [Nat.min_eq_left (lb_g_lt (by rw [h19]; decide))] at e1
        subst e1
        have hS1 := lc_Spp (q := lb_s f t (p + 1)) hP hS
        have hp1 : lb_s f t (p + 1) ≤ t := (lb_s_le (t - (p + 1)) (p + 1) (by have := (lb_g_lt (by rw [h19]; decide)); omega)).2
        have k : nt_rn X _ 59 (95, [(3, .int (Int32.ofInt 1)), (2, .int (Int32.ofInt 0)), (0, .ref RR), (1, .int (nI dep))], [], me_w M (nt_u J Rd 1 (nI (lb_s f t (p + 1))))) _ := k
        have k := ly_revb 4 (c' := (99, [(3, .int (Int32.ofInt 1)), (2, .int (Int32.ofInt 0)), (0, .ref RR), (1, .int (nI dep))], [.int ((nI dep) + (Int32.ofInt 1)), .ref RR], me_w M (nt_u J Rd 1 (nI (lb_s f t (p + 1)))))) rfl k
        rw [show ((nI dep) + (Int32.ofInt 1) : Int32) = nI (dep + 1) from me_add (k := 1)] at k
        obtain ⟨d1, o1, ed, kc, k⟩ := lz_c (g := 58) (q := 1) (vs := [.ref RR, .int (nI (dep + 1))]) (rest := []) rfl rfl (by decide) (Or.inr (Or.inl ⟨_, rfl, rfl⟩)) rfl k
        obtain ⟨k21, q21, r21, J21, e1, hu21, hv21, hq21⟩ := (ih d1 ed).2 ((dep + 1)) _ _ e _ _ hS1 hp1 (by omega) kc
        subst e1
        cases r21 with
        | inl c21 =>
          obtain ⟨hfa, m21, s21, hS21⟩ := hq21
          have k : nt_rn X _ 59 (102, [(3, .int (Int32.ofInt 1)), (2, .int (Int32.ofInt 0)), (0, .ref RR), (1, .int (nI dep))], [], me_w M J21) _ := k
          have k := ly_revb 1 (c' := (103, [(3, .int (Int32.ofInt 1)), (2, .int (Int32.ofInt 0)), (0, .ref RR), (1, .int (nI dep))], [.ref RR], me_w M J21)) rfl k
          have k := lz_get (a := RR) (g := 500) (M := me_w M J21) (v := .ref Rd) rfl (nt_gfR rfl hP.1.2.2.1) k
          have k := ly_revb 1 (c' := (108, [(3, .int (Int32.ofInt 1)), (2, .int (Int32.ofInt 0)), (0, .ref RR), (1, .int (nI dep))], [.int (Int32.ofInt 93), .ref Rd], me_w M J21)) rfl k
          obtain ⟨d1, o1, ed, kc, k⟩ := lz_c (g := 36) (q := 1) (vs := [.ref Rd, .int (Int32.ofInt 93)]) (rest := []) rfl rfl (by decide) (Or.inr (Or.inl ⟨_, rfl, rfl⟩)) rfl k
          obtain ⟨_, e1⟩ := (lc_takes hP hS21 (Nat.le_refl t) kc).resolve_left (fun hh => absurd hh.1 (by unfold lb_g; rw [if_neg (by omega)]; decide))
          subst e1
          have k : nt_rn X _ 59 (111, [(3, .int (Int32.ofInt 1)), (2, .int (Int32.ofInt 0)), (0, .ref RR), (1, .int (nI dep))], [.int (Int32.ofInt 0)], me_w M J21) _ := k
          have k := ly_revb 1 (c' := (if (Int32.ofInt 0) = 0 then 114 else 145, [(3, .int (Int32.ofInt 1)), (2, .int (Int32.ofInt 0)), (0, .ref RR), (1, .int (nI dep))], [], me_w M J21)) rfl k
          rw [if_pos (show (Int32.ofInt 0) = 0 from by decide)] at k
          have k := ly_revb 1 (c' := (115, [(3, .int (Int32.ofInt 1)), (2, .int (Int32.ofInt 0)), (0, .ref RR), (1, .int (nI dep))], [.ref RR], me_w M J21)) rfl k
          have k := lz_get (a := RR) (g := 500) (M := me_w M J21) (v := .ref Rd) rfl (nt_gfR rfl hP.1.2.2.1) k
          have k := ly_revb 1 (c' := (119, [(3, .int (Int32.ofInt 1)), (2, .int (Int32.ofInt 0)), (0, .ref RR), (1, .int (nI dep))], [.int (Int32.ofInt 0), .ref Rd], me_w M J21)) rfl k
          obtain ⟨d1, o1, ed, kc, k⟩ := lz_c (g := 31) (q := 1) (vs := [.ref Rd, .int (Int32.ofInt 0)]) (rest := []) rfl rfl (by decide) (Or.inr (Or.inl ⟨_, rfl, rfl⟩)) rfl k
          obtain ⟨hf, e1⟩ := (lc_fail hP hS21 (Nat.le_refl t) kc).resolve_left (fun c => hfa c.1)
          subst e1
          have hS2 := lc_Spp (q := t) hP hS21
          have k : nt_rn X _ 59 (122, [(3, .int (Int32.ofInt 1)), (2, .int (Int32.ofInt 0)), (0, .ref RR), (1, .int (nI dep))], [], me_w M (nt_u J21 Rd 1 (nI t))) _ := k
          have k := ly_revb 1 (c' := (145, [(3, .int (Int32.ofInt 1)), (2, .int (Int32.ofInt 0)), (0, .ref RR), (1, .int (nI dep))], [], me_w M (nt_u J21 Rd 1 (nI t)))) rfl k
          have k := lz_rv rfl rfl k
          rcases hv21 with ⟨c, e2, e3⟩ | ⟨z, e2, hv21⟩
          · exact ⟨k21 + 1, .inl (c21), _, k, Or.inr (Or.inr (Or.inl ⟨hr, h19, h39, _, hu21, Or.inl ⟨c, e2, e3⟩⟩)), hfa, _, _, hS2⟩
          · exact ⟨k21 + 1, .inl (c21), _, k, Or.inr (Or.inr (Or.inl ⟨hr, h19, h39, _, hu21, Or.inr ⟨z, e2, _, hv21, Or.inl ⟨_, rfl, rfl⟩⟩⟩)), hfa, _, _, hS2⟩
        | inr z21 =>
          obtain ⟨hS21, hp21⟩ := hq21
          have k : nt_rn X _ 59 (102, [(3, .int (Int32.ofInt 1)), (2, .int (Int32.ofInt 0)), (0, .ref RR), (1, .int (nI dep))], [], me_w M J21) _ := k
          have k := ly_revb 1 (c' := (103, [(3, .int (Int32.ofInt 1)), (2, .int (Int32.ofInt 0)), (0, .ref RR), (1, .int (nI dep))], [.ref RR], me_w M J21)) rfl k
          have k := lz_get (a := RR) (g := 500) (M := me_w M J21) (v := .ref Rd) rfl (nt_gfR rfl hP.1.2.2.1) k
          have k := ly_revb 1 (c' := (108, [(3, .int (Int32.ofInt 1)), (2, .int (Int32.ofInt 0)), (0, .ref RR), (1, .int (nI dep))], [.int (Int32.ofInt 93), .ref Rd], me_w M J21)) rfl k
          obtain ⟨d1, o1, ed, kc, k⟩ := lz_c (g := 36) (q := 1) (vs := [.ref Rd, .int (Int32.ofInt 93)]) (rest := []) rfl rfl (by decide) (Or.inr (Or.inl ⟨_, rfl, rfl⟩)) rfl k
          rcases lc_takes hP hS21 hp21 kc with ⟨htk, e1⟩ | ⟨htk, e1⟩
          · have hlt := lb_g_lt (f := f) (t := t) (p := z21.1) (by rw [htk]; decide)
            rw [Nat.min_eq_left (show z21.1 + 1 ≤ t from hlt)] at e1
            subst e1
            have hS2 := lc_Spp (q := lb_s f t (z21.1 + 1)) hP hS21
            have hp2 : lb_s f t (z21.1 + 1) ≤ t := (lb_s_le (t - (z21.1 + 1)) (z21.1 + 1) (by omega)).2
            have k : nt_rn X _ 59 (111, [(3, .int (Int32.ofInt 1)), (2, .int (Int32.ofInt 0)), (0, .ref RR), (1, .int (nI dep))], [.int (Int32.ofInt 1)], me_w M (nt_u J21 Rd 1 (nI (lb_s f t (z21.1 + 1))))) _ := k
            have k := ly_revb 1 (c' := (if (Int32.ofInt 1) = 0 then 114 else 145, [(3, .int (Int32.ofInt 1)), (2, .int (Int32.ofInt 0)), (0, .ref RR), (1, .int (nI dep))], [], me_w M (nt_u J21 Rd 1 (nI (lb_s f t (z21.1 + 1)))))) rfl k
            rw [if_neg (show ¬ ((Int32.ofInt 1) = 0) from by decide)] at k
            have k := lz_rv rfl rfl k
            rcases hv21 with ⟨c, _, e3⟩ | ⟨z, e2, hv21⟩
            · cases e3
            · exact ⟨k21 + 1, .inr (lb_s f t (z21.1 + 1), z21.2.1, z21.2.2), _, k, Or.inr (Or.inr (Or.inl ⟨hr, h19, h39, _, hu21, Or.inr ⟨z, e2, _, hv21, Or.inr ⟨z21, rfl, Or.inl ⟨htk, rfl⟩⟩⟩⟩)), hS2, hp2⟩
          · subst e1
            have k : nt_rn X _ 59 (111, [(3, .int (Int32.ofInt 1)), (2, .int (Int32.ofInt 0)), (0, .ref RR), (1, .int (nI dep))], [.int (Int32.ofInt 0)], me_w M J21) _ := k
            have k := ly_revb 1 (c' := (if (Int32.ofInt 0) = 0 then 114 else 145, [(3, .int (Int32.ofInt 1)), (2, .int (Int32.ofInt 0)), (0, .ref RR), (1, .int (nI dep))], [], me_w M J21)) rfl k
            rw [if_pos (show (Int32.ofInt 0) = 0 from by decide)] at k
            have k := ly_revb 1 (c' := (115, [(3, .int (Int32.ofInt 1)), (2, .int (Int32.ofInt 0)), (0, .ref RR), (1, .int (nI dep))], [.ref RR], me_w M J21)) rfl k
            have k := lz_get (a := RR) (g := 500) (M := me_w M J21) (v := .ref Rd) rfl (nt_gfR rfl hP.1.2.2.1) k
            have k := ly_revb 1 (c' := (119, [(3, .int (Int32.ofInt 1)), (2, .int (Int32.ofInt 0)), (0, .ref RR), (1, .int (nI dep))], [.int (Int32.ofInt 0), .ref Rd], me_w M J21)) rfl k
            obtain ⟨d1, o1, ed, kc, k⟩ := lz_c (g := 31) (q := 1) (vs := [.ref Rd, .int (Int32.ofInt 0)]) (rest := []) rfl rfl (by decide) (Or.inr (Or.inl ⟨_, rfl, rfl⟩)) rfl k
            obtain ⟨hf, e1⟩ := (lc_fail hP hS21 hp21 kc).resolve_right (fun c => c.1 rfl)
            subst e1
            have hS2 := lc_Spp (q := t) hP (lc_Sf (fb := lb_c z21.1 (Int32.ofInt 0)) hP hS21)
            have k : nt_rn X _ 59 (122, [(3, .int (Int32.ofInt 1)), (2, .int (Int32.ofInt 0)), (0, .ref RR), (1, .int (nI dep))], [], me_w M (nt_u (nt_u J21 Rd 2 (lb_c z21.1 (Int32.ofInt 0))) Rd 1 (nI t))) _ := k
            have k := ly_revb 1 (c' := (145, [(3, .int (Int32.ofInt 1)), (2, .int (Int32.ofInt 0)), (0, .ref RR), (1, .int (nI dep))], [], me_w M (nt_u (nt_u J21 Rd 2 (lb_c z21.1 (Int32.ofInt 0))) Rd 1 (nI t)))) rfl k
            have k := lz_rv rfl rfl k
            rcases hv21 with ⟨c, _, e3⟩ | ⟨z, e2, hv21⟩
            · cases e3
            · exact ⟨k21 + 1, .inl (lb_c z21.1 (Int32.ofInt 0)), _, k, Or.inr (Or.inr (Or.inl ⟨hr, h19, h39, _, hu21, Or.inr ⟨z, e2, _, hv21, Or.inr ⟨z21, rfl, Or.inr ⟨htk, rfl⟩⟩⟩⟩)), (lb_c_ne (by omega) (by decide) (by decide)), _, _, hS2⟩
      · rw [if_neg (show ¬ ((nI dep) < (Int32.ofInt 10)) from show ¬ nI dep < nI 10 from nI_nlt (Nat.not_lt.mp h39) (by omega))] at k
        have k := ly_revb 1 (c' := (43, [(3, .int (Int32.ofInt 1)), (2, .int (Int32.ofInt 0)), (0, .ref RR), (1, .int (nI dep))], [.ref RR], me_w M J)) rfl k
        have k := lz_get (a := RR) (g := 500) (M := me_w M J) (v := .ref Rd) rfl (nt_gfR rfl hP.1.2.2.1) k
        have k := ly_revb 1 (c' := (47, [(3, .int (Int32.ofInt 1)), (2, .int (Int32.ofInt 0)), (0, .ref RR), (1, .int (nI dep))], [.int (Int32.ofInt 2), .ref Rd], me_w M J)) rfl k
        obtain ⟨d1, o1, ed, kc, k⟩ := lz_c (g := 31) (q := 1) (vs := [.ref Rd, .int (Int32.ofInt 2)]) (rest := []) rfl rfl (by decide) (Or.inr (Or.inl ⟨_, rfl, rfl⟩)) rfl k
        obtain ⟨hf, e1⟩ := (lc_fail hP hS hp kc).resolve_right (fun c => c.1 rfl)
        subst e1
        have hS1 := lc_Spp (q := t) hP (lc_Sf (fb := lb_c p (Int32.ofInt 2)) hP hS)
        have k : nt_rn X _ 59 (50, [(3, .int (Int32.ofInt 1)), (2, .int (Int32.ofInt 0)), (0, .ref RR), (1, .int (nI dep))], [], me_w M (nt_u (nt_u J Rd 2 (lb_c p (Int32.ofInt 2))) Rd 1 (nI t))) _ := k
        have k := ly_revb 1 (c' := (145, [(3, .int (Int32.ofInt 1)), (2, .int (Int32.ofInt 0)), (0, .ref RR), (1, .int (nI dep))], [], me_w M (nt_u (nt_u J Rd 2 (lb_c p (Int32.ofInt 2))) Rd 1 (nI t)))) rfl k
        have k := lz_rv rfl rfl k
        exact ⟨1, .inl (lb_c p (Int32.ofInt 2)), _, k, Or.inl ⟨Or.inr h19, by omega, rfl⟩, (lb_c_ne (by omega) (by decide) (by decide)), _, _, hS1⟩
    · rw [if_neg (show ¬ ((lb_g f t p) = (Int32.ofInt 91)) from h19)] at k
      have k := ly_revb 4 (c' := (if (Int32.ofInt 0) = 0 then 32 else 36, [(3, .int (Int32.ofInt 0)), (2, .int (Int32.ofInt 0)), (0, .ref RR), (1, .int (nI dep))], [], me_w M J)) rfl k
      rw [if_pos (show (Int32.ofInt 0) = 0 from by decide)] at k
      have k := ly_revb 2 (c' := (if (Int32.ofInt 0) = 0 then 53 else 36, [(3, .int (Int32.ofInt 0)), (2, .int (Int32.ofInt 0)), (0, .ref RR), (1, .int (nI dep))], [], me_w M J)) rfl k
      rw [if_pos (show (Int32.ofInt 0) = 0 from by decide)] at k
      have k := ly_revb 2 (c' := (if (Int32.ofInt 0) = 0 then 83 else 57, [(3, .int (Int32.ofInt 0)), (2, .int (Int32.ofInt 0)), (0, .ref RR), (1, .int (nI dep))], [], me_w M J)) rfl k
      rw [if_pos (show (Int32.ofInt 0) = 0 from by decide)] at k
      have k := ly_revb 2 (c' := (if (Int32.ofInt 0) = 0 then 125 else 87, [(3, .int (Int32.ofInt 0)), (2, .int (Int32.ofInt 0)), (0, .ref RR), (1, .int (nI dep))], [], me_w M J)) rfl k
      rw [if_pos (show (Int32.ofInt 0) = 0 from by decide)] at k
      have k := ly_revb 1 (c' := (126, [(3, .int (Int32.ofInt 0)), (2, .int (Int32.ofInt 0)), (0, .ref RR), (1, .int (nI dep))], [.ref RR], me_w M J)) rfl k
      obtain ⟨d1, o1, ed, kc, k⟩ := lz_c (g := 49) (q := 1) (vs := [.ref RR]) (rest := []) rfl rfl (by decide) (Or.inr (Or.inl ⟨_, rfl, rfl⟩)) rfl k
      obtain ⟨r21, J21, e1, hv21, hq21⟩ := lc_readSum (e := e) hP hS hp kc
      subst e1
      cases r21 with
      | inl c21 =>
        obtain ⟨hfa, m21, s21, hS21⟩ := hq21
        have k : nt_rn X _ 59 (129, [(3, .int (Int32.ofInt 0)), (2, .int (Int32.ofInt 0)), (0, .ref RR), (1, .int (nI dep))], [], me_w M J21) _ := k
        have k := ly_revb 1 (c' := (130, [(3, .int (Int32.ofInt 0)), (2, .int (Int32.ofInt 0)), (0, .ref RR), (1, .int (nI dep))], [.ref RR], me_w M J21)) rfl k
        obtain ⟨d1, o1, ed, kc, k⟩ := lz_c (g := 60) (q := 1) (vs := [.ref RR]) (rest := []) rfl rfl (by decide) (Or.inr (Or.inl ⟨_, rfl, rfl⟩)) rfl k
        obtain ⟨x, m1, s1, J1, e1, hT1⟩ := lc_readCmpF hP hS21 hfa kc
        subst e1
        have k : nt_rn X _ 59 (133, [(3, .int (Int32.ofInt 0)), (2, .int (Int32.ofInt 0)), (0, .ref RR), (1, .int (nI dep))], [.int (x)], me_w M J1) _ := k
        have k := ly_revb 2 (c' := (136, [(4, .int (x)), (3, .int (Int32.ofInt 0)), (2, .int (Int32.ofInt 0)), (0, .ref RR), (1, .int (nI dep))], [.ref RR], me_w M J1)) rfl k
        obtain ⟨d1, o1, ed, kc, k⟩ := lz_c (g := 49) (q := 1) (vs := [.ref RR]) (rest := []) rfl rfl (by decide) (Or.inr (Or.inl ⟨_, rfl, rfl⟩)) rfl k
        obtain ⟨m2, s2, J2, e1, hT2⟩ := lc_readSumF hP hT1 hfa kc
        subst e1
        have k : nt_rn X _ 59 (139, [(4, .int (x)), (3, .int (Int32.ofInt 0)), (2, .int (Int32.ofInt 0)), (0, .ref RR), (1, .int (nI dep))], [], me_w M J2) _ := k
        have k := ly_revb 2 (c' := (142, [(4, .int (x)), (3, .int (Int32.ofInt 0)), (2, .int (Int32.ofInt 0)), (0, .ref RR), (1, .int (nI dep))], [.int (x), .ref RR], me_w M J2)) rfl k
        obtain ⟨d1, o1, ed, kc, k⟩ := lz_c (g := 54) (q := 1) (vs := [.ref RR, .int (x)]) (rest := []) rfl rfl (by decide) (Or.inr (Or.inl ⟨_, rfl, rfl⟩)) rfl k
        obtain ⟨J1, e1, hS1⟩ := lc_add hP hT2 (Nat.le_refl t) kc
        subst e1
        have k : nt_rn X _ 59 (145, [(4, .int (x)), (3, .int (Int32.ofInt 0)), (2, .int (Int32.ofInt 0)), (0, .ref RR), (1, .int (nI dep))], [], me_w M J1) _ := k
        have k := lz_rv rfl rfl k
        exact ⟨1, .inl (c21), _, k, Or.inr (Or.inr (Or.inr ⟨hr, h19, ⟨_, hv21, Or.inl ⟨_, rfl, rfl⟩⟩⟩)), hfa, _, _, hS1⟩
      | inr z21 =>
        obtain ⟨hS21, hp21⟩ := hq21
        have k : nt_rn X _ 59 (129, [(3, .int (Int32.ofInt 0)), (2, .int (Int32.ofInt 0)), (0, .ref RR), (1, .int (nI dep))], [], me_w M J21) _ := k
        have k := ly_revb 1 (c' := (130, [(3, .int (Int32.ofInt 0)), (2, .int (Int32.ofInt 0)), (0, .ref RR), (1, .int (nI dep))], [.ref RR], me_w M J21)) rfl k
        obtain ⟨d1, o1, ed, kc, k⟩ := lz_c (g := 60) (q := 1) (vs := [.ref RR]) (rest := []) rfl rfl (by decide) (Or.inr (Or.inl ⟨_, rfl, rfl⟩)) rfl k
        obtain ⟨x, r22, J22, e1, hv22, hq22⟩ := lc_readCmp (e := z21.2.2) hP hS21 hp21 kc
        subst e1
        cases r22 with
        | inl c22 =>
          obtain ⟨hfa, m22, s22, hS22⟩ := hq22
          have k : nt_rn X _ 59 (133, [(3, .int (Int32.ofInt 0)), (2, .int (Int32.ofInt 0)), (0, .ref RR), (1, .int (nI dep))], [.int (x)], me_w M J22) _ := k
          have k := ly_revb 2 (c' := (136, [(4, .int (x)), (3, .int (Int32.ofInt 0)), (2, .int (Int32.ofInt 0)), (0, .ref RR), (1, .int (nI dep))], [.ref RR], me_w M J22)) rfl k
          obtain ⟨d1, o1, ed, kc, k⟩ := lz_c (g := 49) (q := 1) (vs := [.ref RR]) (rest := []) rfl rfl (by decide) (Or.inr (Or.inl ⟨_, rfl, rfl⟩)) rfl k
          obtain ⟨m1, s1, J1, e1, hT1⟩ := lc_readSumF hP hS22 hfa kc
          subst e1
          have k : nt_rn X _ 59 (139, [(4, .int (x)), (3, .int (Int32.ofInt 0)), (2, .int (Int32.ofInt 0)), (0, .ref RR), (1, .int (nI dep))], [], me_w M J1) _ := k
          have k := ly_revb 2 (c' := (142, [(4, .int (x)), (3, .int (Int32.ofInt 0)), (2, .int (Int32.ofInt 0)), (0, .ref RR), (1, .int (nI dep))], [.int (x), .ref RR], me_w M J1)) rfl k
          obtain ⟨d1, o1, ed, kc, k⟩ := lz_c (g := 54) (q := 1) (vs := [.ref RR, .int (x)]) (rest := []) rfl rfl (by decide) (Or.inr (Or.inl ⟨_, rfl, rfl⟩)) rfl k
          obtain ⟨J1, e1, hS1⟩ := lc_add hP hT1 (Nat.le_refl t) kc
          subst e1
          have k : nt_rn X _ 59 (145, [(4, .int (x)), (3, .int (Int32.ofInt 0)), (2, .int (Int32.ofInt 0)), (0, .ref RR), (1, .int (nI dep))], [], me_w M J1) _ := k
          have k := lz_rv rfl rfl k
          exact ⟨1, .inl (c22), _, k, Or.inr (Or.inr (Or.inr ⟨hr, h19, ⟨_, hv21, Or.inr ⟨z21, rfl, x, _, hv22, Or.inl ⟨_, rfl, rfl⟩⟩⟩⟩)), hfa, _, _, hS1⟩
        | inr z22 =>
          obtain ⟨hS22, hp22⟩ := hq22
          have k : nt_rn X _ 59 (133, [(3, .int (Int32.ofInt 0)), (2, .int (Int32.ofInt 0)), (0, .ref RR), (1, .int (nI dep))], [.int (x)], me_w M J22) _ := k
          have k := ly_revb 2 (c' := (136, [(4, .int (x)), (3, .int (Int32.ofInt 0)), (2, .int (Int32.ofInt 0)), (0, .ref RR), (1, .int (nI dep))], [.ref RR], me_w M J22)) rfl k
          obtain ⟨d1, o1, ed, kc, k⟩ := lz_c (g := 49) (q := 1) (vs := [.ref RR]) (rest := []) rfl rfl (by decide) (Or.inr (Or.inl ⟨_, rfl, rfl⟩)) rfl k
          obtain ⟨r23, J23, e1, hv23, hq23⟩ := lc_readSum (e := z22.2.2) hP hS22 hp22 kc
          subst e1
          cases r23 with
          | inl c23 =>
            obtain ⟨hfa, m23, s23, hS23⟩ := hq23
            have k : nt_rn X _ 59 (139, [(4, .int (x)), (3, .int (Int32.ofInt 0)), (2, .int (Int32.ofInt 0)), (0, .ref RR), (1, .int (nI dep))], [], me_w M J23) _ := k
            have k := ly_revb 2 (c' := (142, [(4, .int (x)), (3, .int (Int32.ofInt 0)), (2, .int (Int32.ofInt 0)), (0, .ref RR), (1, .int (nI dep))], [.int (x), .ref RR], me_w M J23)) rfl k
            obtain ⟨d1, o1, ed, kc, k⟩ := lz_c (g := 54) (q := 1) (vs := [.ref RR, .int (x)]) (rest := []) rfl rfl (by decide) (Or.inr (Or.inl ⟨_, rfl, rfl⟩)) rfl k
            obtain ⟨J1, e1, hS1⟩ := lc_add hP hS23 (Nat.le_refl t) kc
            subst e1
            have k : nt_rn X _ 59 (145, [(4, .int (x)), (3, .int (Int32.ofInt 0)), (2, .int (Int32.ofInt 0)), (0, .ref RR), (1, .int (nI dep))], [], me_w M J1) _ := k
            have k := lz_rv rfl rfl k
            exact ⟨1, .inl (c23), _, k, Or.inr (Or.inr (Or.inr ⟨hr, h19, ⟨_, hv21, Or.inr ⟨z21, rfl, x, _, hv22, Or.inr ⟨z22, rfl, _, hv23, Or.inl ⟨_, rfl, rfl⟩⟩⟩⟩⟩)), hfa, _, _, hS1⟩
          | inr z23 =>
            obtain ⟨hS23, hp23⟩ := hq23
            have k : nt_rn X _ 59 (139, [(4, .int (x)), (3, .int (Int32.ofInt 0)), (2, .int (Int32.ofInt 0)), (0, .ref RR), (1, .int (nI dep))], [], me_w M J23) _ := k
            have k := ly_revb 2 (c' := (142, [(4, .int (x)), (3, .int (Int32.ofInt 0)), (2, .int (Int32.ofInt 0)), (0, .ref RR), (1, .int (nI dep))], [.int (x), .ref RR], me_w M J23)) rfl k
            obtain ⟨d1, o1, ed, kc, k⟩ := lz_c (g := 54) (q := 1) (vs := [.ref RR, .int (x)]) (rest := []) rfl rfl (by decide) (Or.inr (Or.inl ⟨_, rfl, rfl⟩)) rfl k
            obtain ⟨J1, e1, hS1⟩ := lc_add hP hS23 hp23 kc
            subst e1
            have k : nt_rn X _ 59 (145, [(4, .int (x)), (3, .int (Int32.ofInt 0)), (2, .int (Int32.ofInt 0)), (0, .ref RR), (1, .int (nI dep))], [], me_w M J1) _ := k
            have k := lz_rv rfl rfl k
            refine ⟨1, .inr (z23.1, z23.2.1, lb_em z23.2.2 x (x - Int32.ofInt 8)), _, k, Or.inr (Or.inr (Or.inr ⟨hr, h19, ⟨_, hv21, Or.inr ⟨z21, rfl, x, _, hv22, Or.inr ⟨z22, rfl, _, hv23, Or.inr ⟨z23, rfl, rfl⟩⟩⟩⟩⟩)), ?_⟩
            exact ⟨hS1, hp23⟩
