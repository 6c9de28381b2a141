/-! digits and the words of a value -/
def lb_dig (f : Nat → Int32) (t k : Nat) : Prop := k < t ∧ Int32.ofInt 48 ≤ f k ∧ f k ≤ Int32.ofInt 57
theorem md_isDigit {X : nt_X} {d t x B Tb Sg Ln q m : Nat} {f : Nat → Int32} {M : nt_M} {J0 J : Nat → Nat → Int32} {o : Option Value × nt_M} {wr : Int32} {e : Nat × (Nat → Int32)} {y : Nat} (hP : md_P M J0 f t x B Tb Sg Ln) (hS : md_S J0 B Sg Ln x q wr m e J) (hp : q ≤ t) (hy : y ≤ 1000) (k : nt_ev X d 144 [.ref B, .int (nI y)] (me_w M J) o) : ∃ r, o = (some (.int r), me_w M J) ∧ (r = Int32.ofInt 1 ∧ lb_dig f t y ∨ r = Int32.ofInt 0 ∧ ¬ lb_dig f t y) := by
  have k : nt_rn X d 144 (0, [(0, .ref B), (1, .int (nI y))], [], me_w M J) o := k
  have t4 : t ≤ 400 := hP.2.2.2.2.2.1
  have k := ly_revb 2 (c' := (2, [(0, .ref B), (1, .int (nI y))], [.ref B, .int (nI y)], me_w M J)) rfl k
  have k := lz_get (a := B) (g := 1101) (M := me_w M J) (v := .int (nI t)) rfl (congrArg Value.int (md_t hP hS)) k
  have k := ly_revb 1 (c' := (if (nI t) ≤ (nI y) then 34 else 8, [(0, .ref B), (1, .int (nI y))], [], me_w M J)) rfl k
  by_cases h5 : t ≤ y
  · rw [if_pos (show (nI t) ≤ (nI y) from show nI t ≤ nI y from nI_le h5 (by omega))] at k
    have k := ly_revb 1 (c' := (35, [(0, .ref B), (1, .int (nI y))], [.int (Int32.ofInt 0)], me_w M J)) rfl k
    have k := lz_ri rfl (by decide) k
    exact ⟨_, k, Or.inr ⟨rfl, fun c => absurd c.1 (by omega)⟩⟩
  · rw [if_neg (show ¬ ((nI t) ≤ (nI y)) from show ¬ nI t ≤ nI y from nI_ge (Nat.not_le.mp h5) (by omega))] at k
    have k := ly_revb 1 (c' := (9, [(0, .ref B), (1, .int (nI y))], [.ref B], me_w M J)) rfl k
    have k := lz_get (a := B) (g := 1100) (M := me_w M J) (v := .ref Tb) rfl (nt_gfR rfl hP.1.1) k
    have k := ly_revb 1 (c' := (13, [(0, .ref B), (1, .int (nI y))], [.int (nI y), .ref Tb], me_w M J)) rfl k
    have k := me_bald (q := y) (v := f y) rfl (rfl) (by omega) (md_f hP hS y) k
    have k := ly_revb 2 (c' := (if (f y) < (Int32.ofInt 48) then 34 else 19, [(0, .ref B), (1, .int (nI y))], [], me_w M J)) rfl k
    by_cases h16 : (f y) < (Int32.ofInt 48)
    · rw [if_pos (show (f y) < (Int32.ofInt 48) from h16)] at k
      have k := ly_revb 1 (c' := (35, [(0, .ref B), (1, .int (nI y))], [.int (Int32.ofInt 0)], me_w M J)) rfl k
      have k := lz_ri rfl (by decide) k
      exact ⟨_, k, Or.inr ⟨rfl, fun c => absurd c.2.1 (me_nle h16)⟩⟩
    · rw [if_neg (show ¬ ((f y) < (Int32.ofInt 48)) from h16)] at k
      have k := ly_revb 1 (c' := (20, [(0, .ref B), (1, .int (nI y))], [.ref B], me_w M J)) rfl k
      have k := lz_get (a := B) (g := 1100) (M := me_w M J) (v := .ref Tb) rfl (nt_gfR rfl hP.1.1) k
      have k := ly_revb 1 (c' := (24, [(0, .ref B), (1, .int (nI y))], [.int (nI y), .ref Tb], me_w M J)) rfl k
      have k := me_bald (q := y) (v := f y) rfl (rfl) (by omega) (md_f hP hS y) k
      have k := ly_revb 2 (c' := (if (Int32.ofInt 57) < (f y) then 34 else 30, [(0, .ref B), (1, .int (nI y))], [], me_w M J)) rfl k
      by_cases h27 : (Int32.ofInt 57) < (f y)
      · rw [if_pos (show (Int32.ofInt 57) < (f y) from h27)] at k
        have k := ly_revb 1 (c' := (35, [(0, .ref B), (1, .int (nI y))], [.int (Int32.ofInt 0)], me_w M J)) rfl k
        have k := lz_ri rfl (by decide) k
        exact ⟨_, k, Or.inr ⟨rfl, fun c => absurd c.2.2 (me_nle h27)⟩⟩
      · rw [if_neg (show ¬ ((Int32.ofInt 57) < (f y)) from h27)] at k
        have k := ly_revb 2 (c' := (35, [(0, .ref B), (1, .int (nI y))], [.int (Int32.ofInt 1)], me_w M J)) rfl k
        have k := lz_ri rfl (by decide) k
        exact ⟨_, k, Or.inl ⟨rfl, by omega, me_le h16, me_le h27⟩⟩
theorem md_wordHere {X : nt_X} {d t x B Tb Sg Ln q m : Nat} {f : Nat → Int32} {M : nt_M} {J0 J : Nat → Nat → Int32} {o : Option Value × nt_M} {wr : Int32} {e : Nat × (Nat → Int32)} (hP : md_P M J0 f t x B Tb Sg Ln) (hS : md_S J0 B Sg Ln x q wr m e J) (hp : q ≤ t) (k : nt_ev X d 156 [.ref B] (me_w M J) o) : ∃ r, o = (some (.int r), me_w M (nt_u J B 15 (nI (lb_s f t q)))) ∧ ((∃ w, w < 10 ∧ r = nI w ∧ lb_ws f t (lb_s f t q) w ∧ ∀ v, v < w → ¬ lb_ws f t (lb_s f t q) v) ∨ r = Int32.ofInt (-1) ∧ ∀ v, v < 10 → ¬ lb_ws f t (lb_s f t q) v) := by
  have k : nt_rn X d 156 (0, [(0, .ref B)], [], me_w M J) o := k
  have t4 : t ≤ 400 := hP.2.2.2.2.2.1
  have hp1 : lb_s f t q ≤ t := (lb_s_le (t - q) q (by omega)).2
  have hss : lb_s f t (lb_s f t q) = lb_s f t q := lb_ss hp
  have k := ly_revb 2 (c' := (4, [(0, .ref B)], [.long (482854661739), .ref B], me_w M J)) rfl k
  obtain ⟨d1, o1, ed, kc, k⟩ := lz_c (g := 137) (q := 1) (vs := [.ref B, .long (482854661739)]) (rest := []) rfl rfl (by decide) (Or.inr (Or.inl ⟨_, rfl, rfl⟩)) rfl k
  obtain ⟨r, e1, hr⟩ := md_isWord hP hS hp kc
  subst e1
  rw [lb_w_plank] at hr
  rcases hr with ⟨rfl, g0⟩ | ⟨rfl, g0⟩
  · have hS1 := md_Sq (y := lb_s f t q) hP hS
    have k : nt_rn X _ 156 (7, [(0, .ref B)], [.int (Int32.ofInt 1)], me_w M (nt_u J B 15 (nI (lb_s f t q)))) _ := k
    have k := ly_revb 1 (c' := (if (Int32.ofInt 1) = 0 then 12 else 10, [(0, .ref B)], [], me_w M (nt_u J B 15 (nI (lb_s f t q))))) rfl k
    rw [if_neg (show ¬ ((Int32.ofInt 1) = 0) from by decide)] at k
    have k := ly_revb 1 (c' := (11, [(0, .ref B)], [.int (Int32.ofInt 0)], me_w M (nt_u J B 15 (nI (lb_s f t q))))) rfl k
    have k := lz_ri rfl (by decide) k
    refine ⟨_, k, Or.inl ⟨0, by decide, rfl, g0, fun v hv => ?_⟩⟩
    omega
  · have hS1 := md_Sq (y := lb_s f t q) hP hS
    have k : nt_rn X _ 156 (7, [(0, .ref B)], [.int (Int32.ofInt 0)], me_w M (nt_u J B 15 (nI (lb_s f t q)))) _ := k
    have k := ly_revb 1 (c' := (if (Int32.ofInt 0) = 0 then 12 else 10, [(0, .ref B)], [], me_w M (nt_u J B 15 (nI (lb_s f t q))))) rfl k
    rw [if_pos (show (Int32.ofInt 0) = 0 from by decide)] at k
    have k := ly_revb 2 (c' := (16, [(0, .ref B)], [.long (1802071652), .ref B], me_w M (nt_u J B 15 (nI (lb_s f t q))))) rfl k
    obtain ⟨d1, o1, ed, kc, k⟩ := lz_c (g := 137) (q := 1) (vs := [.ref B, .long (1802071652)]) (rest := []) rfl rfl (by decide) (Or.inr (Or.inl ⟨_, rfl, rfl⟩)) rfl k
    obtain ⟨r, e1, hr⟩ := md_isWord hP hS1 hp1 kc
    rw [hss, me_uu] at e1
    rw [hss] at hr
    subst e1
    rw [lb_w_kind] at hr
    rcases hr with ⟨rfl, g1⟩ | ⟨rfl, g1⟩
    · have k : nt_rn X _ 156 (19, [(0, .ref B)], [.int (Int32.ofInt 1)], me_w M (nt_u J B 15 (nI (lb_s f t q)))) _ := k
      have k := ly_revb 1 (c' := (if (Int32.ofInt 1) = 0 then 24 else 22, [(0, .ref B)], [], me_w M (nt_u J B 15 (nI (lb_s f t q))))) rfl k
      rw [if_neg (show ¬ ((Int32.ofInt 1) = 0) from by decide)] at k
      have k := ly_revb 1 (c' := (23, [(0, .ref B)], [.int (Int32.ofInt 1)], me_w M (nt_u J B 15 (nI (lb_s f t q))))) rfl k
      have k := lz_ri rfl (by decide) k
      refine ⟨_, k, Or.inl ⟨1, by decide, rfl, g1, fun v hv => ?_⟩⟩
      rcases (by omega : v = 0) with rfl
      · exact g0
    · have k : nt_rn X _ 156 (19, [(0, .ref B)], [.int (Int32.ofInt 0)], me_w M (nt_u J B 15 (nI (lb_s f t q)))) _ := k
      have k := ly_revb 1 (c' := (if (Int32.ofInt 0) = 0 then 24 else 22, [(0, .ref B)], [], me_w M (nt_u J B 15 (nI (lb_s f t q))))) rfl k
      rw [if_pos (show (Int32.ofInt 0) = 0 from by decide)] at k
      have k := ly_revb 2 (c' := (28, [(0, .ref B)], [.long (7499636), .ref B], me_w M (nt_u J B 15 (nI (lb_s f t q))))) rfl k
      obtain ⟨d1, o1, ed, kc, k⟩ := lz_c (g := 137) (q := 1) (vs := [.ref B, .long (7499636)]) (rest := []) rfl rfl (by decide) (Or.inr (Or.inl ⟨_, rfl, rfl⟩)) rfl k
      obtain ⟨r, e1, hr⟩ := md_isWord hP hS1 hp1 kc
      rw [hss, me_uu] at e1
      rw [hss] at hr
      subst e1
      rw [lb_w_rot] at hr
      rcases hr with ⟨rfl, g2⟩ | ⟨rfl, g2⟩
      · have k : nt_rn X _ 156 (31, [(0, .ref B)], [.int (Int32.ofInt 1)], me_w M (nt_u J B 15 (nI (lb_s f t q)))) _ := k
        have k := ly_revb 1 (c' := (if (Int32.ofInt 1) = 0 then 36 else 34, [(0, .ref B)], [], me_w M (nt_u J B 15 (nI (lb_s f t q))))) rfl k
        rw [if_neg (show ¬ ((Int32.ofInt 1) = 0) from by decide)] at k
        have k := ly_revb 1 (c' := (35, [(0, .ref B)], [.int (Int32.ofInt 2)], me_w M (nt_u J B 15 (nI (lb_s f t q))))) rfl k
        have k := lz_ri rfl (by decide) k
        refine ⟨_, k, Or.inl ⟨2, by decide, rfl, g2, fun v hv => ?_⟩⟩
        rcases (by omega : v = 0 ∨ v = 1) with rfl | rfl
        · exact g0
        · exact g1
      · have k : nt_rn X _ 156 (31, [(0, .ref B)], [.int (Int32.ofInt 0)], me_w M (nt_u J B 15 (nI (lb_s f t q)))) _ := k
        have k := ly_revb 1 (c' := (if (Int32.ofInt 0) = 0 then 36 else 34, [(0, .ref B)], [], me_w M (nt_u J B 15 (nI (lb_s f t q))))) rfl k
        rw [if_pos (show (Int32.ofInt 0) = 0 from by decide)] at k
        have k := ly_revb 2 (c' := (40, [(0, .ref B)], [.long (478745093490), .ref B], me_w M (nt_u J B 15 (nI (lb_s f t q))))) rfl k
        obtain ⟨d1, o1, ed, kc, k⟩ := lz_c (g := 137) (q := 1) (vs := [.ref B, .long (478745093490)]) (rest := []) rfl rfl (by decide) (Or.inr (Or.inl ⟨_, rfl, rfl⟩)) rfl k
        obtain ⟨r, e1, hr⟩ := md_isWord hP hS1 hp1 kc
        rw [hss, me_uu] at e1
        rw [hss] at hr
        subst e1
        rw [lb_w_owner] at hr
        rcases hr with ⟨rfl, g3⟩ | ⟨rfl, g3⟩
        · have k : nt_rn X _ 156 (43, [(0, .ref B)], [.int (Int32.ofInt 1)], me_w M (nt_u J B 15 (nI (lb_s f t q)))) _ := k
          have k := ly_revb 1 (c' := (if (Int32.ofInt 1) = 0 then 48 else 46, [(0, .ref B)], [], me_w M (nt_u J B 15 (nI (lb_s f t q))))) rfl k
          rw [if_neg (show ¬ ((Int32.ofInt 1) = 0) from by decide)] at k
          have k := ly_revb 1 (c' := (47, [(0, .ref B)], [.int (Int32.ofInt 3)], me_w M (nt_u J B 15 (nI (lb_s f t q))))) rfl k
          have k := lz_ri rfl (by decide) k
          refine ⟨_, k, Or.inl ⟨3, by decide, rfl, g3, fun v hv => ?_⟩⟩
          rcases (by omega : v = 0 ∨ v = 1 ∨ v = 2) with rfl | rfl | rfl
          · exact g0
          · exact g1
          · exact g2
        · have k : nt_rn X _ 156 (43, [(0, .ref B)], [.int (Int32.ofInt 0)], me_w M (nt_u J B 15 (nI (lb_s f t q)))) _ := k
          have k := ly_revb 1 (c' := (if (Int32.ofInt 0) = 0 then 48 else 46, [(0, .ref B)], [], me_w M (nt_u J B 15 (nI (lb_s f t q))))) rfl k
          rw [if_pos (show (Int32.ofInt 0) = 0 from by decide)] at k
          have k := ly_revb 2 (c' := (52, [(0, .ref B)], [.long (1936222576), .ref B], me_w M (nt_u J B 15 (nI (lb_s f t q))))) rfl k
          obtain ⟨d1, o1, ed, kc, k⟩ := lz_c (g := 137) (q := 1) (vs := [.ref B, .long (1936222576)]) (rest := []) rfl rfl (by decide) (Or.inr (Or.inl ⟨_, rfl, rfl⟩)) rfl k
          obtain ⟨r, e1, hr⟩ := md_isWord hP hS1 hp1 kc
          rw [hss, me_uu] at e1
          rw [hss] at hr
          subst e1
          rw [lb_w_ship] at hr
          rcases hr with ⟨rfl, g4⟩ | ⟨rfl, g4⟩
          · have k : nt_rn X _ 156 (55, [(0, .ref B)], [.int (Int32.ofInt 1)], me_w M (nt_u J B 15 (nI (lb_s f t q)))) _ := k
            have k := ly_revb 1 (c' := (if (Int32.ofInt 1) = 0 then 60 else 58, [(0, .ref B)], [], me_w M (nt_u J B 15 (nI (lb_s f t q))))) rfl k
            rw [if_neg (show ¬ ((Int32.ofInt 1) = 0) from by decide)] at k
            have k := ly_revb 1 (c' := (59, [(0, .ref B)], [.int (Int32.ofInt 4)], me_w M (nt_u J B 15 (nI (lb_s f t q))))) rfl k
            have k := lz_ri rfl (by decide) k
            refine ⟨_, k, Or.inl ⟨4, by decide, rfl, g4, fun v hv => ?_⟩⟩
            rcases (by omega : v = 0 ∨ v = 1 ∨ v = 2 ∨ v = 3) with rfl | rfl | rfl | rfl
            · exact g0
            · exact g1
            · exact g2
            · exact g3
          · have k : nt_rn X _ 156 (55, [(0, .ref B)], [.int (Int32.ofInt 0)], me_w M (nt_u J B 15 (nI (lb_s f t q)))) _ := k
            have k := ly_revb 1 (c' := (if (Int32.ofInt 0) = 0 then 60 else 58, [(0, .ref B)], [], me_w M (nt_u J B 15 (nI (lb_s f t q))))) rfl k
            rw [if_pos (show (Int32.ofInt 0) = 0 from by decide)] at k
            have k := ly_revb 2 (c' := (64, [(0, .ref B)], [.long (1718775661), .ref B], me_w M (nt_u J B 15 (nI (lb_s f t q))))) rfl k
            obtain ⟨d1, o1, ed, kc, k⟩ := lz_c (g := 137) (q := 1) (vs := [.ref B, .long (1718775661)]) (rest := []) rfl rfl (by decide) (Or.inr (Or.inl ⟨_, rfl, rfl⟩)) rfl k
            obtain ⟨r, e1, hr⟩ := md_isWord hP hS1 hp1 kc
            rw [hss, me_uu] at e1
            rw [hss] at hr
            subst e1
            rw [lb_w_from] at hr
            rcases hr with ⟨rfl, g5⟩ | ⟨rfl, g5⟩
            · have k : nt_rn X _ 156 (67, [(0, .ref B)], [.int (Int32.ofInt 1)], me_w M (nt_u J B 15 (nI (lb_s f t q)))) _ := k
              have k := ly_revb 1 (c' := (if (Int32.ofInt 1) = 0 then 72 else 70, [(0, .ref B)], [], me_w M (nt_u J B 15 (nI (lb_s f t q))))) rfl k
              rw [if_neg (show ¬ ((Int32.ofInt 1) = 0) from by decide)] at k
              have k := ly_revb 1 (c' := (71, [(0, .ref B)], [.int (Int32.ofInt 5)], me_w M (nt_u J B 15 (nI (lb_s f t q))))) rfl k
              have k := lz_ri rfl (by decide) k
              refine ⟨_, k, Or.inl ⟨5, by decide, rfl, g5, fun v hv => ?_⟩⟩
              rcases (by omega : v = 0 ∨ v = 1 ∨ v = 2 ∨ v = 3 ∨ v = 4) with rfl | rfl | rfl | rfl | rfl
              · exact g0
              · exact g1
              · exact g2
              · exact g3
              · exact g4
            · have k : nt_rn X _ 156 (67, [(0, .ref B)], [.int (Int32.ofInt 0)], me_w M (nt_u J B 15 (nI (lb_s f t q)))) _ := k
              have k := ly_revb 1 (c' := (if (Int32.ofInt 0) = 0 then 72 else 70, [(0, .ref B)], [], me_w M (nt_u J B 15 (nI (lb_s f t q))))) rfl k
              rw [if_pos (show (Int32.ofInt 0) = 0 from by decide)] at k
              have k := ly_revb 2 (c' := (76, [(0, .ref B)], [.long (7305070), .ref B], me_w M (nt_u J B 15 (nI (lb_s f t q))))) rfl k
              obtain ⟨d1, o1, ed, kc, k⟩ := lz_c (g := 137) (q := 1) (vs := [.ref B, .long (7305070)]) (rest := []) rfl rfl (by decide) (Or.inr (Or.inl ⟨_, rfl, rfl⟩)) rfl k
              obtain ⟨r, e1, hr⟩ := md_isWord hP hS1 hp1 kc
              rw [hss, me_uu] at e1
              rw [hss] at hr
              subst e1
              rw [lb_w_own] at hr
              rcases hr with ⟨rfl, g6⟩ | ⟨rfl, g6⟩
              · have k : nt_rn X _ 156 (79, [(0, .ref B)], [.int (Int32.ofInt 1)], me_w M (nt_u J B 15 (nI (lb_s f t q)))) _ := k
                have k := ly_revb 1 (c' := (if (Int32.ofInt 1) = 0 then 85 else 82, [(0, .ref B)], [], me_w M (nt_u J B 15 (nI (lb_s f t q))))) rfl k
                rw [if_neg (show ¬ ((Int32.ofInt 1) = 0) from by decide)] at k
                have k := ly_revb 1 (c' := (84, [(0, .ref B)], [.int (Int32.ofInt 6)], me_w M (nt_u J B 15 (nI (lb_s f t q))))) rfl k
                have k := lz_ri rfl (by decide) k
                refine ⟨_, k, Or.inl ⟨6, by decide, rfl, g6, fun v hv => ?_⟩⟩
                rcases (by omega : v = 0 ∨ v = 1 ∨ v = 2 ∨ v = 3 ∨ v = 4 ∨ v = 5) with rfl | rfl | rfl | rfl | rfl | rfl
                · exact g0
                · exact g1
                · exact g2
                · exact g3
                · exact g4
                · exact g5
              · have k : nt_rn X _ 156 (79, [(0, .ref B)], [.int (Int32.ofInt 0)], me_w M (nt_u J B 15 (nI (lb_s f t q)))) _ := k
                have k := ly_revb 1 (c' := (if (Int32.ofInt 0) = 0 then 85 else 82, [(0, .ref B)], [], me_w M (nt_u J B 15 (nI (lb_s f t q))))) rfl k
                rw [if_pos (show (Int32.ofInt 0) = 0 from by decide)] at k
                have k := ly_revb 2 (c' := (89, [(0, .ref B)], [.long (6578553), .ref B], me_w M (nt_u J B 15 (nI (lb_s f t q))))) rfl k
                obtain ⟨d1, o1, ed, kc, k⟩ := lz_c (g := 137) (q := 1) (vs := [.ref B, .long (6578553)]) (rest := []) rfl rfl (by decide) (Or.inr (Or.inl ⟨_, rfl, rfl⟩)) rfl k
                obtain ⟨r, e1, hr⟩ := md_isWord hP hS1 hp1 kc
                rw [hss, me_uu] at e1
                rw [hss] at hr
                subst e1
                rw [lb_w_day] at hr
                rcases hr with ⟨rfl, g7⟩ | ⟨rfl, g7⟩
                · have k : nt_rn X _ 156 (92, [(0, .ref B)], [.int (Int32.ofInt 1)], me_w M (nt_u J B 15 (nI (lb_s f t q)))) _ := k
                  have k := ly_revb 1 (c' := (if (Int32.ofInt 1) = 0 then 98 else 95, [(0, .ref B)], [], me_w M (nt_u J B 15 (nI (lb_s f t q))))) rfl k
                  rw [if_neg (show ¬ ((Int32.ofInt 1) = 0) from by decide)] at k
                  have k := ly_revb 1 (c' := (97, [(0, .ref B)], [.int (Int32.ofInt 7)], me_w M (nt_u J B 15 (nI (lb_s f t q))))) rfl k
                  have k := lz_ri rfl (by decide) k
                  refine ⟨_, k, Or.inl ⟨7, by decide, rfl, g7, fun v hv => ?_⟩⟩
                  rcases (by omega : v = 0 ∨ v = 1 ∨ v = 2 ∨ v = 3 ∨ v = 4 ∨ v = 5 ∨ v = 6) with rfl | rfl | rfl | rfl | rfl | rfl | rfl
                  · exact g0
                  · exact g1
                  · exact g2
                  · exact g3
                  · exact g4
                  · exact g5
                  · exact g6
                · have k : nt_rn X _ 156 (92, [(0, .ref B)], [.int (Int32.ofInt 0)], me_w M (nt_u J B 15 (nI (lb_s f t q)))) _ := k
                  have k := ly_revb 1 (c' := (if (Int32.ofInt 0) = 0 then 98 else 95, [(0, .ref B)], [], me_w M (nt_u J B 15 (nI (lb_s f t q))))) rfl k
                  rw [if_pos (show (Int32.ofInt 0) = 0 from by decide)] at k
                  have k := ly_revb 2 (c' := (102, [(0, .ref B)], [.long (470021465459), .ref B], me_w M (nt_u J B 15 (nI (lb_s f t q))))) rfl k
                  obtain ⟨d1, o1, ed, kc, k⟩ := lz_c (g := 137) (q := 1) (vs := [.ref B, .long (470021465459)]) (rest := []) rfl rfl (by decide) (Or.inr (Or.inl ⟨_, rfl, rfl⟩)) rfl k
                  obtain ⟨r, e1, hr⟩ := md_isWord hP hS1 hp1 kc
                  rw [hss, me_uu] at e1
                  rw [hss] at hr
                  subst e1
                  rw [lb_w_moves] at hr
                  rcases hr with ⟨rfl, g8⟩ | ⟨rfl, g8⟩
                  · have k : nt_rn X _ 156 (105, [(0, .ref B)], [.int (Int32.ofInt 1)], me_w M (nt_u J B 15 (nI (lb_s f t q)))) _ := k
                    have k := ly_revb 1 (c' := (if (Int32.ofInt 1) = 0 then 113 else 108, [(0, .ref B)], [], me_w M (nt_u J B 15 (nI (lb_s f t q))))) rfl k
                    rw [if_neg (show ¬ ((Int32.ofInt 1) = 0) from by decide)] at k
                    have k := ly_revb 2 (c' := (129, [(0, .ref B)], [.int (Int32.ofInt 8)], me_w M (nt_u J B 15 (nI (lb_s f t q))))) rfl k
                    have k := lz_ri rfl (by decide) k
                    refine ⟨_, k, Or.inl ⟨8, by decide, rfl, g8, fun v hv => ?_⟩⟩
                    rcases (by omega : v = 0 ∨ v = 1 ∨ v = 2 ∨ v = 3 ∨ v = 4 ∨ v = 5 ∨ v = 6 ∨ v = 7) with rfl | rfl | rfl | rfl | rfl | rfl | rfl | rfl
                    · exact g0
                    · exact g1
                    · exact g2
                    · exact g3
                    · exact g4
                    · exact g5
                    · exact g6
                    · exact g7
                  · have k : nt_rn X _ 156 (105, [(0, .ref B)], [.int (Int32.ofInt 0)], me_w M (nt_u J B 15 (nI (lb_s f t q)))) _ := k
                    have k := ly_revb 1 (c' := (if (Int32.ofInt 0) = 0 then 113 else 108, [(0, .ref B)], [], me_w M (nt_u J B 15 (nI (lb_s f t q))))) rfl k
                    rw [if_pos (show (Int32.ofInt 0) = 0 from by decide)] at k
                    have k := ly_revb 2 (c' := (117, [(0, .ref B)], [.long (119182899770472), .ref B], me_w M (nt_u J B 15 (nI (lb_s f t q))))) rfl k
                    obtain ⟨d1, o1, ed, kc, k⟩ := lz_c (g := 137) (q := 1) (vs := [.ref B, .long (119182899770472)]) (rest := []) rfl rfl (by decide) (Or.inr (Or.inl ⟨_, rfl, rfl⟩)) rfl k
                    obtain ⟨r, e1, hr⟩ := md_isWord hP hS1 hp1 kc
                    rw [hss, me_uu] at e1
                    rw [hss] at hr
                    subst e1
                    rw [lb_w_length] at hr
                    rcases hr with ⟨rfl, g9⟩ | ⟨rfl, g9⟩
                    · have k : nt_rn X _ 156 (120, [(0, .ref B)], [.int (Int32.ofInt 1)], me_w M (nt_u J B 15 (nI (lb_s f t q)))) _ := k
                      have k := ly_revb 1 (c' := (if (Int32.ofInt 1) = 0 then 128 else 123, [(0, .ref B)], [], me_w M (nt_u J B 15 (nI (lb_s f t q))))) rfl k
                      rw [if_neg (show ¬ ((Int32.ofInt 1) = 0) from by decide)] at k
                      have k := ly_revb 2 (c' := (129, [(0, .ref B)], [.int (Int32.ofInt 9)], me_w M (nt_u J B 15 (nI (lb_s f t q))))) rfl k
                      have k := lz_ri rfl (by decide) k
                      refine ⟨_, k, Or.inl ⟨9, by decide, rfl, g9, fun v hv => ?_⟩⟩
                      rcases (by omega : v = 0 ∨ v = 1 ∨ v = 2 ∨ v = 3 ∨ v = 4 ∨ v = 5 ∨ v = 6 ∨ v = 7 ∨ v = 8) with rfl | rfl | rfl | rfl | rfl | rfl | rfl | rfl | rfl
                      · exact g0
                      · exact g1
                      · exact g2
                      · exact g3
                      · exact g4
                      · exact g5
                      · exact g6
                      · exact g7
                      · exact g8
                    · have k : nt_rn X _ 156 (120, [(0, .ref B)], [.int (Int32.ofInt 0)], me_w M (nt_u J B 15 (nI (lb_s f t q)))) _ := k
                      have k := ly_revb 1 (c' := (if (Int32.ofInt 0) = 0 then 128 else 123, [(0, .ref B)], [], me_w M (nt_u J B 15 (nI (lb_s f t q))))) rfl k
                      rw [if_pos (show (Int32.ofInt 0) = 0 from by decide)] at k
                      have k := ly_revb 1 (c' := (129, [(0, .ref B)], [.int (Int32.ofInt (-1))], me_w M (nt_u J B 15 (nI (lb_s f t q))))) rfl k
                      have k := lz_ri rfl (by decide) k
                      refine ⟨_, k, Or.inr ⟨rfl, fun v hv => ?_⟩⟩
                      rcases (by omega : v = 0 ∨ v = 1 ∨ v = 2 ∨ v = 3 ∨ v = 4 ∨ v = 5 ∨ v = 6 ∨ v = 7 ∨ v = 8 ∨ v = 9) with rfl | rfl | rfl | rfl | rfl | rfl | rfl | rfl | rfl | rfl
                      · exact g0
                      · exact g1
                      · exact g2
                      · exact g3
                      · exact g4
                      · exact g5
                      · exact g6
                      · exact g7
                      · exact g8
                      · exact g9
