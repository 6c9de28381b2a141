/-! the other side's clauses of a yard -/
theorem yr_line0 {R0 R1 R2 : Nat} {C : lb_C} {X : nt_X} {d t B Tb Sg Ln q m li : Nat} {f : Nat → Int32} {M : nt_M} {e : Nat × (Nat → Int32)} {u : Nat × Nat × Nat × Nat × Nat} {J : Nat → Nat → Int32} {o : Option Value × nt_M} (hW : yr_W M B Tb Sg Ln R0 R1 R2) (hT : yr_T R0 R1 R2 C M f t B Tb Sg Ln q 0 m e u li J) (hp : q ≤ t) (hq : lb_s f t q = q) (hb : lb_ub u) (hat : lb_yw f t q 0) (hbe : ∀ v, v < 0 → ¬ lb_yw f t q v) (k : nt_ev X d 140 [.ref B, .int (nI q)] (me_w M J) o) : ∃ r a J', o = (some (.int a), me_w M J') ∧ (((u.1 ≠ 0) ∧ r = .inl (lb_c q (Int32.ofInt 4))) ∨ (¬ (u.1 ≠ 0) ∧ lb_pa f t (q, u) (lb_s f t (q + (lb_W (nt_sp + 1 + 0)).length)) 0 r)) ∧ yr_Q R0 R1 R2 (fun v D => lb_paC f t u (lb_s f t (q + (lb_W (nt_sp + 1 + 0)).length)) v.1 0 C D) M f t B Tb Sg Ln m e li r a J' := by
  have k : nt_rn X d 140 (0, [(0, .ref B), (1, .int (nI q))], [], me_w M J) o := k
  have t4 : t ≤ 400 := hT.1.2.2.2.2.2.1
  have hb0 := hb
  obtain ⟨d1, d2, d3, d4, d5⟩ := hb0
  have k := ly_revb 2 (c' := (4, [(0, .ref B), (1, .int (nI q))], [.long (461330343027), .ref B], me_w M J)) rfl k
  obtain ⟨d1, o1, ed, kc, k⟩ := lz_c (g := 137) (q := 1) (vs := [.ref B, .long (461330343027)]) (rest := []) rfl rfl (by decide) (Or.inr (Or.inl ⟨_, rfl, rfl⟩)) rfl k
  obtain ⟨r, e1, hr⟩ := md_isWord hT.1 hT.2.1 hp kc
  rw [hq, me_ui hT.2.1.1] at e1
  rw [hq, lb_w_kinds] at hr
  subst e1
  obtain ⟨rfl, _⟩ := hr.resolve_right (fun c => c.2 hat)
  have k : nt_rn X _ 140 (7, [(0, .ref B), (1, .int (nI q))], [.int (Int32.ofInt 1)], me_w M J) _ := k
  have k := ly_revb 1 (c' := (if (Int32.ofInt 1) = 0 then 16 else 10, [(0, .ref B), (1, .int (nI q))], [], me_w M J)) rfl k
  rw [if_neg (show ¬ ((Int32.ofInt 1) = 0) from by decide)] at k
  have k := ly_revb 2 (c' := (12, [(0, .ref B), (1, .int (nI q))], [.int (nI q), .ref B], me_w M J)) rfl k
  obtain ⟨d1, o1, ed, kc, k⟩ := lz_c (g := 141) (q := 1) (vs := [.ref B, .int (nI q)]) (rest := []) rfl rfl (by decide) (Or.inr (Or.inl ⟨_, rfl, rfl⟩)) rfl k
  obtain ⟨r, a, J', e1, hrel, hQ⟩ := yr_kinds hW hT hp hb hat kc
  subst e1
  have k : nt_rn X _ 140 (15, [(0, .ref B), (1, .int (nI q))], [.int (a)], me_w M (J')) _ := k
  have k := lz_ri rfl (by decide) k
  exact ⟨r, a, J', k, hrel, hQ⟩
theorem yr_line1 {R0 R1 R2 : Nat} {C : lb_C} {X : nt_X} {d t B Tb Sg Ln q m li : Nat} {f : Nat → Int32} {M : nt_M} {e : Nat × (Nat → Int32)} {u : Nat × Nat × Nat × Nat × Nat} {J : Nat → Nat → Int32} {o : Option Value × nt_M} (hW : yr_W M B Tb Sg Ln R0 R1 R2) (hT : yr_T R0 R1 R2 C M f t B Tb Sg Ln q 0 m e u li J) (hp : q ≤ t) (hq : lb_s f t q = q) (hb : lb_ub u) (hat : lb_yw f t q 1) (hbe : ∀ v, v < 1 → ¬ lb_yw f t q v) (k : nt_ev X d 140 [.ref B, .int (nI q)] (me_w M J) o) : ∃ r a J', o = (some (.int a), me_w M J') ∧ (((u.1 = 0 ∨ (6 ≤ u.2.1)) ∧ r = .inl (lb_c q (Int32.ofInt 4))) ∨ (¬ (u.1 = 0 ∨ (6 ≤ u.2.1)) ∧ lb_pa f t (q, u) (lb_s f t (q + (lb_W (nt_sp + 1 + 1)).length)) 1 r)) ∧ yr_Q R0 R1 R2 (fun v D => lb_paC f t u (lb_s f t (q + (lb_W (nt_sp + 1 + 1)).length)) v.1 1 C D) M f t B Tb Sg Ln m e li r a J' := by
  have k : nt_rn X d 140 (0, [(0, .ref B), (1, .int (nI q))], [], me_w M J) o := k
  have t4 : t ≤ 400 := hT.1.2.2.2.2.2.1
  have hb0 := hb
  obtain ⟨d1, d2, d3, d4, d5⟩ := hb0
  have k := ly_revb 2 (c' := (4, [(0, .ref B), (1, .int (nI q))], [.long (461330343027), .ref B], me_w M J)) rfl k
  obtain ⟨d1, o1, ed, kc, k⟩ := lz_c (g := 137) (q := 1) (vs := [.ref B, .long (461330343027)]) (rest := []) rfl rfl (by decide) (Or.inr (Or.inl ⟨_, rfl, rfl⟩)) rfl k
  obtain ⟨r, e1, hr⟩ := md_isWord hT.1 hT.2.1 hp kc
  rw [hq, me_ui hT.2.1.1] at e1
  rw [hq, lb_w_kinds] at hr
  subst e1
  obtain ⟨rfl, _⟩ := hr.resolve_left (fun c => hbe 0 (by decide) c.2)
  have k : nt_rn X _ 140 (7, [(0, .ref B), (1, .int (nI q))], [.int (Int32.ofInt 0)], me_w M J) _ := k
  have k := ly_revb 1 (c' := (if (Int32.ofInt 0) = 0 then 16 else 10, [(0, .ref B), (1, .int (nI q))], [], me_w M J)) rfl k
  rw [if_pos (show (Int32.ofInt 0) = 0 from by decide)] at k
  have k := ly_revb 1 (c' := (17, [(0, .ref B), (1, .int (nI q))], [.ref B], me_w M J)) rfl k
  have k := lz_get (a := B) (g := 1107) (M := me_w M J) (v := .int (nI u.1)) rfl (congrArg Value.int (hT.2.2.1.1)) k
  have k := ly_revb 1 (c' := (if (nI u.1) = 0 then 23 else 30, [(0, .ref B), (1, .int (nI q))], [], me_w M J)) rfl k
  by_cases h20 : u.1 = 0
  · rw [if_pos (show (nI u.1) = 0 from show nI u.1 = nI 0 from congrArg nI h20)] at k
    have k := ly_revb 3 (c' := (26, [(0, .ref B), (1, .int (nI q))], [.int (nI q), .int (Int32.ofInt 4), .ref B], me_w M J)) rfl k
    obtain ⟨d1, o1, ed, kc, k⟩ := lz_c (g := 139) (q := 1) (vs := [.ref B, .int (Int32.ofInt 4), .int (nI q)]) (rest := []) rfl rfl (by decide) (Or.inr (Or.inl ⟨_, rfl, rfl⟩)) rfl k
    obtain ⟨hf, e1⟩ := (md_fails (a := q) hT.1 hT.2.1 hp kc).resolve_right (fun c => c.1 rfl)
    subst e1
    have hR1 := yr_up hT (md_Sw (y := lb_c q (Int32.ofInt 4)) hT.1 hT.2.1)
    have k : nt_rn X _ 140 (29, [(0, .ref B), (1, .int (nI q))], [.int (Int32.ofInt 0)], me_w M (nt_u J B 16 (lb_c q (Int32.ofInt 4)))) _ := k
    have k := lz_ri rfl (by decide) k
    exact ⟨.inl (lb_c q (Int32.ofInt 4)), _, _, k, Or.inl ⟨Or.inl h20, rfl⟩, (lb_c_ne (by omega) (by decide) (by decide)), rfl, _, _, _, _, hp, hR1⟩
  · rw [if_neg (show ¬ ((nI u.1) = 0) from nI_ne0 (Nat.pos_of_ne_zero h20) (by omega))] at k
    have k := ly_revb 2 (c' := (34, [(0, .ref B), (1, .int (nI q))], [.long (1936222576), .ref B], me_w M J)) rfl k
    obtain ⟨d1, o1, ed, kc, k⟩ := lz_c (g := 137) (q := 1) (vs := [.ref B, .long (1936222576)]) (rest := []) rfl rfl (by decide) (Or.inr (Or.inl ⟨_, rfl, rfl⟩)) rfl k
    obtain ⟨r, e1, hr⟩ := md_isWord hT.1 hT.2.1 hp kc
    rw [hq, me_ui hT.2.1.1] at e1
    rw [hq, lb_w_ship] at hr
    subst e1
    obtain ⟨rfl, _⟩ := hr.resolve_right (fun c => c.2 hat)
    have k : nt_rn X _ 140 (37, [(0, .ref B), (1, .int (nI q))], [.int (Int32.ofInt 1)], me_w M J) _ := k
    have k := ly_revb 1 (c' := (if (Int32.ofInt 1) = 0 then 46 else 40, [(0, .ref B), (1, .int (nI q))], [], me_w M J)) rfl k
    rw [if_neg (show ¬ ((Int32.ofInt 1) = 0) from by decide)] at k
    have k := ly_revb 2 (c' := (42, [(0, .ref B), (1, .int (nI q))], [.int (nI q), .ref B], me_w M J)) rfl k
    obtain ⟨d1, o1, ed, kc, k⟩ := lz_c (g := 146) (q := 1) (vs := [.ref B, .int (nI q)]) (rest := []) rfl rfl (by decide) (Or.inr (Or.inl ⟨_, rfl, rfl⟩)) rfl k
    obtain ⟨r, a, J', e1, hrel, hQ⟩ := yr_ship hW hT hp hb h20 hat kc
    subst e1
    have k : nt_rn X _ 140 (45, [(0, .ref B), (1, .int (nI q))], [.int (a)], me_w M (J')) _ := k
    have k := lz_ri rfl (by decide) k
    exact ⟨r, a, J', k, hrel.imp (fun c => ⟨Or.inr c.1, c.2⟩) (fun c => ⟨fun h => h.elim h20 c.1, c.2⟩), hQ⟩
theorem yr_line2 {R0 R1 R2 : Nat} {C : lb_C} {X : nt_X} {d t B Tb Sg Ln q m li : Nat} {f : Nat → Int32} {M : nt_M} {e : Nat × (Nat → Int32)} {u : Nat × Nat × Nat × Nat × Nat} {J : Nat → Nat → Int32} {o : Option Value × nt_M} (hW : yr_W M B Tb Sg Ln R0 R1 R2) (hT : yr_T R0 R1 R2 C M f t B Tb Sg Ln q 0 m e u li J) (hp : q ≤ t) (hq : lb_s f t q = q) (hb : lb_ub u) (hat : lb_yw f t q 2) (hbe : ∀ v, v < 2 → ¬ lb_yw f t q v) (k : nt_ev X d 140 [.ref B, .int (nI q)] (me_w M J) o) : ∃ r a J', o = (some (.int a), me_w M J') ∧ (((u.1 = 0 ∨ (24 ≤ u.2.2.1)) ∧ r = .inl (lb_c q (Int32.ofInt 4))) ∨ (¬ (u.1 = 0 ∨ (24 ≤ u.2.2.1)) ∧ lb_pa f t (q, u) (lb_s f t (q + (lb_W (nt_sp + 1 + 2)).length)) 2 r)) ∧ yr_Q R0 R1 R2 (fun v D => lb_paC f t u (lb_s f t (q + (lb_W (nt_sp + 1 + 2)).length)) v.1 2 C D) M f t B Tb Sg Ln m e li r a J' := by
  have k : nt_rn X d 140 (0, [(0, .ref B), (1, .int (nI q))], [], me_w M J) o := k
  have t4 : t ≤ 400 := hT.1.2.2.2.2.2.1
  have hb0 := hb
  obtain ⟨d1, d2, d3, d4, d5⟩ := hb0
  have k := ly_revb 2 (c' := (4, [(0, .ref B), (1, .int (nI q))], [.long (461330343027), .ref B], me_w M J)) rfl k
  obtain ⟨d1, o1, ed, kc, k⟩ := lz_c (g := 137) (q := 1) (vs := [.ref B, .long (461330343027)]) (rest := []) rfl rfl (by decide) (Or.inr (Or.inl ⟨_, rfl, rfl⟩)) rfl k
  obtain ⟨r, e1, hr⟩ := md_isWord hT.1 hT.2.1 hp kc
  rw [hq, me_ui hT.2.1.1] at e1
  rw [hq, lb_w_kinds] at hr
  subst e1
  obtain ⟨rfl, _⟩ := hr.resolve_left (fun c => hbe 0 (by decide) c.2)
  have k : nt_rn X _ 140 (7, [(0, .ref B), (1, .int (nI q))], [.int (Int32.ofInt 0)], me_w M J) _ := k
  have k := ly_revb 1 (c' := (if (Int32.ofInt 0) = 0 then 16 else 10, [(0, .ref B), (1, .int (nI q))], [], me_w M J)) rfl k
  rw [if_pos (show (Int32.ofInt 0) = 0 from by decide)] at k
  have k := ly_revb 1 (c' := (17, [(0, .ref B), (1, .int (nI q))], [.ref B], me_w M J)) rfl k
  have k := lz_get (a := B) (g := 1107) (M := me_w M J) (v := .int (nI u.1)) rfl (congrArg Value.int (hT.2.2.1.1)) k
  have k := ly_revb 1 (c' := (if (nI u.1) = 0 then 23 else 30, [(0, .ref B), (1, .int (nI q))], [], me_w M J)) rfl k
  by_cases h20 : u.1 = 0
  · rw [if_pos (show (nI u.1) = 0 from show nI u.1 = nI 0 from congrArg nI h20)] at k
    have k := ly_revb 3 (c' := (26, [(0, .ref B), (1, .int (nI q))], [.int (nI q), .int (Int32.ofInt 4), .ref B], me_w M J)) rfl k
    obtain ⟨d1, o1, ed, kc, k⟩ := lz_c (g := 139) (q := 1) (vs := [.ref B, .int (Int32.ofInt 4), .int (nI q)]) (rest := []) rfl rfl (by decide) (Or.inr (Or.inl ⟨_, rfl, rfl⟩)) rfl k
    obtain ⟨hf, e1⟩ := (md_fails (a := q) hT.1 hT.2.1 hp kc).resolve_right (fun c => c.1 rfl)
    subst e1
    have hR1 := yr_up hT (md_Sw (y := lb_c q (Int32.ofInt 4)) hT.1 hT.2.1)
    have k : nt_rn X _ 140 (29, [(0, .ref B), (1, .int (nI q))], [.int (Int32.ofInt 0)], me_w M (nt_u J B 16 (lb_c q (Int32.ofInt 4)))) _ := k
    have k := lz_ri rfl (by decide) k
    exact ⟨.inl (lb_c q (Int32.ofInt 4)), _, _, k, Or.inl ⟨Or.inl h20, rfl⟩, (lb_c_ne (by omega) (by decide) (by decide)), rfl, _, _, _, _, hp, hR1⟩
  · rw [if_neg (show ¬ ((nI u.1) = 0) from nI_ne0 (Nat.pos_of_ne_zero h20) (by omega))] at k
    have k := ly_revb 2 (c' := (34, [(0, .ref B), (1, .int (nI q))], [.long (1936222576), .ref B], me_w M J)) rfl k
    obtain ⟨d1, o1, ed, kc, k⟩ := lz_c (g := 137) (q := 1) (vs := [.ref B, .long (1936222576)]) (rest := []) rfl rfl (by decide) (Or.inr (Or.inl ⟨_, rfl, rfl⟩)) rfl k
    obtain ⟨r, e1, hr⟩ := md_isWord hT.1 hT.2.1 hp kc
    rw [hq, me_ui hT.2.1.1] at e1
    rw [hq, lb_w_ship] at hr
    subst e1
    obtain ⟨rfl, _⟩ := hr.resolve_left (fun c => hbe 1 (by decide) c.2)
    have k : nt_rn X _ 140 (37, [(0, .ref B), (1, .int (nI q))], [.int (Int32.ofInt 0)], me_w M J) _ := k
    have k := ly_revb 1 (c' := (if (Int32.ofInt 0) = 0 then 46 else 40, [(0, .ref B), (1, .int (nI q))], [], me_w M J)) rfl k
    rw [if_pos (show (Int32.ofInt 0) = 0 from by decide)] at k
    have k := ly_revb 2 (c' := (50, [(0, .ref B), (1, .int (nI q))], [.long (482854661739), .ref B], me_w M J)) rfl k
    obtain ⟨d1, o1, ed, kc, k⟩ := lz_c (g := 137) (q := 1) (vs := [.ref B, .long (482854661739)]) (rest := []) rfl rfl (by decide) (Or.inr (Or.inl ⟨_, rfl, rfl⟩)) rfl k
    obtain ⟨r, e1, hr⟩ := md_isWord hT.1 hT.2.1 hp kc
    rw [hq, me_ui hT.2.1.1] at e1
    rw [hq, lb_w_plank] at hr
    subst e1
    obtain ⟨rfl, _⟩ := hr.resolve_right (fun c => c.2 hat)
    have k : nt_rn X _ 140 (53, [(0, .ref B), (1, .int (nI q))], [.int (Int32.ofInt 1)], me_w M J) _ := k
    have k := ly_revb 1 (c' := (if (Int32.ofInt 1) = 0 then 64 else 56, [(0, .ref B), (1, .int (nI q))], [], me_w M J)) rfl k
    rw [if_neg (show ¬ ((Int32.ofInt 1) = 0) from by decide)] at k
    have k := ly_revb 2 (c' := (58, [(0, .ref B), (1, .int (nI q))], [.int (nI q), .ref B], me_w M J)) rfl k
    obtain ⟨d1, o1, ed, kc, k⟩ := lz_c (g := 147) (q := 1) (vs := [.ref B, .int (nI q)]) (rest := []) rfl rfl (by decide) (Or.inr (Or.inl ⟨_, rfl, rfl⟩)) rfl k
    obtain ⟨r, a, J', e1, hrel, hQ⟩ := yr_plank hW hT hp hb h20 hat kc
    subst e1
    have k : nt_rn X _ 140 (61, [(0, .ref B), (1, .int (nI q))], [.int (a)], me_w M (J')) _ := k
    have k := ly_revb 1 (c' := (87, [(0, .ref B), (1, .int (nI q))], [.int (a)], me_w M (J'))) rfl k
    have k := lz_ri rfl (by decide) k
    exact ⟨r, a, J', k, hrel.imp (fun c => ⟨Or.inr c.1, c.2⟩) (fun c => ⟨fun h => h.elim h20 c.1, c.2⟩), hQ⟩
theorem yr_line3 {R0 R1 R2 : Nat} {C : lb_C} {X : nt_X} {d t B Tb Sg Ln q m li : Nat} {f : Nat → Int32} {M : nt_M} {e : Nat × (Nat → Int32)} {u : Nat × Nat × Nat × Nat × Nat} {J : Nat → Nat → Int32} {o : Option Value × nt_M} (hW : yr_W M B Tb Sg Ln R0 R1 R2) (hT : yr_T R0 R1 R2 C M f t B Tb Sg Ln q 0 m e u li J) (hp : q ≤ t) (hq : lb_s f t q = q) (hb : lb_ub u) (hat : lb_yw f t q 3) (hbe : ∀ v, v < 3 → ¬ lb_yw f t q v) (k : nt_ev X d 140 [.ref B, .int (nI q)] (me_w M J) o) : ∃ r a J', o = (some (.int a), me_w M J') ∧ (((u.1 = 0 ∨ (8 ≤ u.2.2.2.1)) ∧ r = .inl (lb_c q (Int32.ofInt 4))) ∨ (¬ (u.1 = 0 ∨ (8 ≤ u.2.2.2.1)) ∧ lb_pa f t (q, u) (lb_s f t (q + (lb_W (nt_sp + 1 + 3)).length)) 3 r)) ∧ yr_Q R0 R1 R2 (fun v D => lb_paC f t u (lb_s f t (q + (lb_W (nt_sp + 1 + 3)).length)) v.1 3 C D) M f t B Tb Sg Ln m e li r a J' := by
  have k : nt_rn X d 140 (0, [(0, .ref B), (1, .int (nI q))], [], me_w M J) o := k
  have t4 : t ≤ 400 := hT.1.2.2.2.2.2.1
  have hb0 := hb
  obtain ⟨d1, d2, d3, d4, d5⟩ := hb0
  have k := ly_revb 2 (c' := (4, [(0, .ref B), (1, .int (nI q))], [.long (461330343027), .ref B], me_w M J)) rfl k
  obtain ⟨d1, o1, ed, kc, k⟩ := lz_c (g := 137) (q := 1) (vs := [.ref B, .long (461330343027)]) (rest := []) rfl rfl (by decide) (Or.inr (Or.inl ⟨_, rfl, rfl⟩)) rfl k
  obtain ⟨r, e1, hr⟩ := md_isWord hT.1 hT.2.1 hp kc
  rw [hq, me_ui hT.2.1.1] at e1
  rw [hq, lb_w_kinds] at hr
  subst e1
  obtain ⟨rfl, _⟩ := hr.resolve_left (fun c => hbe 0 (by decide) c.2)
  have k : nt_rn X _ 140 (7, [(0, .ref B), (1, .int (nI q))], [.int (Int32.ofInt 0)], me_w M J) _ := k
  have k := ly_revb 1 (c' := (if (Int32.ofInt 0) = 0 then 16 else 10, [(0, .ref B), (1, .int (nI q))], [], me_w M J)) rfl k
  rw [if_pos (show (Int32.ofInt 0) = 0 from by decide)] at k
  have k := ly_revb 1 (c' := (17, [(0, .ref B), (1, .int (nI q))], [.ref B], me_w M J)) rfl k
  have k := lz_get (a := B) (g := 1107) (M := me_w M J) (v := .int (nI u.1)) rfl (congrArg Value.int (hT.2.2.1.1)) k
  have k := ly_revb 1 (c' := (if (nI u.1) = 0 then 23 else 30, [(0, .ref B), (1, .int (nI q))], [], me_w M J)) rfl k
  by_cases h20 : u.1 = 0
  · rw [if_pos (show (nI u.1) = 0 from show nI u.1 = nI 0 from congrArg nI h20)] at k
    have k := ly_revb 3 (c' := (26, [(0, .ref B), (1, .int (nI q))], [.int (nI q), .int (Int32.ofInt 4), .ref B], me_w M J)) rfl k
    obtain ⟨d1, o1, ed, kc, k⟩ := lz_c (g := 139) (q := 1) (vs := [.ref B, .int (Int32.ofInt 4), .int (nI q)]) (rest := []) rfl rfl (by decide) (Or.inr (Or.inl ⟨_, rfl, rfl⟩)) rfl k
    obtain ⟨hf, e1⟩ := (md_fails (a := q) hT.1 hT.2.1 hp kc).resolve_right (fun c => c.1 rfl)
    subst e1
    have hR1 := yr_up hT (md_Sw (y := lb_c q (Int32.ofInt 4)) hT.1 hT.2.1)
    have k : nt_rn X _ 140 (29, [(0, .ref B), (1, .int (nI q))], [.int (Int32.ofInt 0)], me_w M (nt_u J B 16 (lb_c q (Int32.ofInt 4)))) _ := k
    have k := lz_ri rfl (by decide) k
    exact ⟨.inl (lb_c q (Int32.ofInt 4)), _, _, k, Or.inl ⟨Or.inl h20, rfl⟩, (lb_c_ne (by omega) (by decide) (by decide)), rfl, _, _, _, _, hp, hR1⟩
  · rw [if_neg (show ¬ ((nI u.1) = 0) from nI_ne0 (Nat.pos_of_ne_zero h20) (by omega))] at k
    have k := ly_revb 2 (c' := (34, [(0, .ref B), (1, .int (nI q))], [.long (1936222576), .ref B], me_w M J)) rfl k
    obtain ⟨d1, o1, ed, kc, k⟩ := lz_c (g := 137) (q := 1) (vs := [.ref B, .long (1936222576)]) (rest := []) rfl rfl (by decide) (Or.inr (Or.inl ⟨_, rfl, rfl⟩)) rfl k
    obtain ⟨r, e1, hr⟩ := md_isWord hT.1 hT.2.1 hp kc
    rw [hq, me_ui hT.2.1.1] at e1
    rw [hq, lb_w_ship] at hr
    subst e1
    obtain ⟨rfl, _⟩ := hr.resolve_left (fun c => hbe 1 (by decide) c.2)
    have k : nt_rn X _ 140 (37, [(0, .ref B), (1, .int (nI q))], [.int (Int32.ofInt 0)], me_w M J) _ := k
    have k := ly_revb 1 (c' := (if (Int32.ofInt 0) = 0 then 46 else 40, [(0, .ref B), (1, .int (nI q))], [], me_w M J)) rfl k
    rw [if_pos (show (Int32.ofInt 0) = 0 from by decide)] at k
    have k := ly_revb 2 (c' := (50, [(0, .ref B), (1, .int (nI q))], [.long (482854661739), .ref B], me_w M J)) rfl k
    obtain ⟨d1, o1, ed, kc, k⟩ := lz_c (g := 137) (q := 1) (vs := [.ref B, .long (482854661739)]) (rest := []) rfl rfl (by decide) (Or.inr (Or.inl ⟨_, rfl, rfl⟩)) rfl k
    obtain ⟨r, e1, hr⟩ := md_isWord hT.1 hT.2.1 hp kc
    rw [hq, me_ui hT.2.1.1] at e1
    rw [hq, lb_w_plank] at hr
    subst e1
    obtain ⟨rfl, _⟩ := hr.resolve_left (fun c => hbe 2 (by decide) c.2)
    have k : nt_rn X _ 140 (53, [(0, .ref B), (1, .int (nI q))], [.int (Int32.ofInt 0)], me_w M J) _ := k
    have k := ly_revb 1 (c' := (if (Int32.ofInt 0) = 0 then 64 else 56, [(0, .ref B), (1, .int (nI q))], [], me_w M J)) rfl k
    rw [if_pos (show (Int32.ofInt 0) = 0 from by decide)] at k
    have k := ly_revb 2 (c' := (68, [(0, .ref B), (1, .int (nI q))], [.long (130221149874021), .ref B], me_w M J)) rfl k
    obtain ⟨d1, o1, ed, kc, k⟩ := lz_c (g := 137) (q := 1) (vs := [.ref B, .long (130221149874021)]) (rest := []) rfl rfl (by decide) (Or.inr (Or.inl ⟨_, rfl, rfl⟩)) rfl k
    obtain ⟨r, e1, hr⟩ := md_isWord hT.1 hT.2.1 hp kc
    rw [hq, me_ui hT.2.1.1] at e1
    rw [hq, lb_w_voyage] at hr
    subst e1
    obtain ⟨rfl, _⟩ := hr.resolve_right (fun c => c.2 hat)
    have k : nt_rn X _ 140 (71, [(0, .ref B), (1, .int (nI q))], [.int (Int32.ofInt 1)], me_w M J) _ := k
    have k := ly_revb 1 (c' := (if (Int32.ofInt 1) = 0 then 82 else 74, [(0, .ref B), (1, .int (nI q))], [], me_w M J)) rfl k
    rw [if_neg (show ¬ ((Int32.ofInt 1) = 0) from by decide)] at k
    have k := ly_revb 2 (c' := (76, [(0, .ref B), (1, .int (nI q))], [.int (nI q), .ref B], me_w M J)) rfl k
    obtain ⟨d1, o1, ed, kc, k⟩ := lz_c (g := 148) (q := 1) (vs := [.ref B, .int (nI q)]) (rest := []) rfl rfl (by decide) (Or.inr (Or.inl ⟨_, rfl, rfl⟩)) rfl k
    obtain ⟨r, a, J', e1, hrel, hQ⟩ := yr_voyage hW hT hp hb h20 hat kc
    subst e1
    have k : nt_rn X _ 140 (79, [(0, .ref B), (1, .int (nI q))], [.int (a)], me_w M (J')) _ := k
    have k := ly_revb 1 (c' := (87, [(0, .ref B), (1, .int (nI q))], [.int (a)], me_w M (J'))) rfl k
    have k := lz_ri rfl (by decide) k
    exact ⟨r, a, J', k, hrel.imp (fun c => ⟨Or.inr c.1, c.2⟩) (fun c => ⟨fun h => h.elim h20 c.1, c.2⟩), hQ⟩
theorem yr_line4 {R0 R1 R2 : Nat} {C : lb_C} {X : nt_X} {d t B Tb Sg Ln q m li : Nat} {f : Nat → Int32} {M : nt_M} {e : Nat × (Nat → Int32)} {u : Nat × Nat × Nat × Nat × Nat} {J : Nat → Nat → Int32} {o : Option Value × nt_M} (hW : yr_W M B Tb Sg Ln R0 R1 R2) (hT : yr_T R0 R1 R2 C M f t B Tb Sg Ln q 0 m e u li J) (hp : q ≤ t) (hq : lb_s f t q = q) (hb : lb_ub u) (hat : lb_yw f t q 4) (hbe : ∀ v, v < 4 → ¬ lb_yw f t q v) (k : nt_ev X d 140 [.ref B, .int (nI q)] (me_w M J) o) : ∃ r a J', o = (some (.int a), me_w M J') ∧ (((u.1 = 0 ∨ (u.2.2.2.2 ≠ 0)) ∧ r = .inl (lb_c q (Int32.ofInt 4))) ∨ (¬ (u.1 = 0 ∨ (u.2.2.2.2 ≠ 0)) ∧ lb_pa f t (q, u) (lb_s f t (q + (lb_W (nt_sp + 1 + 4)).length)) 4 r)) ∧ yr_Q R0 R1 R2 (fun v D => lb_paC f t u (lb_s f t (q + (lb_W (nt_sp + 1 + 4)).length)) v.1 4 C D) M f t B Tb Sg Ln m e li r a J' := by
  have k : nt_rn X d 140 (0, [(0, .ref B), (1, .int (nI q))], [], me_w M J) o := k
  have t4 : t ≤ 400 := hT.1.2.2.2.2.2.1
  have hb0 := hb
  obtain ⟨d1, d2, d3, d4, d5⟩ := hb0
  have k := ly_revb 2 (c' := (4, [(0, .ref B), (1, .int (nI q))], [.long (461330343027), .ref B], me_w M J)) rfl k
  obtain ⟨d1, o1, ed, kc, k⟩ := lz_c (g := 137) (q := 1) (vs := [.ref B, .long (461330343027)]) (rest := []) rfl rfl (by decide) (Or.inr (Or.inl ⟨_, rfl, rfl⟩)) rfl k
  obtain ⟨r, e1, hr⟩ := md_isWord hT.1 hT.2.1 hp kc
  rw [hq, me_ui hT.2.1.1] at e1
  rw [hq, lb_w_kinds] at hr
  subst e1
  obtain ⟨rfl, _⟩ := hr.resolve_left (fun c => hbe 0 (by decide) c.2)
  have k : nt_rn X _ 140 (7, [(0, .ref B), (1, .int (nI q))], [.int (Int32.ofInt 0)], me_w M J) _ := k
  have k := ly_revb 1 (c' := (if (Int32.ofInt 0) = 0 then 16 else 10, [(0, .ref B), (1, .int (nI q))], [], me_w M J)) rfl k
  rw [if_pos (show (Int32.ofInt 0) = 0 from by decide)] at k
  have k := ly_revb 1 (c' := (17, [(0, .ref B), (1, .int (nI q))], [.ref B], me_w M J)) rfl k
  have k := lz_get (a := B) (g := 1107) (M := me_w M J) (v := .int (nI u.1)) rfl (congrArg Value.int (hT.2.2.1.1)) k
  have k := ly_revb 1 (c' := (if (nI u.1) = 0 then 23 else 30, [(0, .ref B), (1, .int (nI q))], [], me_w M J)) rfl k
  by_cases h20 : u.1 = 0
  · rw [if_pos (show (nI u.1) = 0 from show nI u.1 = nI 0 from congrArg nI h20)] at k
    have k := ly_revb 3 (c' := (26, [(0, .ref B), (1, .int (nI q))], [.int (nI q), .int (Int32.ofInt 4), .ref B], me_w M J)) rfl k
    obtain ⟨d1, o1, ed, kc, k⟩ := lz_c (g := 139) (q := 1) (vs := [.ref B, .int (Int32.ofInt 4), .int (nI q)]) (rest := []) rfl rfl (by decide) (Or.inr (Or.inl ⟨_, rfl, rfl⟩)) rfl k
    obtain ⟨hf, e1⟩ := (md_fails (a := q) hT.1 hT.2.1 hp kc).resolve_right (fun c => c.1 rfl)
    subst e1
    have hR1 := yr_up hT (md_Sw (y := lb_c q (Int32.ofInt 4)) hT.1 hT.2.1)
    have k : nt_rn X _ 140 (29, [(0, .ref B), (1, .int (nI q))], [.int (Int32.ofInt 0)], me_w M (nt_u J B 16 (lb_c q (Int32.ofInt 4)))) _ := k
    have k := lz_ri rfl (by decide) k
    exact ⟨.inl (lb_c q (Int32.ofInt 4)), _, _, k, Or.inl ⟨Or.inl h20, rfl⟩, (lb_c_ne (by omega) (by decide) (by decide)), rfl, _, _, _, _, hp, hR1⟩
  · rw [if_neg (show ¬ ((nI u.1) = 0) from nI_ne0 (Nat.pos_of_ne_zero h20) (by omega))] at k
    have k := ly_revb 2 (c' := (34, [(0, .ref B), (1, .int (nI q))], [.long (1936222576), .ref B], me_w M J)) rfl k
    obtain ⟨d1, o1, ed, kc, k⟩ := lz_c (g := 137) (q := 1) (vs := [.ref B, .long (1936222576)]) (rest := []) rfl rfl (by decide) (Or.inr (Or.inl ⟨_, rfl, rfl⟩)) rfl k
    obtain ⟨r, e1, hr⟩ := md_isWord hT.1 hT.2.1 hp kc
    rw [hq, me_ui hT.2.1.1] at e1
    rw [hq, lb_w_ship] at hr
    subst e1
    obtain ⟨rfl, _⟩ := hr.resolve_left (fun c => hbe 1 (by decide) c.2)
    have k : nt_rn X _ 140 (37, [(0, .ref B), (1, .int (nI q))], [.int (Int32.ofInt 0)], me_w M J) _ := k
    have k := ly_revb 1 (c' := (if (Int32.ofInt 0) = 0 then 46 else 40, [(0, .ref B), (1, .int (nI q))], [], me_w M J)) rfl k
    rw [if_pos (show (Int32.ofInt 0) = 0 from by decide)] at k
    have k := ly_revb 2 (c' := (50, [(0, .ref B), (1, .int (nI q))], [.long (482854661739), .ref B], me_w M J)) rfl k
    obtain ⟨d1, o1, ed, kc, k⟩ := lz_c (g := 137) (q := 1) (vs := [.ref B, .long (482854661739)]) (rest := []) rfl rfl (by decide) (Or.inr (Or.inl ⟨_, rfl, rfl⟩)) rfl k
    obtain ⟨r, e1, hr⟩ := md_isWord hT.1 hT.2.1 hp kc
    rw [hq, me_ui hT.2.1.1] at e1
    rw [hq, lb_w_plank] at hr
    subst e1
    obtain ⟨rfl, _⟩ := hr.resolve_left (fun c => hbe 2 (by decide) c.2)
    have k : nt_rn X _ 140 (53, [(0, .ref B), (1, .int (nI q))], [.int (Int32.ofInt 0)], me_w M J) _ := k
    have k := ly_revb 1 (c' := (if (Int32.ofInt 0) = 0 then 64 else 56, [(0, .ref B), (1, .int (nI q))], [], me_w M J)) rfl k
    rw [if_pos (show (Int32.ofInt 0) = 0 from by decide)] at k
    have k := ly_revb 2 (c' := (68, [(0, .ref B), (1, .int (nI q))], [.long (130221149874021), .ref B], me_w M J)) rfl k
    obtain ⟨d1, o1, ed, kc, k⟩ := lz_c (g := 137) (q := 1) (vs := [.ref B, .long (130221149874021)]) (rest := []) rfl rfl (by decide) (Or.inr (Or.inl ⟨_, rfl, rfl⟩)) rfl k
    obtain ⟨r, e1, hr⟩ := md_isWord hT.1 hT.2.1 hp kc
    rw [hq, me_ui hT.2.1.1] at e1
    rw [hq, lb_w_voyage] at hr
    subst e1
    obtain ⟨rfl, _⟩ := hr.resolve_left (fun c => hbe 3 (by decide) c.2)
    have k : nt_rn X _ 140 (71, [(0, .ref B), (1, .int (nI q))], [.int (Int32.ofInt 0)], me_w M J) _ := k
    have k := ly_revb 1 (c' := (if (Int32.ofInt 0) = 0 then 82 else 74, [(0, .ref B), (1, .int (nI q))], [], me_w M J)) rfl k
    rw [if_pos (show (Int32.ofInt 0) = 0 from by decide)] at k
    have k := ly_revb 2 (c' := (84, [(0, .ref B), (1, .int (nI q))], [.int (nI q), .ref B], me_w M J)) rfl k
    obtain ⟨d1, o1, ed, kc, k⟩ := lz_c (g := 149) (q := 1) (vs := [.ref B, .int (nI q)]) (rest := []) rfl rfl (by decide) (Or.inr (Or.inl ⟨_, rfl, rfl⟩)) rfl k
    obtain ⟨r, a, J', e1, hrel, hQ⟩ := yr_hands hW hT hp hb h20 hat kc
    subst e1
    have k : nt_rn X _ 140 (87, [(0, .ref B), (1, .int (nI q))], [.int (a)], me_w M (J')) _ := k
    have k := lz_ri rfl (by decide) k
    exact ⟨r, a, J', k, hrel.imp (fun c => ⟨Or.inr c.1, c.2⟩) (fun c => ⟨fun h => h.elim h20 c.1, c.2⟩), hQ⟩
theorem yr_clause {R0 R1 R2 : Nat} {C : lb_C} {X : nt_X} {d t B Tb Sg Ln q m li : Nat} {f : Nat → Int32} {M : nt_M} {e : Nat × (Nat → Int32)} {u : Nat × Nat × Nat × Nat × Nat} {J : Nat → Nat → Int32} {o : Option Value × nt_M} (hW : yr_W M B Tb Sg Ln R0 R1 R2) (hT : yr_T R0 R1 R2 C M f t B Tb Sg Ln q 0 m e u li J) (hp : q ≤ t) (hb : lb_ub u) (hk : li = 0 ↔ u.1 = 0) (hl : li ≤ 40) (k : nt_ev X d 135 [.ref B] (me_w M J) o) : ∃ r a J', o = (some (.int a), me_w M J') ∧ lb_yc f t li (lb_s f t q, u) r ∧ yr_Q R0 R1 R2 (fun v D => lb_ycC f t (lb_s f t q, u) v C D) M f t B Tb Sg Ln m e (li + 1) r a J' := by
  have k : nt_rn X d 135 (0, [(0, .ref B)], [], me_w M J) o := k
  have t4 : t ≤ 400 := hT.1.2.2.2.2.2.1
  have k := ly_revb 1 (c' := (1, [(0, .ref B)], [.ref B], me_w M J)) rfl k
  obtain ⟨d1, o1, ed, kc, k⟩ := lz_c (g := 136) (q := 1) (vs := [.ref B]) (rest := []) rfl rfl (by decide) (Or.inr (Or.inl ⟨_, rfl, rfl⟩)) rfl k
  have e1 := md_see hT.1 hT.2.1 hp kc
  subst e1
  have hR1 := yr_up hT (md_Sq (y := lb_s f t q) hT.1 hT.2.1)
  have hp1 : lb_s f t q ≤ t := (lb_s_le (t - q) q (by omega)).2
  have hss : lb_s f t (lb_s f t q) = lb_s f t q := lb_ss hp
  have k : nt_rn X _ 135 (4, [(0, .ref B)], [.int (lb_g f t (lb_s f t q))], me_w M (nt_u J B 15 (nI (lb_s f t q)))) _ := k
  have k := ly_revb 2 (c' := (6, [(0, .ref B)], [.ref B], me_w M (nt_u J B 15 (nI (lb_s f t q))))) rfl k
  have k := lz_get (a := B) (g := 1115) (M := me_w M (nt_u J B 15 (nI (lb_s f t q)))) (v := .int (nI (lb_s f t q))) rfl (congrArg Value.int (hR1.2.1.1)) k
  have k := ly_revb 2 (c' := (11, [(1, .int (nI (lb_s f t q))), (0, .ref B)], [.ref B], me_w M (nt_u J B 15 (nI (lb_s f t q))))) rfl k
  have k := lz_get (a := B) (g := 1118) (M := me_w M (nt_u J B 15 (nI (lb_s f t q)))) (v := .int (nI 6)) rfl (congrArg Value.int (md_x hR1.1 hR1.2.1)) k
  have k := ly_revb 2 (c' := (if (nI 6) = (Int32.ofInt 6) then 19 else 23, [(1, .int (nI (lb_s f t q))), (0, .ref B)], [], me_w M (nt_u J B 15 (nI (lb_s f t q))))) rfl k
  rw [if_pos (show (nI 6) = (Int32.ofInt 6) from rfl)] at k
  have k := ly_revb 5 (c' := (if (Int32.ofInt 1) = 0 then 87 else 29, [(2, .int (Int32.ofInt 1)), (1, .int (nI (lb_s f t q))), (0, .ref B)], [], me_w M (nt_u J B 15 (nI (lb_s f t q))))) rfl k
  rw [if_neg (show ¬ ((Int32.ofInt 1) = 0) from by decide)] at k
  have k := ly_revb 2 (c' := (33, [(2, .int (Int32.ofInt 1)), (1, .int (nI (lb_s f t q))), (0, .ref B)], [.long (461330343027), .ref B], me_w M (nt_u J B 15 (nI (lb_s f t q))))) rfl k
  obtain ⟨d1, o1, ed, kc, k⟩ := lz_c (g := 137) (q := 1) (vs := [.ref B, .long (461330343027)]) (rest := []) rfl rfl (by decide) (Or.inr (Or.inl ⟨_, rfl, rfl⟩)) rfl k
  obtain ⟨r, e1, hr⟩ := md_isWord hR1.1 hR1.2.1 hp1 kc
  rw [hss, me_ui hR1.2.1.1] at e1
  rw [hss, lb_w_kinds] at hr
  subst e1
  rcases hr with ⟨rfl, g0⟩ | ⟨rfl, g0⟩
  · have k : nt_rn X _ 135 (36, [(2, .int (Int32.ofInt 1)), (1, .int (nI (lb_s f t q))), (0, .ref B)], [.int (Int32.ofInt 1)], me_w M (nt_u J B 15 (nI (lb_s f t q)))) _ := k
    have k := ly_revb 1 (c' := (if (Int32.ofInt 1) = 0 then 39 else 79, [(2, .int (Int32.ofInt 1)), (1, .int (nI (lb_s f t q))), (0, .ref B)], [], me_w M (nt_u J B 15 (nI (lb_s f t q))))) rfl k
    rw [if_neg (show ¬ ((Int32.ofInt 1) = 0) from by decide)] at k
    have k := ly_revb 5 (c' := (if (Int32.ofInt 1) = 0 then 99 else 106, [(3, .int (Int32.ofInt 1)), (2, .int (Int32.ofInt 1)), (1, .int (nI (lb_s f t q))), (0, .ref B)], [], me_w M (nt_u J B 15 (nI (lb_s f t q))))) rfl k
    rw [if_neg (show ¬ ((Int32.ofInt 1) = 0) from by decide)] at k
    have k := ly_revb 1 (c' := (107, [(3, .int (Int32.ofInt 1)), (2, .int (Int32.ofInt 1)), (1, .int (nI (lb_s f t q))), (0, .ref B)], [.ref B], me_w M (nt_u J B 15 (nI (lb_s f t q))))) rfl k
    have k := lz_get (a := B) (g := 1121) (M := me_w M (nt_u J B 15 (nI (lb_s f t q)))) (v := .int (nI li)) rfl (congrArg Value.int (hR1.2.2.2.1)) k
    have k := ly_revb 2 (c' := (if (Int32.ofInt 1) = 0 then 119 else 114, [(3, .int (Int32.ofInt 1)), (2, .int (Int32.ofInt 1)), (1, .int (nI (lb_s f t q))), (0, .ref B)], [.int (nI li)], me_w M (nt_u J B 15 (nI (lb_s f t q))))) rfl k
    rw [if_neg (show ¬ ((Int32.ofInt 1) = 0) from by decide)] at k
    have k := ly_revb 3 (c' := (if (nI li) = (Int32.ofInt 40) then 124 else 131, [(3, .int (Int32.ofInt 1)), (2, .int (Int32.ofInt 1)), (1, .int (nI (lb_s f t q))), (0, .ref B)], [], me_w M (nt_u J B 15 (nI (lb_s f t q))))) rfl k
    by_cases h121 : li = 40
    · rw [if_pos (show (nI li) = (Int32.ofInt 40) from show nI li = nI 40 from congrArg nI h121)] at k
      have k := ly_revb 3 (c' := (127, [(3, .int (Int32.ofInt 1)), (2, .int (Int32.ofInt 1)), (1, .int (nI (lb_s f t q))), (0, .ref B)], [.int (nI (lb_s f t q)), .int (Int32.ofInt 4), .ref B], me_w M (nt_u J B 15 (nI (lb_s f t q))))) rfl k
      obtain ⟨d1, o1, ed, kc, k⟩ := lz_c (g := 139) (q := 1) (vs := [.ref B, .int (Int32.ofInt 4), .int (nI (lb_s f t q))]) (rest := []) rfl rfl (by decide) (Or.inr (Or.inl ⟨_, rfl, rfl⟩)) rfl k
      obtain ⟨hf, e1⟩ := (md_fails (a := (lb_s f t q)) hR1.1 hR1.2.1 hp1 kc).resolve_right (fun c => c.1 rfl)
      subst e1
      have hR2 := yr_up hR1 (md_Sw (y := lb_c ((lb_s f t q)) (Int32.ofInt 4)) hR1.1 hR1.2.1)
      have k : nt_rn X _ 135 (130, [(3, .int (Int32.ofInt 1)), (2, .int (Int32.ofInt 1)), (1, .int (nI (lb_s f t q))), (0, .ref B)], [.int (Int32.ofInt 0)], me_w M (nt_u (nt_u J B 15 (nI (lb_s f t q))) B 16 (lb_c ((lb_s f t q)) (Int32.ofInt 4)))) _ := k
      have k := lz_ri rfl (by decide) k
      exact ⟨.inl (lb_c ((lb_s f t q)) (Int32.ofInt 4)), _, _, k, Or.inr ⟨0, by decide, g0, fun v hv => absurd hv (Nat.not_lt_zero _), Or.inl ⟨Or.inl h121, rfl⟩⟩, (lb_c_ne (by omega) (by decide) (by decide)), rfl, _, _, _, _, hp1, hR2⟩
    · rw [if_neg (show ¬ ((nI li) = (Int32.ofInt 40)) from show ¬ nI li = nI 40 from me_ne h121 (by omega) (by omega))] at k
      have k := ly_revb 2 (c' := (133, [(3, .int (Int32.ofInt 1)), (2, .int (Int32.ofInt 1)), (1, .int (nI (lb_s f t q))), (0, .ref B)], [.ref B, .ref B], me_w M (nt_u J B 15 (nI (lb_s f t q))))) rfl k
      have k := lz_get (a := B) (g := 1121) (M := me_w M (nt_u J B 15 (nI (lb_s f t q)))) (v := .int (nI li)) rfl (congrArg Value.int (hR1.2.2.2.1)) k
      have k := ly_revb 2 (c' := (138, [(3, .int (Int32.ofInt 1)), (2, .int (Int32.ofInt 1)), (1, .int (nI (lb_s f t q))), (0, .ref B)], [.int ((nI li) + (Int32.ofInt 1)), .ref B], me_w M (nt_u J B 15 (nI (lb_s f t q))))) rfl k
      rw [show ((nI li) + (Int32.ofInt 1) : Int32) = nI (li + 1) from me_add (k := 1)] at k
      have k := me_put rfl (by decide) k
      have k : nt_rn X _ 135 (141, [(3, .int (Int32.ofInt 1)), (2, .int (Int32.ofInt 1)), (1, .int (nI (lb_s f t q))), (0, .ref B)], [], me_w M (nt_u (nt_u J B 15 (nI (lb_s f t q))) B 21 (nI (li + 1)))) _ := k
      have hR2 := yr_li (y := li + 1) hR1
      have k := ly_revb 2 (c' := (if (Int32.ofInt 1) = 0 then 153 else 145, [(3, .int (Int32.ofInt 1)), (2, .int (Int32.ofInt 1)), (1, .int (nI (lb_s f t q))), (0, .ref B)], [], me_w M (nt_u (nt_u J B 15 (nI (lb_s f t q))) B 21 (nI (li + 1))))) rfl k
      rw [if_neg (show ¬ ((Int32.ofInt 1) = 0) from by decide)] at k
      have k := ly_revb 2 (c' := (147, [(3, .int (Int32.ofInt 1)), (2, .int (Int32.ofInt 1)), (1, .int (nI (lb_s f t q))), (0, .ref B)], [.int (nI (lb_s f t q)), .ref B], me_w M (nt_u (nt_u J B 15 (nI (lb_s f t q))) B 21 (nI (li + 1))))) rfl k
      obtain ⟨d1, o1, ed, kc, k⟩ := lz_c (g := 140) (q := 1) (vs := [.ref B, .int (nI (lb_s f t q))]) (rest := []) rfl rfl (by decide) (Or.inr (Or.inl ⟨_, rfl, rfl⟩)) rfl k
      have hbe : ∀ v, v < 0 → ¬ lb_yw f t (lb_s f t q) v := fun v hv => absurd hv (Nat.not_lt_zero _)
      obtain ⟨r, a, J', e1, hrel, hQ⟩ := yr_line0 hW hR2 hp1 hss hb g0 hbe kc
      subst e1
      have k : nt_rn X _ 135 (150, [(3, .int (Int32.ofInt 1)), (2, .int (Int32.ofInt 1)), (1, .int (nI (lb_s f t q))), (0, .ref B)], [.int (a)], me_w M (J')) _ := k
      have k := ly_revb 1 (c' := (157, [(3, .int (Int32.ofInt 1)), (2, .int (Int32.ofInt 1)), (1, .int (nI (lb_s f t q))), (0, .ref B)], [.int (a)], me_w M (J'))) rfl k
      have k := lz_ri rfl (by decide) k
      refine ⟨r, a, J', k, Or.inr ⟨0, by decide, g0, hbe, ?_⟩, yr_Qm (fun v D hh => ⟨0, by decide, g0, hbe, hh⟩) hQ⟩
      rcases hrel with ⟨hf, hrel⟩ | ⟨hf, hrel⟩
      · exact Or.inl ⟨Or.inr (Or.inl (fun c => hf (hk.mp (c.mpr rfl)))), hrel⟩
      · refine Or.inr ⟨fun c => ?_, hrel⟩
        rcases c with c | c | c
        · exact h121 c
        · exact c ⟨fun _ => rfl, fun _ => hk.mpr (Classical.byContradiction hf)⟩
        · exact c
  · have k : nt_rn X _ 135 (36, [(2, .int (Int32.ofInt 1)), (1, .int (nI (lb_s f t q))), (0, .ref B)], [.int (Int32.ofInt 0)], me_w M (nt_u J B 15 (nI (lb_s f t q)))) _ := k
    have k := ly_revb 1 (c' := (if (Int32.ofInt 0) = 0 then 39 else 79, [(2, .int (Int32.ofInt 1)), (1, .int (nI (lb_s f t q))), (0, .ref B)], [], me_w M (nt_u J B 15 (nI (lb_s f t q))))) rfl k
    rw [if_pos (show (Int32.ofInt 0) = 0 from by decide)] at k
    have k := ly_revb 2 (c' := (43, [(2, .int (Int32.ofInt 1)), (1, .int (nI (lb_s f t q))), (0, .ref B)], [.long (1936222576), .ref B], me_w M (nt_u J B 15 (nI (lb_s f t q))))) rfl k
    obtain ⟨d1, o1, ed, kc, k⟩ := lz_c (g := 137) (q := 1) (vs := [.ref B, .long (1936222576)]) (rest := []) rfl rfl (by decide) (Or.inr (Or.inl ⟨_, rfl, rfl⟩)) rfl k
    obtain ⟨r, e1, hr⟩ := md_isWord hR1.1 hR1.2.1 hp1 kc
    rw [hss, me_ui hR1.2.1.1] at e1
    rw [hss, lb_w_ship] at hr
    subst e1
    rcases hr with ⟨rfl, g1⟩ | ⟨rfl, g1⟩
    · have k : nt_rn X _ 135 (46, [(2, .int (Int32.ofInt 1)), (1, .int (nI (lb_s f t q))), (0, .ref B)], [.int (Int32.ofInt 1)], me_w M (nt_u J B 15 (nI (lb_s f t q)))) _ := k
      have k := ly_revb 1 (c' := (if (Int32.ofInt 1) = 0 then 49 else 79, [(2, .int (Int32.ofInt 1)), (1, .int (nI (lb_s f t q))), (0, .ref B)], [], me_w M (nt_u J B 15 (nI (lb_s f t q))))) rfl k
      rw [if_neg (show ¬ ((Int32.ofInt 1) = 0) from by decide)] at k
      have k := ly_revb 5 (c' := (if (Int32.ofInt 1) = 0 then 99 else 106, [(3, .int (Int32.ofInt 1)), (2, .int (Int32.ofInt 1)), (1, .int (nI (lb_s f t q))), (0, .ref B)], [], me_w M (nt_u J B 15 (nI (lb_s f t q))))) rfl k
      rw [if_neg (show ¬ ((Int32.ofInt 1) = 0) from by decide)] at k
      have k := ly_revb 1 (c' := (107, [(3, .int (Int32.ofInt 1)), (2, .int (Int32.ofInt 1)), (1, .int (nI (lb_s f t q))), (0, .ref B)], [.ref B], me_w M (nt_u J B 15 (nI (lb_s f t q))))) rfl k
      have k := lz_get (a := B) (g := 1121) (M := me_w M (nt_u J B 15 (nI (lb_s f t q)))) (v := .int (nI li)) rfl (congrArg Value.int (hR1.2.2.2.1)) k
      have k := ly_revb 2 (c' := (if (Int32.ofInt 1) = 0 then 119 else 114, [(3, .int (Int32.ofInt 1)), (2, .int (Int32.ofInt 1)), (1, .int (nI (lb_s f t q))), (0, .ref B)], [.int (nI li)], me_w M (nt_u J B 15 (nI (lb_s f t q))))) rfl k
      rw [if_neg (show ¬ ((Int32.ofInt 1) = 0) from by decide)] at k
      have k := ly_revb 3 (c' := (if (nI li) = (Int32.ofInt 40) then 124 else 131, [(3, .int (Int32.ofInt 1)), (2, .int (Int32.ofInt 1)), (1, .int (nI (lb_s f t q))), (0, .ref B)], [], me_w M (nt_u J B 15 (nI (lb_s f t q))))) rfl k
      by_cases h121 : li = 40
      · rw [if_pos (show (nI li) = (Int32.ofInt 40) from show nI li = nI 40 from congrArg nI h121)] at k
        have k := ly_revb 3 (c' := (127, [(3, .int (Int32.ofInt 1)), (2, .int (Int32.ofInt 1)), (1, .int (nI (lb_s f t q))), (0, .ref B)], [.int (nI (lb_s f t q)), .int (Int32.ofInt 4), .ref B], me_w M (nt_u J B 15 (nI (lb_s f t q))))) rfl k
        obtain ⟨d1, o1, ed, kc, k⟩ := lz_c (g := 139) (q := 1) (vs := [.ref B, .int (Int32.ofInt 4), .int (nI (lb_s f t q))]) (rest := []) rfl rfl (by decide) (Or.inr (Or.inl ⟨_, rfl, rfl⟩)) rfl k
        obtain ⟨hf, e1⟩ := (md_fails (a := (lb_s f t q)) hR1.1 hR1.2.1 hp1 kc).resolve_right (fun c => c.1 rfl)
        subst e1
        have hR2 := yr_up hR1 (md_Sw (y := lb_c ((lb_s f t q)) (Int32.ofInt 4)) hR1.1 hR1.2.1)
        have k : nt_rn X _ 135 (130, [(3, .int (Int32.ofInt 1)), (2, .int (Int32.ofInt 1)), (1, .int (nI (lb_s f t q))), (0, .ref B)], [.int (Int32.ofInt 0)], me_w M (nt_u (nt_u J B 15 (nI (lb_s f t q))) B 16 (lb_c ((lb_s f t q)) (Int32.ofInt 4)))) _ := k
        have k := lz_ri rfl (by decide) k
        exact ⟨.inl (lb_c ((lb_s f t q)) (Int32.ofInt 4)), _, _, k, Or.inr ⟨1, by decide, g1, fun v hv => by rcases (by omega : v = 0) with rfl <;> assumption, Or.inl ⟨Or.inl h121, rfl⟩⟩, (lb_c_ne (by omega) (by decide) (by decide)), rfl, _, _, _, _, hp1, hR2⟩
      · rw [if_neg (show ¬ ((nI li) = (Int32.ofInt 40)) from show ¬ nI li = nI 40 from me_ne h121 (by omega) (by omega))] at k
        have k := ly_revb 2 (c' := (133, [(3, .int (Int32.ofInt 1)), (2, .int (Int32.ofInt 1)), (1, .int (nI (lb_s f t q))), (0, .ref B)], [.ref B, .ref B], me_w M (nt_u J B 15 (nI (lb_s f t q))))) rfl k
        have k := lz_get (a := B) (g := 1121) (M := me_w M (nt_u J B 15 (nI (lb_s f t q)))) (v := .int (nI li)) rfl (congrArg Value.int (hR1.2.2.2.1)) k
        have k := ly_revb 2 (c' := (138, [(3, .int (Int32.ofInt 1)), (2, .int (Int32.ofInt 1)), (1, .int (nI (lb_s f t q))), (0, .ref B)], [.int ((nI li) + (Int32.ofInt 1)), .ref B], me_w M (nt_u J B 15 (nI (lb_s f t q))))) rfl k
        rw [show ((nI li) + (Int32.ofInt 1) : Int32) = nI (li + 1) from me_add (k := 1)] at k
        have k := me_put rfl (by decide) k
        have k : nt_rn X _ 135 (141, [(3, .int (Int32.ofInt 1)), (2, .int (Int32.ofInt 1)), (1, .int (nI (lb_s f t q))), (0, .ref B)], [], me_w M (nt_u (nt_u J B 15 (nI (lb_s f t q))) B 21 (nI (li + 1)))) _ := k
        have hR2 := yr_li (y := li + 1) hR1
        have k := ly_revb 2 (c' := (if (Int32.ofInt 1) = 0 then 153 else 145, [(3, .int (Int32.ofInt 1)), (2, .int (Int32.ofInt 1)), (1, .int (nI (lb_s f t q))), (0, .ref B)], [], me_w M (nt_u (nt_u J B 15 (nI (lb_s f t q))) B 21 (nI (li + 1))))) rfl k
        rw [if_neg (show ¬ ((Int32.ofInt 1) = 0) from by decide)] at k
        have k := ly_revb 2 (c' := (147, [(3, .int (Int32.ofInt 1)), (2, .int (Int32.ofInt 1)), (1, .int (nI (lb_s f t q))), (0, .ref B)], [.int (nI (lb_s f t q)), .ref B], me_w M (nt_u (nt_u J B 15 (nI (lb_s f t q))) B 21 (nI (li + 1))))) rfl k
        obtain ⟨d1, o1, ed, kc, k⟩ := lz_c (g := 140) (q := 1) (vs := [.ref B, .int (nI (lb_s f t q))]) (rest := []) rfl rfl (by decide) (Or.inr (Or.inl ⟨_, rfl, rfl⟩)) rfl k
        have hbe : ∀ v, v < 1 → ¬ lb_yw f t (lb_s f t q) v := fun v hv => by rcases (by omega : v = 0) with rfl <;> assumption
        obtain ⟨r, a, J', e1, hrel, hQ⟩ := yr_line1 hW hR2 hp1 hss hb g1 hbe kc
        subst e1
        have k : nt_rn X _ 135 (150, [(3, .int (Int32.ofInt 1)), (2, .int (Int32.ofInt 1)), (1, .int (nI (lb_s f t q))), (0, .ref B)], [.int (a)], me_w M (J')) _ := k
        have k := ly_revb 1 (c' := (157, [(3, .int (Int32.ofInt 1)), (2, .int (Int32.ofInt 1)), (1, .int (nI (lb_s f t q))), (0, .ref B)], [.int (a)], me_w M (J'))) rfl k
        have k := lz_ri rfl (by decide) k
        refine ⟨r, a, J', k, Or.inr ⟨1, by decide, g1, hbe, ?_⟩, yr_Qm (fun v D hh => ⟨1, by decide, g1, hbe, hh⟩) hQ⟩
        rcases hrel with ⟨hf, hrel⟩ | ⟨hf, hrel⟩
        · refine Or.inl ⟨?_, hrel⟩
          rcases hf with hf | hf
          · exact Or.inr (Or.inl (fun c => absurd (c.mp (hk.mpr hf)) (by decide)))
          · exact Or.inr (Or.inr hf)
        · refine Or.inr ⟨fun c => ?_, hrel⟩
          rcases c with c | c | c
          · exact h121 c
          · exact c ⟨fun h0 => absurd (Or.inl (hk.mp h0)) hf, fun h0 => absurd h0 (by decide)⟩
          · exact hf (Or.inr c)
    · have k : nt_rn X _ 135 (46, [(2, .int (Int32.ofInt 1)), (1, .int (nI (lb_s f t q))), (0, .ref B)], [.int (Int32.ofInt 0)], me_w M (nt_u J B 15 (nI (lb_s f t q)))) _ := k
      have k := ly_revb 1 (c' := (if (Int32.ofInt 0) = 0 then 49 else 79, [(2, .int (Int32.ofInt 1)), (1, .int (nI (lb_s f t q))), (0, .ref B)], [], me_w M (nt_u J B 15 (nI (lb_s f t q))))) rfl k
      rw [if_pos (show (Int32.ofInt 0) = 0 from by decide)] at k
      have k := ly_revb 2 (c' := (53, [(2, .int (Int32.ofInt 1)), (1, .int (nI (lb_s f t q))), (0, .ref B)], [.long (482854661739), .ref B], me_w M (nt_u J B 15 (nI (lb_s f t q))))) rfl k
      obtain ⟨d1, o1, ed, kc, k⟩ := lz_c (g := 137) (q := 1) (vs := [.ref B, .long (482854661739)]) (rest := []) rfl rfl (by decide) (Or.inr (Or.inl ⟨_, rfl, rfl⟩)) rfl k
      obtain ⟨r, e1, hr⟩ := md_isWord hR1.1 hR1.2.1 hp1 kc
      rw [hss, me_ui hR1.2.1.1] at e1
      rw [hss, lb_w_plank] at hr
      subst e1
      rcases hr with ⟨rfl, g2⟩ | ⟨rfl, g2⟩
      · have k : nt_rn X _ 135 (56, [(2, .int (Int32.ofInt 1)), (1, .int (nI (lb_s f t q))), (0, .ref B)], [.int (Int32.ofInt 1)], me_w M (nt_u J B 15 (nI (lb_s f t q)))) _ := k
        have k := ly_revb 1 (c' := (if (Int32.ofInt 1) = 0 then 59 else 79, [(2, .int (Int32.ofInt 1)), (1, .int (nI (lb_s f t q))), (0, .ref B)], [], me_w M (nt_u J B 15 (nI (lb_s f t q))))) rfl k
        rw [if_neg (show ¬ ((Int32.ofInt 1) = 0) from by decide)] at k
        have k := ly_revb 5 (c' := (if (Int32.ofInt 1) = 0 then 99 else 106, [(3, .int (Int32.ofInt 1)), (2, .int (Int32.ofInt 1)), (1, .int (nI (lb_s f t q))), (0, .ref B)], [], me_w M (nt_u J B 15 (nI (lb_s f t q))))) rfl k
        rw [if_neg (show ¬ ((Int32.ofInt 1) = 0) from by decide)] at k
        have k := ly_revb 1 (c' := (107, [(3, .int (Int32.ofInt 1)), (2, .int (Int32.ofInt 1)), (1, .int (nI (lb_s f t q))), (0, .ref B)], [.ref B], me_w M (nt_u J B 15 (nI (lb_s f t q))))) rfl k
        have k := lz_get (a := B) (g := 1121) (M := me_w M (nt_u J B 15 (nI (lb_s f t q)))) (v := .int (nI li)) rfl (congrArg Value.int (hR1.2.2.2.1)) k
        have k := ly_revb 2 (c' := (if (Int32.ofInt 1) = 0 then 119 else 114, [(3, .int (Int32.ofInt 1)), (2, .int (Int32.ofInt 1)), (1, .int (nI (lb_s f t q))), (0, .ref B)], [.int (nI li)], me_w M (nt_u J B 15 (nI (lb_s f t q))))) rfl k
        rw [if_neg (show ¬ ((Int32.ofInt 1) = 0) from by decide)] at k
        have k := ly_revb 3 (c' := (if (nI li) = (Int32.ofInt 40) then 124 else 131, [(3, .int (Int32.ofInt 1)), (2, .int (Int32.ofInt 1)), (1, .int (nI (lb_s f t q))), (0, .ref B)], [], me_w M (nt_u J B 15 (nI (lb_s f t q))))) rfl k
        by_cases h121 : li = 40
        · rw [if_pos (show (nI li) = (Int32.ofInt 40) from show nI li = nI 40 from congrArg nI h121)] at k
          have k := ly_revb 3 (c' := (127, [(3, .int (Int32.ofInt 1)), (2, .int (Int32.ofInt 1)), (1, .int (nI (lb_s f t q))), (0, .ref B)], [.int (nI (lb_s f t q)), .int (Int32.ofInt 4), .ref B], me_w M (nt_u J B 15 (nI (lb_s f t q))))) rfl k
          obtain ⟨d1, o1, ed, kc, k⟩ := lz_c (g := 139) (q := 1) (vs := [.ref B, .int (Int32.ofInt 4), .int (nI (lb_s f t q))]) (rest := []) rfl rfl (by decide) (Or.inr (Or.inl ⟨_, rfl, rfl⟩)) rfl k
          obtain ⟨hf, e1⟩ := (md_fails (a := (lb_s f t q)) hR1.1 hR1.2.1 hp1 kc).resolve_right (fun c => c.1 rfl)
          subst e1
          have hR2 := yr_up hR1 (md_Sw (y := lb_c ((lb_s f t q)) (Int32.ofInt 4)) hR1.1 hR1.2.1)
          have k : nt_rn X _ 135 (130, [(3, .int (Int32.ofInt 1)), (2, .int (Int32.ofInt 1)), (1, .int (nI (lb_s f t q))), (0, .ref B)], [.int (Int32.ofInt 0)], me_w M (nt_u (nt_u J B 15 (nI (lb_s f t q))) B 16 (lb_c ((lb_s f t q)) (Int32.ofInt 4)))) _ := k
          have k := lz_ri rfl (by decide) k
          exact ⟨.inl (lb_c ((lb_s f t q)) (Int32.ofInt 4)), _, _, k, Or.inr ⟨2, by decide, g2, fun v hv => by rcases (by omega : v = 0 ∨ v = 1) with rfl | rfl <;> assumption, Or.inl ⟨Or.inl h121, rfl⟩⟩, (lb_c_ne (by omega) (by decide) (by decide)), rfl, _, _, _, _, hp1, hR2⟩
        · rw [if_neg (show ¬ ((nI li) = (Int32.ofInt 40)) from show ¬ nI li = nI 40 from me_ne h121 (by omega) (by omega))] at k
          have k := ly_revb 2 (c' := (133, [(3, .int (Int32.ofInt 1)), (2, .int (Int32.ofInt 1)), (1, .int (nI (lb_s f t q))), (0, .ref B)], [.ref B, .ref B], me_w M (nt_u J B 15 (nI (lb_s f t q))))) rfl k
          have k := lz_get (a := B) (g := 1121) (M := me_w M (nt_u J B 15 (nI (lb_s f t q)))) (v := .int (nI li)) rfl (congrArg Value.int (hR1.2.2.2.1)) k
          have k := ly_revb 2 (c' := (138, [(3, .int (Int32.ofInt 1)), (2, .int (Int32.ofInt 1)), (1, .int (nI (lb_s f t q))), (0, .ref B)], [.int ((nI li) + (Int32.ofInt 1)), .ref B], me_w M (nt_u J B 15 (nI (lb_s f t q))))) rfl k
          rw [show ((nI li) + (Int32.ofInt 1) : Int32) = nI (li + 1) from me_add (k := 1)] at k
          have k := me_put rfl (by decide) k
          have k : nt_rn X _ 135 (141, [(3, .int (Int32.ofInt 1)), (2, .int (Int32.ofInt 1)), (1, .int (nI (lb_s f t q))), (0, .ref B)], [], me_w M (nt_u (nt_u J B 15 (nI (lb_s f t q))) B 21 (nI (li + 1)))) _ := k
          have hR2 := yr_li (y := li + 1) hR1
          have k := ly_revb 2 (c' := (if (Int32.ofInt 1) = 0 then 153 else 145, [(3, .int (Int32.ofInt 1)), (2, .int (Int32.ofInt 1)), (1, .int (nI (lb_s f t q))), (0, .ref B)], [], me_w M (nt_u (nt_u J B 15 (nI (lb_s f t q))) B 21 (nI (li + 1))))) rfl k
          rw [if_neg (show ¬ ((Int32.ofInt 1) = 0) from by decide)] at k
          have k := ly_revb 2 (c' := (147, [(3, .int (Int32.ofInt 1)), (2, .int (Int32.ofInt 1)), (1, .int (nI (lb_s f t q))), (0, .ref B)], [.int (nI (lb_s f t q)), .ref B], me_w M (nt_u (nt_u J B 15 (nI (lb_s f t q))) B 21 (nI (li + 1))))) rfl k
          obtain ⟨d1, o1, ed, kc, k⟩ := lz_c (g := 140) (q := 1) (vs := [.ref B, .int (nI (lb_s f t q))]) (rest := []) rfl rfl (by decide) (Or.inr (Or.inl ⟨_, rfl, rfl⟩)) rfl k
          have hbe : ∀ v, v < 2 → ¬ lb_yw f t (lb_s f t q) v := fun v hv => by rcases (by omega : v = 0 ∨ v = 1) with rfl | rfl <;> assumption
          obtain ⟨r, a, J', e1, hrel, hQ⟩ := yr_line2 hW hR2 hp1 hss hb g2 hbe kc
          subst e1
          have k : nt_rn X _ 135 (150, [(3, .int (Int32.ofInt 1)), (2, .int (Int32.ofInt 1)), (1, .int (nI (lb_s f t q))), (0, .ref B)], [.int (a)], me_w M (J')) _ := k
          have k := ly_revb 1 (c' := (157, [(3, .int (Int32.ofInt 1)), (2, .int (Int32.ofInt 1)), (1, .int (nI (lb_s f t q))), (0, .ref B)], [.int (a)], me_w M (J'))) rfl k
          have k := lz_ri rfl (by decide) k
          refine ⟨r, a, J', k, Or.inr ⟨2, by decide, g2, hbe, ?_⟩, yr_Qm (fun v D hh => ⟨2, by decide, g2, hbe, hh⟩) hQ⟩
          rcases hrel with ⟨hf, hrel⟩ | ⟨hf, hrel⟩
          · refine Or.inl ⟨?_, hrel⟩
            rcases hf with hf | hf
            · exact Or.inr (Or.inl (fun c => absurd (c.mp (hk.mpr hf)) (by decide)))
            · exact Or.inr (Or.inr hf)
          · refine Or.inr ⟨fun c => ?_, hrel⟩
            rcases c with c | c | c
            · exact h121 c
            · exact c ⟨fun h0 => absurd (Or.inl (hk.mp h0)) hf, fun h0 => absurd h0 (by decide)⟩
            · exact hf (Or.inr c)
      · have k : nt_rn X _ 135 (56, [(2, .int (Int32.ofInt 1)), (1, .int (nI (lb_s f t q))), (0, .ref B)], [.int (Int32.ofInt 0)], me_w M (nt_u J B 15 (nI (lb_s f t q)))) _ := k
        have k := ly_revb 1 (c' := (if (Int32.ofInt 0) = 0 then 59 else 79, [(2, .int (Int32.ofInt 1)), (1, .int (nI (lb_s f t q))), (0, .ref B)], [], me_w M (nt_u J B 15 (nI (lb_s f t q))))) rfl k
        rw [if_pos (show (Int32.ofInt 0) = 0 from by decide)] at k
        have k := ly_revb 2 (c' := (63, [(2, .int (Int32.ofInt 1)), (1, .int (nI (lb_s f t q))), (0, .ref B)], [.long (130221149874021), .ref B], me_w M (nt_u J B 15 (nI (lb_s f t q))))) rfl k
        obtain ⟨d1, o1, ed, kc, k⟩ := lz_c (g := 137) (q := 1) (vs := [.ref B, .long (130221149874021)]) (rest := []) rfl rfl (by decide) (Or.inr (Or.inl ⟨_, rfl, rfl⟩)) rfl k
        obtain ⟨r, e1, hr⟩ := md_isWord hR1.1 hR1.2.1 hp1 kc
        rw [hss, me_ui hR1.2.1.1] at e1
        rw [hss, lb_w_voyage] at hr
        subst e1
        rcases hr with ⟨rfl, g3⟩ | ⟨rfl, g3⟩
        · have k : nt_rn X _ 135 (66, [(2, .int (Int32.ofInt 1)), (1, .int (nI (lb_s f t q))), (0, .ref B)], [.int (Int32.ofInt 1)], me_w M (nt_u J B 15 (nI (lb_s f t q)))) _ := k
          have k := ly_revb 1 (c' := (if (Int32.ofInt 1) = 0 then 69 else 79, [(2, .int (Int32.ofInt 1)), (1, .int (nI (lb_s f t q))), (0, .ref B)], [], me_w M (nt_u J B 15 (nI (lb_s f t q))))) rfl k
          rw [if_neg (show ¬ ((Int32.ofInt 1) = 0) from by decide)] at k
          have k := ly_revb 5 (c' := (if (Int32.ofInt 1) = 0 then 99 else 106, [(3, .int (Int32.ofInt 1)), (2, .int (Int32.ofInt 1)), (1, .int (nI (lb_s f t q))), (0, .ref B)], [], me_w M (nt_u J B 15 (nI (lb_s f t q))))) rfl k
          rw [if_neg (show ¬ ((Int32.ofInt 1) = 0) from by decide)] at k
          have k := ly_revb 1 (c' := (107, [(3, .int (Int32.ofInt 1)), (2, .int (Int32.ofInt 1)), (1, .int (nI (lb_s f t q))), (0, .ref B)], [.ref B], me_w M (nt_u J B 15 (nI (lb_s f t q))))) rfl k
          have k := lz_get (a := B) (g := 1121) (M := me_w M (nt_u J B 15 (nI (lb_s f t q)))) (v := .int (nI li)) rfl (congrArg Value.int (hR1.2.2.2.1)) k
          have k := ly_revb 2 (c' := (if (Int32.ofInt 1) = 0 then 119 else 114, [(3, .int (Int32.ofInt 1)), (2, .int (Int32.ofInt 1)), (1, .int (nI (lb_s f t q))), (0, .ref B)], [.int (nI li)], me_w M (nt_u J B 15 (nI (lb_s f t q))))) rfl k
          rw [if_neg (show ¬ ((Int32.ofInt 1) = 0) from by decide)] at k
          have k := ly_revb 3 (c' := (if (nI li) = (Int32.ofInt 40) then 124 else 131, [(3, .int (Int32.ofInt 1)), (2, .int (Int32.ofInt 1)), (1, .int (nI (lb_s f t q))), (0, .ref B)], [], me_w M (nt_u J B 15 (nI (lb_s f t q))))) rfl k
          by_cases h121 : li = 40
          · rw [if_pos (show (nI li) = (Int32.ofInt 40) from show nI li = nI 40 from congrArg nI h121)] at k
            have k := ly_revb 3 (c' := (127, [(3, .int (Int32.ofInt 1)), (2, .int (Int32.ofInt 1)), (1, .int (nI (lb_s f t q))), (0, .ref B)], [.int (nI (lb_s f t q)), .int (Int32.ofInt 4), .ref B], me_w M (nt_u J B 15 (nI (lb_s f t q))))) rfl k
            obtain ⟨d1, o1, ed, kc, k⟩ := lz_c (g := 139) (q := 1) (vs := [.ref B, .int (Int32.ofInt 4), .int (nI (lb_s f t q))]) (rest := []) rfl rfl (by decide) (Or.inr (Or.inl ⟨_, rfl, rfl⟩)) rfl k
            obtain ⟨hf, e1⟩ := (md_fails (a := (lb_s f t q)) hR1.1 hR1.2.1 hp1 kc).resolve_right (fun c => c.1 rfl)
            subst e1
            have hR2 := yr_up hR1 (md_Sw (y := lb_c ((lb_s f t q)) (Int32.ofInt 4)) hR1.1 hR1.2.1)
            have k : nt_rn X _ 135 (130, [(3, .int (Int32.ofInt 1)), (2, .int (Int32.ofInt 1)), (1, .int (nI (lb_s f t q))), (0, .ref B)], [.int (Int32.ofInt 0)], me_w M (nt_u (nt_u J B 15 (nI (lb_s f t q))) B 16 (lb_c ((lb_s f t q)) (Int32.ofInt 4)))) _ := k
            have k := lz_ri rfl (by decide) k
            exact ⟨.inl (lb_c ((lb_s f t q)) (Int32.ofInt 4)), _, _, k, Or.inr ⟨3, by decide, g3, fun v hv => by rcases (by omega : v = 0 ∨ v = 1 ∨ v = 2) with rfl | rfl | rfl <;> assumption, Or.inl ⟨Or.inl h121, rfl⟩⟩, (lb_c_ne (by omega) (by decide) (by decide)), rfl, _, _, _, _, hp1, hR2⟩
          · rw [if_neg (show ¬ ((nI li) = (Int32.ofInt 40)) from show ¬ nI li = nI 40 from me_ne h121 (by omega) (by omega))] at k
            have k := ly_revb 2 (c' := (133, [(3, .int (Int32.ofInt 1)), (2, .int (Int32.ofInt 1)), (1, .int (nI (lb_s f t q))), (0, .ref B)], [.ref B, .ref B], me_w M (nt_u J B 15 (nI (lb_s f t q))))) rfl k
            have k := lz_get (a := B) (g := 1121) (M := me_w M (nt_u J B 15 (nI (lb_s f t q)))) (v := .int (nI li)) rfl (congrArg Value.int (hR1.2.2.2.1)) k
            have k := ly_revb 2 (c' := (138, [(3, .int (Int32.ofInt 1)), (2, .int (Int32.ofInt 1)), (1, .int (nI (lb_s f t q))), (0, .ref B)], [.int ((nI li) + (Int32.ofInt 1)), .ref B], me_w M (nt_u J B 15 (nI (lb_s f t q))))) rfl k
            rw [show ((nI li) + (Int32.ofInt 1) : Int32) = nI (li + 1) from me_add (k := 1)] at k
            have k := me_put rfl (by decide) k
            have k : nt_rn X _ 135 (141, [(3, .int (Int32.ofInt 1)), (2, .int (Int32.ofInt 1)), (1, .int (nI (lb_s f t q))), (0, .ref B)], [], me_w M (nt_u (nt_u J B 15 (nI (lb_s f t q))) B 21 (nI (li + 1)))) _ := k
            have hR2 := yr_li (y := li + 1) hR1
            have k := ly_revb 2 (c' := (if (Int32.ofInt 1) = 0 then 153 else 145, [(3, .int (Int32.ofInt 1)), (2, .int (Int32.ofInt 1)), (1, .int (nI (lb_s f t q))), (0, .ref B)], [], me_w M (nt_u (nt_u J B 15 (nI (lb_s f t q))) B 21 (nI (li + 1))))) rfl k
            rw [if_neg (show ¬ ((Int32.ofInt 1) = 0) from by decide)] at k
            have k := ly_revb 2 (c' := (147, [(3, .int (Int32.ofInt 1)), (2, .int (Int32.ofInt 1)), (1, .int (nI (lb_s f t q))), (0, .ref B)], [.int (nI (lb_s f t q)), .ref B], me_w M (nt_u (nt_u J B 15 (nI (lb_s f t q))) B 21 (nI (li + 1))))) rfl k
            obtain ⟨d1, o1, ed, kc, k⟩ := lz_c (g := 140) (q := 1) (vs := [.ref B, .int (nI (lb_s f t q))]) (rest := []) rfl rfl (by decide) (Or.inr (Or.inl ⟨_, rfl, rfl⟩)) rfl k
            have hbe : ∀ v, v < 3 → ¬ lb_yw f t (lb_s f t q) v := fun v hv => by rcases (by omega : v = 0 ∨ v = 1 ∨ v = 2) with rfl | rfl | rfl <;> assumption
            obtain ⟨r, a, J', e1, hrel, hQ⟩ := yr_line3 hW hR2 hp1 hss hb g3 hbe kc
            subst e1
            have k : nt_rn X _ 135 (150, [(3, .int (Int32.ofInt 1)), (2, .int (Int32.ofInt 1)), (1, .int (nI (lb_s f t q))), (0, .ref B)], [.int (a)], me_w M (J')) _ := k
            have k := ly_revb 1 (c' := (157, [(3, .int (Int32.ofInt 1)), (2, .int (Int32.ofInt 1)), (1, .int (nI (lb_s f t q))), (0, .ref B)], [.int (a)], me_w M (J'))) rfl k
            have k := lz_ri rfl (by decide) k
            refine ⟨r, a, J', k, Or.inr ⟨3, by decide, g3, hbe, ?_⟩, yr_Qm (fun v D hh => ⟨3, by decide, g3, hbe, hh⟩) hQ⟩
            rcases hrel with ⟨hf, hrel⟩ | ⟨hf, hrel⟩
            · refine Or.inl ⟨?_, hrel⟩
              rcases hf with hf | hf
              · exact Or.inr (Or.inl (fun c => absurd (c.mp (hk.mpr hf)) (by decide)))
              · exact Or.inr (Or.inr hf)
            · refine Or.inr ⟨fun c => ?_, hrel⟩
              rcases c with c | c | c
              · exact h121 c
              · exact c ⟨fun h0 => absurd (Or.inl (hk.mp h0)) hf, fun h0 => absurd h0 (by decide)⟩
              · exact hf (Or.inr c)
        · have k : nt_rn X _ 135 (66, [(2, .int (Int32.ofInt 1)), (1, .int (nI (lb_s f t q))), (0, .ref B)], [.int (Int32.ofInt 0)], me_w M (nt_u J B 15 (nI (lb_s f t q)))) _ := k
          have k := ly_revb 1 (c' := (if (Int32.ofInt 0) = 0 then 69 else 79, [(2, .int (Int32.ofInt 1)), (1, .int (nI (lb_s f t q))), (0, .ref B)], [], me_w M (nt_u J B 15 (nI (lb_s f t q))))) rfl k
          rw [if_pos (show (Int32.ofInt 0) = 0 from by decide)] at k
          have k := ly_revb 2 (c' := (73, [(2, .int (Int32.ofInt 1)), (1, .int (nI (lb_s f t q))), (0, .ref B)], [.long (448311223411), .ref B], me_w M (nt_u J B 15 (nI (lb_s f t q))))) rfl k
          obtain ⟨d1, o1, ed, kc, k⟩ := lz_c (g := 137) (q := 1) (vs := [.ref B, .long (448311223411)]) (rest := []) rfl rfl (by decide) (Or.inr (Or.inl ⟨_, rfl, rfl⟩)) rfl k
          obtain ⟨r, e1, hr⟩ := md_isWord hR1.1 hR1.2.1 hp1 kc
          rw [hss, me_ui hR1.2.1.1] at e1
          rw [hss, lb_w_hands] at hr
          subst e1
          rcases hr with ⟨rfl, g4⟩ | ⟨rfl, g4⟩
          · have k : nt_rn X _ 135 (76, [(2, .int (Int32.ofInt 1)), (1, .int (nI (lb_s f t q))), (0, .ref B)], [.int (Int32.ofInt 1)], me_w M (nt_u J B 15 (nI (lb_s f t q)))) _ := k
            have k := ly_revb 1 (c' := (if (Int32.ofInt 1) = 0 then 83 else 79, [(2, .int (Int32.ofInt 1)), (1, .int (nI (lb_s f t q))), (0, .ref B)], [], me_w M (nt_u J B 15 (nI (lb_s f t q))))) rfl k
            rw [if_neg (show ¬ ((Int32.ofInt 1) = 0) from by decide)] at k
            have k := ly_revb 5 (c' := (if (Int32.ofInt 1) = 0 then 99 else 106, [(3, .int (Int32.ofInt 1)), (2, .int (Int32.ofInt 1)), (1, .int (nI (lb_s f t q))), (0, .ref B)], [], me_w M (nt_u J B 15 (nI (lb_s f t q))))) rfl k
            rw [if_neg (show ¬ ((Int32.ofInt 1) = 0) from by decide)] at k
            have k := ly_revb 1 (c' := (107, [(3, .int (Int32.ofInt 1)), (2, .int (Int32.ofInt 1)), (1, .int (nI (lb_s f t q))), (0, .ref B)], [.ref B], me_w M (nt_u J B 15 (nI (lb_s f t q))))) rfl k
            have k := lz_get (a := B) (g := 1121) (M := me_w M (nt_u J B 15 (nI (lb_s f t q)))) (v := .int (nI li)) rfl (congrArg Value.int (hR1.2.2.2.1)) k
            have k := ly_revb 2 (c' := (if (Int32.ofInt 1) = 0 then 119 else 114, [(3, .int (Int32.ofInt 1)), (2, .int (Int32.ofInt 1)), (1, .int (nI (lb_s f t q))), (0, .ref B)], [.int (nI li)], me_w M (nt_u J B 15 (nI (lb_s f t q))))) rfl k
            rw [if_neg (show ¬ ((Int32.ofInt 1) = 0) from by decide)] at k
            have k := ly_revb 3 (c' := (if (nI li) = (Int32.ofInt 40) then 124 else 131, [(3, .int (Int32.ofInt 1)), (2, .int (Int32.ofInt 1)), (1, .int (nI (lb_s f t q))), (0, .ref B)], [], me_w M (nt_u J B 15 (nI (lb_s f t q))))) rfl k
            by_cases h121 : li = 40
            · rw [if_pos (show (nI li) = (Int32.ofInt 40) from show nI li = nI 40 from congrArg nI h121)] at k
              have k := ly_revb 3 (c' := (127, [(3, .int (Int32.ofInt 1)), (2, .int (Int32.ofInt 1)), (1, .int (nI (lb_s f t q))), (0, .ref B)], [.int (nI (lb_s f t q)), .int (Int32.ofInt 4), .ref B], me_w M (nt_u J B 15 (nI (lb_s f t q))))) rfl k
              obtain ⟨d1, o1, ed, kc, k⟩ := lz_c (g := 139) (q := 1) (vs := [.ref B, .int (Int32.ofInt 4), .int (nI (lb_s f t q))]) (rest := []) rfl rfl (by decide) (Or.inr (Or.inl ⟨_, rfl, rfl⟩)) rfl k
              obtain ⟨hf, e1⟩ := (md_fails (a := (lb_s f t q)) hR1.1 hR1.2.1 hp1 kc).resolve_right (fun c => c.1 rfl)
              subst e1
              have hR2 := yr_up hR1 (md_Sw (y := lb_c ((lb_s f t q)) (Int32.ofInt 4)) hR1.1 hR1.2.1)
              have k : nt_rn X _ 135 (130, [(3, .int (Int32.ofInt 1)), (2, .int (Int32.ofInt 1)), (1, .int (nI (lb_s f t q))), (0, .ref B)], [.int (Int32.ofInt 0)], me_w M (nt_u (nt_u J B 15 (nI (lb_s f t q))) B 16 (lb_c ((lb_s f t q)) (Int32.ofInt 4)))) _ := k
              have k := lz_ri rfl (by decide) k
              exact ⟨.inl (lb_c ((lb_s f t q)) (Int32.ofInt 4)), _, _, k, Or.inr ⟨4, by decide, g4, fun v hv => by rcases (by omega : v = 0 ∨ v = 1 ∨ v = 2 ∨ v = 3) with rfl | rfl | rfl | rfl <;> assumption, Or.inl ⟨Or.inl h121, rfl⟩⟩, (lb_c_ne (by omega) (by decide) (by decide)), rfl, _, _, _, _, hp1, hR2⟩
            · rw [if_neg (show ¬ ((nI li) = (Int32.ofInt 40)) from show ¬ nI li = nI 40 from me_ne h121 (by omega) (by omega))] at k
              have k := ly_revb 2 (c' := (133, [(3, .int (Int32.ofInt 1)), (2, .int (Int32.ofInt 1)), (1, .int (nI (lb_s f t q))), (0, .ref B)], [.ref B, .ref B], me_w M (nt_u J B 15 (nI (lb_s f t q))))) rfl k
              have k := lz_get (a := B) (g := 1121) (M := me_w M (nt_u J B 15 (nI (lb_s f t q)))) (v := .int (nI li)) rfl (congrArg Value.int (hR1.2.2.2.1)) k
              have k := ly_revb 2 (c' := (138, [(3, .int (Int32.ofInt 1)), (2, .int (Int32.ofInt 1)), (1, .int (nI (lb_s f t q))), (0, .ref B)], [.int ((nI li) + (Int32.ofInt 1)), .ref B], me_w M (nt_u J B 15 (nI (lb_s f t q))))) rfl k
              rw [show ((nI li) + (Int32.ofInt 1) : Int32) = nI (li + 1) from me_add (k := 1)] at k
              have k := me_put rfl (by decide) k
              have k : nt_rn X _ 135 (141, [(3, .int (Int32.ofInt 1)), (2, .int (Int32.ofInt 1)), (1, .int (nI (lb_s f t q))), (0, .ref B)], [], me_w M (nt_u (nt_u J B 15 (nI (lb_s f t q))) B 21 (nI (li + 1)))) _ := k
              have hR2 := yr_li (y := li + 1) hR1
              have k := ly_revb 2 (c' := (if (Int32.ofInt 1) = 0 then 153 else 145, [(3, .int (Int32.ofInt 1)), (2, .int (Int32.ofInt 1)), (1, .int (nI (lb_s f t q))), (0, .ref B)], [], me_w M (nt_u (nt_u J B 15 (nI (lb_s f t q))) B 21 (nI (li + 1))))) rfl k
              rw [if_neg (show ¬ ((Int32.ofInt 1) = 0) from by decide)] at k
              have k := ly_revb 2 (c' := (147, [(3, .int (Int32.ofInt 1)), (2, .int (Int32.ofInt 1)), (1, .int (nI (lb_s f t q))), (0, .ref B)], [.int (nI (lb_s f t q)), .ref B], me_w M (nt_u (nt_u J B 15 (nI (lb_s f t q))) B 21 (nI (li + 1))))) rfl k
              obtain ⟨d1, o1, ed, kc, k⟩ := lz_c (g := 140) (q := 1) (vs := [.ref B, .int (nI (lb_s f t q))]) (rest := []) rfl rfl (by decide) (Or.inr (Or.inl ⟨_, rfl, rfl⟩)) rfl k
              have hbe : ∀ v, v < 4 → ¬ lb_yw f t (lb_s f t q) v := fun v hv => by rcases (by omega : v = 0 ∨ v = 1 ∨ v = 2 ∨ v = 3) with rfl | rfl | rfl | rfl <;> assumption
              obtain ⟨r, a, J', e1, hrel, hQ⟩ := yr_line4 hW hR2 hp1 hss hb g4 hbe kc
              subst e1
              have k : nt_rn X _ 135 (150, [(3, .int (Int32.ofInt 1)), (2, .int (Int32.ofInt 1)), (1, .int (nI (lb_s f t q))), (0, .ref B)], [.int (a)], me_w M (J')) _ := k
              have k := ly_revb 1 (c' := (157, [(3, .int (Int32.ofInt 1)), (2, .int (Int32.ofInt 1)), (1, .int (nI (lb_s f t q))), (0, .ref B)], [.int (a)], me_w M (J'))) rfl k
              have k := lz_ri rfl (by decide) k
              refine ⟨r, a, J', k, Or.inr ⟨4, by decide, g4, hbe, ?_⟩, yr_Qm (fun v D hh => ⟨4, by decide, g4, hbe, hh⟩) hQ⟩
              rcases hrel with ⟨hf, hrel⟩ | ⟨hf, hrel⟩
              · refine Or.inl ⟨?_, hrel⟩
                rcases hf with hf | hf
                · exact Or.inr (Or.inl (fun c => absurd (c.mp (hk.mpr hf)) (by decide)))
                · exact Or.inr (Or.inr hf)
              · refine Or.inr ⟨fun c => ?_, hrel⟩
                rcases c with c | c | c
                · exact h121 c
                · exact c ⟨fun h0 => absurd (Or.inl (hk.mp h0)) hf, fun h0 => absurd h0 (by decide)⟩
                · exact hf (Or.inr c)
          · have k : nt_rn X _ 135 (76, [(2, .int (Int32.ofInt 1)), (1, .int (nI (lb_s f t q))), (0, .ref B)], [.int (Int32.ofInt 0)], me_w M (nt_u J B 15 (nI (lb_s f t q)))) _ := k
            have k := ly_revb 1 (c' := (if (Int32.ofInt 0) = 0 then 83 else 79, [(2, .int (Int32.ofInt 1)), (1, .int (nI (lb_s f t q))), (0, .ref B)], [], me_w M (nt_u J B 15 (nI (lb_s f t q))))) rfl k
            rw [if_pos (show (Int32.ofInt 0) = 0 from by decide)] at k
            have k := ly_revb 5 (c' := (if (Int32.ofInt 0) = 0 then 99 else 106, [(3, .int (Int32.ofInt 0)), (2, .int (Int32.ofInt 1)), (1, .int (nI (lb_s f t q))), (0, .ref B)], [], me_w M (nt_u J B 15 (nI (lb_s f t q))))) rfl k
            rw [if_pos (show (Int32.ofInt 0) = 0 from by decide)] at k
            have k := ly_revb 3 (c' := (102, [(3, .int (Int32.ofInt 0)), (2, .int (Int32.ofInt 1)), (1, .int (nI (lb_s f t q))), (0, .ref B)], [.int (nI (lb_s f t q)), .int (Int32.ofInt 0), .ref B], me_w M (nt_u J B 15 (nI (lb_s f t q))))) rfl k
            obtain ⟨d1, o1, ed, kc, k⟩ := lz_c (g := 139) (q := 1) (vs := [.ref B, .int (Int32.ofInt 0), .int (nI (lb_s f t q))]) (rest := []) rfl rfl (by decide) (Or.inr (Or.inl ⟨_, rfl, rfl⟩)) rfl k
            obtain ⟨hf, e1⟩ := (md_fails (a := (lb_s f t q)) hR1.1 hR1.2.1 hp1 kc).resolve_right (fun c => c.1 rfl)
            subst e1
            have hR2 := yr_up hR1 (md_Sw (y := lb_c ((lb_s f t q)) (Int32.ofInt 0)) hR1.1 hR1.2.1)
            have k : nt_rn X _ 135 (105, [(3, .int (Int32.ofInt 0)), (2, .int (Int32.ofInt 1)), (1, .int (nI (lb_s f t q))), (0, .ref B)], [.int (Int32.ofInt 0)], me_w M (nt_u (nt_u J B 15 (nI (lb_s f t q))) B 16 (lb_c ((lb_s f t q)) (Int32.ofInt 0)))) _ := k
            have k := lz_ri rfl (by decide) k
            refine ⟨.inl (lb_c ((lb_s f t q)) (Int32.ofInt 0)), _, _, k, Or.inl ⟨fun v hv => ?_, rfl⟩, (lb_c_ne (by omega) (by decide) (by decide)), rfl, _, _, _, _, hp1, hR2⟩
            rcases (by omega : v = 0 ∨ v = 1 ∨ v = 2 ∨ v = 3 ∨ v = 4) with rfl | rfl | rfl | rfl | rfl
            · exact g0
            · exact g1
            · exact g2
            · exact g3
            · exact g4
/-- what was read, as it lies -/
def yr_E (R0 R1 R2 B Sg Ln : Nat) (u : Nat × Nat × Nat × Nat × Nat) (D : lb_C) (J : Nat → Nat → Int32) : Prop := (J B 7 = nI u.1 ∧ J B 8 = nI u.2.1 ∧ J B 9 = nI u.2.2.1 ∧ J B 10 = nI u.2.2.2.1 ∧ J B 11 = lb_hh u.2.2.2.2) ∧ yr_C R0 R1 R2 B Sg Ln D J
theorem yr_E1 {R0 R1 R2 B Sg Ln : Nat} {u : Nat × Nat × Nat × Nat × Nat} {D : lb_C} {J : Nat → Nat → Int32} {x : Int32} (h1 : J B 7 = nI u.1 ∧ J B 8 = nI u.2.1 ∧ J B 9 = nI u.2.2.1 ∧ J B 10 = nI u.2.2.2.1 ∧ J B 11 = lb_hh u.2.2.2.2) (h2 : yr_C R0 R1 R2 B Sg Ln D J) : yr_E R0 R1 R2 B Sg Ln u D (nt_u J B 1 x) := ⟨⟨(me_uk (by decide)).trans h1.1, (me_uk (by decide)).trans h1.2.1, (me_uk (by decide)).trans h1.2.2.1, (me_uk (by decide)).trans h1.2.2.2.1, (me_uk (by decide)).trans h1.2.2.2.2⟩, yr_Cr h2 (fun a n1 _ _ => me_uo n1)⟩
theorem yr_rdl {X : nt_X} {d t B Tb Sg Ln m R0 R1 R2 : Nat} {f : Nat → Int32} {M : nt_M} {e : Nat × (Nat → Int32)} {o : Option Value × nt_M} (hW : yr_W M B Tb Sg Ln R0 R1 R2) : ∀ (c : Nat) (u : Nat × Nat × Nat × Nat × Nat) (q li : Nat) (C : lb_C) (J : Nat → Nat → Int32), 40 - li < c → li ≠ 0 → li ≤ 40 → lb_ub u → u.1 ≠ 0 → yr_T R0 R1 R2 C M f t B Tb Sg Ln q 0 m e u li J → q ≤ t → nt_rn X d 134 (35, [(1, .int (Int32.ofInt 1)), (0, .ref B)], [], me_w M J) o → ∃ r a J', o = (some (.int a), me_w M J') ∧ ((lb_g f t (lb_s f t q) = Int32.ofInt 59 ∧ ∃ k, lb_ya f t k li (lb_s f t (lb_s f t q + 1), u) r) ∨ (lb_g f t (lb_s f t q) = Int32.ofInt (-1) ∧ r = .inr (lb_s f t q, u)) ∨ (¬ lb_g f t (lb_s f t q) = Int32.ofInt 59 ∧ ¬ lb_g f t (lb_s f t q) = Int32.ofInt (-1) ∧ r = .inl (lb_c (lb_s f t q) (Int32.ofInt 0)))) ∧ ((∃ c, r = .inl c ∧ c ≠ 0 ∧ a = Int32.ofInt 0 ∧ J' B 16 = c) ∨ ∃ w D, r = .inr w ∧ a = Int32.ofInt 1 ∧ lb_ub w.2 ∧ ((lb_g f t (lb_s f t q) = Int32.ofInt 59 ∧ ∃ k, lb_yaC f t k li (lb_s f t (lb_s f t q + 1), u) w C D) ∨ (lb_g f t (lb_s f t q) = Int32.ofInt (-1) ∧ w = (lb_s f t q, u) ∧ D = C)) ∧ yr_E R0 R1 R2 B Sg Ln w.2 D J') := by
  intro cc
  induction cc with
  | zero => intro u q li C J hc; omega
  | succ cc ih =>
    intro u q li C J hcc hli hl hb hk1 hT hp k
    have t4 : t ≤ 400 := hT.1.2.2.2.2.2.1
    have hk : li = 0 ↔ u.1 = 0 := ⟨fun h => absurd h hli, fun h => absurd h hk1⟩
    have k := ly_revb 2 (c' := (if (Int32.ofInt 1) = 0 then 66 else 39, [(1, .int (Int32.ofInt 1)), (0, .ref B)], [], me_w M J)) rfl k
    rw [if_neg (show ¬ ((Int32.ofInt 1) = 0) from by decide)] at k
    have k := ly_revb 1 (c' := (40, [(1, .int (Int32.ofInt 1)), (0, .ref B)], [.ref B], me_w M J)) rfl k
    obtain ⟨d1, o1, ed, kc, k⟩ := lz_c (g := 136) (q := 1) (vs := [.ref B]) (rest := []) rfl rfl (by decide) (Or.inr (Or.inl ⟨_, rfl, rfl⟩)) rfl k
    have e1 := md_see hT.1 hT.2.1 hp kc
    subst e1
    have hR1 := yr_up hT (md_Sq (y := lb_s f t q) hT.1 hT.2.1)
    have hp1 : lb_s f t q ≤ t := (lb_s_le (t - q) q (by omega)).2
    have hss : lb_s f t (lb_s f t q) = lb_s f t q := lb_ss hp
    have k : nt_rn X _ 134 (43, [(1, .int (Int32.ofInt 1)), (0, .ref B)], [.int (lb_g f t (lb_s f t q))], me_w M (nt_u J B 15 (nI (lb_s f t q)))) _ := k
    have k : nt_rn X _ 134 (43, [(1, .int (Int32.ofInt 1)), (0, .ref B)], [.int (lb_g f t (lb_s f t q))], me_w M (nt_u J B 15 (nI (lb_s f t q)))) _ := k
    have k := ly_revb 2 (c' := (if (lb_g f t (lb_s f t q)) = (Int32.ofInt 59) then 48 else 66, [(1, .int (Int32.ofInt 1)), (0, .ref B)], [], me_w M (nt_u J B 15 (nI (lb_s f t q))))) rfl k
    by_cases h45 : lb_g f t (lb_s f t q) = Int32.ofInt 59
    · rw [if_pos (show (lb_g f t (lb_s f t q)) = (Int32.ofInt 59) from h45)] at k
      have k := ly_revb 2 (c' := (50, [(1, .int (Int32.ofInt 1)), (0, .ref B)], [.ref B, .ref B], me_w M (nt_u J B 15 (nI (lb_s f t q))))) rfl k
      have k := lz_get (a := B) (g := 1115) (M := me_w M (nt_u J B 15 (nI (lb_s f t q)))) (v := .int (nI (lb_s f t q))) rfl (congrArg Value.int (hR1.2.1.1)) k
      have k := ly_revb 2 (c' := (55, [(1, .int (Int32.ofInt 1)), (0, .ref B)], [.int ((nI (lb_s f t q)) + (Int32.ofInt 1)), .ref B], me_w M (nt_u J B 15 (nI (lb_s f t q))))) rfl k
      rw [show ((nI (lb_s f t q)) + (Int32.ofInt 1) : Int32) = nI ((lb_s f t q) + 1) from me_add (k := 1)] at k
      have k := me_put rfl (by decide) k
      have k : nt_rn X _ 134 (58, [(1, .int (Int32.ofInt 1)), (0, .ref B)], [], me_w M (nt_u (nt_u J B 15 (nI (lb_s f t q))) B 15 (nI ((lb_s f t q) + 1)))) _ := k
      have hlt : lb_s f t q < t := lb_g_lt (by rw [h45]; decide)
      have hR2 := yr_up hR1 (md_Sq (y := lb_s f t q + 1) hR1.1 hR1.2.1)
      have k := ly_revb 1 (c' := (59, [(1, .int (Int32.ofInt 1)), (0, .ref B)], [.ref B], me_w M (nt_u (nt_u J B 15 (nI (lb_s f t q))) B 15 (nI ((lb_s f t q) + 1))))) rfl k
      obtain ⟨d1, o1, ed, kc, k⟩ := lz_c (g := 135) (q := 1) (vs := [.ref B]) (rest := []) rfl rfl (by decide) (Or.inr (Or.inl ⟨_, rfl, rfl⟩)) rfl k
      obtain ⟨r3, a3, J3, e1, hyc, hQ⟩ := yr_clause hW hR2 (show lb_s f t q + 1 ≤ t from hlt) hb hk hl kc
      subst e1
      rcases r3 with c | w3
      · obtain ⟨hc, rfl, q3, u3, l3, D3, hq3, hT3⟩ := hQ
        have k : nt_rn X _ 134 (62, [(1, .int (Int32.ofInt 1)), (0, .ref B)], [.int (Int32.ofInt 0)], me_w M J3) _ := k
        have k := ly_revb 2 (c' := (35, [(1, .int (Int32.ofInt 0)), (0, .ref B)], [], me_w M J3)) rfl k
        have k := ly_revb 2 (c' := (if (Int32.ofInt 0) = 0 then 66 else 39, [(1, .int (Int32.ofInt 0)), (0, .ref B)], [], me_w M J3)) rfl k
        rw [if_pos (show (Int32.ofInt 0) = 0 from by decide)] at k
        have k := ly_revb 2 (c' := (if (Int32.ofInt 0) = 0 then 88 else 70, [(1, .int (Int32.ofInt 0)), (0, .ref B)], [], me_w M J3)) rfl k
        rw [if_pos (show (Int32.ofInt 0) = 0 from by decide)] at k
        have k := ly_revb 2 (c' := (90, [(1, .int (Int32.ofInt 0)), (0, .ref B)], [.int (Int32.ofInt 0), .ref B], me_w M J3)) rfl k
        have k := me_put rfl (by decide) k
        have k : nt_rn X _ 134 (93, [(1, .int (Int32.ofInt 0)), (0, .ref B)], [], me_w M (nt_u J3 B 1 (Int32.ofInt 0))) _ := k
        have k := ly_revb 1 (c' := (94, [(1, .int (Int32.ofInt 0)), (0, .ref B)], [.ref B], me_w M (nt_u J3 B 1 (Int32.ofInt 0)))) rfl k
        have k := lz_get (a := B) (g := 1116) (M := me_w M (nt_u J3 B 1 (Int32.ofInt 0))) (v := .int (c)) rfl (congrArg Value.int ((me_uk (by decide)).trans (hT3.2.1.2.1))) k
        have k := ly_revb 1 (c' := (if c = 0 then 100 else 104, [(1, .int (Int32.ofInt 0)), (0, .ref B)], [], me_w M (nt_u J3 B 1 (Int32.ofInt 0)))) rfl k
        rw [if_neg (show ¬ (c = 0) from hc)] at k
        have k := ly_revb 1 (c' := (105, [(1, .int (Int32.ofInt 0)), (0, .ref B)], [.int (Int32.ofInt 0)], me_w M (nt_u J3 B 1 (Int32.ofInt 0)))) rfl k
        have k := lz_ri rfl (by decide) k
        exact ⟨.inl (c), _, _, k, Or.inl ⟨h45, 1, _, hyc, Or.inl ⟨c, rfl, rfl⟩⟩, Or.inl ⟨_, rfl, hc, rfl, (me_uk (by decide)).trans hT3.2.1.2.1⟩⟩
      · obtain ⟨rfl, hb3, hk3, q3, D3, hz3, hq3, hC3, hT3⟩ := hQ
        have k : nt_rn X _ 134 (62, [(1, .int (Int32.ofInt 1)), (0, .ref B)], [.int (Int32.ofInt 1)], me_w M J3) _ := k
        have k := ly_revb 2 (c' := (35, [(1, .int (Int32.ofInt 1)), (0, .ref B)], [], me_w M J3)) rfl k
        have hl3 : li < 40 := by
          apply Classical.byContradiction
          intro hh
          obtain ⟨w, _, _, _, h9⟩ := hyc.resolve_left (fun h => by cases h.2)
          rcases h9 with ⟨_, h9⟩ | ⟨h9, _⟩
          · cases h9
          · exact h9 (Or.inl (by omega))
        obtain ⟨r, a, J', e9, htl, hf⟩ := ih w3.2 q3 (li + 1) D3 _ (by omega) (by omega) (by omega) hb3 hk3 hT3 hq3 k
        rw [hz3] at htl hf
        refine ⟨r, a, J', e9, Or.inl ⟨h45, ?_⟩, hf.imp_right (fun ⟨w, D, x1, x2, x3, x4, x5⟩ => ⟨w, D, x1, x2, x3, Or.inl ⟨h45, x4.elim (fun ⟨g1, k9, h9⟩ => ⟨k9 + 1, _, _, hyc, hC3, Or.inl ⟨g1, h9⟩⟩) (fun ⟨g1, g2, g3⟩ => ⟨1, _, _, hyc, hC3, Or.inr ⟨g1, g2, g3⟩⟩)⟩, x5⟩)⟩
        rcases htl with ⟨g1, k9, h9⟩ | h9 | h9
        · exact ⟨k9 + 1, _, hyc, Or.inr ⟨w3, rfl, Or.inl ⟨g1, h9⟩⟩⟩
        · exact ⟨1, _, hyc, Or.inr ⟨w3, rfl, Or.inr (Or.inl h9)⟩⟩
        · exact ⟨1, _, hyc, Or.inr ⟨w3, rfl, Or.inr (Or.inr h9)⟩⟩
    · rw [if_neg (show ¬ ((lb_g f t (lb_s f t q)) = (Int32.ofInt 59)) from h45)] at k
      have k := ly_revb 2 (c' := (if (Int32.ofInt 1) = 0 then 88 else 70, [(1, .int (Int32.ofInt 1)), (0, .ref B)], [], me_w M (nt_u J B 15 (nI (lb_s f t q))))) rfl k
      rw [if_neg (show ¬ ((Int32.ofInt 1) = 0) from by decide)] at k
      have k := ly_revb 1 (c' := (71, [(1, .int (Int32.ofInt 1)), (0, .ref B)], [.ref B], me_w M (nt_u J B 15 (nI (lb_s f t q))))) rfl k
      obtain ⟨d1, o1, ed, kc, k⟩ := lz_c (g := 136) (q := 1) (vs := [.ref B]) (rest := []) rfl rfl (by decide) (Or.inr (Or.inl ⟨_, rfl, rfl⟩)) rfl k
      have e1 := md_see hR1.1 hR1.2.1 hp1 kc
      rw [hss, me_ui hR1.2.1.1] at e1
      subst e1
      have k : nt_rn X _ 134 (74, [(1, .int (Int32.ofInt 1)), (0, .ref B)], [.int (lb_g f t (lb_s f t q))], me_w M (nt_u J B 15 (nI (lb_s f t q)))) _ := k
      have k := ly_revb 2 (c' := (if (lb_g f t (lb_s f t q)) = (Int32.ofInt (-1)) then 88 else 78, [(1, .int (Int32.ofInt 1)), (0, .ref B)], [], me_w M (nt_u J B 15 (nI (lb_s f t q))))) rfl k
      by_cases h75 : lb_g f t (lb_s f t q) = Int32.ofInt (-1)
      · rw [if_pos (show (lb_g f t (lb_s f t q)) = (Int32.ofInt (-1)) from h75)] at k
        have k := ly_revb 2 (c' := (90, [(1, .int (Int32.ofInt 1)), (0, .ref B)], [.int (Int32.ofInt 0), .ref B], me_w M (nt_u J B 15 (nI (lb_s f t q))))) rfl k
        have k := me_put rfl (by decide) k
        have k : nt_rn X _ 134 (93, [(1, .int (Int32.ofInt 1)), (0, .ref B)], [], me_w M (nt_u (nt_u J B 15 (nI (lb_s f t q))) B 1 (Int32.ofInt 0))) _ := k
        have k := ly_revb 1 (c' := (94, [(1, .int (Int32.ofInt 1)), (0, .ref B)], [.ref B], me_w M (nt_u (nt_u J B 15 (nI (lb_s f t q))) B 1 (Int32.ofInt 0)))) rfl k
        have k := lz_get (a := B) (g := 1116) (M := me_w M (nt_u (nt_u J B 15 (nI (lb_s f t q))) B 1 (Int32.ofInt 0))) (v := .int ((0 : Int32))) rfl (congrArg Value.int ((me_uk (by decide)).trans (hR1.2.1.2.1))) k
        have k := ly_revb 1 (c' := (if ((0 : Int32)) = 0 then 100 else 104, [(1, .int (Int32.ofInt 1)), (0, .ref B)], [], me_w M (nt_u (nt_u J B 15 (nI (lb_s f t q))) B 1 (Int32.ofInt 0)))) rfl k
        rw [if_pos (show ((0 : Int32)) = 0 from rfl)] at k
        have k := ly_revb 2 (c' := (105, [(1, .int (Int32.ofInt 1)), (0, .ref B)], [.int (Int32.ofInt 1)], me_w M (nt_u (nt_u J B 15 (nI (lb_s f t q))) B 1 (Int32.ofInt 0)))) rfl k
        have k := lz_ri rfl (by decide) k
        exact ⟨.inr (lb_s f t q, u), _, _, k, Or.inr (Or.inl ⟨h75, rfl⟩), Or.inr ⟨_, C, rfl, rfl, hb, Or.inr ⟨h75, rfl, rfl⟩, yr_E1 hR1.2.2.1 hR1.2.2.2.2⟩⟩
      · rw [if_neg (show ¬ ((lb_g f t (lb_s f t q)) = (Int32.ofInt (-1))) from h75)] at k
        have k := ly_revb 3 (c' := (81, [(1, .int (Int32.ofInt 1)), (0, .ref B)], [.ref B, .int (Int32.ofInt 0), .ref B], me_w M (nt_u J B 15 (nI (lb_s f t q))))) rfl k
        have k := lz_get (a := B) (g := 1115) (M := me_w M (nt_u J B 15 (nI (lb_s f t q)))) (v := .int (nI (lb_s f t q))) rfl (congrArg Value.int (hR1.2.1.1)) k
        obtain ⟨d1, o1, ed, kc, k⟩ := lz_c (g := 139) (q := 1) (vs := [.ref B, .int (Int32.ofInt 0), .int (nI (lb_s f t q))]) (rest := []) rfl rfl (by decide) (Or.inr (Or.inl ⟨_, rfl, rfl⟩)) rfl k
        obtain ⟨hf, e1⟩ := (md_fails (a := (lb_s f t q)) hR1.1 hR1.2.1 hp1 kc).resolve_right (fun c => c.1 rfl)
        subst e1
        have hR2 := yr_up hR1 (md_Sw (y := lb_c ((lb_s f t q)) (Int32.ofInt 0)) hR1.1 hR1.2.1)
        have k : nt_rn X _ 134 (87, [(1, .int (Int32.ofInt 1)), (0, .ref B)], [.int (Int32.ofInt 0)], me_w M (nt_u (nt_u J B 15 (nI (lb_s f t q))) B 16 (lb_c ((lb_s f t q)) (Int32.ofInt 0)))) _ := k
        have k := ly_revb 3 (c' := (90, [(1, .int (Int32.ofInt 1)), (0, .ref B)], [.int (Int32.ofInt 0), .ref B], me_w M (nt_u (nt_u J B 15 (nI (lb_s f t q))) B 16 (lb_c ((lb_s f t q)) (Int32.ofInt 0))))) rfl k
        have k := me_put rfl (by decide) k
        have k : nt_rn X _ 134 (93, [(1, .int (Int32.ofInt 1)), (0, .ref B)], [], me_w M (nt_u (nt_u (nt_u J B 15 (nI (lb_s f t q))) B 16 (lb_c ((lb_s f t q)) (Int32.ofInt 0))) B 1 (Int32.ofInt 0))) _ := k
        have k := ly_revb 1 (c' := (94, [(1, .int (Int32.ofInt 1)), (0, .ref B)], [.ref B], me_w M (nt_u (nt_u (nt_u J B 15 (nI (lb_s f t q))) B 16 (lb_c ((lb_s f t q)) (Int32.ofInt 0))) B 1 (Int32.ofInt 0)))) rfl k
        have k := lz_get (a := B) (g := 1116) (M := me_w M (nt_u (nt_u (nt_u J B 15 (nI (lb_s f t q))) B 16 (lb_c ((lb_s f t q)) (Int32.ofInt 0))) B 1 (Int32.ofInt 0))) (v := .int (lb_c ((lb_s f t q)) (Int32.ofInt 0))) rfl (congrArg Value.int ((me_uk (by decide)).trans (hR2.2.1.2.1))) k
        have k := ly_revb 1 (c' := (if (lb_c ((lb_s f t q)) (Int32.ofInt 0)) = 0 then 100 else 104, [(1, .int (Int32.ofInt 1)), (0, .ref B)], [], me_w M (nt_u (nt_u (nt_u J B 15 (nI (lb_s f t q))) B 16 (lb_c ((lb_s f t q)) (Int32.ofInt 0))) B 1 (Int32.ofInt 0)))) rfl k
        rw [if_neg (show ¬ ((lb_c ((lb_s f t q)) (Int32.ofInt 0)) = 0) from (lb_c_ne (by omega) (by decide) (by decide)))] at k
        have k := ly_revb 1 (c' := (105, [(1, .int (Int32.ofInt 1)), (0, .ref B)], [.int (Int32.ofInt 0)], me_w M (nt_u (nt_u (nt_u J B 15 (nI (lb_s f t q))) B 16 (lb_c ((lb_s f t q)) (Int32.ofInt 0))) B 1 (Int32.ofInt 0)))) rfl k
        have k := lz_ri rfl (by decide) k
        exact ⟨.inl (lb_c ((lb_s f t q)) (Int32.ofInt 0)), _, _, k, Or.inr (Or.inr ⟨h45, h75, rfl⟩), Or.inl ⟨_, rfl, (lb_c_ne (by omega) (by decide) (by decide)), rfl, (me_uk (by decide)).trans hR2.2.1.2.1⟩⟩
theorem yr_reads {C : lb_C} {X : nt_X} {d t B Tb Sg Ln R0 R1 R2 : Nat} {f : Nat → Int32} {M : nt_M} {J : Nat → Nat → Int32} {o : Option Value × nt_M} (hW : yr_W M B Tb Sg Ln R0 R1 R2) (hP : md_P M J f t 6 B Tb Sg Ln) (h0 : J B 7 = nI 0 ∧ J B 8 = nI 0 ∧ J B 9 = nI 0 ∧ J B 10 = nI 0 ∧ J B 11 = lb_hh 0) (hC : yr_C R0 R1 R2 B Sg Ln C J) (k : nt_ev X d 134 [.ref B] (me_w M J) o) : ∃ r a J', o = (some (.int a), me_w M J') ∧ (∃ n, lb_ya f t n 0 (lb_s f t 0, (0, 0, 0, 0, 0)) r) ∧ ((∃ c, r = .inl c ∧ c ≠ 0 ∧ a = Int32.ofInt 0 ∧ J' B 16 = c) ∨ ∃ w D, r = .inr w ∧ a = Int32.ofInt 1 ∧ lb_ub w.2 ∧ (∃ k, lb_yaC f t k 0 (lb_s f t 0, (0, 0, 0, 0, 0)) w C D) ∧ yr_E R0 R1 R2 B Sg Ln w.2 D J') := by
  have k : nt_rn X d 134 (0, [(0, .ref B)], [], me_w M J) o := k
  have t4 : t ≤ 400 := hP.2.2.2.2.2.1
  have k := ly_revb 1 (c' := (1, [(0, .ref B)], [.ref B], me_w M J)) rfl k
  have k := lz_get (a := B) (g := 1104) (M := me_w M J) (v := .ref Ln) rfl (nt_gfR rfl hP.1.2.2) k
  have k := ly_revb 1 (c' := (5, [(0, .ref B)], [.ref B, .ref Ln], me_w M J)) rfl k
  have k := lz_get (a := B) (g := 1118) (M := me_w M J) (v := .int (nI 6)) rfl (congrArg Value.int (hP.2.2.2.1)) k
  have k := ly_revb 1 (c' := (9, [(0, .ref B)], [.int (Int32.ofInt 0), .int (nI 6), .ref Ln], me_w M J)) rfl k
  have k := me_iast (q := 6) rfl (rfl) (by omega) k
  have k := ly_revb 2 (c' := (12, [(0, .ref B)], [.int (Int32.ofInt 0), .ref B], me_w M (nt_u J Ln 6 (Int32.ofInt 0)))) rfl k
  have k := me_put rfl (by decide) k
  have k : nt_rn X _ 134 (15, [(0, .ref B)], [], me_w M (nt_u (nt_u J Ln 6 (Int32.ofInt 0)) B 21 (Int32.ofInt 0))) _ := k
  have k := ly_revb 2 (c' := (17, [(0, .ref B)], [.int (Int32.ofInt 0), .ref B], me_w M (nt_u (nt_u J Ln 6 (Int32.ofInt 0)) B 21 (Int32.ofInt 0)))) rfl k
  have k := me_put rfl (by decide) k
  have k : nt_rn X _ 134 (20, [(0, .ref B)], [], me_w M (nt_u (nt_u (nt_u J Ln 6 (Int32.ofInt 0)) B 21 (Int32.ofInt 0)) B 15 (Int32.ofInt 0))) _ := k
  have k := ly_revb 2 (c' := (22, [(0, .ref B)], [.int (Int32.ofInt 0), .ref B], me_w M (nt_u (nt_u (nt_u J Ln 6 (Int32.ofInt 0)) B 21 (Int32.ofInt 0)) B 15 (Int32.ofInt 0)))) rfl k
  have k := me_put rfl (by decide) k
  have k : nt_rn X _ 134 (25, [(0, .ref B)], [], me_w M (nt_u (nt_u (nt_u (nt_u J Ln 6 (Int32.ofInt 0)) B 21 (Int32.ofInt 0)) B 15 (Int32.ofInt 0)) B 16 (Int32.ofInt 0))) _ := k
  have k := ly_revb 2 (c' := (27, [(0, .ref B)], [.int (Int32.ofInt 0), .ref B], me_w M (nt_u (nt_u (nt_u (nt_u J Ln 6 (Int32.ofInt 0)) B 21 (Int32.ofInt 0)) B 15 (Int32.ofInt 0)) B 16 (Int32.ofInt 0)))) rfl k
  have k := me_put rfl (by decide) k
  have k : nt_rn X _ 134 (30, [(0, .ref B)], [], me_w M (nt_u (nt_u (nt_u (nt_u (nt_u J Ln 6 (Int32.ofInt 0)) B 21 (Int32.ofInt 0)) B 15 (Int32.ofInt 0)) B 16 (Int32.ofInt 0)) B 19 (Int32.ofInt 0))) _ := k
  have n2 := hP.2.1.2.2.2.2.1
  have n3 := hP.2.1.2.2.1
  have hT : yr_T R0 R1 R2 C M f t B Tb Sg Ln 0 0 0 (0, fun _ => 0) (0, 0, 0, 0, 0) 0 (nt_u (nt_u (nt_u (nt_u (nt_u J Ln 6 (Int32.ofInt 0)) B 21 (Int32.ofInt 0)) B 15 (Int32.ofInt 0)) B 16 (Int32.ofInt 0)) B 19 (Int32.ofInt 0)) := by
    refine ⟨⟨hP.1, hP.2.1, (me_uk (by decide)).trans ((me_uk (by decide)).trans ((me_uk (by decide)).trans ((me_uk (by decide)).trans ((me_uj (hP.2.1.2.2.2.2.1)).trans (hP.2.2.1))))), (me_uk (by decide)).trans ((me_uk (by decide)).trans ((me_uk (by decide)).trans ((me_uk (by decide)).trans ((me_uj (hP.2.1.2.2.2.2.1)).trans (hP.2.2.2.1))))), fun j => ?_, hP.2.2.2.2.2⟩, ⟨(me_uk (by decide)).trans ((me_uk (by decide)).trans me_us), (me_uk (by decide)).trans me_us, me_us, ?_, fun j hj => absurd hj (Nat.not_lt_zero _), fun _ _ _ _ _ => rfl, fun _ _ _ _ => rfl, Nat.zero_le _, Nat.zero_le _⟩, ⟨(me_uk (by decide)).trans ((me_uk (by decide)).trans ((me_uk (by decide)).trans ((me_uk (by decide)).trans ((me_uj (hP.2.1.2.2.2.2.1)).trans (h0.1))))), (me_uk (by decide)).trans ((me_uk (by decide)).trans ((me_uk (by decide)).trans ((me_uk (by decide)).trans ((me_uj (hP.2.1.2.2.2.2.1)).trans (h0.2.1))))), (me_uk (by decide)).trans ((me_uk (by decide)).trans ((me_uk (by decide)).trans ((me_uk (by decide)).trans ((me_uj (hP.2.1.2.2.2.2.1)).trans (h0.2.2.1))))), (me_uk (by decide)).trans ((me_uk (by decide)).trans ((me_uk (by decide)).trans ((me_uk (by decide)).trans ((me_uj (hP.2.1.2.2.2.2.1)).trans (h0.2.2.2.1))))), (me_uk (by decide)).trans ((me_uk (by decide)).trans ((me_uk (by decide)).trans ((me_uk (by decide)).trans ((me_uj (hP.2.1.2.2.2.2.1)).trans (h0.2.2.2.2)))))⟩, (me_uk (by decide)).trans ((me_uk (by decide)).trans ((me_uk (by decide)).trans me_us)), yr_Cr hC (fun a z1 z2 z3 => (me_uo z1).trans ((me_uo z1).trans ((me_uo z1).trans ((me_uo z1).trans (me_uo z3)))))⟩
    · rw [me_uj hP.2.1.1, me_uj hP.2.1.1, me_uj hP.2.1.1, me_uj hP.2.1.1, me_uj n3]
      exact hP.2.2.2.2.1 j
    · rw [me_uj (Ne.symm n2), me_uj (Ne.symm n2), me_uj (Ne.symm n2), me_uj (Ne.symm n2), me_us]
      rfl
  have hb : lb_ub (0, 0, 0, 0, 0) := ⟨by decide, by decide, by decide, by decide, by decide⟩
  have hk : (0 : Nat) = 0 ↔ ((0, 0, 0, 0, 0) : Nat × Nat × Nat × Nat × Nat).1 = 0 := ⟨fun _ => rfl, fun _ => rfl⟩
  have hl : (0 : Nat) ≤ 40 := by decide
  have k := ly_revb 1 (c' := (31, [(0, .ref B)], [.ref B], me_w M (nt_u (nt_u (nt_u (nt_u (nt_u J Ln 6 (Int32.ofInt 0)) B 21 (Int32.ofInt 0)) B 15 (Int32.ofInt 0)) B 16 (Int32.ofInt 0)) B 19 (Int32.ofInt 0)))) rfl k
  obtain ⟨d1, o1, ed, kc, k⟩ := lz_c (g := 135) (q := 1) (vs := [.ref B]) (rest := []) rfl rfl (by decide) (Or.inr (Or.inl ⟨_, rfl, rfl⟩)) rfl k
  obtain ⟨r3, a3, J3, e1, hyc, hQ⟩ := yr_clause hW hT (Nat.zero_le _) hb hk hl kc
  subst e1
  rcases r3 with c | w3
  · obtain ⟨hc, rfl, q3, u3, l3, D3, hq3, hT3⟩ := hQ
    have k : nt_rn X _ 134 (34, [(0, .ref B)], [.int (Int32.ofInt 0)], me_w M J3) _ := k
    have k := ly_revb 1 (c' := (35, [(1, .int (Int32.ofInt 0)), (0, .ref B)], [], me_w M J3)) rfl k
    have k := ly_revb 2 (c' := (if (Int32.ofInt 0) = 0 then 66 else 39, [(1, .int (Int32.ofInt 0)), (0, .ref B)], [], me_w M J3)) rfl k
    rw [if_pos (show (Int32.ofInt 0) = 0 from by decide)] at k
    have k := ly_revb 2 (c' := (if (Int32.ofInt 0) = 0 then 88 else 70, [(1, .int (Int32.ofInt 0)), (0, .ref B)], [], me_w M J3)) rfl k
    rw [if_pos (show (Int32.ofInt 0) = 0 from by decide)] at k
    have k := ly_revb 2 (c' := (90, [(1, .int (Int32.ofInt 0)), (0, .ref B)], [.int (Int32.ofInt 0), .ref B], me_w M J3)) rfl k
    have k := me_put rfl (by decide) k
    have k : nt_rn X _ 134 (93, [(1, .int (Int32.ofInt 0)), (0, .ref B)], [], me_w M (nt_u J3 B 1 (Int32.ofInt 0))) _ := k
    have k := ly_revb 1 (c' := (94, [(1, .int (Int32.ofInt 0)), (0, .ref B)], [.ref B], me_w M (nt_u J3 B 1 (Int32.ofInt 0)))) rfl k
    have k := lz_get (a := B) (g := 1116) (M := me_w M (nt_u J3 B 1 (Int32.ofInt 0))) (v := .int (c)) rfl (congrArg Value.int ((me_uk (by decide)).trans (hT3.2.1.2.1))) k
    have k := ly_revb 1 (c' := (if c = 0 then 100 else 104, [(1, .int (Int32.ofInt 0)), (0, .ref B)], [], me_w M (nt_u J3 B 1 (Int32.ofInt 0)))) rfl k
    rw [if_neg (show ¬ (c = 0) from hc)] at k
    have k := ly_revb 1 (c' := (105, [(1, .int (Int32.ofInt 0)), (0, .ref B)], [.int (Int32.ofInt 0)], me_w M (nt_u J3 B 1 (Int32.ofInt 0)))) rfl k
    have k := lz_ri rfl (by decide) k
    exact ⟨.inl (c), _, _, k, ⟨1, _, hyc, Or.inl ⟨c, rfl, rfl⟩⟩, Or.inl ⟨_, rfl, hc, rfl, (me_uk (by decide)).trans hT3.2.1.2.1⟩⟩
  · obtain ⟨rfl, hb3, hk3, q3, D3, hz3, hq3, hC3, hT3⟩ := hQ
    have k : nt_rn X _ 134 (34, [(0, .ref B)], [.int (Int32.ofInt 1)], me_w M J3) _ := k
    have k := ly_revb 1 (c' := (35, [(1, .int (Int32.ofInt 1)), (0, .ref B)], [], me_w M J3)) rfl k
    obtain ⟨r, a, J', e9, htl, hf⟩ := yr_rdl hW 41 w3.2 q3 (0 + 1) D3 _ (by decide) (by decide) (by decide) hb3 hk3 hT3 hq3 k
    rw [hz3] at htl hf
    refine ⟨r, a, J', e9, ?_, hf.imp_right (fun ⟨w, D, x1, x2, x3, x4, x5⟩ => ⟨w, D, x1, x2, x3, x4.elim (fun ⟨g1, k9, h9⟩ => ⟨k9 + 1, _, _, hyc, hC3, Or.inl ⟨g1, h9⟩⟩) (fun ⟨g1, g2, g3⟩ => ⟨1, _, _, hyc, hC3, Or.inr ⟨g1, g2, g3⟩⟩), x5⟩)⟩
    rcases htl with ⟨g1, k9, h9⟩ | h9 | h9
    · exact ⟨k9 + 1, _, hyc, Or.inr ⟨w3, rfl, Or.inl ⟨g1, h9⟩⟩⟩
    · exact ⟨1, _, hyc, Or.inr ⟨w3, rfl, Or.inr (Or.inl h9)⟩⟩
    · exact ⟨1, _, hyc, Or.inr ⟨w3, rfl, Or.inr (Or.inr h9)⟩⟩
