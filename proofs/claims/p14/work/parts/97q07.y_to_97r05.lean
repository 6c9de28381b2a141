section
/-! the other side's clauses of a yard -/
theorem yr_line0 {R0 R1 R2 : Nat} {C : lb_C} {X : nt_X} {d t B Tb Sg Ln q m li : Nat} {f : Nat → Int32} {M : nt_M} {e : Nat × (Nat → Int32)} {u : Nat × Nat × Nat × Nat × Nat} {J : Nat → Nat → Int32} {o : Option Value × nt_M} (hW : yr_W M B Tb Sg Ln R0 R1 R2) (hT : yr_T R0 R1 R2 C M f t B Tb Sg Ln q 0 m e u li J) (hp : q ≤ t) (hq : lb_s f t q = q) (hb : lb_ub u) (hat : lb_yw f t q 0) (hbe : ∀ v, v < 0 → ¬ lb_yw f t q v) (k : nt_ev X d 140 [.ref B, .int (nI q)] (me_w M J) o) : ∃ r a J', o = (some (.int a), me_w M J') ∧ (((u.1 ≠ 0) ∧ r = .inl (lb_c q (Int32.ofInt 4))) ∨ (¬ (u.1 ≠ 0) ∧ lb_pa f t (q, u) (lb_s f t (q + (lb_W (nt_sp + 1 + 0)).length)) 0 r)) ∧ yr_Q R0 R1 R2 (fun v D => lb_paC f t u (lb_s f t (q + (lb_W (nt_sp + 1 + 0)).length)) v.1 0 C D) M f t B Tb Sg Ln m e li r a J' := by
  have k : nt_rn X d 140 (0, [(0, .ref B), (1, .int (nI q))], [], me_w M J) o := k
  have t4 : t ≤ 400 := hT.1.2.2.2.2.2.1
  have hb0 := hb
  obtain ⟨d1, d2, d3, d4, d5⟩ := hb0
  have k := ly_revb 2 (c' := (4, [(0, .ref B), (1, .int (nI q))], [.long (461330343027), .ref B], me_w M J)) rfl k
  obtain ⟨d1, o1, ed, kc, k⟩ := lz_c (g := 137) (q := 1) (vs := [.ref B, .long (461330343027)]) (rest := []) rfl rfl (by decide) (Or.inr (Or.inl ⟨_, rfl, rfl⟩)) rfl k
  obtain ⟨r, e1, hr⟩ := md_isWord hT.1 hT.2.1 hp kc
  rw [hq, me_ui hT.2.1.1] at e1
  rw [hq, lb_w_kinds] at hr
  subst e1
  obtain ⟨rfl, _⟩ := hr.resolve_right (fun c => c.2 hat)
  have k : nt_rn X _ 140 (7, [(0, .ref B), (1, .int (nI q))], [.int (Int32.ofInt 1)], me_w M J) _ := k
  have k := ly_revb 1 (c' := (if (Int32.ofInt 1) = 0 then 16 else 10, [(0, .ref B), (1, .int (nI q))], [], me_w M J)) rfl k
  rw [if_neg (show ¬ ((Int32.ofInt 1) = 0) from by decide)] at k
  have k := ly_revb 2 (c' := (12, [(0, .ref B), (1, .int (nI q))], [.int (nI q), .ref B], me_w M J)) rfl k
  obtain ⟨d1, o1, ed, kc, k⟩ := lz_c (g := 141) (q := 1) (vs := [.ref B, .int (nI q)]) (rest := []) rfl rfl (by decide) (Or.inr (Or.inl ⟨_, rfl, rfl⟩)) rfl k
  obtain ⟨r, a, J', e1, hrel, hQ⟩ := yr_kinds hW hT hp hb hat kc
  subst e1
  have k : nt_rn X _ 140 (15, [(0, .ref B), (1, .int (nI q))], [.int (a)], me_w M (J')) _ := k
  have k := lz_ri rfl (by decide) k
  exact ⟨r, a, J', k, hrel, hQ⟩
theorem yr_line1 {R0 R1 R2 : Nat} {C : lb_C} {X : nt_X} {d t B Tb Sg Ln q m li : Nat} {f : Nat → Int32} {M : nt_M} {e : Nat × (Nat → Int32)} {u : Nat × Nat × Nat × Nat × Nat} {J : Nat → Nat → Int32} {o : Option Value × nt_M} (hW : yr_W M B Tb Sg Ln R0 R1 R2) (hT : yr_T R0 R1 R2 C M f t B Tb Sg Ln q 0 m e u li J) (hp : q ≤ t) (hq : lb_s f t q = q) (hb : lb_ub u) (hat : lb_yw f t q 1) (hbe : ∀ v, v < 1 → ¬ lb_yw f t q v) (k : nt_ev X d 140 [.ref B, .int (nI q)] (me_w M J) o) : ∃ r a J', o = (some (.int a), me_w M J') ∧ (((u.1 = 0 ∨ (6 ≤ u.2.1)) ∧ r = .inl (lb_c q (Int32.ofInt 4))) ∨ (¬ (u.1 = 0 ∨ (6 ≤ u.2.1)) ∧ lb_pa f t (q, u) (lb_s f t (q + (lb_W (nt_sp + 1 + 1)).length)) 1 r)) ∧ yr_Q R0 R1 R2 (fun v D => lb_paC f t u (lb_s f t (q + (lb_W (nt_sp + 1 + 1)).length)) v.1 1 C D) M f t B Tb Sg Ln m e li r a J' := by
  have k : nt_rn X d 140 (0, [(0, .ref B), (1, .int (nI q))], [], me_w M J) o := k
  have t4 : t ≤ 400 := hT.1.2.2.2.2.2.1
  have hb0 := hb
  obtain ⟨d1, d2, d3, d4, d5⟩ := hb0
  have k := ly_revb 2 (c' := (4, [(0, .ref B), (1, .int (nI q))], [.long (461330343027), .ref B], me_w M J)) rfl k
  obtain ⟨d1, o1, ed, kc, k⟩ := lz_c (g := 137) (q := 1) (vs := [.ref B, .long (461330343027)]) (rest := []) rfl rfl (by decide) (Or.inr (Or.inl ⟨_, rfl, rfl⟩)) rfl k
  obtain ⟨r, e1, hr⟩ := md_isWord hT.1 hT.2.1 hp kc
  rw [hq, me_ui hT.2.1.1] at e1
  rw [hq, lb_w_kinds] at hr
  subst e1
  obtain ⟨rfl, _⟩ := hr.resolve_left (fun c => hbe 0 (by decide) c.2)
  have k : nt_rn X _ 140 (7, [(0, .ref B), (1, .int (nI q))], [.int (Int32.ofInt 0)], me_w M J) _ := k
  have k := ly_revb 1 (c' := (if (Int32.ofInt 0) = 0 then 16 else 10, [(0, .ref B), (1, .int (nI q))], [], me_w M J)) rfl k
  rw [if_pos (show (Int32.ofInt 0) = 0 from by decide)] at k
  have k := ly_revb 1 (c' := (17, [(0, .ref B), (1, .int (nI q))], [.ref B], me_w M J)) rfl k
  have k := lz_get (a := B) (g := 1107) (M := me_w M J) (v := .int (nI u.1)) rfl (congrArg Value.int (hT.2.2.1.1)) k
  have k := ly_revb 1 (c' := (if (nI u.1) = 0 then 23 else 30, [(0, .ref B), (1, .int (nI q))], [], me_w M J)) rfl k
  by_cases h20 : u.1 = 0
  · rw [if_pos (show (nI u.1) = 0 from show nI u.1 = nI 0 from congrArg nI h20)] at k
    have k := ly_revb 3 (c' := (26, [(0, .ref B), (1, .int (nI q))], [.int (nI q), .int (Int32.ofInt 4), .ref B], me_w M J)) rfl k
    obtain ⟨d1, o1, ed, kc, k⟩ := lz_c (g := 139) (q := 1) (vs := [.ref B, .int (Int32.ofInt 4), .int (nI q)]) (rest := []) rfl rfl (by decide) (Or.inr (Or.inl ⟨_, rfl, rfl⟩)) rfl k
    obtain ⟨hf, e1⟩ := (md_fails (a := q) hT.1 hT.2.1 hp kc).resolve_right (fun c => c.1 rfl)
    subst e1
    have hR1 := yr_up hT (md_Sw (y := lb_c q (Int32.ofInt 4)) hT.1 hT.2.1)
    have k : nt_rn X _ 140 (29, [(0, .ref B), (1, .int (nI q))], [.int (Int32.ofInt 0)], me_w M (nt_u J B 16 (lb_c q (Int32.ofInt 4)))) _ := k
    have k := lz_ri rfl (by decide) k
    exact ⟨.inl (lb_c q (Int32.ofInt 4)), _, _, k, Or.inl ⟨Or.inl h20, rfl⟩, (lb_c_ne (by omega) (by decide) (by decide)), rfl, _, _, _, _, hp, hR1⟩
  · rw [if_neg (show ¬ ((nI u.1) = 0) from nI_ne0 (Nat.pos_of_ne_zero h20) (by omega))] at k
    have k := ly_revb 2 (c' := (34, [(0, .ref B), (1, .int (nI q))], [.long (1936222576), .ref B], me_w M J)) rfl k
    obtain ⟨d1, o1, ed, kc, k⟩ := lz_c (g := 137) (q := 1) (vs := [.ref B, .long (1936222576)]) (rest := []) rfl rfl (by decide) (Or.inr (Or.inl ⟨_, rfl, rfl⟩)) rfl k
    obtain ⟨r, e1, hr⟩ := md_isWord hT.1 hT.2.1 hp kc
    rw [hq, me_ui hT.2.1.1] at e1
    rw [hq, lb_w_ship] at hr
    subst e1
    obtain ⟨rfl, _⟩ := hr.resolve_right (fun c => c.2 hat)
    have k : nt_rn X _ 140 (37, [(0, .ref B), (1, .int (nI q))], [.int (Int32.ofInt 1)], me_w M J) _ := k
    have k := ly_revb 1 (c' := (if (Int32.ofInt 1) = 0 then 46 else 40, [(0, .ref B), (1, .int (nI q))], [], me_w M J)) rfl k
    rw [if_neg (show ¬ ((Int32.ofInt 1) = 0) from by decide)] at k
    have k := ly_revb 2 (c' := (42, [(0, .ref B), (1, .int (nI q))], [.int (nI q), .ref B], me_w M J)) rfl k
    obtain ⟨d1, o1, ed, kc, k⟩ := lz_c (g := 146) (q := 1) (vs := [.ref B, .int (nI q)]) (rest := []) rfl rfl (by decide) (Or.inr (Or.inl ⟨_, rfl, rfl⟩)) rfl k
    obtain ⟨r, a, J', e1, hrel, hQ⟩ := yr_ship hW hT hp hb h20 hat kc
    subst e1
    have k : nt_rn X _ 140 (45, [(0, .ref B), (1, .int (nI q))], [.int (a)], me_w M (J')) _ := k
    have k := lz_ri rfl (by decide) k
    exact ⟨r, a, J', k, hrel.imp (fun c => ⟨Or.inr c.1, c.2⟩) (fun c => ⟨fun h => h.elim h20 c.1, c.2⟩), hQ⟩
theorem yr_line2 {R0 R1 R2 : Nat} {C : lb_C} {X : nt_X} {d t B Tb Sg Ln q m li : Nat} {f : Nat → Int32} {M : nt_M} {e : Nat × (Nat → Int32)} {u : Nat × Nat × Nat × Nat × Nat} {J : Nat → Nat → Int32} {o : Option Value × nt_M} (hW : yr_W M B Tb Sg Ln R0 R1 R2) (hT : yr_T R0 R1 R2 C M f t B Tb Sg Ln q 0 m e u li J) (hp : q ≤ t) (hq : lb_s f t q = q) (hb : lb_ub u) (hat : lb_yw f t q 2) (hbe : ∀ v, v < 2 → ¬ lb_yw f t q v) (k : nt_ev X d 140 [.ref B, .int (nI q)] (me_w M J) o) : ∃ r a J', o = (some (.int a), me_w M J') ∧ (((u.1 = 0 ∨ (24 ≤ u.2.2.1)) ∧ r = .inl (lb_c q (Int32.ofInt 4))) ∨ (¬ (u.1 = 0 ∨ (24 ≤ u.2.2.1)) ∧ lb_pa f t (q, u) (lb_s f t (q + (lb_W (nt_sp + 1 + 2)).length)) 2 r)) ∧ yr_Q R0 R1 R2 (fun v D => lb_paC f t u (lb_s f t (q + (lb_W (nt_sp + 1 + 2)).length)) v.1 2 C D) M f t B Tb Sg Ln m e li r a J' := by
  have k : nt_rn X d 140 (0, [(0, .ref B), (1, .int (nI q))], [], me_w M J) o := k
  have t4 : t ≤ 400 := hT.1.2.2.2.2.2.1
  have hb0 := hb
  obtain ⟨d1, d2, d3, d4, d5⟩ := hb0
  have k := ly_revb 2 (c' := (4, [(0, .ref B), (1, .int (nI q))], [.long (461330343027), .ref B], me_w M J)) rfl k
  obtain ⟨d1, o1, ed, kc, k⟩ := lz_c (g := 137) (q := 1) (vs := [.ref B, .long (461330343027)]) (rest := []) rfl rfl (by decide) (Or.inr (Or.inl ⟨_, rfl, rfl⟩)) rfl k
  obtain ⟨r, e1, hr⟩ := md_isWord hT.1 hT.2.1 hp kc
  rw [hq, me_ui hT.2.1.1] at e1
  rw [hq, lb_w_kinds] at hr
  subst e1
  obtain ⟨rfl, _⟩ := hr.resolve_left (fun c => hbe 0 (by decide) c.2)
  have k : nt_rn X _ 140 (7, [(0, .ref B), (1, .int (nI q))], [.int (Int32.ofInt 0)], me_w M J) _ := k
  have k := ly_revb 1 (c' := (if (Int32.ofInt 0) = 0 then 16 else 10, [(0, .ref B), (1, .int (nI q))], [], me_w M J)) rfl k
  rw [if_pos (show (Int32.ofInt 0) = 0 from by decide)] at k
  have k := ly_revb 1 (c' := (17, [(0, .ref B), (1, .int (nI q))], [.ref B], me_w M J)) rfl k
  have k := lz_get (a := B) (g := 1107) (M := me_w M J) (v := .int (nI u.1)) rfl (congrArg Value.int (hT.2.2.1.1)) k
  have k := ly_revb 1 (c' := (if (nI u.1) = 0 then 23 else 30, [(0, .ref B), (1, .int (nI q))], [], me_w M J)) rfl k
  by_cases h20 : u.1 = 0
  · rw [if_pos (show (nI u.1) = 0 from show nI u.1 = nI 0 from congrArg nI h20)] at k
    have k := ly_revb 3 (c' := (26, [(0, .ref B), (1, .int (nI q))], [.int (nI q), .int (Int32.ofInt 4), .ref B], me_w M J)) rfl k
    obtain ⟨d1, o1, ed, kc, k⟩ := lz_c (g := 139) (q := 1) (vs := [.ref B, .int (Int32.ofInt 4), .int (nI q)]) (rest := []) rfl rfl (by decide) (Or.inr (Or.inl ⟨_, rfl, rfl⟩)) rfl k
    obtain ⟨hf, e1⟩ := (md_fails (a := q) hT.1 hT.2.1 hp kc).resolve_right (fun c => c.1 rfl)
    subst e1
    have hR1 := yr_up hT (md_Sw (y := lb_c q (Int32.ofInt 4)) hT.1 hT.2.1)
    have k : nt_rn X _ 140 (29, [(0, .ref B), (1, .int (nI q))], [.int (Int32.ofInt 0)], me_w M (nt_u J B 16 (lb_c q (Int32.ofInt 4)))) _ := k
    have k := lz_ri rfl (by decide) k
    exact ⟨.inl (lb_c q (Int32.ofInt 4)), _, _, k, Or.inl ⟨Or.inl h20, rfl⟩, (lb_c_ne (by omega) (by decide) (by decide)), rfl, _, _, _, _, hp, hR1⟩
  · rw [if_neg (show ¬ ((nI u.1) = 0) from nI_ne0 (Nat.pos_of_ne_zero h20) (by omega))] at k
    have k := ly_revb 2 (c' := (34, [(0, .ref B), (1, .int (nI q))], [.long (1936222576), .ref B], me_w M J)) rfl k
    obtain ⟨d1, o1, ed, kc, k⟩ := lz_c (g := 137) (q := 1) (vs := [.ref B, .long (1936222576)]) (rest := []) rfl rfl (by decide) (Or.inr (Or.inl ⟨_, rfl, rfl⟩)) rfl k
    obtain ⟨r, e1, hr⟩ := md_isWord hT.1 hT.2.1 hp kc
    rw [hq, me_ui hT.2.1.1] at e1
    rw [hq, lb_w_ship] at hr
    subst e1
    obtain ⟨rfl, _⟩ := hr.resolve_left (fun c => hbe 1 (by decide) c.2)
    have k : nt_rn X _ 140 (37, [(0, .ref B), (1, .int (nI q))], [.int (Int32.ofInt 0)], me_w M J) _ := k
    have k := ly_revb 1 (c' := (if (Int32.ofInt 0) = 0 then 46 else 40, [(0, .ref B), (1, .int (nI q))], [], me_w M J)) rfl k
    rw [if_pos (show (Int32.ofInt 0) = 0 from by decide)] at k
    have k := ly_revb 2 (c' := (50, [(0, .ref B), (1, .int (nI q))], [.long (482854661739), .ref B], me_w M J)) rfl k
    obtain ⟨d1, o1, ed, kc, k⟩ := lz_c (g := 137) (q := 1) (vs := [.ref B, .long (482854661739)]) (rest := []) rfl rfl (by decide) (Or.inr (Or.inl ⟨_, rfl, rfl⟩)) rfl k
    obtain ⟨r, e1, hr⟩ := md_isWord hT.1 hT.2.1 hp kc
    rw [hq, me_ui hT.2.1.1] at e1
    rw [hq, lb_w_plank] at hr
    subst e1
    obtain ⟨rfl, _⟩ := hr.resolve_right (fun c => c.2 hat)
    have k : nt_rn X _ 140 (53, [(0, .ref B), (1, .int (nI q))], [.int (Int32.ofInt 1)], me_w M J) _ := k
    have k := ly_revb 1 (c' := (if (Int32.ofInt 1) = 0 then 64 else 56, [(0, .ref B), (1, .int (nI q))], [], me_w M J)) rfl k
    rw [if_neg (show ¬ ((Int32.ofInt 1) = 0) from by decide)] at k
    have k := ly_revb 2 (c' := (58, [(0, .ref B), (1, .int (nI q))], [.int (nI q), .ref B], me_w M J)) rfl k
    obtain ⟨d1, o1, ed, kc, k⟩ := lz_c (g := 147) (q := 1) (vs := [.ref B, .int (nI q)]) (rest := []) rfl rfl (by decide) (Or.inr (Or.inl ⟨_, rfl, rfl⟩)) rfl k
    obtain ⟨r, a, J', e1, hrel, hQ⟩ := yr_plank hW hT hp hb h20 hat kc
    subst e1
    have k : nt_rn X _ 140 (61, [(0, .ref B), (1, .int (nI q))], [.int (a)], me_w M (J')) _ := k
    have k := ly_revb 1 (c' := (87, [(0, .ref B), (1, .int (nI q))], [.int (a)], me_w M (J'))) rfl k
    have k := lz_ri rfl (by decide) k
    exact ⟨r, a, J', k, hrel.imp (fun c => ⟨Or.inr c.1, c.2⟩) (fun c => ⟨fun h => h.elim h20 c.1, c.2⟩), hQ⟩
theorem yr_line3 {R0 R1 R2 : Nat} {C : lb_C} {X : nt_X} {d t B Tb Sg Ln q m li : Nat} {f : Nat → Int32} {M : nt_M} {e : Nat × (Nat → Int32)} {u : Nat × Nat × Nat × Nat × Nat} {J : Nat → Nat → Int32} {o : Option Value × nt_M} (hW : yr_W M B Tb Sg Ln R0 R1 R2) (hT : yr_T R0 R1 R2 C M f t B Tb Sg Ln q 0 m e u li J) (hp : q ≤ t) (hq : lb_s f t q = q) (hb : lb_ub u) (hat : lb_yw f t q 3) (hbe : ∀ v, v < 3 → ¬ lb_yw f t q v) (k : nt_ev X d 140 [.ref B, .int (nI q)] (me_w M J) o) : ∃ r a J', o = (some (.int a), me_w M J') ∧ (((u.1 = 0 ∨ (8 ≤ u.2.2.2.1)) ∧ r = .inl (lb_c q (Int32.ofInt 4))) ∨ (¬ (u.1 = 0 ∨ (8 ≤ u.2.2.2.1)) ∧ lb_pa f t (q, u) (lb_s f t (q + (lb_W (nt_sp + 1 + 3)).length)) 3 r)) ∧ yr_Q R0 R1 R2 (fun v D => lb_paC f t u (lb_s f t (q + (lb_W (nt_sp + 1 + 3)).length)) v.1 3 C D) M f t B Tb Sg Ln m e li r a J' := by
  have k : nt_rn X d 140 (0, [(0, .ref B), (1, .int (nI q))], [], me_w M J) o := k
  have t4 : t ≤ 400 := hT.1.2.2.2.2.2.1
  have hb0 := hb
  obtain ⟨d1, d2, d3, d4, d5⟩ := hb0
  have k := ly_revb 2 (c' := (4, [(0, .ref B), (1, .int (nI q))], [.long (461330343027), .ref B], me_w M J)) rfl k
  obtain ⟨d1, o1, ed, kc, k⟩ := lz_c (g := 137) (q := 1) (vs := [.ref B, .long (461330343027)]) (rest := []) rfl rfl (by decide) (Or.inr (Or.inl ⟨_, rfl, rfl⟩)) rfl k
  obtain ⟨r, e1, hr⟩ := md_isWord hT.1 hT.2.1 hp kc
  rw [hq, me_ui hT.2.1.1] at e1
  rw [hq, lb_w_kinds] at hr
  subst e1
  obtain ⟨rfl, _⟩ := hr.resolve_left (fun c => hbe 0 (by decide) c.2)
  have k : nt_rn X _ 140 (7, [(0, .ref B), (1, .int (nI q))], [.int (Int32.ofInt 0)], me_w M J) _ := k
  have k := ly_revb 1 (c' := (if (Int32.ofInt 0) = 0 then 16 else 10, [(0, .ref B), (1, .int (nI q))], [], me_w M J)) rfl k
  rw [if_pos (show (Int32.ofInt 0) = 0 from by decide)] at k
  have k := ly_revb 1 (c' := (17, [(0, .ref B), (1, .int (nI q))], [.ref B], me_w M J)) rfl k
  have k := lz_get (a := B) (g := 1107) (M := me_w M J) (v := .int (nI u.1)) rfl (congrArg Value.int (hT.2.2.1.1)) k
  have k := ly_revb 1 (c' := (if (nI u.1) = 0 then 23 else 30, [(0, .ref B), (1, .int (nI q))], [], me_w M J)) rfl k
  by_cases h20 : u.1 = 0
  · rw [if_pos (show (nI u.1) = 0 from show nI u.1 = nI 0 from congrArg nI h20)] at k
    have k := ly_revb 3 (c' := (26, [(0, .ref B), (1, .int (nI q))], [.int (nI q), .int (Int32.ofInt 4), .ref B], me_w M J)) rfl k
    obtain ⟨d1, o1, ed, kc, k⟩ := lz_c (g := 139) (q := 1) (vs := [.ref B, .int (Int32.ofInt 4), .int (nI q)]) (rest := []) rfl rfl (by decide) (Or.inr (Or.inl ⟨_, rfl, rfl⟩)) rfl k
    obtain ⟨hf, e1⟩ := (md_fails (a := q) hT.1 hT.2.1 hp kc).resolve_right (fun c => c.1 rfl)
    subst e1
    have hR1 := yr_up hT (md_Sw (y := lb_c q (Int32.ofInt 4)) hT.1 hT.2.1)
    have k : nt_rn X _ 140 (29, [(0, .ref B), (1, .int (nI q))], [.int (Int32.ofInt 0)], me_w M (nt_u J B 16 (lb_c q (Int32.ofInt 4)))) _ := k
    have k := lz_ri rfl (by decide) k
    exact ⟨.inl (lb_c q (Int32.ofInt 4)), _, _, k, Or.inl ⟨Or.inl h20, rfl⟩, (lb_c_ne (by omega) (by decide) (by decide)), rfl, _, _, _, _, hp, hR1⟩
  · rw [if_neg (show ¬ ((nI u.1) = 0) from nI_ne0 (Nat.pos_of_ne_zero h20) (by omega))] at k
    have k := ly_revb 2 (c' := (34, [(0, .ref B), (1, .int (nI q))], [.long (1936222576), .ref B], me_w M J)) rfl k
    obtain ⟨d1, o1, ed, kc, k⟩ := lz_c (g := 137) (q := 1) (vs := [.ref B, .long (1936222576)]) (rest := []) rfl rfl (by decide) (Or.inr (Or.inl ⟨_, rfl, rfl⟩)) rfl k
    obtain ⟨r, e1, hr⟩ := md_isWord hT.1 hT.2.1 hp kc
    rw [hq, me_ui hT.2.1.1] at e1
    rw [hq, lb_w_ship] at hr
    subst e1
    obtain ⟨rfl, _⟩ := hr.resolve_left (fun c => hbe 1 (by decide) c.2)
    have k : nt_rn X _ 140 (37, [(0, .ref B), (1, .int (nI q))], [.int (Int32.ofInt 0)], me_w M J) _ := k
    have k := ly_revb 1 (c' := (if (Int32.ofInt 0) = 0 then 46 else 40, [(0, .ref B), (1, .int (nI q))], [], me_w M J)) rfl k
    rw [if_pos (show (Int32.ofInt 0) = 0 from by decide)] at k
    have k := ly_revb 2 (c' := (50, [(0, .ref B), (1, .int (nI q))], [.long (482854661739), .ref B], me_w M J)) rfl k
    obtain ⟨d1, o1, ed, kc, k⟩ := lz_c (g := 137) (q := 1) (vs := [.ref B, .long (482854661739)]) (rest := []) rfl rfl (by decide) (Or.inr (Or.inl ⟨_, rfl, rfl⟩)) rfl k
    obtain ⟨r, e1, hr⟩ := md_isWord hT.1 hT.2.1 hp kc
    rw [hq, me_ui hT.2.1.1] at e1
    rw [hq, lb_w_plank] at hr
    subst e1
    obtain ⟨rfl, _⟩ := hr.resolve_left (fun c => hbe 2 (by decide) c.2)
    have k : nt_rn X _ 140 (53, [(0, .ref B), (1, .int (nI q))], [.int (Int32.ofInt 0)], me_w M J) _ := k
    have k := ly_revb 1 (c' := (if (Int32.ofInt 0) = 0 then 64 else 56, [(0, .ref B), (1, .int (nI q))], [], me_w M J)) rfl k
    rw [if_pos (show (Int32.ofInt 0) = 0 from by decide)] at k
    have k := ly_revb 2 (c' := (68, [(0, .ref B), (1, .int (nI q))], [.long (130221149874021), .ref B], me_w M J)) rfl k
    obtain ⟨d1, o1, ed, kc, k⟩ := lz_c (g := 137) (q := 1) (vs := [.ref B, .long (130221149874021)]) (rest := []) rfl rfl (by decide) (Or.inr (Or.inl ⟨_, rfl, rfl⟩)) rfl k
    obtain ⟨r, e1, hr⟩ := md_isWord hT.1 hT.2.1 hp kc
    rw [hq, me_ui hT.2.1.1] at e1
    rw [hq, lb_w_voyage] at hr
    subst e1
    obtain ⟨rfl, _⟩ := hr.resolve_right (fun c => c.2 hat)
    have k : nt_rn X _ 140 (71, [(0, .ref B), (1, .int (nI q))], [.int (Int32.ofInt 1)], me_w M J) _ := k
    have k := ly_revb 1 (c' := (if (Int32.ofInt 1) = 0 then 82 else 74, [(0, .ref B), (1, .int (nI q))], [], me_w M J)) rfl k
    rw [if_neg (show ¬ ((Int32.ofInt 1) = 0) from by decide)] at k
    have k := ly_revb 2 (c' := (76, [(0, .ref B), (1, .int (nI q))], [.int (nI q), .ref B], me_w M J)) rfl k
    obtain ⟨d1, o1, ed, kc, k⟩ := lz_c (g := 148) (q := 1) (vs := [.ref B, .int (nI q)]) (rest := []) rfl rfl (by decide) (Or.inr (Or.inl ⟨_, rfl, rfl⟩)) rfl k
    obtain ⟨r, a, J', e1, hrel, hQ⟩ := yr_voyage hW hT hp hb h20 hat kc
    subst e1
    have k : nt_rn X _ 140 (79, [(0, .ref B), (1, .int (nI q))], [.int (a)], me_w M (J')) _ := k
    have k := ly_revb 1 (c' := (87, [(0, .ref B), (1, .int (nI q))], [.int (a)], me_w M (J'))) rfl k
    have k := lz_ri rfl (by decide) k
    exact ⟨r, a, J', k, hrel.imp (fun c => ⟨Or.inr c.1, c.2⟩) (fun c => ⟨fun h => h.elim h20 c.1, c.2⟩), hQ⟩
theorem yr_line4 {R0 R1 R2 : Nat} {C : lb_C} {X : nt_X} {d t B Tb Sg Ln q m li : Nat} {f : Nat → Int32} {M : nt_M} {e : Nat × (Nat → Int32)} {u : Nat × Nat × Nat × Nat × Nat} {J : Nat → Nat → Int32} {o : Option Value × nt_M} (hW : yr_W M B Tb Sg Ln R0 R1 R2) (hT : yr_T R0 R1 R2 C M f t B Tb Sg Ln q 0 m e u li J) (hp : q ≤ t) (hq : lb_s f t q = q) (hb : lb_ub u) (hat : lb_yw f t q 4) (hbe : ∀ v, v < 4 → ¬ lb_yw f t q v) (k : nt_ev X d 140 [.ref B, .int (nI q)] (me_w M J) o) : ∃ r a J', o = (some (.int a), me_w M J') ∧ (((u.1 = 0 ∨ (u.2.2.2.2 ≠ 0)) ∧ r = .inl (lb_c q (Int32.ofInt 4))) ∨ (¬ (u.1 = 0 ∨ (u.2.2.2.2 ≠ 0)) ∧ lb_pa f t (q, u) (lb_s f t (q + (lb_W (nt_sp + 1 + 4)).length)) 4 r)) ∧ yr_Q R0 R1 R2 (fun v D => lb_paC f t u (lb_s f t (q + (lb_W (nt_sp + 1 + 4)).length)) v.1 4 C D) M f t B Tb Sg Ln m e li r a J' := by
  have k : nt_rn X d 140 (0, [(0, .ref B), (1, .int (nI q))], [], me_w M J) o := k
  have t4 : t ≤ 400 := hT.1.2.2.2.2.2.1
  have hb0 := hb
  obtain ⟨d1, d2, d3, d4, d5⟩ := hb0
  have k := ly_revb 2 (c' := (4, [(0, .ref B), (1, .int (nI q))], [.long (461330343027), .ref B], me_w M J)) rfl k
  obtain ⟨d1, o1, ed, kc, k⟩ := lz_c (g := 137) (q := 1) (vs := [.ref B, .long (461330343027)]) (rest := []) rfl rfl (by decide) (Or.inr (Or.inl ⟨_, rfl, rfl⟩)) rfl k
  obtain ⟨r, e1, hr⟩ := md_isWord hT.1 hT.2.1 hp kc
  rw [hq, me_ui hT.2.1.1] at e1
  rw [hq, lb_w_kinds] at hr
  subst e1
  obtain ⟨rfl, _⟩ := hr.resolve_left (fun c => hbe 0 (by decide) c.2)
  have k : nt_rn X _ 140 (7, [(0, .ref B), (1, .int (nI q))], [.int (Int32.ofInt 0)], me_w M J) _ := k
  have k := ly_revb 1 (c' := (if (Int32.ofInt 0) = 0 then 16 else 10, [(0, .ref B), (1, .int (nI q))], [], me_w M J)) rfl k
  rw [if_pos (show (Int32.ofInt 0) = 0 from by decide)] at k
  have k := ly_revb 1 (c' := (17, [(0, .ref B), (1, .int (nI q))], [.ref B], me_w M J)) rfl k
  have k := lz_get (a := B) (g := 1107) (M := me_w M J) (v := .int (nI u.1)) rfl (congrArg Value.int (hT.2.2.1.1)) k
  have k := ly_revb 1 (c' := (if (nI u.1) = 0 then 23 else 30, [(0, .ref B), (1, .int (nI q))], [], me_w M J)) rfl k
  by_cases h20 : u.1 = 0
  · rw [if_pos (show (nI u.1) = 0 from show nI u.1 = nI 0 from congrArg nI h20)] at k
    have k := ly_revb 3 (c' := (26, [(0, .ref B), (1, .int (nI q))], [.int (nI q), .int (Int32.ofInt 4), .ref B], me_w M J)) rfl k
    obtain ⟨d1, o1, ed, kc, k⟩ := lz_c (g := 139) (q := 1) (vs := [.ref B, .int (Int32.ofInt 4), .int (nI q)]) (rest := []) rfl rfl (by decide) (Or.inr (Or.inl ⟨_, rfl, rfl⟩)) rfl k
    obtain ⟨hf, e1⟩ := (md_fails (a := q) hT.1 hT.2.1 hp kc).resolve_right (fun c => c.1 rfl)
    subst e1
    have hR1 := yr_up hT (md_Sw (y := lb_c q (Int32.ofInt 4)) hT.1 hT.2.1)
    have k : nt_rn X _ 140 (29, [(0, .ref B), (1, .int (nI q))], [.int (Int32.ofInt 0)], me_w M (nt_u J B 16 (lb_c q (Int32.ofInt 4)))) _ := k
    have k := lz_ri rfl (by decide) k
    exact ⟨.inl (lb_c q (Int32.ofInt 4)), _, _, k, Or.inl ⟨Or.inl h20, rfl⟩, (lb_c_ne (by omega) (by decide) (by decide)), rfl, _, _, _, _, hp, hR1⟩
  · rw [if_neg (show ¬ ((nI u.1) = 0) from nI_ne0 (Nat.pos_of_ne_zero h20) (by omega))] at k
    have k := ly_revb 2 (c' := (34, [(0, .ref B), (1, .int (nI q))], [.long (1936222576), .ref B], me_w M J)) rfl k
    obtain ⟨d1, o1, ed, kc, k⟩ := lz_c (g := 137) (q := 1) (vs := [.ref B, .long (1936222576)]) (rest := []) rfl rfl (by decide) (Or.inr (Or.inl ⟨_, rfl, rfl⟩)) rfl k
    obtain ⟨r, e1, hr⟩ := md_isWord hT.1 hT.2.1 hp kc
    rw [hq, me_ui hT.2.1.1] at e1
    rw [hq, lb_w_ship] at hr
    subst e1
    obtain ⟨rfl, _⟩ := hr.resolve_left (fun c => hbe 1 (by decide) c.2)
    have k : nt_rn X _ 140 (37, [(0, .ref B), (1, .int (nI q))], [.int (Int32.ofInt 0)], me_w M J) _ := k
    have k := ly_revb 1 (c' := (if (Int32.ofInt 0) = 0 then 46 else 40, [(0, .ref B), (1, .int (nI q))], [], me_w M J)) rfl k
    rw [if_pos (show (Int32.ofInt 0) = 0 from by decide)] at k
    have k := ly_revb 2 (c' := (50, [(0, .ref B), (1, .int (nI q))], [.long (482854661739), .ref B], me_w M J)) rfl k
    obtain ⟨d1, o1, ed, kc, k⟩ := lz_c (g := 137) (q := 1) (vs := [.ref B, .long (482854661739)]) (rest := []) rfl rfl (by decide) (Or.inr (Or.inl ⟨_, rfl, rfl⟩)) rfl k
    obtain ⟨r, e1, hr⟩ := md_isWord hT.1 hT.2.1 hp kc
    rw [hq, me_ui hT.2.1.1] at e1
    rw [hq, lb_w_plank] at hr
    subst e1
    obtain ⟨rfl, _⟩ := hr.resolve_left (fun c => hbe 2 (by decide) c.2)
    have k : nt_rn X _ 140 (53, [(0, .ref B), (1, .int (nI q))], [.int (Int32.ofInt 0)], me_w M J) _ := k
    have k := ly_revb 1 (c' := (if (Int32.ofInt 0) = 0 then 64 else 56, [(0, .ref B), (1, .int (nI q))], [], me_w M J)) rfl k
    rw [if_pos (show (Int32.ofInt 0) = 0 from by decide)] at k
    have k := ly_revb 2 (c' := (68, [(0, .ref B), (1, .int (nI q))], [.long (130221149874021), .ref B], me_w M J)) rfl k
    obtain ⟨d1, o1, ed, kc, k⟩ := lz_c (g := 137) (q := 1) (vs := [.ref B, .long (130221149874021)]) (rest := []) rfl rfl (by decide) (Or.inr (Or.inl ⟨_, rfl, rfl⟩)) rfl k
    obtain ⟨r, e1, hr⟩ := md_isWord hT.1 hT.2.1 hp kc
    rw [hq, me_ui hT.2.1.1] at e1
    rw [hq, lb_w_voyage] at hr
    subst e1
    obtain ⟨rfl, _⟩ := hr.resolve_left (fun c => hbe 3 (by decide) c.2)
    have k : nt_rn X _ 140 (71, [(0, .ref B), (1, .int (nI q))], [.int (Int32.ofInt 0)], me_w M J) _ := k
    have k := ly_revb 1 (c' := (if (Int32.ofInt 0) = 0 then 82 else 74, [(0, .ref B), (1, .int (nI q))], [], me_w M J)) rfl k
    rw [if_pos (show (Int32.ofInt 0) = 0 from by decide)] at k
    have k := ly_revb 2 (c' := (84, [(0, .ref B), (1, .int (nI q))], [.int (nI q), .ref B], me_w M J)) rfl k
    obtain ⟨d1, o1, ed, kc, k⟩ := lz_c (g := 149) (q := 1) (vs := [.ref B, .int (nI q)]) (rest := []) rfl rfl (by decide) (Or.inr (Or.inl ⟨_, rfl, rfl⟩)) rfl k
    obtain ⟨r, a, J', e1, hrel, hQ⟩ := yr_hands hW hT hp hb h20 hat kc
    subst e1
    have k : nt_rn X _ 140 (87, [(0, .ref B), (1, .int (nI q))], [.int (a)], me_w M (J')) _ := k
    have k := lz_ri rfl (by decide) k
    exact ⟨r, a, J', k, hrel.imp (fun c => ⟨Or.inr c.1, c.2⟩) (fun c => ⟨fun h => h.elim h20 c.1, c.2⟩), hQ⟩
theorem yr_clause {R0 R1 R2 : Nat} {C : lb_C} {X : nt_X} {d t B Tb Sg Ln q m li : Nat} {f : Nat → Int32} {M : nt_M} {e : Nat × (Nat → Int32)} {u : Nat × Nat × Nat × Nat × Nat} {J : Nat → Nat → Int32} {o : Option Value × nt_M} (hW : yr_W M B Tb Sg Ln R0 R1 R2) (hT : yr_T R0 R1 R2 C M f t B Tb Sg Ln q 0 m e u li J) (hp : q ≤ t) (hb : lb_ub u) (hk : li = 0 ↔ u.1 = 0) (hl : li ≤ 40) (k : nt_ev X d 135 [.ref B] (me_w M J) o) : ∃ r a J', o = (some (.int a), me_w M J') ∧ lb_yc f t li (lb_s f t q, u) r ∧ yr_Q R0 R1 R2 (fun v D => lb_ycC f t (lb_s f t q, u) v C D) M f t B Tb Sg Ln m e (li + 1) r a J' := by
  have k : nt_rn X d 135 (0, [(0, .ref B)], [], me_w M J) o := k
  have t4 : t ≤ 400 := hT.1.2.2.2.2.2.1
  have k := ly_revb 1 (c' := (1, [(0, .ref B)], [.ref B], me_w M J)) rfl k
  obtain ⟨d1, o1, ed, kc, k⟩ := lz_c (g := 136) (q := 1) (vs := [.ref B]) (rest := []) rfl rfl (by decide) (Or.inr (Or.inl ⟨_, rfl, rfl⟩)) rfl k
  have e1 := md_see hT.1 hT.2.1 hp kc
  subst e1
  have hR1 := yr_up hT (md_Sq (y := lb_s f t q) hT.1 hT.2.1)
  have hp1 : lb_s f t q ≤ t := (lb_s_le (t - q) q (by omega)).2
  have hss : lb_s f t (lb_s f t q) = lb_s f t q := lb_ss hp
  have k : nt_rn X _ 135 (4, [(0, .ref B)], [.int (lb_g f t (lb_s f t q))], me_w M (nt_u J B 15 (nI (lb_s f t q)))) _ := k
  have k := ly_revb 2 (c' := (6, [(0, .ref B)], [.ref B], me_w M (nt_u J B 15 (nI (lb_s f t q))))) rfl k
  have k := lz_get (a := B) (g := 1115) (M := me_w M (nt_u J B 15 (nI (lb_s f t q)))) (v := .int (nI (lb_s f t q))) rfl (congrArg Value.int (hR1.2.1.1)) k
  have k := ly_revb 2 (c' := (11, [(1, .int (nI (lb_s f t q))), (0, .ref B)], [.ref B], me_w M (nt_u J B 15 (nI (lb_s f t q))))) rfl k
  have k := lz_get (a := B) (g := 1118) (M := me_w M (nt_u J B 15 (nI (lb_s f t q)))) (v := .int (nI 6)) rfl (congrArg Value.int (md_x hR1.1 hR1.2.1)) k
  have k := ly_revb 2 (c' := (if (nI 6) = (Int32.ofInt 6) then 19 else 23, [(1, .int (nI (lb_s f t q))), (0, .ref B)], [], me_w M (nt_u J B 15 (nI (lb_s f t q))))) rfl k
  rw [if_pos (show (nI 6) = (Int32.ofInt 6) from rfl)] at k
  have k := ly_revb 5 (c' := (if (Int32.ofInt 1) = 0 then 87 else 29, [(2, .int (Int32.ofInt 1)), (1, .int (nI (lb_s f t q))), (0, .ref B)], [], me_w M (nt_u J B 15 (nI (lb_s f t q))))) rfl k
  rw [if_neg (show ¬ ((Int32.ofInt 1) = 0) from by decide)] at k
  have k := ly_revb 2 (c' := (33, [(2, .int (Int32.ofInt 1)), (1, .int (nI (lb_s f t q))), (0, .ref B)], [.long (461330343027), .ref B], me_w M (nt_u J B 15 (nI (lb_s f t q))))) rfl k
  obtain ⟨d1, o1, ed, kc, k⟩ := lz_c (g := 137) (q := 1) (vs := [.ref B, .long (461330343027)]) (rest := []) rfl rfl (by decide) (Or.inr (Or.inl ⟨_, rfl, rfl⟩)) rfl k
  obtain ⟨r, e1, hr⟩ := md_isWord hR1.1 hR1.2.1 hp1 kc
  rw [hss, me_ui hR1.2.1.1] at e1
  rw [hss, lb_w_kinds] at hr
  subst e1
  rcases hr with ⟨rfl, g0⟩ | ⟨rfl, g0⟩
  · have k : nt_rn X _ 135 (36, [(2, .int (Int32.ofInt 1)), (1, .int (nI (lb_s f t q))), (0, .ref B)], [.int (Int32.ofInt 1)], me_w M (nt_u J B 15 (nI (lb_s f t q)))) _ := k
    have k := ly_revb 1 (c' := (if (Int32.ofInt 1) = 0 then 39 else 79, [(2, .int (Int32.ofInt 1)), (1, .int (nI (lb_s f t q))), (0, .ref B)], [], me_w M (nt_u J B 15 (nI (lb_s f t q))))) rfl k
    rw [if_neg (show ¬ ((Int32.ofInt 1) = 0) from by decide)] at k
    have k := ly_revb 5 (c' := (if (Int32.ofInt 1) = 0 then 99 else 106, [(3, .int (Int32.ofInt 1)), (2, .int (Int32.ofInt 1)), (1, .int (nI (lb_s f t q))), (0, .ref B)], [], me_w M (nt_u J B 15 (nI (lb_s f t q))))) rfl k
    rw [if_neg (show ¬ ((Int32.ofInt 1) = 0) from by decide)] at k
    have k := ly_revb 1 (c' := (107, [(3, .int (Int32.ofInt 1)), (2, .int (Int32.ofInt 1)), (1, .int (nI (lb_s f t q))), (0, .ref B)], [.ref B], me_w M (nt_u J B 15 (nI (lb_s f t q))))) rfl k
    have k := lz_get (a := B) (g := 1121) (M := me_w M (nt_u J B 15 (nI (lb_s f t q)))) (v := .int (nI li)) rfl (congrArg Value.int (hR1.2.2.2.1)) k
    have k := ly_revb 2 (c' := (if (Int32.ofInt 1) = 0 then 119 else 114, [(3, .int (Int32.ofInt 1)), (2, .int (Int32.ofInt 1)), (1, .int (nI (lb_s f t q))), (0, .ref B)], [.int (nI li)], me_w M (nt_u J B 15 (nI (lb_s f t q))))) rfl k
    rw [if_neg (show ¬ ((Int32.ofInt 1) = 0) from by decide)] at k
    have k := ly_revb 3 (c' := (if (nI li) = (Int32.ofInt 40) then 124 else 131, [(3, .int (Int32.ofInt 1)), (2, .int (Int32.ofInt 1)), (1, .int (nI (lb_s f t q))), (0, .ref B)], [], me_w M (nt_u J B 15 (nI (lb_s f t q))))) rfl k
    by_cases h121 : li = 40
    · rw [if_pos (show (nI li) = (Int32.ofInt 40) from show nI li = nI 40 from congrArg nI h121)] at k
      have k := ly_revb 3 (c' := (127, [(3, .int (Int32.ofInt 1)), (2, .int (Int32.ofInt 1)), (1, .int (nI (lb_s f t q))), (0, .ref B)], [.int (nI (lb_s f t q)), .int (Int32.ofInt 4), .ref B], me_w M (nt_u J B 15 (nI (lb_s f t q))))) rfl k
      obtain ⟨d1, o1, ed, kc, k⟩ := lz_c (g := 139) (q := 1) (vs := [.ref B, .int (Int32.ofInt 4), .int (nI (lb_s f t q))]) (rest := []) rfl rfl (by decide) (Or.inr (Or.inl ⟨_, rfl, rfl⟩)) rfl k
      obtain ⟨hf, e1⟩ := (md_fails (a := (lb_s f t q)) hR1.1 hR1.2.1 hp1 kc).resolve_right (fun c => c.1 rfl)
      subst e1
      have hR2 := yr_up hR1 (md_Sw (y := lb_c ((lb_s f t q)) (Int32.ofInt 4)) hR1.1 hR1.2.1)
      have k : nt_rn X _ 135 (130, [(3, .int (Int32.ofInt 1)), (2, .int (Int32.ofInt 1)), (1, .int (nI (lb_s f t q))), (0, .ref B)], [.int (Int32.ofInt 0)], me_w M (nt_u (nt_u J B 15 (nI (lb_s f t q))) B 16 (lb_c ((lb_s f t q)) (Int32.ofInt 4)))) _ := k
      have k := lz_ri rfl (by decide) k
      exact ⟨.inl (lb_c ((lb_s f t q)) (Int32.ofInt 4)), _, _, k, Or.inr ⟨0, by decide, g0, fun v hv => absurd hv (Nat.not_lt_zero _), Or.inl ⟨Or.inl h121, rfl⟩⟩, (lb_c_ne (by omega) (by decide) (by decide)), rfl, _, _, _, _, hp1, hR2⟩
    · rw [if_neg (show ¬ ((nI li) = (Int32.ofInt 40)) from show ¬ nI li = nI 40 from me_ne h121 (by omega) (by omega))] at k
      have k := ly_revb 2 (c' := (133, [(3, .int (Int32.ofInt 1)), (2, .int (Int32.ofInt 1)), (1, .int (nI (lb_s f t q))), (0, .ref B)], [.ref B, .ref B], me_w M (nt_u J B 15 (nI (lb_s f t q))))) rfl k
      have k := lz_get (a := B) (g := 1121) (M := me_w M (nt_u J B 15 (nI (lb_s f t q)))) (v := .int (nI li)) rfl (congrArg Value.int (hR1.2.2.2.1)) k
      have k := ly_revb 2 (c' := (138, [(3, .int (Int32.ofInt 1)), (2, .int (Int32.ofInt 1)), (1, .int (nI (lb_s f t q))), (0, .ref B)], [.int ((nI li) + (Int32.ofInt 1)), .ref B], me_w M (nt_u J B 15 (nI (lb_s f t q))))) rfl k
      rw [show ((nI li) + (Int32.ofInt 1) : Int32) = nI (li + 1) from me_add (k := 1)] at k
      have k := me_put rfl (by decide) k
      have k : nt_rn X _ 135 (141, [(3, .int (Int32.ofInt 1)), (2, .int (Int32.ofInt 1)), (1, .int (nI (lb_s f t q))), (0, .ref B)], [], me_w M (nt_u (nt_u J B 15 (nI (lb_s f t q))) B 21 (nI (li + 1)))) _ := k
      have hR2 := yr_li (y := li + 1) hR1
      have k := ly_revb 2 (c' := (if (Int32.ofInt 1) = 0 then 153 else 145, [(3, .int (Int32.ofInt 1)), (2, .int (Int32.ofInt 1)), (1, .int (nI (lb_s f t q))), (0, .ref B)], [], me_w M (nt_u (nt_u J B 15 (nI (lb_s f t q))) B 21 (nI (li + 1))))) rfl k
      rw [if_neg (show ¬ ((Int32.ofInt 1) = 0) from by decide)] at k
      have k := ly_revb 2 (c' := (147, [(3, .int (Int32.ofInt 1)), (2, .int (Int32.ofInt 1)), (1, .int (nI (lb_s f t q))), (0, .ref B)], [.int (nI (lb_s f t q)), .ref B], me_w M (nt_u (nt_u J B 15 (nI (lb_s f t q))) B 21 (nI (li + 1))))) rfl k
      obtain ⟨d1, o1, ed, kc, k⟩ := lz_c (g := 140) (q := 1) (vs := [.ref B, .int (nI (lb_s f t q))]) (rest := []) rfl rfl (by decide) (Or.inr (Or.inl ⟨_, rfl, rfl⟩)) rfl k
      have hbe : ∀ v, v < 0 → ¬ lb_yw f t (lb_s f t q) v := fun v hv => absurd hv (Nat.not_lt_zero _)
      obtain ⟨r, a, J', e1, hrel, hQ⟩ := yr_line0 hW hR2 hp1 hss hb g0 hbe kc
      subst e1
      have k : nt_rn X _ 135 (150, [(3, .int (Int32.ofInt 1)), (2, .int (Int32.ofInt 1)), (1, .int (nI (lb_s f t q))), (0, .ref B)], [.int (a)], me_w M (J')) _ := k
      have k := ly_revb 1 (c' := (157, [(3, .int (Int32.ofInt 1)), (2, .int (Int32.ofInt 1)), (1, .int (nI (lb_s f t q))), (0, .ref B)], [.int (a)], me_w M (J'))) rfl k
      have k := lz_ri rfl (by decide) k
      refine ⟨r, a, J', k, Or.inr ⟨0, by decide, g0, hbe, ?_⟩, yr_Qm (fun v D hh => ⟨0, by decide, g0, hbe, hh⟩) hQ⟩
      rcases hrel with ⟨hf, hrel⟩ | ⟨hf, hrel⟩
      · exact Or.inl ⟨Or.inr (Or.inl (fun c => hf (hk.mp (c.mpr rfl)))), hrel⟩
      · refine Or.inr ⟨fun c => ?_, hrel⟩
        rcases c with c | c | c
        · exact h121 c
        · exact c ⟨fun _ => rfl, fun _ => hk.mpr (Classical.byContradiction hf)⟩
        · exact c
  · have k : nt_rn X _ 135 (36, [(2, .int (Int32.ofInt 1)), (1, .int (nI (lb_s f t q))), (0, .ref B)], [.int (Int32.ofInt 0)], me_w M (nt_u J B 15 (nI (lb_s f t q)))) _ := k
    have k := ly_revb 1 (c' := (if (Int32.ofInt 0) = 0 then 39 else 79, [(2, .int (Int32.ofInt 1)), (1, .int (nI (lb_s f t q))), (0, .ref B)], [], me_w M (nt_u J B 15 (nI (lb_s f t q))))) rfl k
    rw [if_pos (show (Int32.ofInt 0) = 0 from by decide)] at k
    have k := ly_revb 2 (c' := (43, [(2, .int (Int32.ofInt 1)), (1, .int (nI (lb_s f t q))), (0, .ref B)], [.long (1936222576), .ref B], me_w M (nt_u J B 15 (nI (lb_s f t q))))) rfl k
    obtain ⟨d1, o1, ed, kc, k⟩ := lz_c (g := 137) (q := 1) (vs := [.ref B, .long (1936222576)]) (rest := []) rfl rfl (by decide) (Or.inr (Or.inl ⟨_, rfl, rfl⟩)) rfl k
    obtain ⟨r, e1, hr⟩ := md_isWord hR1.1 hR1.2.1 hp1 kc
    rw [hss, me_ui hR1.2.1.1] at e1
    rw [hss, lb_w_ship] at hr
    subst e1
    rcases hr with ⟨rfl, g1⟩ | ⟨rfl, g1⟩
    · have k : nt_rn X _ 135 (46, [(2, .int (Int32.ofInt 1)), (1, .int (nI (lb_s f t q))), (0, .ref B)], [.int (Int32.ofInt 1)], me_w M (nt_u J B 15 (nI (lb_s f t q)))) _ := k
      have k := ly_revb 1 (c' := (if (Int32.ofInt 1) = 0 then 49 else 79, [(2, .int (Int32.ofInt 1)), (1, .int (nI (lb_s f t q))), (0, .ref B)], [], me_w M (nt_u J B 15 (nI (lb_s f t q))))) rfl k
      rw [if_neg (show ¬ ((Int32.ofInt 1) = 0) from by decide)] at k
      have k := ly_revb 5 (c' := (if (Int32.ofInt 1) = 0 then 99 else 106, [(3, .int (Int32.ofInt 1)), (2, .int (Int32.ofInt 1)), (1, .int (nI (lb_s f t q))), (0, .ref B)], [], me_w M (nt_u J B 15 (nI (lb_s f t q))))) rfl k
      rw [if_neg (show ¬ ((Int32.ofInt 1) = 0) from by decide)] at k
      have k := ly_revb 1 (c' := (107, [(3, .int (Int32.ofInt 1)), (2, .int (Int32.ofInt 1)), (1, .int (nI (lb_s f t q))), (0, .ref B)], [.ref B], me_w M (nt_u J B 15 (nI (lb_s f t q))))) rfl k
      have k := lz_get (a := B) (g := 1121) (M := me_w M (nt_u J B 15 (nI (lb_s f t q)))) (v := .int (nI li)) rfl (congrArg Value.int (hR1.2.2.2.1)) k
      have k := ly_revb 2 (c' := (if (Int32.ofInt 1) = 0 then 119 else 114, [(3, .int (Int32.ofInt 1)), (2, .int (Int32.ofInt 1)), (1, .int (nI (lb_s f t q))), (0, .ref B)], [.int (nI li)], me_w M (nt_u J B 15 (nI (lb_s f t q))))) rfl k
      rw [if_neg (show ¬ ((Int32.ofInt 1) = 0) from by decide)] at k
      have k := ly_revb 3 (c' := (if (nI li) = (Int32.ofInt 40) then 124 else 131, [(3, .int (Int32.ofInt 1)), (2, .int (Int32.ofInt 1)), (1, .int (nI (lb_s f t q))), (0, .ref B)], [], me_w M (nt_u J B 15 (nI (lb_s f t q))))) rfl k
      by_cases h121 : li = 40
      · rw [if_pos (show (nI li) = (Int32.ofInt 40) from show nI li = nI 40 from congrArg nI h121)] at k
        have k := ly_revb 3 (c' := (127, [(3, .int (Int32.ofInt 1)), (2, .int (Int32.ofInt 1)), (1, .int (nI (lb_s f t q))), (0, .ref B)], [.int (nI (lb_s f t q)), .int (Int32.ofInt 4), .ref B], me_w M (nt_u J B 15 (nI (lb_s f t q))))) rfl k
        obtain ⟨d1, o1, ed, kc, k⟩ := lz_c (g := 139) (q := 1) (vs := [.ref B, .int (Int32.ofInt 4), .int (nI (lb_s f t q))]) (rest := []) rfl rfl (by decide) (Or.inr (Or.inl ⟨_, rfl, rfl⟩)) rfl k
        obtain ⟨hf, e1⟩ := (md_fails (a := (lb_s f t q)) hR1.1 hR1.2.1 hp1 kc).resolve_right (fun c => c.1 rfl)
        subst e1
        have hR2 := yr_up hR1 (md_Sw (y := lb_c ((lb_s f t q)) (Int32.ofInt 4)) hR1.1 hR1.2.1)
        have k : nt_rn X _ 135 (130, [(3, .int (Int32.ofInt 1)), (2, .int (Int32.ofInt 1)), (1, .int (nI (lb_s f t q))), (0, .ref B)], [.int (Int32.ofInt 0)], me_w M (nt_u (nt_u J B 15 (nI (lb_s f t q))) B 16 (lb_c ((lb_s f t q)) (Int32.ofInt 4)))) _ := k
        have k := lz_ri rfl (by decide) k
        exact ⟨.inl (lb_c ((lb_s f t q)) (Int32.ofInt 4)), _, _, k, Or.inr ⟨1, by decide, g1, fun v hv => by rcases (by omega : v = 0) with rfl <;> assumption, Or.inl ⟨Or.inl h121, rfl⟩⟩, (lb_c_ne (by omega) (by decide) (by decide)), rfl, _, _, _, _, hp1, hR2⟩
      · rw [if_neg (show ¬ ((nI li) = (Int32.ofInt 40)) from show ¬ nI li = nI 40 from me_ne h121 (by omega) (by omega))] at k
        have k := ly_revb 2 (c' := (133, [(3, .int (Int32.ofInt 1)), (2, .int (Int32.ofInt 1)), (1, .int (nI (lb_s f t q))), (0, .ref B)], [.ref B, .ref B], me_w M (nt_u J B 15 (nI (lb_s f t q))))) rfl k
        have k := lz_get (a := B) (g := 1121) (M := me_w M (nt_u J B 15 (nI (lb_s f t q)))) (v := .int (nI li)) rfl (congrArg Value.int (hR1.2.2.2.1)) k
        have k := ly_revb 2 (c' := (138, [(3, .int (Int32.ofInt 1)), (2, .int (Int32.ofInt 1)), (1, .int (nI (lb_s f t q))), (0, .ref B)], [.int ((nI li) + (Int32.ofInt 1)), .ref B], me_w M (nt_u J B 15 (nI (lb_s f t q))))) rfl k
        rw [show ((nI li) + (Int32.ofInt 1) : Int32) = nI (li + 1) from me_add (k := 1)] at k
        have k := me_put rfl (by decide) k
        have k : nt_rn X _ 135 (141, [(3, .int (Int32.ofInt 1)), (2, .int (Int32.ofInt 1)), (1, .int (nI (lb_s f t q))), (0, .ref B)], [], me_w M (nt_u (nt_u J B 15 (nI (lb_s f t q))) B 21 (nI (li + 1)))) _ := k
        have hR2 := yr_li (y := li + 1) hR1
        have k := ly_revb 2 (c' := (if (Int32.ofInt 1) = 0 then 153 else 145, [(3, .int (Int32.ofInt 1)), (2, .int (Int32.ofInt 1)), (1, .int (nI (lb_s f t q))), (0, .ref B)], [], me_w M (nt_u (nt_u J B 15 (nI (lb_s f t q))) B 21 (nI (li + 1))))) rfl k
        rw [if_neg (show ¬ ((Int32.ofInt 1) = 0) from by decide)] at k
        have k := ly_revb 2 (c' := (147, [(3, .int (Int32.ofInt 1)), (2, .int (Int32.ofInt 1)), (1, .int (nI (lb_s f t q))), (0, .ref B)], [.int (nI (lb_s f t q)), .ref B], me_w M (nt_u (nt_u J B 15 (nI (lb_s f t q))) B 21 (nI (li + 1))))) rfl k
        obtain ⟨d1, o1, ed, kc, k⟩ := lz_c (g := 140) (q := 1) (vs := [.ref B, .int (nI (lb_s f t q))]) (rest := []) rfl rfl (by decide) (Or.inr (Or.inl ⟨_, rfl, rfl⟩)) rfl k
        have hbe : ∀ v, v < 1 → ¬ lb_yw f t (lb_s f t q) v := fun v hv => by rcases (by omega : v = 0) with rfl <;> assumption
        obtain ⟨r, a, J', e1, hrel, hQ⟩ := yr_line1 hW hR2 hp1 hss hb g1 hbe kc
        subst e1
        have k : nt_rn X _ 135 (150, [(3, .int (Int32.ofInt 1)), (2, .int (Int32.ofInt 1)), (1, .int (nI (lb_s f t q))), (0, .ref B)], [.int (a)], me_w M (J')) _ := k
        have k := ly_revb 1 (c' := (157, [(3, .int (Int32.ofInt 1)), (2, .int (Int32.ofInt 1)), (1, .int (nI (lb_s f t q))), (0, .ref B)], [.int (a)], me_w M (J'))) rfl k
        have k := lz_ri rfl (by decide) k
        refine ⟨r, a, J', k, Or.inr ⟨1, by decide, g1, hbe, ?_⟩, yr_Qm (fun v D hh => ⟨1, by decide, g1, hbe, hh⟩) hQ⟩
        rcases hrel with ⟨hf, hrel⟩ | ⟨hf, hrel⟩
        · refine Or.inl ⟨?_, hrel⟩
          rcases hf with hf | hf
          · exact Or.inr (Or.inl (fun c => absurd (c.mp (hk.mpr hf)) (by decide)))
          · exact Or.inr (Or.inr hf)
        · refine Or.inr ⟨fun c => ?_, hrel⟩
          rcases c with c | c | c
          · exact h121 c
          · exact c ⟨fun h0 => absurd (Or.inl (hk.mp h0)) hf, fun h0 => absurd h0 (by decide)⟩
          · exact hf (Or.inr c)
    · have k : nt_rn X _ 135 (46, [(2, .int (Int32.ofInt 1)), (1, .int (nI (lb_s f t q))), (0, .ref B)], [.int (Int32.ofInt 0)], me_w M (nt_u J B 15 (nI (lb_s f t q)))) _ := k
      have k := ly_revb 1 (c' := (if (Int32.ofInt 0) = 0 then 49 else 79, [(2, .int (Int32.ofInt 1)), (1, .int (nI (lb_s f t q))), (0, .ref B)], [], me_w M (nt_u J B 15 (nI (lb_s f t q))))) rfl k
      rw [if_pos (show (Int32.ofInt 0) = 0 from by decide)] at k
      have k := ly_revb 2 (c' := (53, [(2, .int (Int32.ofInt 1)), (1, .int (nI (lb_s f t q))), (0, .ref B)], [.long (482854661739), .ref B], me_w M (nt_u J B 15 (nI (lb_s f t q))))) rfl k
      obtain ⟨d1, o1, ed, kc, k⟩ := lz_c (g := 137) (q := 1) (vs := [.ref B, .long (482854661739)]) (rest := []) rfl rfl (by decide) (Or.inr (Or.inl ⟨_, rfl, rfl⟩)) rfl k
      obtain ⟨r, e1, hr⟩ := md_isWord hR1.1 hR1.2.1 hp1 kc
      rw [hss, me_ui hR1.2.1.1] at e1
      rw [hss, lb_w_plank] at hr
      subst e1
      rcases hr with ⟨rfl, g2⟩ | ⟨rfl, g2⟩
      · have k : nt_rn X _ 135 (56, [(2, .int (Int32.ofInt 1)), (1, .int (nI (lb_s f t q))), (0, .ref B)], [.int (Int32.ofInt 1)], me_w M (nt_u J B 15 (nI (lb_s f t q)))) _ := k
        have k := ly_revb 1 (c' := (if (Int32.ofInt 1) = 0 then 59 else 79, [(2, .int (Int32.ofInt 1)), (1, .int (nI (lb_s f t q))), (0, .ref B)], [], me_w M (nt_u J B 15 (nI (lb_s f t q))))) rfl k
        rw [if_neg (show ¬ ((Int32.ofInt 1) = 0) from by decide)] at k
        have k := ly_revb 5 (c' := (if (Int32.ofInt 1) = 0 then 99 else 106, [(3, .int (Int32.ofInt 1)), (2, .int (Int32.ofInt 1)), (1, .int (nI (lb_s f t q))), (0, .ref B)], [], me_w M (nt_u J B 15 (nI (lb_s f t q))))) rfl k
        rw [if_neg (show ¬ ((Int32.ofInt 1) = 0) from by decide)] at k
        have k := ly_revb 1 (c' := (107, [(3, .int (Int32.ofInt 1)), (2, .int (Int32.ofInt 1)), (1, .int (nI (lb_s f t q))), (0, .ref B)], [.ref B], me_w M (nt_u J B 15 (nI (lb_s f t q))))) rfl k
        have k := lz_get (a := B) (g := 1121) (M := me_w M (nt_u J B 15 (nI (lb_s f t q)))) (v := .int (nI li)) rfl (congrArg Value.int (hR1.2.2.2.1)) k
        have k := ly_revb 2 (c' := (if (Int32.ofInt 1) = 0 then 119 else 114, [(3, .int (Int32.ofInt 1)), (2, .int (Int32.ofInt 1)), (1, .int (nI (lb_s f t q))), (0, .ref B)], [.int (nI li)], me_w M (nt_u J B 15 (nI (lb_s f t q))))) rfl k
        rw [if_neg (show ¬ ((Int32.ofInt 1) = 0) from by decide)] at k
        have k := ly_revb 3 (c' := (if (nI li) = (Int32.ofInt 40) then 124 else 131, [(3, .int (Int32.ofInt 1)), (2, .int (Int32.ofInt 1)), (1, .int (nI (lb_s f t q))), (0, .ref B)], [], me_w M (nt_u J B 15 (nI (lb_s f t q))))) rfl k
        by_cases h121 : li = 40
        · rw [if_pos (show (nI li) = (Int32.ofInt 40) from show nI li = nI 40 from congrArg nI h121)] at k
          have k := ly_revb 3 (c' := (127, [(3, .int (Int32.ofInt 1)), (2, .int (Int32.ofInt 1)), (1, .int (nI (lb_s f t q))), (0, .ref B)], [.int (nI (lb_s f t q)), .int (Int32.ofInt 4), .ref B], me_w M (nt_u J B 15 (nI (lb_s f t q))))) rfl k
          obtain ⟨d1, o1, ed, kc, k⟩ := lz_c (g := 139) (q := 1) (vs := [.ref B, .int (Int32.ofInt 4), .int (nI (lb_s f t q))]) (rest := []) rfl rfl (by decide) (Or.inr (Or.inl ⟨_, rfl, rfl⟩)) rfl k
          obtain ⟨hf, e1⟩ := (md_fails (a := (lb_s f t q)) hR1.1 hR1.2.1 hp1 kc).resolve_right (fun c => c.1 rfl)
          subst e1
          have hR2 := yr_up hR1 (md_Sw (y := lb_c ((lb_s f t q)) (Int32.ofInt 4)) hR1.1 hR1.2.1)
          have k : nt_rn X _ 135 (130, [(3, .int (Int32.ofInt 1)), (2, .int (Int32.ofInt 1)), (1, .int (nI (lb_s f t q))), (0, .ref B)], [.int (Int32.ofInt 0)], me_w M (nt_u (nt_u J B 15 (nI (lb_s f t q))) B 16 (lb_c ((lb_s f t q)) (Int32.ofInt 4)))) _ := k
          have k := lz_ri rfl (by decide) k
          exact ⟨.inl (lb_c ((lb_s f t q)) (Int32.ofInt 4)), _, _, k, Or.inr ⟨2, by decide, g2, fun v hv => by rcases (by omega : v = 0 ∨ v = 1) with rfl | rfl <;> assumption, Or.inl ⟨Or.inl h121, rfl⟩⟩, (lb_c_ne (by omega) (by decide) (by decide)), rfl, _, _, _, _, hp1, hR2⟩
        · rw [if_neg (show ¬ ((nI li) = (Int32.ofInt 40)) from show ¬ nI li = nI 40 from me_ne h121 (by omega) (by omega))] at k
          have k := ly_revb 2 (c' := (133, [(3, .int (Int32.ofInt 1)), (2, .int (Int32.ofInt 1)), (1, .int (nI (lb_s f t q))), (0, .ref B)], [.ref B, .ref B], me_w M (nt_u J B 15 (nI (lb_s f t q))))) rfl k
          have k := lz_get (a := B) (g := 1121) (M := me_w M (nt_u J B 15 (nI (lb_s f t q)))) (v := .int (nI li)) rfl (congrArg Value.int (hR1.2.2.2.1)) k
          have k := ly_revb 2 (c' := (138, [(3, .int (Int32.ofInt 1)), (2, .int (Int32.ofInt 1)), (1, .int (nI (lb_s f t q))), (0, .ref B)], [.int ((nI li) + (Int32.ofInt 1)), .ref B], me_w M (nt_u J B 15 (nI (lb_s f t q))))) rfl k
          rw [show ((nI li) + (Int32.ofInt 1) : Int32) = nI (li + 1) from me_add (k := 1)] at k
          have k := me_put rfl (by decide) k
          have k : nt_rn X _ 135 (141, [(3, .int (Int32.ofInt 1)), (2, .int (Int32.ofInt 1)), (1, .int (nI (lb_s f t q))), (0, .ref B)], [], me_w M (nt_u (nt_u J B 15 (nI (lb_s f t q))) B 21 (nI (li + 1)))) _ := k
          have hR2 := yr_li (y := li + 1) hR1
          have k := ly_revb 2 (c' := (if (Int32.ofInt 1) = 0 then 153 else 145, [(3, .int (Int32.ofInt 1)), (2, .int (Int32.ofInt 1)), (1, .int (nI (lb_s f t q))), (0, .ref B)], [], me_w M (nt_u (nt_u J B 15 (nI (lb_s f t q))) B 21 (nI (li + 1))))) rfl k
          rw [if_neg (show ¬ ((Int32.ofInt 1) = 0) from by decide)] at k
          have k := ly_revb 2 (c' := (147, [(3, .int (Int32.ofInt 1)), (2, .int (Int32.ofInt 1)), (1, .int (nI (lb_s f t q))), (0, .ref B)], [.int (nI (lb_s f t q)), .ref B], me_w M (nt_u (nt_u J B 15 (nI (lb_s f t q))) B 21 (nI (li + 1))))) rfl k
          obtain ⟨d1, o1, ed, kc, k⟩ := lz_c (g := 140) (q := 1) (vs := [.ref B, .int (nI (lb_s f t q))]) (rest := []) rfl rfl (by decide) (Or.inr (Or.inl ⟨_, rfl, rfl⟩)) rfl k
          have hbe : ∀ v, v < 2 → ¬ lb_yw f t (lb_s f t q) v := fun v hv => by rcases (by omega : v = 0 ∨ v = 1) with rfl | rfl <;> assumption
          obtain ⟨r, a, J', e1, hrel, hQ⟩ := yr_line2 hW hR2 hp1 hss hb g2 hbe kc
          subst e1
          have k : nt_rn X _ 135 (150, [(3, .int (Int32.ofInt 1)), (2, .int (Int32.ofInt 1)), (1, .int (nI (lb_s f t q))), (0, .ref B)], [.int (a)], me_w M (J')) _ := k
          have k := ly_revb 1 (c' := (157, [(3, .int (Int32.ofInt 1)), (2, .int (Int32.ofInt 1)), (1, .int (nI (lb_s f t q))), (0, .ref B)], [.int (a)], me_w M (J'))) rfl k
          have k := lz_ri rfl (by decide) k
          refine ⟨r, a, J', k, Or.inr ⟨2, by decide, g2, hbe, ?_⟩, yr_Qm (fun v D hh => ⟨2, by decide, g2, hbe, hh⟩) hQ⟩
          rcases hrel with ⟨hf, hrel⟩ | ⟨hf, hrel⟩
          · refine Or.inl ⟨?_, hrel⟩
            rcases hf with hf | hf
            · exact Or.inr (Or.inl (fun c => absurd (c.mp (hk.mpr hf)) (by decide)))
            · exact Or.inr (Or.inr hf)
          · refine Or.inr ⟨fun c => ?_, hrel⟩
            rcases c with c | c | c
            · exact h121 c
            · exact c ⟨fun h0 => absurd (Or.inl (hk.mp h0)) hf, fun h0 => absurd h0 (by decide)⟩
            · exact hf (Or.inr c)
      · have k : nt_rn X _ 135 (56, [(2, .int (Int32.ofInt 1)), (1, .int (nI (lb_s f t q))), (0, .ref B)], [.int (Int32.ofInt 0)], me_w M (nt_u J B 15 (nI (lb_s f t q)))) _ := k
        have k := ly_revb 1 (c' := (if (Int32.ofInt 0) = 0 then 59 else 79, [(2, .int (Int32.ofInt 1)), (1, .int (nI (lb_s f t q))), (0, .ref B)], [], me_w M (nt_u J B 15 (nI (lb_s f t q))))) rfl k
        rw [if_pos (show (Int32.ofInt 0) = 0 from by decide)] at k
        have k := ly_revb 2 (c' := (63, [(2, .int (Int32.ofInt 1)), (1, .int (nI (lb_s f t q))), (0, .ref B)], [.long (130221149874021), .ref B], me_w M (nt_u J B 15 (nI (lb_s f t q))))) rfl k
        obtain ⟨d1, o1, ed, kc, k⟩ := lz_c (g := 137) (q := 1) (vs := [.ref B, .long (130221149874021)]) (rest := []) rfl rfl (by decide) (Or.inr (Or.inl ⟨_, rfl, rfl⟩)) rfl k
        obtain ⟨r, e1, hr⟩ := md_isWord hR1.1 hR1.2.1 hp1 kc
        rw [hss, me_ui hR1.2.1.1] at e1
        rw [hss, lb_w_voyage] at hr
        subst e1
        rcases hr with ⟨rfl, g3⟩ | ⟨rfl, g3⟩
        · have k : nt_rn X _ 135 (66, [(2, .int (Int32.ofInt 1)), (1, .int (nI (lb_s f t q))), (0, .ref B)], [.int (Int32.ofInt 1)], me_w M (nt_u J B 15 (nI (lb_s f t q)))) _ := k
          have k := ly_revb 1 (c' := (if (Int32.ofInt 1) = 0 then 69 else 79, [(2, .int (Int32.ofInt 1)), (1, .int (nI (lb_s f t q))), (0, .ref B)], [], me_w M (nt_u J B 15 (nI (lb_s f t q))))) rfl k
          rw [if_neg (show ¬ ((Int32.ofInt 1) = 0) from by decide)] at k
          have k := ly_revb 5 (c' := (if (Int32.ofInt 1) = 0 then 99 else 106, [(3, .int (Int32.ofInt 1)), (2, .int (Int32.ofInt 1)), (1, .int (nI (lb_s f t q))), (0, .ref B)], [], me_w M (nt_u J B 15 (nI (lb_s f t q))))) rfl k
          rw [if_neg (show ¬ ((Int32.ofInt 1) = 0) from by decide)] at k
          have k := ly_revb 1 (c' := (107, [(3, .int (Int32.ofInt 1)), (2, .int (Int32.ofInt 1)), (1, .int (nI (lb_s f t q))), (0, .ref B)], [.ref B], me_w M (nt_u J B 15 (nI (lb_s f t q))))) rfl k
          have k := lz_get (a := B) (g := 1121) (M := me_w M (nt_u J B 15 (nI (lb_s f t q)))) (v := .int (nI li)) rfl (congrArg Value.int (hR1.2.2.2.1)) k
          have k := ly_revb 2 (c' := (if (Int32.ofInt 1) = 0 then 119 else 114, [(3, .int (Int32.ofInt 1)), (2, .int (Int32.ofInt 1)), (1, .int (nI (lb_s f t q))), (0, .ref B)], [.int (nI li)], me_w M (nt_u J B 15 (nI (lb_s f t q))))) rfl k
          rw [if_neg (show ¬ ((Int32.ofInt 1) = 0) from by decide)] at k
          have k := ly_revb 3 (c' := (if (nI li) = (Int32.ofInt 40) then 124 else 131, [(3, .int (Int32.ofInt 1)), (2, .int (Int32.ofInt 1)), (1, .int (nI (lb_s f t q))), (0, .ref B)], [], me_w M (nt_u J B 15 (nI (lb_s f t q))))) rfl k
          by_cases h121 : li = 40
          · rw [if_pos (show (nI li) = (Int32.ofInt 40) from show nI li = nI 40 from congrArg nI h121)] at k
            have k := ly_revb 3 (c' := (127, [(3, .int (Int32.ofInt 1)), (2, .int (Int32.ofInt 1)), (1, .int (nI (lb_s f t q))), (0, .ref B)], [.int (nI (lb_s f t q)), .int (Int32.ofInt 4), .ref B], me_w M (nt_u J B 15 (nI (lb_s f t q))))) rfl k
            obtain ⟨d1, o1, ed, kc, k⟩ := lz_c (g := 139) (q := 1) (vs := [.ref B, .int (Int32.ofInt 4), .int (nI (lb_s f t q))]) (rest := []) rfl rfl (by decide) (Or.inr (Or.inl ⟨_, rfl, rfl⟩)) rfl k
            obtain ⟨hf, e1⟩ := (md_fails (a := (lb_s f t q)) hR1.1 hR1.2.1 hp1 kc).resolve_right (fun c => c.1 rfl)
            subst e1
            have hR2 := yr_up hR1 (md_Sw (y := lb_c ((lb_s f t q)) (Int32.ofInt 4)) hR1.1 hR1.2.1)
            have k : nt_rn X _ 135 (130, [(3, .int (Int32.ofInt 1)), (2, .int (Int32.ofInt 1)), (1, .int (nI (lb_s f t q))), (0, .ref B)], [.int (Int32.ofInt 0)], me_w M (nt_u (nt_u J B 15 (nI (lb_s f t q))) B 16 (lb_c ((lb_s f t q)) (Int32.ofInt 4)))) _ := k
            have k := lz_ri rfl (by decide) k
            exact ⟨.inl (lb_c ((lb_s f t q)) (Int32.ofInt 4)), _, _, k, Or.inr ⟨3, by decide, g3, fun v hv => by rcases (by omega : v = 0 ∨ v = 1 ∨ v = 2) with rfl | rfl | rfl <;> assumption, Or.inl ⟨Or.inl h121, rfl⟩⟩, (lb_c_ne (by omega) (by decide) (by decide)), rfl, _, _, _, _, hp1, hR2⟩
          · rw [if_neg (show ¬ ((nI li) = (Int32.ofInt 40)) from show ¬ nI li = nI 40 from me_ne h121 (by omega) (by omega))] at k
            have k := ly_revb 2 (c' := (133, [(3, .int (Int32.ofInt 1)), (2, .int (Int32.ofInt 1)), (1, .int (nI (lb_s f t q))), (0, .ref B)], [.ref B, .ref B], me_w M (nt_u J B 15 (nI (lb_s f t q))))) rfl k
            have k := lz_get (a := B) (g := 1121) (M := me_w M (nt_u J B 15 (nI (lb_s f t q)))) (v := .int (nI li)) rfl (congrArg Value.int (hR1.2.2.2.1)) k
            have k := ly_revb 2 (c' := (138, [(3, .int (Int32.ofInt 1)), (2, .int (Int32.ofInt 1)), (1, .int (nI (lb_s f t q))), (0, .ref B)], [.int ((nI li) + (Int32.ofInt 1)), .ref B], me_w M (nt_u J B 15 (nI (lb_s f t q))))) rfl k
            rw [show ((nI li) + (Int32.ofInt 1) : Int32) = nI (li + 1) from me_add (k := 1)] at k
            have k := me_put rfl (by decide) k
            have k : nt_rn X _ 135 (141, [(3, .int (Int32.ofInt 1)), (2, .int (Int32.ofInt 1)), (1, .int (nI (lb_s f t q))), (0, .ref B)], [], me_w M (nt_u (nt_u J B 15 (nI (lb_s f t q))) B 21 (nI (li + 1)))) _ := k
            have hR2 := yr_li (y := li + 1) hR1
            have k := ly_revb 2 (c' := (if (Int32.ofInt 1) = 0 then 153 else 145, [(3, .int (Int32.ofInt 1)), (2, .int (Int32.ofInt 1)), (1, .int (nI (lb_s f t q))), (0, .ref B)], [], me_w M (nt_u (nt_u J B 15 (nI (lb_s f t q))) B 21 (nI (li + 1))))) rfl k
            rw [if_neg (show ¬ ((Int32.ofInt 1) = 0) from by decide)] at k
            have k := ly_revb 2 (c' := (147, [(3, .int (Int32.ofInt 1)), (2, .int (Int32.ofInt 1)), (1, .int (nI (lb_s f t q))), (0, .ref B)], [.int (nI (lb_s f t q)), .ref B], me_w M (nt_u (nt_u J B 15 (nI (lb_s f t q))) B 21 (nI (li + 1))))) rfl k
            obtain ⟨d1, o1, ed, kc, k⟩ := lz_c (g := 140) (q := 1) (vs := [.ref B, .int (nI (lb_s f t q))]) (rest := []) rfl rfl (by decide) (Or.inr (Or.inl ⟨_, rfl, rfl⟩)) rfl k
            have hbe : ∀ v, v < 3 → ¬ lb_yw f t (lb_s f t q) v := fun v hv => by rcases (by omega : v = 0 ∨ v = 1 ∨ v = 2) with rfl | rfl | rfl <;> assumption
            obtain ⟨r, a, J', e1, hrel, hQ⟩ := yr_line3 hW hR2 hp1 hss hb g3 hbe kc
            subst e1
            have k : nt_rn X _ 135 (150, [(3, .int (Int32.ofInt 1)), (2, .int (Int32.ofInt 1)), (1, .int (nI (lb_s f t q))), (0, .ref B)], [.int (a)], me_w M (J')) _ := k
            have k := ly_revb 1 (c' := (157, [(3, .int (Int32.ofInt 1)), (2, .int (Int32.ofInt 1)), (1, .int (nI (lb_s f t q))), (0, .ref B)], [.int (a)], me_w M (J'))) rfl k
            have k := lz_ri rfl (by decide) k
            refine ⟨r, a, J', k, Or.inr ⟨3, by decide, g3, hbe, ?_⟩, yr_Qm (fun v D hh => ⟨3, by decide, g3, hbe, hh⟩) hQ⟩
            rcases hrel with ⟨hf, hrel⟩ | ⟨hf, hrel⟩
            · refine Or.inl ⟨?_, hrel⟩
              rcases hf with hf | hf
              · exact Or.inr (Or.inl (fun c => absurd (c.mp (hk.mpr hf)) (by decide)))
              · exact Or.inr (Or.inr hf)
            · refine Or.inr ⟨fun c => ?_, hrel⟩
              rcases c with c | c | c
              · exact h121 c
              · exact c ⟨fun h0 => absurd (Or.inl (hk.mp h0)) hf, fun h0 => absurd h0 (by decide)⟩
              · exact hf (Or.inr c)
        · have k : nt_rn X _ 135 (66, [(2, .int (Int32.ofInt 1)), (1, .int (nI (lb_s f t q))), (0, .ref B)], [.int (Int32.ofInt 0)], me_w M (nt_u J B 15 (nI (lb_s f t q)))) _ := k
          have k := ly_revb 1 (c' := (if (Int32.ofInt 0) = 0 then 69 else 79, [(2, .int (Int32.ofInt 1)), (1, .int (nI (lb_s f t q))), (0, .ref B)], [], me_w M (nt_u J B 15 (nI (lb_s f t q))))) rfl k
          rw [if_pos (show (Int32.ofInt 0) = 0 from by decide)] at k
          have k := ly_revb 2 (c' := (73, [(2, .int (Int32.ofInt 1)), (1, .int (nI (lb_s f t q))), (0, .ref B)], [.long (448311223411), .ref B], me_w M (nt_u J B 15 (nI (lb_s f t q))))) rfl k
          obtain ⟨d1, o1, ed, kc, k⟩ := lz_c (g := 137) (q := 1) (vs := [.ref B, .long (448311223411)]) (rest := []) rfl rfl (by decide) (Or.inr (Or.inl ⟨_, rfl, rfl⟩)) rfl k
          obtain ⟨r, e1, hr⟩ := md_isWord hR1.1 hR1.2.1 hp1 kc
          rw [hss, me_ui hR1.2.1.1] at e1
          rw [hss, lb_w_hands] at hr
          subst e1
          rcases hr with ⟨rfl, g4⟩ | ⟨rfl, g4⟩
          · have k : nt_rn X _ 135 (76, [(2, .int (Int32.ofInt 1)), (1, .int (nI (lb_s f t q))), (0, .ref B)], [.int (Int32.ofInt 1)], me_w M (nt_u J B 15 (nI (lb_s f t q)))) _ := k
            have k := ly_revb 1 (c' := (if (Int32.ofInt 1) = 0 then 83 else 79, [(2, .int (Int32.ofInt 1)), (1, .int (nI (lb_s f t q))), (0, .ref B)], [], me_w M (nt_u J B 15 (nI (lb_s f t q))))) rfl k
            rw [if_neg (show ¬ ((Int32.ofInt 1) = 0) from by decide)] at k
            have k := ly_revb 5 (c' := (if (Int32.ofInt 1) = 0 then 99 else 106, [(3, .int (Int32.ofInt 1)), (2, .int (Int32.ofInt 1)), (1, .int (nI (lb_s f t q))), (0, .ref B)], [], me_w M (nt_u J B 15 (nI (lb_s f t q))))) rfl k
            rw [if_neg (show ¬ ((Int32.ofInt 1) = 0) from by decide)] at k
            have k := ly_revb 1 (c' := (107, [(3, .int (Int32.ofInt 1)), (2, .int (Int32.ofInt 1)), (1, .int (nI (lb_s f t q))), (0, .ref B)], [.ref B], me_w M (nt_u J B 15 (nI (lb_s f t q))))) rfl k
            have k := lz_get (a := B) (g := 1121) (M := me_w M (nt_u J B 15 (nI (lb_s f t q)))) (v := .int (nI li)) rfl (congrArg Value.int (hR1.2.2.2.1)) k
            have k := ly_revb 2 (c' := (if (Int32.ofInt 1) = 0 then 119 else 114, [(3, .int (Int32.ofInt 1)), (2, .int (Int32.ofInt 1)), (1, .int (nI (lb_s f t q))), (0, .ref B)], [.int (nI li)], me_w M (nt_u J B 15 (nI (lb_s f t q))))) rfl k
            rw [if_neg (show ¬ ((Int32.ofInt 1) = 0) from by decide)] at k
            have k := ly_revb 3 (c' := (if (nI li) = (Int32.ofInt 40) then 124 else 131, [(3, .int (Int32.ofInt 1)), (2, .int (Int32.ofInt 1)), (1, .int (nI (lb_s f t q))), (0, .ref B)], [], me_w M (nt_u J B 15 (nI (lb_s f t q))))) rfl k
            by_cases h121 : li = 40
            · rw [if_pos (show (nI li) = (Int32.ofInt 40) from show nI li = nI 40 from congrArg nI h121)] at k
              have k := ly_revb 3 (c' := (127, [(3, .int (Int32.ofInt 1)), (2, .int (Int32.ofInt 1)), (1, .int (nI (lb_s f t q))), (0, .ref B)], [.int (nI (lb_s f t q)), .int (Int32.ofInt 4), .ref B], me_w M (nt_u J B 15 (nI (lb_s f t q))))) rfl k
              obtain ⟨d1, o1, ed, kc, k⟩ := lz_c (g := 139) (q := 1) (vs := [.ref B, .int (Int32.ofInt 4), .int (nI (lb_s f t q))]) (rest := []) rfl rfl (by decide) (Or.inr (Or.inl ⟨_, rfl, rfl⟩)) rfl k
              obtain ⟨hf, e1⟩ := (md_fails (a := (lb_s f t q)) hR1.1 hR1.2.1 hp1 kc).resolve_right (fun c => c.1 rfl)
              subst e1
              have hR2 := yr_up hR1 (md_Sw (y := lb_c ((lb_s f t q)) (Int32.ofInt 4)) hR1.1 hR1.2.1)
              have k : nt_rn X _ 135 (130, [(3, .int (Int32.ofInt 1)), (2, .int (Int32.ofInt 1)), (1, .int (nI (lb_s f t q))), (0, .ref B)], [.int (Int32.ofInt 0)], me_w M (nt_u (nt_u J B 15 (nI (lb_s f t q))) B 16 (lb_c ((lb_s f t q)) (Int32.ofInt 4)))) _ := k
              have k := lz_ri rfl (by decide) k
              exact ⟨.inl (lb_c ((lb_s f t q)) (Int32.ofInt 4)), _, _, k, Or.inr ⟨4, by decide, g4, fun v hv => by rcases (by omega : v = 0 ∨ v = 1 ∨ v = 2 ∨ v = 3) with rfl | rfl | rfl | rfl <;> assumption, Or.inl ⟨Or.inl h121, rfl⟩⟩, (lb_c_ne (by omega) (by decide) (by decide)), rfl, _, _, _, _, hp1, hR2⟩
            · rw [if_neg (show ¬ ((nI li) = (Int32.ofInt 40)) from show ¬ nI li = nI 40 from me_ne h121 (by omega) (by omega))] at k
              have k := ly_revb 2 (c' := (133, [(3, .int (Int32.ofInt 1)), (2, .int (Int32.ofInt 1)), (1, .int (nI (lb_s f t q))), (0, .ref B)], [.ref B, .ref B], me_w M (nt_u J B 15 (nI (lb_s f t q))))) rfl k
              have k := lz_get (a := B) (g := 1121) (M := me_w M (nt_u J B 15 (nI (lb_s f t q)))) (v := .int (nI li)) rfl (congrArg Value.int (hR1.2.2.2.1)) k
              have k := ly_revb 2 (c' := (138, [(3, .int (Int32.ofInt 1)), (2, .int (Int32.ofInt 1)), (1, .int (nI (lb_s f t q))), (0, .ref B)], [.int ((nI li) + (Int32.ofInt 1)), .ref B], me_w M (nt_u J B 15 (nI (lb_s f t q))))) rfl k
              rw [show ((nI li) + (Int32.ofInt 1) : Int32) = nI (li + 1) from me_add (k := 1)] at k
              have k := me_put rfl (by decide) k
              have k : nt_rn X _ 135 (141, [(3, .int (Int32.ofInt 1)), (2, .int (Int32.ofInt 1)), (1, .int (nI (lb_s f t q))), (0, .ref B)], [], me_w M (nt_u (nt_u J B 15 (nI (lb_s f t q))) B 21 (nI (li + 1)))) _ := k
              have hR2 := yr_li (y := li + 1) hR1
              have k := ly_revb 2 (c' := (if (Int32.ofInt 1) = 0 then 153 else 145, [(3, .int (Int32.ofInt 1)), (2, .int (Int32.ofInt 1)), (1, .int (nI (lb_s f t q))), (0, .ref B)], [], me_w M (nt_u (nt_u J B 15 (nI (lb_s f t q))) B 21 (nI (li + 1))))) rfl k
              rw [if_neg (show ¬ ((Int32.ofInt 1) = 0) from by decide)] at k
              have k := ly_revb 2 (c' := (147, [(3, .int (Int32.ofInt 1)), (2, .int (Int32.ofInt 1)), (1, .int (nI (lb_s f t q))), (0, .ref B)], [.int (nI (lb_s f t q)), .ref B], me_w M (nt_u (nt_u J B 15 (nI (lb_s f t q))) B 21 (nI (li + 1))))) rfl k
              obtain ⟨d1, o1, ed, kc, k⟩ := lz_c (g := 140) (q := 1) (vs := [.ref B, .int (nI (lb_s f t q))]) (rest := []) rfl rfl (by decide) (Or.inr (Or.inl ⟨_, rfl, rfl⟩)) rfl k
              have hbe : ∀ v, v < 4 → ¬ lb_yw f t (lb_s f t q) v := fun v hv => by rcases (by omega : v = 0 ∨ v = 1 ∨ v = 2 ∨ v = 3) with rfl | rfl | rfl | rfl <;> assumption
              obtain ⟨r, a, J', e1, hrel, hQ⟩ := yr_line4 hW hR2 hp1 hss hb g4 hbe kc
              subst e1
              have k : nt_rn X _ 135 (150, [(3, .int (Int32.ofInt 1)), (2, .int (Int32.ofInt 1)), (1, .int (nI (lb_s f t q))), (0, .ref B)], [.int (a)], me_w M (J')) _ := k
              have k := ly_revb 1 (c' := (157, [(3, .int (Int32.ofInt 1)), (2, .int (Int32.ofInt 1)), (1, .int (nI (lb_s f t q))), (0, .ref B)], [.int (a)], me_w M (J'))) rfl k
              have k := lz_ri rfl (by decide) k
              refine ⟨r, a, J', k, Or.inr ⟨4, by decide, g4, hbe, ?_⟩, yr_Qm (fun v D hh => ⟨4, by decide, g4, hbe, hh⟩) hQ⟩
              rcases hrel with ⟨hf, hrel⟩ | ⟨hf, hrel⟩
              · refine Or.inl ⟨?_, hrel⟩
                rcases hf with hf | hf
                · exact Or.inr (Or.inl (fun c => absurd (c.mp (hk.mpr hf)) (by decide)))
                · exact Or.inr (Or.inr hf)
              · refine Or.inr ⟨fun c => ?_, hrel⟩
                rcases c with c | c | c
                · exact h121 c
                · exact c ⟨fun h0 => absurd (Or.inl (hk.mp h0)) hf, fun h0 => absurd h0 (by decide)⟩
                · exact hf (Or.inr c)
          · have k : nt_rn X _ 135 (76, [(2, .int (Int32.ofInt 1)), (1, .int (nI (lb_s f t q))), (0, .ref B)], [.int (Int32.ofInt 0)], me_w M (nt_u J B 15 (nI (lb_s f t q)))) _ := k
            have k := ly_revb 1 (c' := (if (Int32.ofInt 0) = 0 then 83 else 79, [(2, .int (Int32.ofInt 1)), (1, .int (nI (lb_s f t q))), (0, .ref B)], [], me_w M (nt_u J B 15 (nI (lb_s f t q))))) rfl k
            rw [if_pos (show (Int32.ofInt 0) = 0 from by decide)] at k
            have k := ly_revb 5 (c' := (if (Int32.ofInt 0) = 0 then 99 else 106, [(3, .int (Int32.ofInt 0)), (2, .int (Int32.ofInt 1)), (1, .int (nI (lb_s f t q))), (0, .ref B)], [], me_w M (nt_u J B 15 (nI (lb_s f t q))))) rfl k
            rw [if_pos (show (Int32.ofInt 0) = 0 from by decide)] at k
            have k := ly_revb 3 (c' := (102, [(3, .int (Int32.ofInt 0)), (2, .int (Int32.ofInt 1)), (1, .int (nI (lb_s f t q))), (0, .ref B)], [.int (nI (lb_s f t q)), .int (Int32.ofInt 0), .ref B], me_w M (nt_u J B 15 (nI (lb_s f t q))))) rfl k
            obtain ⟨d1, o1, ed, kc, k⟩ := lz_c (g := 139) (q := 1) (vs := [.ref B, .int (Int32.ofInt 0), .int (nI (lb_s f t q))]) (rest := []) rfl rfl (by decide) (Or.inr (Or.inl ⟨_, rfl, rfl⟩)) rfl k
            obtain ⟨hf, e1⟩ := (md_fails (a := (lb_s f t q)) hR1.1 hR1.2.1 hp1 kc).resolve_right (fun c => c.1 rfl)
            subst e1
            have hR2 := yr_up hR1 (md_Sw (y := lb_c ((lb_s f t q)) (Int32.ofInt 0)) hR1.1 hR1.2.1)
            have k : nt_rn X _ 135 (105, [(3, .int (Int32.ofInt 0)), (2, .int (Int32.ofInt 1)), (1, .int (nI (lb_s f t q))), (0, .ref B)], [.int (Int32.ofInt 0)], me_w M (nt_u (nt_u J B 15 (nI (lb_s f t q))) B 16 (lb_c ((lb_s f t q)) (Int32.ofInt 0)))) _ := k
            have k := lz_ri rfl (by decide) k
            refine ⟨.inl (lb_c ((lb_s f t q)) (Int32.ofInt 0)), _, _, k, Or.inl ⟨fun v hv => ?_, rfl⟩, (lb_c_ne (by omega) (by decide) (by decide)), rfl, _, _, _, _, hp1, hR2⟩
            rcases (by omega : v = 0 ∨ v = 1 ∨ v = 2 ∨ v = 3 ∨ v = 4) with rfl | rfl | rfl | rfl | rfl
            · exact g0
            · exact g1
            · exact g2
            · exact g3
            · exact g4
/-- what was read, as it lies -/
def yr_E (R0 R1 R2 B Sg Ln : Nat) (u : Nat × Nat × Nat × Nat × Nat) (D : lb_C) (J : Nat → Nat → Int32) : Prop := (J B 7 = nI u.1 ∧ J B 8 = nI u.2.1 ∧ J B 9 = nI u.2.2.1 ∧ J B 10 = nI u.2.2.2.1 ∧ J B 11 = lb_hh u.2.2.2.2) ∧ yr_C R0 R1 R2 B Sg Ln D J
theorem yr_E1 {R0 R1 R2 B Sg Ln : Nat} {u : Nat × Nat × Nat × Nat × Nat} {D : lb_C} {J : Nat → Nat → Int32} {x : Int32} (h1 : J B 7 = nI u.1 ∧ J B 8 = nI u.2.1 ∧ J B 9 = nI u.2.2.1 ∧ J B 10 = nI u.2.2.2.1 ∧ J B 11 = lb_hh u.2.2.2.2) (h2 : yr_C R0 R1 R2 B Sg Ln D J) : yr_E R0 R1 R2 B Sg Ln u D (nt_u J B 1 x) := ⟨⟨(me_uk (by decide)).trans h1.1, (me_uk (by decide)).trans h1.2.1, (me_uk (by decide)).trans h1.2.2.1, (me_uk (by decide)).trans h1.2.2.2.1, (me_uk (by decide)).trans h1.2.2.2.2⟩, yr_Cr h2 (fun a n1 _ _ => me_uo n1)⟩
theorem yr_rdl {X : nt_X} {d t B Tb Sg Ln m R0 R1 R2 : Nat} {f : Nat → Int32} {M : nt_M} {e : Nat × (Nat → Int32)} {o : Option Value × nt_M} (hW : yr_W M B Tb Sg Ln R0 R1 R2) : ∀ (c : Nat) (u : Nat × Nat × Nat × Nat × Nat) (q li : Nat) (C : lb_C) (J : Nat → Nat → Int32), 40 - li < c → li ≠ 0 → li ≤ 40 → lb_ub u → u.1 ≠ 0 → yr_T R0 R1 R2 C M f t B Tb Sg Ln q 0 m e u li J → q ≤ t → nt_rn X d 134 (35, [(1, .int (Int32.ofInt 1)), (0, .ref B)], [], me_w M J) o → ∃ r a J', o = (some (.int a), me_w M J') ∧ ((lb_g f t (lb_s f t q) = Int32.ofInt 59 ∧ ∃ k, lb_ya f t k li (lb_s f t (lb_s f t q + 1), u) r) ∨ (lb_g f t (lb_s f t q) = Int32.ofInt (-1) ∧ r = .inr (lb_s f t q, u)) ∨ (¬ lb_g f t (lb_s f t q) = Int32.ofInt 59 ∧ ¬ lb_g f t (lb_s f t q) = Int32.ofInt (-1) ∧ r = .inl (lb_c (lb_s f t q) (Int32.ofInt 0)))) ∧ ((∃ c, r = .inl c ∧ c ≠ 0 ∧ a = Int32.ofInt 0 ∧ J' B 16 = c) ∨ ∃ w D, r = .inr w ∧ a = Int32.ofInt 1 ∧ lb_ub w.2 ∧ ((lb_g f t (lb_s f t q) = Int32.ofInt 59 ∧ ∃ k, lb_yaC f t k li (lb_s f t (lb_s f t q + 1), u) w C D) ∨ (lb_g f t (lb_s f t q) = Int32.ofInt (-1) ∧ w = (lb_s f t q, u) ∧ D = C)) ∧ yr_E R0 R1 R2 B Sg Ln w.2 D J') := by
  intro cc
  induction cc with
  | zero => intro u q li C J hc; omega
  | succ cc ih =>
    intro u q li C J hcc hli hl hb hk1 hT hp k
    have t4 : t ≤ 400 := hT.1.2.2.2.2.2.1
    have hk : li = 0 ↔ u.1 = 0 := ⟨fun h => absurd h hli, fun h => absurd h hk1⟩
    have k := ly_revb 2 (c' := (if (Int32.ofInt 1) = 0 then 66 else 39, [(1, .int (Int32.ofInt 1)), (0, .ref B)], [], me_w M J)) rfl k
    rw [if_neg (show ¬ ((Int32.ofInt 1) = 0) from by decide)] at k
    have k := ly_revb 1 (c' := (40, [(1, .int (Int32.ofInt 1)), (0, .ref B)], [.ref B], me_w M J)) rfl k
    obtain ⟨d1, o1, ed, kc, k⟩ := lz_c (g := 136) (q := 1) (vs := [.ref B]) (rest := []) rfl rfl (by decide) (Or.inr (Or.inl ⟨_, rfl, rfl⟩)) rfl k
    have e1 := md_see hT.1 hT.2.1 hp kc
    subst e1
    have hR1 := yr_up hT (md_Sq (y := lb_s f t q) hT.1 hT.2.1)
    have hp1 : lb_s f t q ≤ t := (lb_s_le (t - q) q (by omega)).2
    have hss : lb_s f t (lb_s f t q) = lb_s f t q := lb_ss hp
    have k : nt_rn X _ 134 (43, [(1, .int (Int32.ofInt 1)), (0, .ref B)], [.int (lb_g f t (lb_s f t q))], me_w M (nt_u J B 15 (nI (lb_s f t q)))) _ := k
    have k : nt_rn X _ 134 (43, [(1, .int (Int32.ofInt 1)), (0, .ref B)], [.int (lb_g f t (lb_s f t q))], me_w M (nt_u J B 15 (nI (lb_s f t q)))) _ := k
    have k := ly_revb 2 (c' := (if (lb_g f t (lb_s f t q)) = (Int32.ofInt 59) then 48 else 66, [(1, .int (Int32.ofInt 1)), (0, .ref B)], [], me_w M (nt_u J B 15 (nI (lb_s f t q))))) rfl k
    by_cases h45 : lb_g f t (lb_s f t q) = Int32.ofInt 59
    · rw [if_pos (show (lb_g f t (lb_s f t q)) = (Int32.ofInt 59) from h45)] at k
      have k := ly_revb 2 (c' := (50, [(1, .int (Int32.ofInt 1)), (0, .ref B)], [.ref B, .ref B], me_w M (nt_u J B 15 (nI (lb_s f t q))))) rfl k
      have k := lz_get (a := B) (g := 1115) (M := me_w M (nt_u J B 15 (nI (lb_s f t q)))) (v := .int (nI (lb_s f t q))) rfl (congrArg Value.int (hR1.2.1.1)) k
      have k := ly_revb 2 (c' := (55, [(1, .int (Int32.ofInt 1)), (0, .ref B)], [.int ((nI (lb_s f t q)) + (Int32.ofInt 1)), .ref B], me_w M (nt_u J B 15 (nI (lb_s f t q))))) rfl k
      rw [show ((nI (lb_s f t q)) + (Int32.ofInt 1) : Int32) = nI ((lb_s f t q) + 1) from me_add (k := 1)] at k
      have k := me_put rfl (by decide) k
      have k : nt_rn X _ 134 (58, [(1, .int (Int32.ofInt 1)), (0, .ref B)], [], me_w M (nt_u (nt_u J B 15 (nI (lb_s f t q))) B 15 (nI ((lb_s f t q) + 1)))) _ := k
      have hlt : lb_s f t q < t := lb_g_lt (by rw [h45]; decide)
      have hR2 := yr_up hR1 (md_Sq (y := lb_s f t q + 1) hR1.1 hR1.2.1)
      have k := ly_revb 1 (c' := (59, [(1, .int (Int32.ofInt 1)), (0, .ref B)], [.ref B], me_w M (nt_u (nt_u J B 15 (nI (lb_s f t q))) B 15 (nI ((lb_s f t q) + 1))))) rfl k
      obtain ⟨d1, o1, ed, kc, k⟩ := lz_c (g := 135) (q := 1) (vs := [.ref B]) (rest := []) rfl rfl (by decide) (Or.inr (Or.inl ⟨_, rfl, rfl⟩)) rfl k
      obtain ⟨r3, a3, J3, e1, hyc, hQ⟩ := yr_clause hW hR2 (show lb_s f t q + 1 ≤ t from hlt) hb hk hl kc
      subst e1
      rcases r3 with c | w3
      · obtain ⟨hc, rfl, q3, u3, l3, D3, hq3, hT3⟩ := hQ
        have k : nt_rn X _ 134 (62, [(1, .int (Int32.ofInt 1)), (0, .ref B)], [.int (Int32.ofInt 0)], me_w M J3) _ := k
        have k := ly_revb 2 (c' := (35, [(1, .int (Int32.ofInt 0)), (0, .ref B)], [], me_w M J3)) rfl k
        have k := ly_revb 2 (c' := (if (Int32.ofInt 0) = 0 then 66 else 39, [(1, .int (Int32.ofInt 0)), (0, .ref B)], [], me_w M J3)) rfl k
        rw [if_pos (show (Int32.ofInt 0) = 0 from by decide)] at k
        have k := ly_revb 2 (c' := (if (Int32.ofInt 0) = 0 then 88 else 70, [(1, .int (Int32.ofInt 0)), (0, .ref B)], [], me_w M J3)) rfl k
        rw [if_pos (show (Int32.ofInt 0) = 0 from by decide)] at k
        have k := ly_revb 2 (c' := (90, [(1, .int (Int32.ofInt 0)), (0, .ref B)], [.int (Int32.ofInt 0), .ref B], me_w M J3)) rfl k
        have k := me_put rfl (by decide) k
        have k : nt_rn X _ 134 (93, [(1, .int (Int32.ofInt 0)), (0, .ref B)], [], me_w M (nt_u J3 B 1 (Int32.ofInt 0))) _ := k
        have k := ly_revb 1 (c' := (94, [(1, .int (Int32.ofInt 0)), (0, .ref B)], [.ref B], me_w M (nt_u J3 B 1 (Int32.ofInt 0)))) rfl k
        have k := lz_get (a := B) (g := 1116) (M := me_w M (nt_u J3 B 1 (Int32.ofInt 0))) (v := .int (c)) rfl (congrArg Value.int ((me_uk (by decide)).trans (hT3.2.1.2.1))) k
        have k := ly_revb 1 (c' := (if c = 0 then 100 else 104, [(1, .int (Int32.ofInt 0)), (0, .ref B)], [], me_w M (nt_u J3 B 1 (Int32.ofInt 0)))) rfl k
        rw [if_neg (show ¬ (c = 0) from hc)] at k
        have k := ly_revb 1 (c' := (105, [(1, .int (Int32.ofInt 0)), (0, .ref B)], [.int (Int32.ofInt 0)], me_w M (nt_u J3 B 1 (Int32.ofInt 0)))) rfl k
        have k := lz_ri rfl (by decide) k
        exact ⟨.inl (c), _, _, k, Or.inl ⟨h45, 1, _, hyc, Or.inl ⟨c, rfl, rfl⟩⟩, Or.inl ⟨_, rfl, hc, rfl, (me_uk (by decide)).trans hT3.2.1.2.1⟩⟩
      · obtain ⟨rfl, hb3, hk3, q3, D3, hz3, hq3, hC3, hT3⟩ := hQ
        have k : nt_rn X _ 134 (62, [(1, .int (Int32.ofInt 1)), (0, .ref B)], [.int (Int32.ofInt 1)], me_w M J3) _ := k
        have k := ly_revb 2 (c' := (35, [(1, .int (Int32.ofInt 1)), (0, .ref B)], [], me_w M J3)) rfl k
        have hl3 : li < 40 := by
          apply Classical.byContradiction
          intro hh
          obtain ⟨w, _, _, _, h9⟩ := hyc.resolve_left (fun h => by cases h.2)
          rcases h9 with ⟨_, h9⟩ | ⟨h9, _⟩
          · cases h9
          · exact h9 (Or.inl (by omega))
        obtain ⟨r, a, J', e9, htl, hf⟩ := ih w3.2 q3 (li + 1) D3 _ (by omega) (by omega) (by omega) hb3 hk3 hT3 hq3 k
        rw [hz3] at htl hf
        refine ⟨r, a, J', e9, Or.inl ⟨h45, ?_⟩, hf.imp_right (fun ⟨w, D, x1, x2, x3, x4, x5⟩ => ⟨w, D, x1, x2, x3, Or.inl ⟨h45, x4.elim (fun ⟨g1, k9, h9⟩ => ⟨k9 + 1, _, _, hyc, hC3, Or.inl ⟨g1, h9⟩⟩) (fun ⟨g1, g2, g3⟩ => ⟨1, _, _, hyc, hC3, Or.inr ⟨g1, g2, g3⟩⟩)⟩, x5⟩)⟩
        rcases htl with ⟨g1, k9, h9⟩ | h9 | h9
        · exact ⟨k9 + 1, _, hyc, Or.inr ⟨w3, rfl, Or.inl ⟨g1, h9⟩⟩⟩
        · exact ⟨1, _, hyc, Or.inr ⟨w3, rfl, Or.inr (Or.inl h9)⟩⟩
        · exact ⟨1, _, hyc, Or.inr ⟨w3, rfl, Or.inr (Or.inr h9)⟩⟩
    · rw [if_neg (show ¬ ((lb_g f t (lb_s f t q)) = (Int32.ofInt 59)) from h45)] at k
      have k := ly_revb 2 (c' := (if (Int32.ofInt 1) = 0 then 88 else 70, [(1, .int (Int32.ofInt 1)), (0, .ref B)], [], me_w M (nt_u J B 15 (nI (lb_s f t q))))) rfl k
      rw [if_neg (show ¬ ((Int32.ofInt 1) = 0) from by decide)] at k
      have k := ly_revb 1 (c' := (71, [(1, .int (Int32.ofInt 1)), (0, .ref B)], [.ref B], me_w M (nt_u J B 15 (nI (lb_s f t q))))) rfl k
      obtain ⟨d1, o1, ed, kc, k⟩ := lz_c (g := 136) (q := 1) (vs := [.ref B]) (rest := []) rfl rfl (by decide) (Or.inr (Or.inl ⟨_, rfl, rfl⟩)) rfl k
      have e1 := md_see hR1.1 hR1.2.1 hp1 kc
      rw [hss, me_ui hR1.2.1.1] at e1
      subst e1
      have k : nt_rn X _ 134 (74, [(1, .int (Int32.ofInt 1)), (0, .ref B)], [.int (lb_g f t (lb_s f t q))], me_w M (nt_u J B 15 (nI (lb_s f t q)))) _ := k
      have k := ly_revb 2 (c' := (if (lb_g f t (lb_s f t q)) = (Int32.ofInt (-1)) then 88 else 78, [(1, .int (Int32.ofInt 1)), (0, .ref B)], [], me_w M (nt_u J B 15 (nI (lb_s f t q))))) rfl k
      by_cases h75 : lb_g f t (lb_s f t q) = Int32.ofInt (-1)
      · rw [if_pos (show (lb_g f t (lb_s f t q)) = (Int32.ofInt (-1)) from h75)] at k
        have k := ly_revb 2 (c' := (90, [(1, .int (Int32.ofInt 1)), (0, .ref B)], [.int (Int32.ofInt 0), .ref B], me_w M (nt_u J B 15 (nI (lb_s f t q))))) rfl k
        have k := me_put rfl (by decide) k
        have k : nt_rn X _ 134 (93, [(1, .int (Int32.ofInt 1)), (0, .ref B)], [], me_w M (nt_u (nt_u J B 15 (nI (lb_s f t q))) B 1 (Int32.ofInt 0))) _ := k
        have k := ly_revb 1 (c' := (94, [(1, .int (Int32.ofInt 1)), (0, .ref B)], [.ref B], me_w M (nt_u (nt_u J B 15 (nI (lb_s f t q))) B 1 (Int32.ofInt 0)))) rfl k
        have k := lz_get (a := B) (g := 1116) (M := me_w M (nt_u (nt_u J B 15 (nI (lb_s f t q))) B 1 (Int32.ofInt 0))) (v := .int ((0 : Int32))) rfl (congrArg Value.int ((me_uk (by decide)).trans (hR1.2.1.2.1))) k
        have k := ly_revb 1 (c' := (if ((0 : Int32)) = 0 then 100 else 104, [(1, .int (Int32.ofInt 1)), (0, .ref B)], [], me_w M (nt_u (nt_u J B 15 (nI (lb_s f t q))) B 1 (Int32.ofInt 0)))) rfl k
        rw [if_pos (show ((0 : Int32)) = 0 from rfl)] at k
        have k := ly_revb 2 (c' := (105, [(1, .int (Int32.ofInt 1)), (0, .ref B)], [.int (Int32.ofInt 1)], me_w M (nt_u (nt_u J B 15 (nI (lb_s f t q))) B 1 (Int32.ofInt 0)))) rfl k
        have k := lz_ri rfl (by decide) k
        exact ⟨.inr (lb_s f t q, u), _, _, k, Or.inr (Or.inl ⟨h75, rfl⟩), Or.inr ⟨_, C, rfl, rfl, hb, Or.inr ⟨h75, rfl, rfl⟩, yr_E1 hR1.2.2.1 hR1.2.2.2.2⟩⟩
      · rw [if_neg (show ¬ ((lb_g f t (lb_s f t q)) = (Int32.ofInt (-1))) from h75)] at k
        have k := ly_revb 3 (c' := (81, [(1, .int (Int32.ofInt 1)), (0, .ref B)], [.ref B, .int (Int32.ofInt 0), .ref B], me_w M (nt_u J B 15 (nI (lb_s f t q))))) rfl k
        have k := lz_get (a := B) (g := 1115) (M := me_w M (nt_u J B 15 (nI (lb_s f t q)))) (v := .int (nI (lb_s f t q))) rfl (congrArg Value.int (hR1.2.1.1)) k
        obtain ⟨d1, o1, ed, kc, k⟩ := lz_c (g := 139) (q := 1) (vs := [.ref B, .int (Int32.ofInt 0), .int (nI (lb_s f t q))]) (rest := []) rfl rfl (by decide) (Or.inr (Or.inl ⟨_, rfl, rfl⟩)) rfl k
        obtain ⟨hf, e1⟩ := (md_fails (a := (lb_s f t q)) hR1.1 hR1.2.1 hp1 kc).resolve_right (fun c => c.1 rfl)
        subst e1
        have hR2 := yr_up hR1 (md_Sw (y := lb_c ((lb_s f t q)) (Int32.ofInt 0)) hR1.1 hR1.2.1)
        have k : nt_rn X _ 134 (87, [(1, .int (Int32.ofInt 1)), (0, .ref B)], [.int (Int32.ofInt 0)], me_w M (nt_u (nt_u J B 15 (nI (lb_s f t q))) B 16 (lb_c ((lb_s f t q)) (Int32.ofInt 0)))) _ := k
        have k := ly_revb 3 (c' := (90, [(1, .int (Int32.ofInt 1)), (0, .ref B)], [.int (Int32.ofInt 0), .ref B], me_w M (nt_u (nt_u J B 15 (nI (lb_s f t q))) B 16 (lb_c ((lb_s f t q)) (Int32.ofInt 0))))) rfl k
        have k := me_put rfl (by decide) k
        have k : nt_rn X _ 134 (93, [(1, .int (Int32.ofInt 1)), (0, .ref B)], [], me_w M (nt_u (nt_u (nt_u J B 15 (nI (lb_s f t q))) B 16 (lb_c ((lb_s f t q)) (Int32.ofInt 0))) B 1 (Int32.ofInt 0))) _ := k
        have k := ly_revb 1 (c' := (94, [(1, .int (Int32.ofInt 1)), (0, .ref B)], [.ref B], me_w M (nt_u (nt_u (nt_u J B 15 (nI (lb_s f t q))) B 16 (lb_c ((lb_s f t q)) (Int32.ofInt 0))) B 1 (Int32.ofInt 0)))) rfl k
        have k := lz_get (a := B) (g := 1116) (M := me_w M (nt_u (nt_u (nt_u J B 15 (nI (lb_s f t q))) B 16 (lb_c ((lb_s f t q)) (Int32.ofInt 0))) B 1 (Int32.ofInt 0))) (v := .int (lb_c ((lb_s f t q)) (Int32.ofInt 0))) rfl (congrArg Value.int ((me_uk (by decide)).trans (hR2.2.1.2.1))) k
        have k := ly_revb 1 (c' := (if (lb_c ((lb_s f t q)) (Int32.ofInt 0)) = 0 then 100 else 104, [(1, .int (Int32.ofInt 1)), (0, .ref B)], [], me_w M (nt_u (nt_u (nt_u J B 15 (nI (lb_s f t q))) B 16 (lb_c ((lb_s f t q)) (Int32.ofInt 0))) B 1 (Int32.ofInt 0)))) rfl k
        rw [if_neg (show ¬ ((lb_c ((lb_s f t q)) (Int32.ofInt 0)) = 0) from (lb_c_ne (by omega) (by decide) (by decide)))] at k
        have k := ly_revb 1 (c' := (105, [(1, .int (Int32.ofInt 1)), (0, .ref B)], [.int (Int32.ofInt 0)], me_w M (nt_u (nt_u (nt_u J B 15 (nI (lb_s f t q))) B 16 (lb_c ((lb_s f t q)) (Int32.ofInt 0))) B 1 (Int32.ofInt 0)))) rfl k
        have k := lz_ri rfl (by decide) k
        exact ⟨.inl (lb_c ((lb_s f t q)) (Int32.ofInt 0)), _, _, k, Or.inr (Or.inr ⟨h45, h75, rfl⟩), Or.inl ⟨_, rfl, (lb_c_ne (by omega) (by decide) (by decide)), rfl, (me_uk (by decide)).trans hR2.2.1.2.1⟩⟩
theorem yr_reads {C : lb_C} {X : nt_X} {d t B Tb Sg Ln R0 R1 R2 : Nat} {f : Nat → Int32} {M : nt_M} {J : Nat → Nat → Int32} {o : Option Value × nt_M} (hW : yr_W M B Tb Sg Ln R0 R1 R2) (hP : md_P M J f t 6 B Tb Sg Ln) (h0 : J B 7 = nI 0 ∧ J B 8 = nI 0 ∧ J B 9 = nI 0 ∧ J B 10 = nI 0 ∧ J B 11 = lb_hh 0) (hC : yr_C R0 R1 R2 B Sg Ln C J) (k : nt_ev X d 134 [.ref B] (me_w M J) o) : ∃ r a J', o = (some (.int a), me_w M J') ∧ (∃ n, lb_ya f t n 0 (lb_s f t 0, (0, 0, 0, 0, 0)) r) ∧ ((∃ c, r = .inl c ∧ c ≠ 0 ∧ a = Int32.ofInt 0 ∧ J' B 16 = c) ∨ ∃ w D, r = .inr w ∧ a = Int32.ofInt 1 ∧ lb_ub w.2 ∧ (∃ k, lb_yaC f t k 0 (lb_s f t 0, (0, 0, 0, 0, 0)) w C D) ∧ yr_E R0 R1 R2 B Sg Ln w.2 D J') := by
  have k : nt_rn X d 134 (0, [(0, .ref B)], [], me_w M J) o := k
  have t4 : t ≤ 400 := hP.2.2.2.2.2.1
  have k := ly_revb 1 (c' := (1, [(0, .ref B)], [.ref B], me_w M J)) rfl k
  have k := lz_get (a := B) (g := 1104) (M := me_w M J) (v := .ref Ln) rfl (nt_gfR rfl hP.1.2.2) k
  have k := ly_revb 1 (c' := (5, [(0, .ref B)], [.ref B, .ref Ln], me_w M J)) rfl k
  have k := lz_get (a := B) (g := 1118) (M := me_w M J) (v := .int (nI 6)) rfl (congrArg Value.int (hP.2.2.2.1)) k
  have k := ly_revb 1 (c' := (9, [(0, .ref B)], [.int (Int32.ofInt 0), .int (nI 6), .ref Ln], me_w M J)) rfl k
  have k := me_iast (q := 6) rfl (rfl) (by omega) k
  have k := ly_revb 2 (c' := (12, [(0, .ref B)], [.int (Int32.ofInt 0), .ref B], me_w M (nt_u J Ln 6 (Int32.ofInt 0)))) rfl k
  have k := me_put rfl (by decide) k
  have k : nt_rn X _ 134 (15, [(0, .ref B)], [], me_w M (nt_u (nt_u J Ln 6 (Int32.ofInt 0)) B 21 (Int32.ofInt 0))) _ := k
  have k := ly_revb 2 (c' := (17, [(0, .ref B)], [.int (Int32.ofInt 0), .ref B], me_w M (nt_u (nt_u J Ln 6 (Int32.ofInt 0)) B 21 (Int32.ofInt 0)))) rfl k
  have k := me_put rfl (by decide) k
  have k : nt_rn X _ 134 (20, [(0, .ref B)], [], me_w M (nt_u (nt_u (nt_u J Ln 6 (Int32.ofInt 0)) B 21 (Int32.ofInt 0)) B 15 (Int32.ofInt 0))) _ := k
  have k := ly_revb 2 (c' := (22, [(0, .ref B)], [.int (Int32.ofInt 0), .ref B], me_w M (nt_u (nt_u (nt_u J Ln 6 (Int32.ofInt 0)) B 21 (Int32.ofInt 0)) B 15 (Int32.ofInt 0)))) rfl k
  have k := me_put rfl (by decide) k
  have k : nt_rn X _ 134 (25, [(0, .ref B)], [], me_w M (nt_u (nt_u (nt_u (nt_u J Ln 6 (Int32.ofInt 0)) B 21 (Int32.ofInt 0)) B 15 (Int32.ofInt 0)) B 16 (Int32.ofInt 0))) _ := k
  have k := ly_revb 2 (c' := (27, [(0, .ref B)], [.int (Int32.ofInt 0), .ref B], me_w M (nt_u (nt_u (nt_u (nt_u J Ln 6 (Int32.ofInt 0)) B 21 (Int32.ofInt 0)) B 15 (Int32.ofInt 0)) B 16 (Int32.ofInt 0)))) rfl k
  have k := me_put rfl (by decide) k
  have k : nt_rn X _ 134 (30, [(0, .ref B)], [], me_w M (nt_u (nt_u (nt_u (nt_u (nt_u J Ln 6 (Int32.ofInt 0)) B 21 (Int32.ofInt 0)) B 15 (Int32.ofInt 0)) B 16 (Int32.ofInt 0)) B 19 (Int32.ofInt 0))) _ := k
  have n2 := hP.2.1.2.2.2.2.1
  have n3 := hP.2.1.2.2.1
  have hT : yr_T R0 R1 R2 C M f t B Tb Sg Ln 0 0 0 (0, fun _ => 0) (0, 0, 0, 0, 0) 0 (nt_u (nt_u (nt_u (nt_u (nt_u J Ln 6 (Int32.ofInt 0)) B 21 (Int32.ofInt 0)) B 15 (Int32.ofInt 0)) B 16 (Int32.ofInt 0)) B 19 (Int32.ofInt 0)) := by
    refine ⟨⟨hP.1, hP.2.1, (me_uk (by decide)).trans ((me_uk (by decide)).trans ((me_uk (by decide)).trans ((me_uk (by decide)).trans ((me_uj (hP.2.1.2.2.2.2.1)).trans (hP.2.2.1))))), (me_uk (by decide)).trans ((me_uk (by decide)).trans ((me_uk (by decide)).trans ((me_uk (by decide)).trans ((me_uj (hP.2.1.2.2.2.2.1)).trans (hP.2.2.2.1))))), fun j => ?_, hP.2.2.2.2.2⟩, ⟨(me_uk (by decide)).trans ((me_uk (by decide)).trans me_us), (me_uk (by decide)).trans me_us, me_us, ?_, fun j hj => absurd hj (Nat.not_lt_zero _), fun _ _ _ _ _ => rfl, fun _ _ _ _ => rfl, Nat.zero_le _, Nat.zero_le _⟩, ⟨(me_uk (by decide)).trans ((me_uk (by decide)).trans ((me_uk (by decide)).trans ((me_uk (by decide)).trans ((me_uj (hP.2.1.2.2.2.2.1)).trans (h0.1))))), (me_uk (by decide)).trans ((me_uk (by decide)).trans ((me_uk (by decide)).trans ((me_uk (by decide)).trans ((me_uj (hP.2.1.2.2.2.2.1)).trans (h0.2.1))))), (me_uk (by decide)).trans ((me_uk (by decide)).trans ((me_uk (by decide)).trans ((me_uk (by decide)).trans ((me_uj (hP.2.1.2.2.2.2.1)).trans (h0.2.2.1))))), (me_uk (by decide)).trans ((me_uk (by decide)).trans ((me_uk (by decide)).trans ((me_uk (by decide)).trans ((me_uj (hP.2.1.2.2.2.2.1)).trans (h0.2.2.2.1))))), (me_uk (by decide)).trans ((me_uk (by decide)).trans ((me_uk (by decide)).trans ((me_uk (by decide)).trans ((me_uj (hP.2.1.2.2.2.2.1)).trans (h0.2.2.2.2)))))⟩, (me_uk (by decide)).trans ((me_uk (by decide)).trans ((me_uk (by decide)).trans me_us)), yr_Cr hC (fun a z1 z2 z3 => (me_uo z1).trans ((me_uo z1).trans ((me_uo z1).trans ((me_uo z1).trans (me_uo z3)))))⟩
    · rw [me_uj hP.2.1.1, me_uj hP.2.1.1, me_uj hP.2.1.1, me_uj hP.2.1.1, me_uj n3]
      exact hP.2.2.2.2.1 j
    · rw [me_uj (Ne.symm n2), me_uj (Ne.symm n2), me_uj (Ne.symm n2), me_uj (Ne.symm n2), me_us]
      rfl
  have hb : lb_ub (0, 0, 0, 0, 0) := ⟨by decide, by decide, by decide, by decide, by decide⟩
  have hk : (0 : Nat) = 0 ↔ ((0, 0, 0, 0, 0) : Nat × Nat × Nat × Nat × Nat).1 = 0 := ⟨fun _ => rfl, fun _ => rfl⟩
  have hl : (0 : Nat) ≤ 40 := by decide
  have k := ly_revb 1 (c' := (31, [(0, .ref B)], [.ref B], me_w M (nt_u (nt_u (nt_u (nt_u (nt_u J Ln 6 (Int32.ofInt 0)) B 21 (Int32.ofInt 0)) B 15 (Int32.ofInt 0)) B 16 (Int32.ofInt 0)) B 19 (Int32.ofInt 0)))) rfl k
  obtain ⟨d1, o1, ed, kc, k⟩ := lz_c (g := 135) (q := 1) (vs := [.ref B]) (rest := []) rfl rfl (by decide) (Or.inr (Or.inl ⟨_, rfl, rfl⟩)) rfl k
  obtain ⟨r3, a3, J3, e1, hyc, hQ⟩ := yr_clause hW hT (Nat.zero_le _) hb hk hl kc
  subst e1
  rcases r3 with c | w3
  · obtain ⟨hc, rfl, q3, u3, l3, D3, hq3, hT3⟩ := hQ
    have k : nt_rn X _ 134 (34, [(0, .ref B)], [.int (Int32.ofInt 0)], me_w M J3) _ := k
    have k := ly_revb 1 (c' := (35, [(1, .int (Int32.ofInt 0)), (0, .ref B)], [], me_w M J3)) rfl k
    have k := ly_revb 2 (c' := (if (Int32.ofInt 0) = 0 then 66 else 39, [(1, .int (Int32.ofInt 0)), (0, .ref B)], [], me_w M J3)) rfl k
    rw [if_pos (show (Int32.ofInt 0) = 0 from by decide)] at k
    have k := ly_revb 2 (c' := (if (Int32.ofInt 0) = 0 then 88 else 70, [(1, .int (Int32.ofInt 0)), (0, .ref B)], [], me_w M J3)) rfl k
    rw [if_pos (show (Int32.ofInt 0) = 0 from by decide)] at k
    have k := ly_revb 2 (c' := (90, [(1, .int (Int32.ofInt 0)), (0, .ref B)], [.int (Int32.ofInt 0), .ref B], me_w M J3)) rfl k
    have k := me_put rfl (by decide) k
    have k : nt_rn X _ 134 (93, [(1, .int (Int32.ofInt 0)), (0, .ref B)], [], me_w M (nt_u J3 B 1 (Int32.ofInt 0))) _ := k
    have k := ly_revb 1 (c' := (94, [(1, .int (Int32.ofInt 0)), (0, .ref B)], [.ref B], me_w M (nt_u J3 B 1 (Int32.ofInt 0)))) rfl k
    have k := lz_get (a := B) (g := 1116) (M := me_w M (nt_u J3 B 1 (Int32.ofInt 0))) (v := .int (c)) rfl (congrArg Value.int ((me_uk (by decide)).trans (hT3.2.1.2.1))) k
    have k := ly_revb 1 (c' := (if c = 0 then 100 else 104, [(1, .int (Int32.ofInt 0)), (0, .ref B)], [], me_w M (nt_u J3 B 1 (Int32.ofInt 0)))) rfl k
    rw [if_neg (show ¬ (c = 0) from hc)] at k
    have k := ly_revb 1 (c' := (105, [(1, .int (Int32.ofInt 0)), (0, .ref B)], [.int (Int32.ofInt 0)], me_w M (nt_u J3 B 1 (Int32.ofInt 0)))) rfl k
    have k := lz_ri rfl (by decide) k
    exact ⟨.inl (c), _, _, k, ⟨1, _, hyc, Or.inl ⟨c, rfl, rfl⟩⟩, Or.inl ⟨_, rfl, hc, rfl, (me_uk (by decide)).trans hT3.2.1.2.1⟩⟩
  · obtain ⟨rfl, hb3, hk3, q3, D3, hz3, hq3, hC3, hT3⟩ := hQ
    have k : nt_rn X _ 134 (34, [(0, .ref B)], [.int (Int32.ofInt 1)], me_w M J3) _ := k
    have k := ly_revb 1 (c' := (35, [(1, .int (Int32.ofInt 1)), (0, .ref B)], [], me_w M J3)) rfl k
    obtain ⟨r, a, J', e9, htl, hf⟩ := yr_rdl hW 41 w3.2 q3 (0 + 1) D3 _ (by decide) (by decide) (by decide) hb3 hk3 hT3 hq3 k
    rw [hz3] at htl hf
    refine ⟨r, a, J', e9, ?_, hf.imp_right (fun ⟨w, D, x1, x2, x3, x4, x5⟩ => ⟨w, D, x1, x2, x3, x4.elim (fun ⟨g1, k9, h9⟩ => ⟨k9 + 1, _, _, hyc, hC3, Or.inl ⟨g1, h9⟩⟩) (fun ⟨g1, g2, g3⟩ => ⟨1, _, _, hyc, hC3, Or.inr ⟨g1, g2, g3⟩⟩), x5⟩)⟩
    rcases htl with ⟨g1, k9, h9⟩ | h9 | h9
    · exact ⟨k9 + 1, _, hyc, Or.inr ⟨w3, rfl, Or.inl ⟨g1, h9⟩⟩⟩
    · exact ⟨1, _, hyc, Or.inr ⟨w3, rfl, Or.inr (Or.inl h9)⟩⟩
    · exact ⟨1, _, hyc, Or.inr ⟨w3, rfl, Or.inr (Or.inr h9)⟩⟩
end
section
/-! a yard that was read begins: the other side's row -/
theorem yf_ix {a m s k : Nat} (h : a + m * s + k < 100000) : (nI a + nI m * nI s + nI k).toNatClampNeg = a + m * s + k := by
  have e : nI a + nI m * nI s + nI k = nI (a + m * s + k) := by
    rw [← me_addn, ← me_addn, show nI (m * s) = nI m * nI s from Int32.ofNat_mul m s]
  rw [e, nI_clamp (by omega)]
theorem yf_jx {m s k : Nat} (h : m * s + k < 100000) : (nI m * nI s + nI k).toNatClampNeg = m * s + k := by
  have e : nI m * nI s + nI k = nI (m * s + k) := by
    rw [← me_addn, show nI (m * s) = nI m * nI s from Int32.ofNat_mul m s]
  rw [e, nI_clamp (by omega)]
theorem yf_56 {p : Nat → Nat} {v : Int32} : ∀ (c n : Nat) (J : Nat → Nat → Int32) (j : Nat), n ≤ 212 → 212 ≤ n + c → x166F_56 p v c (nI n) J (p 4) j = if n ≤ j ∧ j < 212 then 0 else J (p 4) j := by
  intro c
  induction c with
  | zero =>
    intro n J j h1 h2
    rw [if_neg (by omega)]
    rfl
  | succ c ih =>
    intro n J j h1 h2
    rw [x166F_56]
    by_cases e : n = 212
    · subst e
      rw [if_pos (show Int32.ofInt 212 ≤ nI 212 from nI_le (Nat.le_refl 212) (by decide)), if_neg (by omega)]
    · rw [if_neg (show ¬ Int32.ofInt 212 ≤ nI n from nI_ge (b := 212) (by omega) (by decide)), show nI n + Int32.ofInt 1 = nI (n + 1) from me_addn (a := n) (b := 1), ih (n + 1) _ j (by omega) (by omega), nI_clamp (by omega)]
      by_cases g : j = n
      · subst g
        rw [if_neg (by omega), if_pos (by omega), me_us]
        rfl
      · rw [me_uk g]
        by_cases g2 : n + 1 ≤ j ∧ j < 212
        · rw [if_pos g2, if_pos (by omega)]
        · rw [if_neg g2, if_neg (by omega)]
theorem yf_158 {p : Nat → Nat} {s K : Nat} (n04 : p 0 ≠ p 4) (nr4 : p 11 ≠ p 4) (hs : s ≤ 6) (hK : K ≤ 4) : ∀ (c n : Nat) (J : Nat → Nat → Int32) (j : Nat), J (p 0) 7 = nI K → n ≤ K → K ≤ n + c → x166F_158 p (nI s) c (nI n) J (p 4) j = if 10 + 7 * s + n ≤ j ∧ j < 10 + 7 * s + K then J (p 11) (4 * s + (j - (10 + 7 * s))) else J (p 4) j := by
  intro c
  induction c with
  | zero =>
    intro n J j h7 h1 h2
    rw [if_neg (by omega)]
    rfl
  | succ c ih =>
    intro n J j h7 h1 h2
    rw [x166F_158]
    by_cases e : n = K
    · rw [h7, if_pos (show nI K ≤ nI n from nI_le (a := K) (by omega) (by omega)), if_neg (by omega)]
    · rw [h7, if_neg (show ¬ nI K ≤ nI n from nI_ge (b := K) (by omega) (by omega)), show nI n + Int32.ofInt 1 = nI (n + 1) from me_addn (a := n) (b := 1), show (Int32.ofInt 10 + Int32.ofInt 7 * nI s + nI n).toNatClampNeg = 10 + 7 * s + n from yf_ix (a := 10) (m := 7) (by omega), show (Int32.ofInt 4 * nI s + nI n).toNatClampNeg = 4 * s + n from yf_jx (m := 4) (by omega), ih (n + 1) _ j ((me_uj n04).trans h7) (by omega) (by omega), me_uo nr4]
      by_cases g : j = 10 + 7 * s + n
      · subst g
        rw [if_neg (by omega), if_pos (by omega), me_us, show 10 + 7 * s + n - (10 + 7 * s) = n from by omega]
      · rw [me_uk g]
        by_cases g2 : 10 + 7 * s + (n + 1) ≤ j ∧ j < 10 + 7 * s + K
        · rw [if_pos g2, if_pos (by omega)]
        · rw [if_neg g2, if_neg (by omega)]
theorem yf_229 {p : Nat → Nat} {s : Nat} (n04 : p 0 ≠ p 4) (nr4 : p 12 ≠ p 4) (hs : s ≤ 24) : ∀ (c n : Nat) (J : Nat → Nat → Int32) (j : Nat), n ≤ 3 → 3 ≤ n + c → x166F_229 p (nI s) c (nI n) J (p 4) j = if 52 + 5 * s + n ≤ j ∧ j < 52 + 5 * s + 3 then J (p 12) (3 * s + (j - (52 + 5 * s))) else J (p 4) j := by
  intro c
  induction c with
  | zero =>
    intro n J j h1 h2
    rw [if_neg (by omega)]
    rfl
  | succ c ih =>
    intro n J j h1 h2
    rw [x166F_229]
    by_cases e : n = 3
    · rw [if_pos (show Int32.ofInt 3 ≤ nI n from nI_le (a := 3) (by omega) (by omega)), if_neg (by omega)]
    · rw [if_neg (show ¬ Int32.ofInt 3 ≤ nI n from nI_ge (b := 3) (by omega) (by omega)), show nI n + Int32.ofInt 1 = nI (n + 1) from me_addn (a := n) (b := 1), show (Int32.ofInt 52 + Int32.ofInt 5 * nI s + nI n).toNatClampNeg = 52 + 5 * s + n from yf_ix (a := 52) (m := 5) (by omega), show (Int32.ofInt 3 * nI s + nI n).toNatClampNeg = 3 * s + n from yf_jx (m := 3) (by omega), ih (n + 1) _ j (by omega) (by omega), me_uo nr4]
      by_cases g : j = 52 + 5 * s + n
      · subst g
        rw [if_neg (by omega), if_pos (by omega), me_us, show 52 + 5 * s + n - (52 + 5 * s) = n from by omega]
      · rw [me_uk g]
        by_cases g2 : 52 + 5 * s + (n + 1) ≤ j ∧ j < 52 + 5 * s + 3
        · rw [if_pos g2, if_pos (by omega)]
        · rw [if_neg g2, if_neg (by omega)]
theorem yf_295 {p : Nat → Nat} {s : Nat} (n04 : p 0 ≠ p 4) (nr4 : p 13 ≠ p 4) (hs : s ≤ 8) : ∀ (c n : Nat) (J : Nat → Nat → Int32) (j : Nat), n ≤ 4 → 4 ≤ n + c → x166F_295 p (nI s) c (nI n) J (p 4) j = if 172 + 5 * s + n ≤ j ∧ j < 172 + 5 * s + 4 then J (p 13) (4 * s + (j - (172 + 5 * s))) else J (p 4) j := by
  intro c
  induction c with
  | zero =>
    intro n J j h1 h2
    rw [if_neg (by omega)]
    rfl
  | succ c ih =>
    intro n J j h1 h2
    rw [x166F_295]
    by_cases e : n = 4
    · rw [if_pos (show Int32.ofInt 4 ≤ nI n from nI_le (a := 4) (by omega) (by omega)), if_neg (by omega)]
    · rw [if_neg (show ¬ Int32.ofInt 4 ≤ nI n from nI_ge (b := 4) (by omega) (by omega)), show nI n + Int32.ofInt 1 = nI (n + 1) from me_addn (a := n) (b := 1), show (Int32.ofInt 172 + Int32.ofInt 5 * nI s + nI n).toNatClampNeg = 172 + 5 * s + n from yf_ix (a := 172) (m := 5) (by omega), show (Int32.ofInt 4 * nI s + nI n).toNatClampNeg = 4 * s + n from yf_jx (m := 4) (by omega), ih (n + 1) _ j (by omega) (by omega), me_uo nr4]
      by_cases g : j = 172 + 5 * s + n
      · subst g
        rw [if_neg (by omega), if_pos (by omega), me_us, show 172 + 5 * s + n - (172 + 5 * s) = n from by omega]
      · rw [me_uk g]
        by_cases g2 : 172 + 5 * s + (n + 1) ≤ j ∧ j < 172 + 5 * s + 4
        · rw [if_pos g2, if_pos (by omega)]
        · rw [if_neg g2, if_neg (by omega)]
theorem yf_148 {p : Nat → Nat} {S K : Nat} (n04 : p 0 ≠ p 4) (nr4 : p 11 ≠ p 4) (hN : S ≤ 6) (hK : K ≤ 4) : ∀ (c n : Nat) (J : Nat → Nat → Int32) (j : Nat), J (p 0) 8 = nI S → J (p 0) 7 = nI K → n ≤ S → S ≤ n + c → x166F_148 p c (nI n) J (p 4) j = if 10 ≤ j ∧ n ≤ (j - 10) / 7 ∧ (j - 10) / 7 < S ∧ ((j - 10) % 7 < K ∨ (j - 10) % 7 = 5) then (if (j - 10) % 7 = 5 then Int32.ofInt (-1) else J (p 11) (4 * ((j - 10) / 7) + (j - 10) % 7)) else J (p 4) j := by
  intro c
  induction c with
  | zero =>
    intro n J j hc h7 h1 h2
    rw [if_neg (by omega)]
    rfl
  | succ c ih =>
    intro n J j hc h7 h1 h2
    rw [x166F_148]
    by_cases e : n = S
    · rw [hc, if_pos (nI_le (a := S) (by omega) (by omega)), if_neg (by omega)]
    · rw [hc, if_neg (nI_ge (b := S) (by omega) (by omega)), show nI n + Int32.ofInt 1 = nI (n + 1) from me_addn (a := n) (b := 1), show (Int32.ofInt 10 + Int32.ofInt 7 * nI n + Int32.ofInt 5).toNatClampNeg = 10 + 7 * n + 5 from yf_ix (a := 10) (m := 7) (k := 5) (by omega)]
      have fr : ∀ b, b ≠ p 4 → (nt_u (x166F_158 p (nI n) ((J (p 0) 7).toNatClampNeg) (Int32.ofInt 0) J) (p 4) (10 + 7 * n + 5) (Int32.ofInt (-1))) b = J b := fun b hb => (me_uo hb).trans (x166F_158_frJ _ _ _ hb)
      have i0 := yf_158 n04 nr4 (s := n) (show n ≤ 6 by omega) hK ((J (p 0) 7).toNatClampNeg) 0 J j h7 (by omega) (by rw [h7, nI_clamp (by omega)]; omega)
      have i0 : x166F_158 p (nI n) ((J (p 0) 7).toNatClampNeg) (Int32.ofInt 0) J (p 4) j = _ := i0
      obtain ⟨J', hJ⟩ : ∃ J', J' = nt_u (x166F_158 p (nI n) ((J (p 0) 7).toNatClampNeg) (Int32.ofInt 0) J) (p 4) (10 + 7 * n + 5) (Int32.ofInt (-1)) := ⟨_, rfl⟩
      rw [← hJ] at fr ⊢
      rw [ih (n + 1) J' j ((congrFun (fr _ n04) _).trans hc) ((congrFun (fr _ n04) _).trans h7) (by omega) (by omega), fr _ nr4]
      by_cases A : 10 ≤ j ∧ (j - 10) / 7 = n
      · rw [if_neg (by omega), hJ]
        by_cases g5 : (j - 10) % 7 = 5
        · rw [show j = 10 + 7 * n + 5 from by omega, me_us, if_pos (by omega), if_pos (by omega)]
        · rw [me_uk (by omega), i0]
          by_cases gk : 10 + 7 * n + 0 ≤ j ∧ j < 10 + 7 * n + K
          · rw [if_pos gk, if_pos (by omega), if_neg g5]
            exact congrArg (J (p 11)) (by omega)
          · rw [if_neg gk, if_neg (by omega)]
      · have ej : J' (p 4) j = J (p 4) j := by rw [hJ, me_uk (by omega), i0, if_neg (by omega)]
        rw [ej]
        by_cases g : 10 ≤ j ∧ (n + 1) ≤ (j - 10) / 7 ∧ (j - 10) / 7 < S ∧ ((j - 10) % 7 < K ∨ (j - 10) % 7 = 5)
        · rw [if_pos g, if_pos (show 10 ≤ j ∧ n ≤ (j - 10) / 7 ∧ (j - 10) / 7 < S ∧ ((j - 10) % 7 < K ∨ (j - 10) % 7 = 5) from by omega)]
        · rw [if_neg g, if_neg (show ¬ (10 ≤ j ∧ n ≤ (j - 10) / 7 ∧ (j - 10) / 7 < S ∧ ((j - 10) % 7 < K ∨ (j - 10) % 7 = 5)) from by omega)]
theorem yf_219 {p : Nat → Nat} {P : Nat} (n04 : p 0 ≠ p 4) (nr4 : p 12 ≠ p 4) (hN : P ≤ 24) : ∀ (c n : Nat) (J : Nat → Nat → Int32) (j : Nat), J (p 0) 9 = nI P → n ≤ P → P ≤ n + c → x166F_219 p c (nI n) J (p 4) j = if 52 ≤ j ∧ n ≤ (j - 52) / 5 ∧ (j - 52) / 5 < P ∧ ((j - 52) % 5 < 3 ∨ (j - 52) % 5 = 3) then (if (j - 52) % 5 = 3 then Int32.ofInt (-1) else J (p 12) (3 * ((j - 52) / 5) + (j - 52) % 5)) else J (p 4) j := by
  intro c
  induction c with
  | zero =>
    intro n J j hc h1 h2
    rw [if_neg (by omega)]
    rfl
  | succ c ih =>
    intro n J j hc h1 h2
    rw [x166F_219]
    by_cases e : n = P
    · rw [hc, if_pos (nI_le (a := P) (by omega) (by omega)), if_neg (by omega)]
    · rw [hc, if_neg (nI_ge (b := P) (by omega) (by omega)), show nI n + Int32.ofInt 1 = nI (n + 1) from me_addn (a := n) (b := 1), show (Int32.ofInt 52 + Int32.ofInt 5 * nI n + Int32.ofInt 3).toNatClampNeg = 52 + 5 * n + 3 from yf_ix (a := 52) (m := 5) (k := 3) (by omega)]
      have fr : ∀ b, b ≠ p 4 → (nt_u (x166F_229 p (nI n) ((Int32.ofInt 3).toNatClampNeg) (Int32.ofInt 0) J) (p 4) (52 + 5 * n + 3) (Int32.ofInt (-1))) b = J b := fun b hb => (me_uo hb).trans (x166F_229_frJ _ _ _ hb)
      have i0 := yf_229 n04 nr4 (s := n) (show n ≤ 24 by omega) ((Int32.ofInt 3).toNatClampNeg) 0 J j (by omega) (by decide)
      have i0 : x166F_229 p (nI n) ((Int32.ofInt 3).toNatClampNeg) (Int32.ofInt 0) J (p 4) j = _ := i0
      obtain ⟨J', hJ⟩ : ∃ J', J' = nt_u (x166F_229 p (nI n) ((Int32.ofInt 3).toNatClampNeg) (Int32.ofInt 0) J) (p 4) (52 + 5 * n + 3) (Int32.ofInt (-1)) := ⟨_, rfl⟩
      rw [← hJ] at fr ⊢
      rw [ih (n + 1) J' j ((congrFun (fr _ n04) _).trans hc) (by omega) (by omega), fr _ nr4]
      by_cases A : 52 ≤ j ∧ (j - 52) / 5 = n
      · rw [if_neg (by omega), hJ]
        by_cases g5 : (j - 52) % 5 = 3
        · rw [show j = 52 + 5 * n + 3 from by omega, me_us, if_pos (by omega), if_pos (by omega)]
        · rw [me_uk (by omega), i0]
          by_cases gk : 52 + 5 * n + 0 ≤ j ∧ j < 52 + 5 * n + 3
          · rw [if_pos gk, if_pos (by omega), if_neg g5]
            exact congrArg (J (p 12)) (by omega)
          · rw [if_neg gk, if_neg (by omega)]
      · have ej : J' (p 4) j = J (p 4) j := by rw [hJ, me_uk (by omega), i0, if_neg (by omega)]
        rw [ej]
        by_cases g : 52 ≤ j ∧ (n + 1) ≤ (j - 52) / 5 ∧ (j - 52) / 5 < P ∧ ((j - 52) % 5 < 3 ∨ (j - 52) % 5 = 3)
        · rw [if_pos g, if_pos (show 52 ≤ j ∧ n ≤ (j - 52) / 5 ∧ (j - 52) / 5 < P ∧ ((j - 52) % 5 < 3 ∨ (j - 52) % 5 = 3) from by omega)]
        · rw [if_neg g, if_neg (show ¬ (52 ≤ j ∧ n ≤ (j - 52) / 5 ∧ (j - 52) / 5 < P ∧ ((j - 52) % 5 < 3 ∨ (j - 52) % 5 = 3)) from by omega)]
theorem yf_285 {p : Nat → Nat} {V : Nat} (n04 : p 0 ≠ p 4) (nr4 : p 13 ≠ p 4) (hN : V ≤ 8) : ∀ (c n : Nat) (J : Nat → Nat → Int32) (j : Nat), J (p 0) 10 = nI V → n ≤ V → V ≤ n + c → x166F_285 p c (nI n) J (p 4) j = if 172 ≤ j ∧ n ≤ (j - 172) / 5 ∧ (j - 172) / 5 < V ∧ ((j - 172) % 5 < 4) then J (p 13) (4 * ((j - 172) / 5) + (j - 172) % 5) else J (p 4) j := by
  intro c
  induction c with
  | zero =>
    intro n J j hc h1 h2
    rw [if_neg (by omega)]
    rfl
  | succ c ih =>
    intro n J j hc h1 h2
    rw [x166F_285]
    by_cases e : n = V
    · rw [hc, if_pos (nI_le (a := V) (by omega) (by omega)), if_neg (by omega)]
    · rw [hc, if_neg (nI_ge (b := V) (by omega) (by omega)), show nI n + Int32.ofInt 1 = nI (n + 1) from me_addn (a := n) (b := 1)]
      have fr : ∀ b, b ≠ p 4 → (x166F_295 p (nI n) ((Int32.ofInt 4).toNatClampNeg) (Int32.ofInt 0) J) b = J b := fun b hb => x166F_295_frJ _ _ _ hb
      have i0 := yf_295 n04 nr4 (s := n) (show n ≤ 8 by omega) ((Int32.ofInt 4).toNatClampNeg) 0 J j (by omega) (by decide)
      have i0 : x166F_295 p (nI n) ((Int32.ofInt 4).toNatClampNeg) (Int32.ofInt 0) J (p 4) j = _ := i0
      obtain ⟨J', hJ⟩ : ∃ J', J' = x166F_295 p (nI n) ((Int32.ofInt 4).toNatClampNeg) (Int32.ofInt 0) J := ⟨_, rfl⟩
      rw [← hJ] at fr ⊢
      rw [ih (n + 1) J' j ((congrFun (fr _ n04) _).trans hc) (by omega) (by omega), fr _ nr4]
      by_cases A : 172 ≤ j ∧ (j - 172) / 5 = n
      · rw [if_neg (by omega), hJ]
        rw [i0]
        by_cases gk : 172 + 5 * n + 0 ≤ j ∧ j < 172 + 5 * n + 4
        · rw [if_pos gk, if_pos (by omega)]
          exact congrArg (J (p 13)) (by omega)
        · rw [if_neg gk, if_neg (by omega)]
      · have ej : J' (p 4) j = J (p 4) j := by rw [hJ, i0, if_neg (by omega)]
        rw [ej]
        by_cases g : 172 ≤ j ∧ (n + 1) ≤ (j - 172) / 5 ∧ (j - 172) / 5 < V ∧ ((j - 172) % 5 < 4)
        · rw [if_pos g, if_pos (show 172 ≤ j ∧ n ≤ (j - 172) / 5 ∧ (j - 172) / 5 < V ∧ ((j - 172) % 5 < 4) from by omega)]
        · rw [if_neg g, if_neg (show ¬ (172 ≤ j ∧ n ≤ (j - 172) / 5 ∧ (j - 172) / 5 < V ∧ ((j - 172) % 5 < 4)) from by omega)]
def yfJ (p : Nat → Nat) (J : Nat → Nat → Int32) (h : Int32) : Nat → Nat → Int32 := nt_u (nt_u (nt_u (nt_u (nt_u (nt_u (x166F_56 p (J (p 4) 9) ((Int32.ofInt 212).toNatClampNeg) (Int32.ofInt 0) J) (p 4) 0 (J (p 0) 7)) (p 4) 1 (J (p 0) 8)) (p 4) 2 (J (p 0) 9)) (p 4) 3 (J (p 0) 10)) (p 4) 5 h) (p 4) 9 (J (p 4) 9)
def yfB (p : Nat → Nat) (J : Nat → Nat → Int32) : Nat → Nat → Int32 := x166F_148 p ((J (p 0) 8).toNatClampNeg) (Int32.ofInt 0) J
def yfD (p : Nat → Nat) (J : Nat → Nat → Int32) : Nat → Nat → Int32 := x166F_219 p ((J (p 0) 9).toNatClampNeg) (Int32.ofInt 0) J
def yfE (p : Nat → Nat) (J : Nat → Nat → Int32) : Nat → Nat → Int32 := x166F_285 p ((J (p 0) 10).toNatClampNeg) (Int32.ofInt 0) J
theorem yf_eq {p : Nat → Nat} {J : Nat → Nat → Int32} : x166F p J = (J (p 0) 8, yfE p (yfD p (yfB p (yfJ p J (if 0 ≤ J (p 0) 11 then J (p 0) 11 else Int32.ofInt 30))))) := by
  unfold x166F
  by_cases h : 0 ≤ J (p 0) 11
  · rw [if_pos h, if_pos h]
    rfl
  · rw [if_neg h, if_neg h]
    rfl
/-- the row, as it is then -/
def yf_R (e : Nat → Int32) (u : Nat × Nat × Nat × Nat × Nat) (D : lb_C) (x : Int32) : Prop := (e 0 = nI u.1 ∧ e 1 = nI u.2.1 ∧ e 2 = nI u.2.2.1 ∧ e 3 = nI u.2.2.2.1) ∧ (e 4 = 0 ∧ e 5 = nI (lb_hd u.2.2.2.2) ∧ e 6 = 0 ∧ e 7 = 0 ∧ e 8 = 0 ∧ e 9 = x) ∧ (∀ s, s < u.2.1 → (∀ k, k < u.1 → e (10 + 7 * s + k) = D 5 (4 * s + k)) ∧ e (10 + 7 * s + 4) = 0 ∧ e (10 + 7 * s + 5) = Int32.ofInt (-1) ∧ e (10 + 7 * s + 6) = 0) ∧ (∀ n, n < u.2.2.1 → e (52 + 5 * n + 0) = D 6 n ∧ e (52 + 5 * n + 1) = D 7 n ∧ e (52 + 5 * n + 2) = D 8 n ∧ e (52 + 5 * n + 3) = Int32.ofInt (-1) ∧ e (52 + 5 * n + 4) = 0) ∧ (∀ n, n < u.2.2.2.1 → e (172 + 5 * n + 0) = D 9 n ∧ e (172 + 5 * n + 1) = D 10 n ∧ e (172 + 5 * n + 2) = D 11 n ∧ e (172 + 5 * n + 3) = D 12 n ∧ e (172 + 5 * n + 4) = 0)
theorem yf_hh {h : Nat} (hh : h ≤ 30) : (if 0 ≤ lb_hh h then lb_hh h else Int32.ofInt 30) = nI (lb_hd h) := by
  unfold lb_hh lb_hd
  by_cases e : h = 0
  · rw [if_pos e, if_pos e]
    rfl
  · rw [if_neg e, if_neg e, if_pos (nI_pos' (by omega))]
theorem yf_row {p : Nat → Nat} {J : Nat → Nat → Int32} {u : Nat × Nat × Nat × Nat × Nat} {D : lb_C} {Sg Ln : Nat} (hp : zpd p) (hb : lb_ub u) (hE : yr_E (p 11) (p 12) (p 13) (p 0) Sg Ln u D J) : (x166F p J).1 = nI u.2.1 ∧ yf_R ((x166F p J).2 (p 4)) u D (J (p 4) 9) := by
  obtain ⟨⟨c1, c2, c3, c4, c5⟩, hC⟩ := hE
  obtain ⟨b1, b2, b3, b4, b5⟩ := hb
  have hC := hC.2.2
  obtain ⟨r0, r1, r2⟩ := hC
  have n04 : p 0 ≠ p 4 := hp 0 4 (by omega) (by omega) (by omega)
  have n11 : p 11 ≠ p 4 := hp 11 4 (by omega) (by omega) (by omega)
  have n12 : p 12 ≠ p 4 := hp 12 4 (by omega) (by omega) (by omega)
  have n13 : p 13 ≠ p 4 := hp 13 4 (by omega) (by omega) (by omega)
  rw [yf_eq, c5, yf_hh b5]
  refine ⟨c2, ?_⟩
  obtain ⟨K, S, P, V, h⟩ := u
  dsimp only at c1 c2 c3 c4 c5 b1 b2 b3 b4 b5 ⊢
  obtain ⟨JA, hA⟩ : ∃ JA, JA = yfJ p J (nI (lb_hd h)) := ⟨_, rfl⟩
  have fA : ∀ b, b ≠ p 4 → JA b = J b := fun b hb => by
    rw [hA]
    unfold yfJ
    rw [me_uo hb, me_uo hb, me_uo hb, me_uo hb, me_uo hb, me_uo hb, x166F_56_frJ _ _ _ hb]
  have vA : ∀ j, JA (p 4) j = if j = 0 then nI K else if j = 1 then nI S else if j = 2 then nI P else if j = 3 then nI V else if j = 5 then nI (lb_hd h) else if j = 9 then J (p 4) 9 else if j < 212 then 0 else J (p 4) j := by
    intro j
    have z := yf_56 (p := p) (v := J (p 4) 9) 212 0 J j (by omega) (by omega)
    have z : x166F_56 p (J (p 4) 9) ((Int32.ofInt 212).toNatClampNeg) (Int32.ofInt 0) J (p 4) j = _ := z
    rw [hA]
    unfold yfJ
    rw [me_ur, me_ur, me_ur, me_ur, me_ur, me_ur, z, c1, c2, c3, c4]
    by_cases e0 : j = 0
    · subst e0; rfl
    by_cases e1 : j = 1
    · subst e1; rfl
    by_cases e2 : j = 2
    · subst e2; rfl
    by_cases e3 : j = 3
    · subst e3; rfl
    by_cases e5 : j = 5
    · subst e5; rfl
    by_cases e9 : j = 9
    · subst e9; rfl
    rw [if_neg e0, if_neg e1, if_neg e2, if_neg e3, if_neg e5, if_neg e9, if_neg e0, if_neg e1, if_neg e2, if_neg e3, if_neg e5, if_neg e9]
    by_cases g : j < 212
    · rw [if_pos g, if_pos (by omega)]
    · rw [if_neg g, if_neg (by omega)]
  rw [← hA]
  obtain ⟨JB, hB⟩ : ∃ JB, JB = yfB p JA := ⟨_, rfl⟩
  have fB : ∀ b, b ≠ p 4 → JB b = J b := fun b hb => by
    rw [hB]
    unfold yfB
    rw [x166F_148_frJ _ _ _ hb, fA b hb]
  have vB := fun j => yf_148 (p := p) (S := S) (K := K) n04 n11 b2 b1 ((JA (p 0) 8).toNatClampNeg) 0 JA j ((congrFun (fA _ n04) _).trans c2) ((congrFun (fA _ n04) _).trans c1) (by omega) (by rw [fA _ n04, c2, nI_clamp (by omega)]; omega)
  have vB : ∀ j, JB (p 4) j = _ := fun j => (congrFun (congrFun hB _) _).trans (vB j)
  rw [← hB]
  obtain ⟨JC, hC⟩ : ∃ JC, JC = yfD p JB := ⟨_, rfl⟩
  have fC : ∀ b, b ≠ p 4 → JC b = J b := fun b hb => by
    rw [hC]
    unfold yfD
    rw [x166F_219_frJ _ _ _ hb, fB b hb]
  have vC := fun j => yf_219 (p := p) (P := P) n04 n12 b3 ((JB (p 0) 9).toNatClampNeg) 0 JB j ((congrFun (fB _ n04) _).trans c3) (by omega) (by rw [fB _ n04, c3, nI_clamp (by omega)]; omega)
  have vC : ∀ j, JC (p 4) j = _ := fun j => (congrFun (congrFun hC _) _).trans (vC j)
  rw [← hC]
  have vD := fun j => yf_285 (p := p) (V := V) n04 n13 b4 ((JC (p 0) 10).toNatClampNeg) 0 JC j ((congrFun (fC _ n04) _).trans c4) (by omega) (by rw [fC _ n04, c4, nI_clamp (by omega)]; omega)
  have vD : ∀ j, yfE p JC (p 4) j = _ := vD
  have lo : ∀ j, j < 10 → yfE p JC (p 4) j = JA (p 4) j := fun j hj => by rw [vD j, if_neg (by omega), vC j, if_neg (by omega), vB j, if_neg (by omega)]
  have zz : ∀ j, 10 ≤ j → j < 212 → JA (p 4) j = 0 := fun j h1 h2 => by rw [vA j, if_neg (by omega), if_neg (by omega), if_neg (by omega), if_neg (by omega), if_neg (by omega), if_neg (by omega), if_pos h2]
  refine ⟨⟨?_, ?_, ?_, ?_⟩, ⟨?_, ?_, ?_, ?_, ?_, ?_⟩, fun s hs => ⟨fun k hk => ?_, ?_, ?_, ?_⟩, fun n hn => ⟨?_, ?_, ?_, ?_, ?_⟩, fun n hn => ⟨?_, ?_, ?_, ?_, ?_⟩⟩
  · rw [lo 0 (by omega), vA]; rfl
  · rw [lo 1 (by omega), vA]; rfl
  · rw [lo 2 (by omega), vA]; rfl
  · rw [lo 3 (by omega), vA]; rfl
  · rw [lo 4 (by omega), vA]; rfl
  · rw [lo 5 (by omega), vA]; rfl
  · rw [lo 6 (by omega), vA]; rfl
  · rw [lo 7 (by omega), vA]; rfl
  · rw [lo 8 (by omega), vA]; rfl
  · rw [lo 9 (by omega), vA]; rfl
  · dsimp only at hs hk
    rw [vD, if_neg (by omega), vC, if_neg (by omega), vB, if_pos (by omega), if_neg (by omega), fA _ n11, r0, show (10 + 7 * s + k - 10) / 7 = s from by omega, show (10 + 7 * s + k - 10) % 7 = k from by omega]
  · dsimp only at hs
    rw [vD, if_neg (by omega), vC, if_neg (by omega), vB, if_neg (by omega), zz _ (by omega) (by omega)]
  · dsimp only at hs
    rw [vD, if_neg (by omega), vC, if_neg (by omega), vB, if_pos (by omega), if_pos (by omega)]
  · dsimp only at hs
    rw [vD, if_neg (by omega), vC, if_neg (by omega), vB, if_neg (by omega), zz _ (by omega) (by omega)]
  · dsimp only at hn
    rw [vD, if_neg (by omega), vC, if_pos (by omega), if_neg (by omega), fB _ n12, show (52 + 5 * n + 0 - 52) / 5 = n from by omega, show (52 + 5 * n + 0 - 52) % 5 = 0 from by omega]
    exact (r1 n).1
  · dsimp only at hn
    rw [vD, if_neg (by omega), vC, if_pos (by omega), if_neg (by omega), fB _ n12, show (52 + 5 * n + 1 - 52) / 5 = n from by omega, show (52 + 5 * n + 1 - 52) % 5 = 1 from by omega]
    exact (r1 n).2.1
  · dsimp only at hn
    rw [vD, if_neg (by omega), vC, if_pos (by omega), if_neg (by omega), fB _ n12, show (52 + 5 * n + 2 - 52) / 5 = n from by omega, show (52 + 5 * n + 2 - 52) % 5 = 2 from by omega]
    exact (r1 n).2.2
  · dsimp only at hn
    rw [vD, if_neg (by omega), vC, if_pos (by omega), if_pos (by omega)]
  · dsimp only at hn
    rw [vD, if_neg (by omega), vC, if_neg (by omega), vB, if_neg (by omega), zz _ (by omega) (by omega)]
  · dsimp only at hn
    rw [vD, if_pos (by omega), fC _ n13, show (172 + 5 * n + 0 - 172) / 5 = n from by omega, show (172 + 5 * n + 0 - 172) % 5 = 0 from by omega]
    exact (r2 n).1
  · dsimp only at hn
    rw [vD, if_pos (by omega), fC _ n13, show (172 + 5 * n + 1 - 172) / 5 = n from by omega, show (172 + 5 * n + 1 - 172) % 5 = 1 from by omega]
    exact (r2 n).2.1
  · dsimp only at hn
    rw [vD, if_pos (by omega), fC _ n13, show (172 + 5 * n + 2 - 172) / 5 = n from by omega, show (172 + 5 * n + 2 - 172) % 5 = 2 from by omega]
    exact (r2 n).2.2.1
  · dsimp only at hn
    rw [vD, if_pos (by omega), fC _ n13, show (172 + 5 * n + 3 - 172) / 5 = n from by omega, show (172 + 5 * n + 3 - 172) % 5 = 3 from by omega]
    exact (r2 n).2.2.2
  · dsimp only at hn
    rw [vD, if_neg (by omega), vC, if_neg (by omega), vB, if_neg (by omega), zz _ (by omega) (by omega)]
/-! the class begins -/
theorem yg_32 {q : Nat → Nat} (hq : zq q) : ∀ (c n : Nat) (J : Nat → Nat → Int32), n ≤ 6 → 6 ≤ n + c → (∀ j, x64_32 q c (nI n) J (q 10) j = if n ≤ j ∧ j < 6 then Int32.ofInt 0 else J (q 10) j) ∧ (∀ j, x64_32 q c (nI n) J (q 11) j = if n ≤ j ∧ j < 6 then Int32.ofInt 0 else J (q 11) j) ∧ (∀ j, x64_32 q c (nI n) J (q 12) j = if n ≤ j ∧ j < 6 then Int32.ofInt (-1) else J (q 12) j) := by
  intro c
  induction c with
  | zero =>
    intro n J h1 h2
    refine ⟨fun j => ?_, fun j => ?_, fun j => ?_⟩
    all_goals (rw [if_neg (by omega)]; rfl)
  | succ c ih =>
    intro n J h1 h2
    by_cases e : n = 6
    · subst e
      have ee : x64_32 q (c + 1) (nI 6) J = J := by
        rw [x64_32]
        exact if_pos (show Int32.ofInt 6 ≤ nI 6 from nI_le (Nat.le_refl 6) (by decide))
      rw [ee]
      refine ⟨fun j => ?_, fun j => ?_, fun j => ?_⟩
      all_goals rw [if_neg (by omega)]
    · have ee : x64_32 q (c + 1) (nI n) J = x64_32 q c (nI (n + 1)) (nt_u (nt_u (nt_u J (q 10) n (Int32.ofInt 0)) (q 11) n (Int32.ofInt 0)) (q 12) n (Int32.ofInt (-1))) := by
        rw [x64_32, if_neg (show ¬ Int32.ofInt 6 ≤ nI n from nI_ge (b := 6) (by omega) (by decide)), show nI n + Int32.ofInt 1 = nI (n + 1) from me_addn (a := n) (b := 1), nI_clamp (by omega)]
      rw [ee]
      have z := ih (n + 1) (nt_u (nt_u (nt_u J (q 10) n (Int32.ofInt 0)) (q 11) n (Int32.ofInt 0)) (q 12) n (Int32.ofInt (-1))) (by omega) (by omega)
      obtain ⟨z10, z11, z12⟩ := z
      refine ⟨fun j => ?_, fun j => ?_, fun j => ?_⟩
      · rw [z10]
        by_cases g : j = n
        · subst g
          rw [if_neg (by omega), if_pos (by omega), me_uo (hq 10 12 (by omega) (by omega) (by omega)), me_uo (hq 10 11 (by omega) (by omega) (by omega)), me_us]
        · have ej : (nt_u (nt_u (nt_u J (q 10) n (Int32.ofInt 0)) (q 11) n (Int32.ofInt 0)) (q 12) n (Int32.ofInt (-1))) (q 10) j = J (q 10) j := by rw [me_uo (hq 10 12 (by omega) (by omega) (by omega)), me_uo (hq 10 11 (by omega) (by omega) (by omega)), me_uk g]
          rw [ej]
          by_cases g2 : n + 1 ≤ j ∧ j < 6
          · rw [if_pos g2, if_pos (by omega)]
          · rw [if_neg g2, if_neg (by omega)]
      · rw [z11]
        by_cases g : j = n
        · subst g
          rw [if_neg (by omega), if_pos (by omega), me_uo (hq 11 12 (by omega) (by omega) (by omega)), me_us]
        · have ej : (nt_u (nt_u (nt_u J (q 10) n (Int32.ofInt 0)) (q 11) n (Int32.ofInt 0)) (q 12) n (Int32.ofInt (-1))) (q 11) j = J (q 11) j := by rw [me_uo (hq 11 12 (by omega) (by omega) (by omega)), me_uk g, me_uo (hq 11 10 (by omega) (by omega) (by omega))]
          rw [ej]
          by_cases g2 : n + 1 ≤ j ∧ j < 6
          · rw [if_pos g2, if_pos (by omega)]
          · rw [if_neg g2, if_neg (by omega)]
      · rw [z12]
        by_cases g : j = n
        · subst g
          rw [if_neg (by omega), if_pos (by omega), me_us]
        · have ej : (nt_u (nt_u (nt_u J (q 10) n (Int32.ofInt 0)) (q 11) n (Int32.ofInt 0)) (q 12) n (Int32.ofInt (-1))) (q 12) j = J (q 12) j := by rw [me_uk g, me_uo (hq 12 11 (by omega) (by omega) (by omega)), me_uo (hq 12 10 (by omega) (by omega) (by omega))]
          rw [ej]
          by_cases g2 : n + 1 ≤ j ∧ j < 6
          · rw [if_pos g2, if_pos (by omega)]
          · rw [if_neg g2, if_neg (by omega)]
theorem yg_67 {q : Nat → Nat} (hq : zq q) : ∀ (c n : Nat) (J : Nat → Nat → Int32), n ≤ 24 → 24 ≤ n + c → (∀ j, x64_67 q c (nI n) J (q 13) j = if n ≤ j ∧ j < 24 then J (q 4) j else J (q 13) j) ∧ (∀ j, x64_67 q c (nI n) J (q 14) j = if n ≤ j ∧ j < 24 then Int32.ofInt (-1) else J (q 14) j) ∧ (∀ j, x64_67 q c (nI n) J (q 15) j = if n ≤ j ∧ j < 24 then vp_nar .boolean (Int32.ofInt 0) else J (q 15) j) := by
  intro c
  induction c with
  | zero =>
    intro n J h1 h2
    refine ⟨fun j => ?_, fun j => ?_, fun j => ?_⟩
    all_goals (rw [if_neg (by omega)]; rfl)
  | succ c ih =>
    intro n J h1 h2
    by_cases e : n = 24
    · subst e
      have ee : x64_67 q (c + 1) (nI 24) J = J := by
        rw [x64_67]
        exact if_pos (show Int32.ofInt 24 ≤ nI 24 from nI_le (Nat.le_refl 24) (by decide))
      rw [ee]
      refine ⟨fun j => ?_, fun j => ?_, fun j => ?_⟩
      all_goals rw [if_neg (by omega)]
    · have ee : x64_67 q (c + 1) (nI n) J = x64_67 q c (nI (n + 1)) (nt_u (nt_u (nt_u J (q 13) n (J (q 4) n)) (q 14) n (Int32.ofInt (-1))) (q 15) n (vp_nar .boolean (Int32.ofInt 0))) := by
        rw [x64_67, if_neg (show ¬ Int32.ofInt 24 ≤ nI n from nI_ge (b := 24) (by omega) (by decide)), show nI n + Int32.ofInt 1 = nI (n + 1) from me_addn (a := n) (b := 1), nI_clamp (by omega)]
      rw [ee]
      have z := ih (n + 1) (nt_u (nt_u (nt_u J (q 13) n (J (q 4) n)) (q 14) n (Int32.ofInt (-1))) (q 15) n (vp_nar .boolean (Int32.ofInt 0))) (by omega) (by omega)
      obtain ⟨z13, z14, z15⟩ := z
      refine ⟨fun j => ?_, fun j => ?_, fun j => ?_⟩
      · rw [z13]
        by_cases g : j = n
        · subst g
          rw [if_neg (by omega), if_pos (by omega), me_uo (hq 13 15 (by omega) (by omega) (by omega)), me_uo (hq 13 14 (by omega) (by omega) (by omega)), me_us]
        · have ej : (nt_u (nt_u (nt_u J (q 13) n (J (q 4) n)) (q 14) n (Int32.ofInt (-1))) (q 15) n (vp_nar .boolean (Int32.ofInt 0))) (q 13) j = J (q 13) j := by rw [me_uo (hq 13 15 (by omega) (by omega) (by omega)), me_uo (hq 13 14 (by omega) (by omega) (by omega)), me_uk g]
          rw [ej]
          have e4 : (nt_u (nt_u (nt_u J (q 13) n (J (q 4) n)) (q 14) n (Int32.ofInt (-1))) (q 15) n (vp_nar .boolean (Int32.ofInt 0))) (q 4) = J (q 4) := by rw [me_uo (hq 4 15 (by omega) (by omega) (by omega)), me_uo (hq 4 14 (by omega) (by omega) (by omega)), me_uo (hq 4 13 (by omega) (by omega) (by omega))]
          rw [e4]
          by_cases g2 : n + 1 ≤ j ∧ j < 24
          · rw [if_pos g2, if_pos (by omega)]
          · rw [if_neg g2, if_neg (by omega)]
      · rw [z14]
        by_cases g : j = n
        · subst g
          rw [if_neg (by omega), if_pos (by omega), me_uo (hq 14 15 (by omega) (by omega) (by omega)), me_us]
        · have ej : (nt_u (nt_u (nt_u J (q 13) n (J (q 4) n)) (q 14) n (Int32.ofInt (-1))) (q 15) n (vp_nar .boolean (Int32.ofInt 0))) (q 14) j = J (q 14) j := by rw [me_uo (hq 14 15 (by omega) (by omega) (by omega)), me_uk g, me_uo (hq 14 13 (by omega) (by omega) (by omega))]
          rw [ej]
          by_cases g2 : n + 1 ≤ j ∧ j < 24
          · rw [if_pos g2, if_pos (by omega)]
          · rw [if_neg g2, if_neg (by omega)]
      · rw [z15]
        by_cases g : j = n
        · subst g
          rw [if_neg (by omega), if_pos (by omega), me_us]
        · have ej : (nt_u (nt_u (nt_u J (q 13) n (J (q 4) n)) (q 14) n (Int32.ofInt (-1))) (q 15) n (vp_nar .boolean (Int32.ofInt 0))) (q 15) j = J (q 15) j := by rw [me_uk g, me_uo (hq 15 14 (by omega) (by omega) (by omega)), me_uo (hq 15 13 (by omega) (by omega) (by omega))]
          rw [ej]
          by_cases g2 : n + 1 ≤ j ∧ j < 24
          · rw [if_pos g2, if_pos (by omega)]
          · rw [if_neg g2, if_neg (by omega)]
theorem yg_110 {q : Nat → Nat} (hq : zq q) : ∀ (c n : Nat) (J : Nat → Nat → Int32), n ≤ 8 → 8 ≤ n + c → (∀ j, x64_110 q c (nI n) J (q 16) j = if n ≤ j ∧ j < 8 then Int32.ofInt 0 else J (q 16) j) := by
  intro c
  induction c with
  | zero =>
    intro n J h1 h2
    intro j
    rw [if_neg (by omega)]
    rfl
  | succ c ih =>
    intro n J h1 h2
    by_cases e : n = 8
    · subst e
      have ee : x64_110 q (c + 1) (nI 8) J = J := by
        rw [x64_110]
        exact if_pos (show Int32.ofInt 8 ≤ nI 8 from nI_le (Nat.le_refl 8) (by decide))
      rw [ee]
      intro j
      rw [if_neg (by omega)]
    · have ee : x64_110 q (c + 1) (nI n) J = x64_110 q c (nI (n + 1)) (nt_u J (q 16) n (Int32.ofInt 0)) := by
        rw [x64_110, if_neg (show ¬ Int32.ofInt 8 ≤ nI n from nI_ge (b := 8) (by omega) (by decide)), show nI n + Int32.ofInt 1 = nI (n + 1) from me_addn (a := n) (b := 1), nI_clamp (by omega)]
      rw [ee]
      have z := ih (n + 1) (nt_u J (q 16) n (Int32.ofInt 0)) (by omega) (by omega)
      have z16 := z
      intro j
      rw [z16]
      by_cases g : j = n
      · subst g
        rw [if_neg (by omega), if_pos (by omega), me_us]
      · have ej : (nt_u J (q 16) n (Int32.ofInt 0)) (q 16) j = J (q 16) j := by rw [me_uk g]
        rw [ej]
        by_cases g2 : n + 1 ≤ j ∧ j < 8
        · rw [if_pos g2, if_pos (by omega)]
        · rw [if_neg g2, if_neg (by omega)]
end
section
/-! the state of both sides: where it lies -/
theorem zz_ref {pl : Nat → Nat} {v : Nat → Int} {M : nt_M} (hB : ly_B pl v M) {g j k : Nat} (h : ly_R.any (fun q => Nat.beq q.1.1 g && (sx_leq q.1.2 ((j : Int), []) && Nat.beq q.2 (k + 1))) = true) : nt_R M (pl g) j = some (pl k) := by
  obtain ⟨q, hq, e⟩ := List.any_eq_true.mp h
  rw [Bool.and_eq_true, Bool.and_eq_true] at e
  obtain ⟨e1, e2, e3⟩ := e
  have e4 : q = ((g, ((j : Int), [])), k + 1) := Prod.ext (Prod.ext (Nat.eq_of_beq_eq_true e1) (sx_leq_ok e2)) (Nat.eq_of_beq_eq_true e3)
  rw [e4] at hq
  exact ly_ref hB hq
theorem zz_lt {pl : Nat → Nat} {v : Nat → Int} {M : nt_M} (hB : ly_B pl v M) {g : Nat} (hg : g < 66) : pl g < nt_n M := by
  have hq : ly_E.2.1[g]? = some (ly_E.2.1[g]'hg) := List.getElem?_eq_getElem hg
  exact (hB.2.1.2 g _ hq).1
theorem zz_sp {pl : Nat → Nat} {v : Nat → Int} {M : nt_M} (hB : ly_B pl v M) {g : Nat} (hg : g < 66) : pl g ≠ nt_sp := by
  have a := zz_lt hB hg
  have b : nt_n M ≤ nt_sp := hB.2.1.1
  omega
theorem zz_ne {pl : Nat → Nat} {v : Nat → Int} {M : nt_M} (hB : ly_B pl v M) (g h : Nat) (hg : g < 66) (hh : h < 66) (e : g ≠ h) : pl g ≠ pl h := fun c => e (hB.1 g h hg hh c)
theorem zz_P {pl : Nat → Nat} {v : Nat → Int} {M : nt_M} (hB : ly_B pl v M) : xs_P M pl := by
  refine ⟨fun t ht => ?_, zz_ne hB, fun i hi => zz_sp hB hi, ?_⟩
  · exact zz_ref hB (List.all_eq_true.mp (show xs_U.all (fun t => ly_R.any (fun q => Nat.beq q.1.1 t.1 && (sx_leq q.1.2 ((t.2.1 : Int), []) && Nat.beq q.2 (t.2.2 + 1)))) = true from by decide +kernel) t ht)
  · have := (hB.2.1.2 27 _ (show ly_E.2.1[27]? = some (14, 60, 60, 0) from rfl)).2.2.1
    dsimp only at this
    omega
theorem zz_Qn {pl : Nat → Nat} {v : Nat → Int} {M : nt_M} (hB : ly_B pl v M) : xs_Q M (fun i => pl (31 + i)) := by
  refine ⟨fun t ht => ?_, fun i j hi hj e => zz_ne hB _ _ (by omega) (by omega) (by omega), fun i hi => zz_sp hB (by omega), (hB.2.1.2 46 _ (show ly_E.2.1[46]? = some (15, 24, 24, 0) from rfl)).2.1⟩
  exact zz_ref hB (List.all_eq_true.mp (show xs_T.all (fun t => ly_R.any (fun q => Nat.beq q.1.1 (31 + t.1) && (sx_leq q.1.2 ((t.2.1 : Int), []) && Nat.beq q.2 (31 + t.2.2 + 1)))) = true from by decide +kernel) t ht)
theorem zz_Qm {pl : Nat → Nat} {v : Nat → Int} {M : nt_M} (hB : ly_B pl v M) : xs_Q M (fun i => pl (48 + i)) := by
  refine ⟨fun t ht => ?_, fun i j hi hj e => zz_ne hB _ _ (by omega) (by omega) (by omega), fun i hi => zz_sp hB (by omega), (hB.2.1.2 63 _ (show ly_E.2.1[63]? = some (15, 24, 24, 0) from rfl)).2.1⟩
  exact zz_ref hB (List.all_eq_true.mp (show xs_T.all (fun t => ly_R.any (fun q => Nat.beq q.1.1 (48 + t.1) && (sx_leq q.1.2 ((t.2.1 : Int), []) && Nat.beq q.2 (48 + t.2.2 + 1)))) = true from by decide +kernel) t ht)
def zz_lc (b : Nat) (D : sx_D) (t : Nat × Nat) : Bool := match D[b + t.1]? with
  | some q => decide ((t.2 : Int) ≤ q.2.1) && decide (q.2.2.1 ≤ (t.2 : Int))
  | none => false
theorem zz_N {pl : Nat → Nat} {v : Nat → Int} {M : nt_M} (hB : ly_B pl v M) {b : Nat} (h : xs_NL.all (zz_lc b ly_E.2.1) = true) : xs_N M (fun i => pl (b + i)) := by
  intro t ht
  have l := List.all_eq_true.mp h t ht
  unfold zz_lc at l
  cases hq : ly_E.2.1[b + t.1]? with
  | none => rw [hq] at l; cases l
  | some q =>
    rw [hq] at l
    dsimp only at l
    rw [Bool.and_eq_true, decide_eq_true_eq, decide_eq_true_eq] at l
    have := (hB.2.1.2 _ q hq).2.2.1
    dsimp only
    omega
theorem zz_Nn {pl : Nat → Nat} {v : Nat → Int} {M : nt_M} (hB : ly_B pl v M) : xs_N M (fun i => pl (31 + i)) := zz_N hB (by decide +kernel)
theorem zz_Nm {pl : Nat → Nat} {v : Nat → Int} {M : nt_M} (hB : ly_B pl v M) : xs_N M (fun i => pl (48 + i)) := zz_N hB (by decide +kernel)
/-- an image's block -/
theorem zz_Qi {a : Nat} {x : Int} {M : nt_M} (hs : nt_n M ≤ nt_sp) (h : ly_im a x M) : xs_Q M (fun i => a + i) := by
  have k15 := (h.1 15 _ (show ly_ED[15]? = some (15, 24, 24, 0) from rfl))
  have k16 := (h.1 16 _ (show ly_ED[16]? = some (13, 8, 8, 0) from rfl)).1
  refine ⟨fun t ht => ?_, fun i j hi hj e => by dsimp only; omega, fun i hi => by dsimp only; omega, k15.2.1⟩
  have l := List.all_eq_true.mp (show xs_T.all (fun t => ly_RI.any (fun q => Nat.beq (q.1.1 - 66) t.1 && (Nat.beq q.1.2.1.toNat t.2.1 && Nat.beq (q.2 - 67) t.2.2))) = true from by decide +kernel) t ht
  obtain ⟨q, hq, e⟩ := List.any_eq_true.mp l
  rw [Bool.and_eq_true, Bool.and_eq_true] at e
  have z := h.2.1 q hq
  rw [Nat.eq_of_beq_eq_true e.1, Nat.eq_of_beq_eq_true e.2.1, Nat.eq_of_beq_eq_true e.2.2] at z
  exact z
theorem zz_Ni {a : Nat} {x : Int} {M : nt_M} (h : ly_im a x M) : xs_N M (fun i => a + i) := by
  intro t ht
  have l := List.all_eq_true.mp (show xs_NL.all (zz_lc 0 ly_ED) = true from by decide +kernel) t ht
  unfold zz_lc at l
  rw [Nat.zero_add] at l
  cases hq : ly_ED[t.1]? with
  | none => rw [hq] at l; cases l
  | some q =>
    rw [hq] at l
    dsimp only at l
    rw [Bool.and_eq_true, decide_eq_true_eq, decide_eq_true_eq] at l
    have := (h.1 _ q hq).2.2.1
    dsimp only
    omega
theorem zz_W {pl : Nat → Nat} {v : Nat → Int} {M : nt_M} (hB : ly_B pl v M) : xr_W (nt_I M (pl 4)) := by
  intro j
  have g := (hB.2.1.2 4 _ (show ly_E.2.1[4]? = some (13, 212, 212, 10) from rfl)).2.2.2.2 j
  have g : (sx_iv (sx_tbs.getD 10 []) j).1 ≤ (nt_I M (pl 4) j).toInt ∧ (nt_I M (pl 4) j).toInt ≤ (sx_iv (sx_tbs.getD 10 []) j).2 := g
  by_cases hj : j < 212
  · have l := List.all_eq_true.mp (show (List.range 212).all (fun j => decide ((xr_b j).1 ≤ (sx_iv (sx_tbs.getD 10 []) j).1) && decide ((sx_iv (sx_tbs.getD 10 []) j).2 ≤ (xr_b j).2)) = true from by decide +kernel) j (List.mem_range.mpr hj)
    rw [Bool.and_eq_true, decide_eq_true_eq, decide_eq_true_eq] at l
    omega
  · refine xr_any ?_
    unfold xr_b
    rw [if_neg (by omega), if_neg (by omega), if_neg (by omega), if_neg (by omega), if_neg (by omega), if_neg (by omega), if_neg (by omega), if_neg (by omega)]
theorem zz_X {pl : Nat → Nat} {v : Nat → Int} {M : nt_M} (hB : ly_B pl v M) : zX pl (fun i => pl (31 + i)) := ⟨zz_ne hB, fun i j hi hj e => zz_ne hB _ _ (by omega) (by omega) (by omega), fun i j hi hj => zz_ne hB _ _ (by omega) (by omega) (by omega)⟩
theorem zz_Xm {pl : Nat → Nat} {v : Nat → Int} {M : nt_M} (hB : ly_B pl v M) : zX pl (fun i => pl (48 + i)) := ⟨zz_ne hB, fun i j hi hj e => zz_ne hB _ _ (by omega) (by omega) (by omega), fun i j hi hj => zz_ne hB _ _ (by omega) (by omega) (by omega)⟩
/-! what is the same -/
def zim (J : Nat → Nat → Int32) (P k : Nat) : Nat → Int32 := fun j => if j < 212 then J P (212 * k + j) else 0
def zz_R (q : Nat → Nat) (J : Nat → Nat → Int32) (e : Nat → Int32) : Prop := zR q J e ∧ zW e (e 4).toInt ∧ (e 4).toInt ≤ 200 ∧ (e 0 = 0 → e 5 = e 6)
def zz_I (pl : Nat → Nat) (M : nt_M) : Prop := (∀ k, k < 4 → ∀ a, nt_R M (pl 65) k = some a → (66 ≤ a ∧ a + 17 ≤ nt_n M) ∧ zz_R (fun i => a + i) (nt_I M) (zim (nt_I M) (pl 14) k)) ∧ (∀ u b, u < 6 → nt_R M (pl 23) u = some b → (66 ≤ b ∧ b + 2 ≤ nt_n M ∧ (u : Int) < (nt_I M (pl 16) 4).toInt) ∧ zRQ pl (b + 1) (nt_l M (b + 1)) u (nt_I M) (nt_I M))
def zz_E (pl : Nat → Nat) (M : nt_M) : Prop := zz_R (fun i => pl (31 + i)) (nt_I M) (nt_I M (pl 4)) ∧ zz_I pl M
theorem zR_aj {q : Nat → Nat} {J J' : Nat → Nat → Int32} {e : Nat → Int32} (h : ∀ i, i < 17 → J' (q i) = J (q i)) (hR : zR q J e) : zR q J' e := by
  refine ⟨fun j hj => ?_, ?_⟩
  · rw [h _ (zc_17 j (zv_lt hj))]
    exact hR.1 j hj
  · rw [h 0 (by omega)]
    exact hR.2
theorem zv_ae {e f : Nat → Int32} (h : ∀ j, j < 212 → f j = e j) {j : Nat} (hj : zv f j) : zv e j := by
  unfold zv zn at hj ⊢
  rw [h 0 (by omega), h 1 (by omega), h 2 (by omega), h 3 (by omega)] at hj
  exact hj
theorem zR_ae {q : Nat → Nat} {J : Nat → Nat → Int32} {e f : Nat → Int32} (h : ∀ j, j < 212 → f j = e j) (hR : zR q J e) : zR q J f := by
  refine ⟨fun j hj => ?_, ?_⟩
  · rw [h j (zv_lt hj)]
    exact hR.1 j (zv_ae h hj)
  · rw [h 0 (by omega)]
    exact hR.2
theorem xr_ae {e f : Nat → Int32} (h : ∀ j, j < 212 → f j = e j) (hW : xr_W e) : xr_W f := by
  intro j
  by_cases hj : j < 212
  · rw [h j hj]
    exact hW j
  · refine xr_any ?_
    unfold xr_b
    rw [if_neg (by omega), if_neg (by omega), if_neg (by omega), if_neg (by omega), if_neg (by omega), if_neg (by omega), if_neg (by omega), if_neg (by omega)]
theorem zW_ae {e f : Nat → Int32} {g : Int} (h : ∀ j, j < 212 → f j = e j) (hW : zW e g) : zW f g := ⟨xr_ae h hW.w, zA_ag hW.a hW.w (fun i hi _ => h i (by omega)) (fun s hs k hk => h _ (by omega)) (fun p hp => ⟨h _ (by omega), h _ (by omega)⟩) (fun v hv k hk => h _ (by omega)), zB_ag hW.b hW.w (h 1 (by omega)) (h 2 (by omega)) (fun s hs => h _ (by omega)) (fun p hp => ⟨h _ (by omega), h _ (by omega)⟩), zC_ag hW.c hW.w (h 1 (by omega)) (h 3 (by omega)) (fun s hs => ⟨h _ (by omega), h _ (by omega)⟩) (fun v hv => ⟨h _ (by omega), h _ (by omega), h _ (by omega)⟩), zD_ag hW.d hW.w (h 2 (by omega)) (h 4 (by omega)) (h 5 (by omega)) (h 6 (by omega)) (fun p hp => h _ (by omega))⟩
theorem zz_Rae {q : Nat → Nat} {J : Nat → Nat → Int32} {e f : Nat → Int32} (h : ∀ j, j < 212 → f j = e j) (hR : zz_R q J e) : zz_R q J f := by
  obtain ⟨a, b, c, d⟩ := hR
  refine ⟨zR_ae h a, ?_, ?_, ?_⟩
  · rw [h 4 (by omega)]
    exact zW_ae h b
  · rw [h 4 (by omega)]
    exact c
  · rw [h 0 (by omega), h 5 (by omega), h 6 (by omega)]
    exact d
theorem zz_Rag {q : Nat → Nat} {J J' : Nat → Nat → Int32} {e : Nat → Int32} (h : ∀ i, i < 17 → J' (q i) = J (q i)) (hR : zz_R q J e) : zz_R q J' e := ⟨zR_aj h hR.1, hR.2⟩
/-- images and rules stay, where nothing of them is written -/
theorem zz_Ik {pl : Nat → Nat} {M M' : nt_M} (hn : nt_n M' = nt_n M) (hl : nt_l M' = nt_l M) (h65 : ∀ k, nt_R M' (pl 65) k = nt_R M (pl 65) k) (h23 : ∀ k, nt_R M' (pl 23) k = nt_R M (pl 23) k) (hg : ∀ g, g = 14 ∨ g = 1 ∨ g = 2 ∨ g = 3 ∨ g = 16 → nt_I M' (pl g) = nt_I M (pl g)) (ho : ∀ a, 66 ≤ a → nt_I M' a = nt_I M a) (h : zz_I pl M) : zz_I pl M' := by
  refine ⟨fun k hk a ha => ?_, fun u b hu hb => ?_⟩
  · rw [h65] at ha
    obtain ⟨h1, h2⟩ := h.1 k hk a ha
    rw [hn]
    refine ⟨h1, zz_Rag (fun i hi => ho _ (by omega)) ?_⟩
    unfold zim
    rw [hg 14 (Or.inl rfl)]
    exact h2
  · rw [h23] at hb
    obtain ⟨h1, h2⟩ := h.2 u b hu hb
    rw [hn, hg 16 (Or.inr (Or.inr (Or.inr (Or.inr rfl))))]
    refine ⟨h1, ?_⟩
    rw [hl]
    exact zRQ_ag h2 (ho _ (by omega)) (hg 1 (Or.inr (Or.inl rfl))) (hg 2 (Or.inr (Or.inr (Or.inl rfl)))) (hg 3 (Or.inr (Or.inr (Or.inr (Or.inl rfl)))))
theorem zz_out {pl : Nat → Nat} {mk xi : Nat → Int} {rc : Int} {M : nt_M} (hS : ly_S pl mk xi rc M) {a : Nat} (ha : 66 ≤ a) : ∀ g, g < 66 → a ≠ pl g := fun g hg e => by
  have := hS.1.1 g hg
  omega
theorem zz_Ifr {pl : Nat → Nat} {mk xi : Nat → Int} {rc : Int} {M M' : nt_M} (hS : ly_S pl mk xi rc M) (hf : ly_fr 66 pl M M') (hg : ∀ g, g = 14 ∨ g = 1 ∨ g = 2 ∨ g = 3 ∨ g = 16 → nt_I M' (pl g) = nt_I M (pl g)) (h : zz_I pl M) : zz_I pl M' := zz_Ik hf.1.1 hf.1.2.2.2 (fun k => hf.2.2 65 k (Or.inr rfl)) (fun k => hf.2.2 23 k (Or.inl rfl)) hg (fun a ha => funext (hf.2.1 a (zz_out hS ha)).1) h
/-- regions that a call leaves as they are -/
def zz_T (ok : Nat → Bool) (pl : Nat → Nat) (M M' : nt_M) : Prop := ∀ g, g < 66 → ok g = true → nt_I M' (pl g) = nt_I M (pl g)
def zz_ok (g : Nat) : Bool := (Nat.ble 31 g && Nat.blt g 48) || (Nat.beq g 4 || (Nat.beq g 14 || (Nat.beq g 1 || (Nat.beq g 2 || (Nat.beq g 3 || Nat.beq g 16)))))
theorem zz_keep {pl : Nat → Nat} {mk xi : Nat → Int} {rc : Int} {M M' : nt_M} (hS : ly_S pl mk xi rc M) (hf : ly_fr 66 pl M M') (hT : zz_T zz_ok pl M M') (h : zz_E pl M) : zz_E pl M' := by
  refine ⟨?_, zz_Ifr hS hf (fun g hg => hT g (by omega) (by rcases hg with rfl | rfl | rfl | rfl | rfl <;> rfl)) h.2⟩
  rw [hT 4 (by omega) rfl]
  refine zz_Rag (fun i hi => hT _ (by omega) ?_) h.1
  rcases (by omega : i = 0 ∨ i = 1 ∨ i = 2 ∨ i = 3 ∨ i = 4 ∨ i = 5 ∨ i = 6 ∨ i = 7 ∨ i = 8 ∨ i = 9 ∨ i = 10 ∨ i = 11 ∨ i = 12 ∨ i = 13 ∨ i = 14 ∨ i = 15 ∨ i = 16) with rfl | rfl | rfl | rfl | rfl | rfl | rfl | rfl | rfl | rfl | rfl | rfl | rfl | rfl | rfl | rfl | rfl <;> rfl
theorem zz_Tm {K : sx_K} {ok : Nat → Bool} {pl : Nat → Nat} {M M' : nt_M} (hn : 66 ≤ K.2.2.1.length) (hij : sx_ij (sx_KE (sx_tbs, sx_gps) K) pl) (hmo : K.2.2.2.1.1.all (fun q => !ok q.1) = true) (h : sx_fm (sx_KE (sx_tbs, sx_gps) K) pl M M') : zz_T ok pl M M' := by
  intro g hg hc
  funext j
  refine h.2.1 _ j fun q hq hl hz => ?_
  have e := hij g q.1 (by show g < K.2.2.1.length; omega) hl hz.1
  have l := List.all_eq_true.mp hmo q hq
  rw [← e, hc] at l
  cases l
theorem zz_gen {X : nt_X} {K : sx_K} {ok : Nat → Bool} {pl : Nat → Nat} {v r : Nat → Int} {M : nt_M} {d g dl n : Nat} {mo : List (Nat × Int × Int)} {rm : List (Nat × Nat)} {args : List sx_V} {ec : sx_I} {bd : sx_B} {cs : List sx_L} {ps : List (Option sx_V × sx_N)} {vs : List Value} {o : Option Value × nt_M} (hK : sx_KOK X (sx_tbs, sx_gps) K) (hKe : K = (g, dl, ly_D ++ [], (mo, rm), args, (ly_C ++ ec, ly_R ++ [], (bd, cs), n), ps)) (hmo : mo.all (fun q => !ok q.1) = true) (hd : dl ≤ d) (hB : ly_B pl v M) (hr : ∀ s, s < 11 → r s = v s) (hargs : sx_os pl r args vs) (hec : sx_oi (sx_KE (sx_tbs, sx_gps) K) (pl, M, r, nt_ghost) r ec M) (hob : sx_ob r bd) (hoc : sx_oc r cs) (k : nt_ev X d g vs M o) : zz_T ok pl M o.2 := by
  have hij : sx_ij (sx_KE (sx_tbs, sx_gps) K) pl := by
    intro a b ha hb e
    rw [hKe] at ha hb
    have ha : a < (ly_D ++ []).length := ha
    have hb : b < (ly_D ++ []).length := hb
    rw [List.append_nil] at ha hb
    exact hB.1 a b ha hb e
  have hon := ly_app hKe hB (fun _ _ => rfl) hr hij (fun h q hq => by rw [List.getElem?_nil] at hq; cases hq) hec (fun q hq => by cases hq) hob hoc
  subst hKe
  obtain ⟨o', h1, p, hp, r', h2, h3⟩ := hK (pl, M, r, nt_ghost) r vs M d hd rfl rfl rfl hargs hon
  have e : o = o' := lz_det k h1
  subst e
  exact zz_Tm (Nat.le_of_eq rfl) hij hmo h3.2.2.2.2.2.2
end
section
/-! calls with so many numbers: what they leave -/
theorem zz_g0 {X : nt_X} {K : sx_K} {ok : Nat → Bool} {pl : Nat → Nat} {v : Nat → Int} {M : nt_M} {o : Option Value × nt_M} {d g dl rv : Nat} {mo : List (Nat × Int × Int)} {rm : List (Nat × Nat)} (hK : sx_KOK X (sx_tbs, sx_gps) K) (hKe : K = (g, dl, ly_D ++ [], (mo, rm), [(2, rv, (0, []))], (ly_C ++ [], ly_R ++ [], (ly_b, []), 11), [(some (0, 0, (0, [(11, 1)])), (ly_C, ly_R, ([(11, -2147483648, 2147483647)], []), 11 + 1))])) (hmo : mo.all (fun q => !ok q.1) = true) (hrm : rm.all (fun q => Nat.blt q.1 66 && (!Nat.beq q.1 23 && !Nat.beq q.1 65)) = true) (hd : dl ≤ d) (hB : ly_B pl v M) (k : nt_ev X d g [.ref (pl rv)] M o) : zz_T ok pl M o.2 := by
  exact zz_gen (vs := [.ref (pl rv)]) (ec := []) (r := v) hK hKe hmo hd hB (fun _ _ => rfl) ⟨rfl, trivial⟩ (fun q hq => by cases hq) (ly_ob hB) ly_oc0 k
theorem zz_g1 {X : nt_X} {K : sx_K} {ok : Nat → Bool} {pl : Nat → Nat} {v : Nat → Int} {M : nt_M} {o : Option Value × nt_M} {d g dl rv : Nat} {mo : List (Nat × Int × Int)} {rm : List (Nat × Nat)} (a0 : Int32) (hK : sx_KOK X (sx_tbs, sx_gps) K) (hKe : K = (g, dl, ly_D ++ [], (mo, rm), [(2, rv, (0, [])), (0, 0, (0, [(11, 1)]))], (ly_C ++ [], ly_R ++ [], (ly_b ++ [(11, -2147483648, 2147483647)], []), 12), [(some (0, 0, (0, [(12, 1)])), (ly_C, ly_R, ([(12, -2147483648, 2147483647)], []), 12 + 1))])) (hmo : mo.all (fun q => !ok q.1) = true) (hrm : rm.all (fun q => Nat.blt q.1 66 && (!Nat.beq q.1 23 && !Nat.beq q.1 65)) = true) (hd : dl ≤ d) (hB : ly_B pl v M) (k : nt_ev X d g [.ref (pl rv), .int a0] M o) : zz_T ok pl M o.2 := by
  obtain ⟨r, hr, h11⟩ : ∃ r : Nat → Int, (∀ s, s < 11 → r s = v s) ∧ r 11 = a0.toInt := ⟨fun s => if s = 11 then a0.toInt else v s, fun s hs => by dsimp only; rw [if_neg (by omega)], rfl⟩
  exact zz_gen (vs := [.ref (pl rv), .int a0]) (ec := []) (r := r) hK hKe hmo hd hB hr ⟨rfl, ⟨a0, rfl, (ly_e1 h11).symm⟩, trivial⟩ (fun q hq => by cases hq) (ly_oba (ly_obr hr (ly_ob hB)) (ly_obI h11)) ly_oc0 k
theorem zz_g2 {X : nt_X} {K : sx_K} {ok : Nat → Bool} {pl : Nat → Nat} {v : Nat → Int} {M : nt_M} {o : Option Value × nt_M} {d g dl rv : Nat} {mo : List (Nat × Int × Int)} {rm : List (Nat × Nat)} (a0 a1 : Int32) (hK : sx_KOK X (sx_tbs, sx_gps) K) (hKe : K = (g, dl, ly_D ++ [], (mo, rm), [(2, rv, (0, [])), (0, 0, (0, [(11, 1)])), (0, 0, (0, [(12, 1)]))], (ly_C ++ [], ly_R ++ [], (ly_b ++ [(11, -2147483648, 2147483647), (12, -2147483648, 2147483647)], []), 13), [(some (0, 0, (0, [(13, 1)])), (ly_C, ly_R, ([(13, -2147483648, 2147483647)], []), 13 + 1))])) (hmo : mo.all (fun q => !ok q.1) = true) (hrm : rm.all (fun q => Nat.blt q.1 66 && (!Nat.beq q.1 23 && !Nat.beq q.1 65)) = true) (hd : dl ≤ d) (hB : ly_B pl v M) (k : nt_ev X d g [.ref (pl rv), .int a0, .int a1] M o) : zz_T ok pl M o.2 := by
  obtain ⟨r, hr, h11, h12⟩ : ∃ r : Nat → Int, (∀ s, s < 11 → r s = v s) ∧ r 11 = a0.toInt ∧ r 12 = a1.toInt := ⟨fun s => if s = 11 then a0.toInt else if s = 12 then a1.toInt else v s, fun s hs => by dsimp only; rw [if_neg (by omega), if_neg (by omega)], rfl, rfl⟩
  exact zz_gen (vs := [.ref (pl rv), .int a0, .int a1]) (ec := []) (r := r) hK hKe hmo hd hB hr ⟨rfl, ⟨a0, rfl, (ly_e1 h11).symm⟩, ⟨a1, rfl, (ly_e1 h12).symm⟩, trivial⟩ (fun q hq => by cases hq) (ly_oba (ly_obr hr (ly_ob hB)) (ly_oba (ly_obI h11) (ly_obI h12))) ly_oc0 k
theorem zz_g5 {X : nt_X} {K : sx_K} {ok : Nat → Bool} {pl : Nat → Nat} {v : Nat → Int} {M : nt_M} {o : Option Value × nt_M} {d g dl rv : Nat} {mo : List (Nat × Int × Int)} {rm : List (Nat × Nat)} (a0 a1 a2 a3 a4 : Int32) (hK : sx_KOK X (sx_tbs, sx_gps) K) (hKe : K = (g, dl, ly_D ++ [], (mo, rm), [(2, rv, (0, [])), (0, 0, (0, [(11, 1)])), (0, 0, (0, [(12, 1)])), (0, 0, (0, [(13, 1)])), (0, 0, (0, [(14, 1)])), (0, 0, (0, [(15, 1)]))], (ly_C ++ [], ly_R ++ [], (ly_b ++ [(11, -2147483648, 2147483647), (12, -2147483648, 2147483647), (13, -2147483648, 2147483647), (14, -2147483648, 2147483647), (15, -2147483648, 2147483647)], []), 16), [(some (0, 0, (0, [(16, 1)])), (ly_C, ly_R, ([(16, -2147483648, 2147483647)], []), 16 + 1))])) (hmo : mo.all (fun q => !ok q.1) = true) (hrm : rm.all (fun q => Nat.blt q.1 66 && (!Nat.beq q.1 23 && !Nat.beq q.1 65)) = true) (hd : dl ≤ d) (hB : ly_B pl v M) (k : nt_ev X d g [.ref (pl rv), .int a0, .int a1, .int a2, .int a3, .int a4] M o) : zz_T ok pl M o.2 := by
  obtain ⟨r, hr, h11, h12, h13, h14, h15⟩ : ∃ r : Nat → Int, (∀ s, s < 11 → r s = v s) ∧ r 11 = a0.toInt ∧ r 12 = a1.toInt ∧ r 13 = a2.toInt ∧ r 14 = a3.toInt ∧ r 15 = a4.toInt := ⟨fun s => if s = 11 then a0.toInt else if s = 12 then a1.toInt else if s = 13 then a2.toInt else if s = 14 then a3.toInt else if s = 15 then a4.toInt else v s, fun s hs => by dsimp only; rw [if_neg (by omega), if_neg (by omega), if_neg (by omega), if_neg (by omega), if_neg (by omega)], rfl, rfl, rfl, rfl, rfl⟩
  exact zz_gen (vs := [.ref (pl rv), .int a0, .int a1, .int a2, .int a3, .int a4]) (ec := []) (r := r) hK hKe hmo hd hB hr ⟨rfl, ⟨a0, rfl, (ly_e1 h11).symm⟩, ⟨a1, rfl, (ly_e1 h12).symm⟩, ⟨a2, rfl, (ly_e1 h13).symm⟩, ⟨a3, rfl, (ly_e1 h14).symm⟩, ⟨a4, rfl, (ly_e1 h15).symm⟩, trivial⟩ (fun q hq => by cases hq) (ly_oba (ly_obr hr (ly_ob hB)) (ly_oba (ly_obI h11) (ly_oba (ly_obI h12) (ly_oba (ly_obI h13) (ly_oba (ly_obI h14) (ly_obI h15)))))) ly_oc0 k
end
section
/-! the class's yard, whole -/
theorem lz_putr {X : nt_X} {d mi pc a b g t i : Nat} {ls : nt_V} {st : List Value} {M : nt_M} {o : Option Value × nt_M} (hat : nt_at mi pc = some (pc, .putfield i, g, t)) (ht : nt_tg (g / 100) (g % 100) = 2) (k : nt_rn X d mi (pc, ls, .ref b :: .ref a :: st, M) o) : nt_rn X d mi (pc + 3, ls, st, nt_sR M a (g % 100) (some b)) o := by
  obtain ⟨c', hs, k⟩ := lz_s hat rfl k
  have hs : (if a < nt_n M ∧ nt_k M a = g / 100 ∧ g / 100 < 12 ∧ g % 100 < nt_N (g / 100) ∧ ((nt_T (g / 100) (g % 100)).2.2.2 = false ∨ (nt_m mi).2.2.2.2.2.2.1 = 2 ∧ (nt_m mi).2.2.2.2.1 = g / 100) then nt_pf M a (g / 100) (g % 100) (.ref b) (fun M' => some (pc + 3, ls, st, M')) else none) = some c' := hs
  obtain ⟨_, e⟩ := nt_if_some hs
  unfold nt_pf at e
  rw [ht] at e
  have e : some (pc + 3, ls, st, nt_sR M a (g % 100) (some b)) = some c' := e
  cases e
  exact k
theorem me_R {M : nt_M} {a k b j : Nat} {v : Option Nat} : nt_R (nt_sR M a k v) b j = if b = a then (if j = k then v else nt_R M b j) else nt_R M b j := rfl
theorem me_Ro {M : nt_M} {a k b j : Nat} {v : Option Nat} (h : b ≠ a) : nt_R (nt_sR M a k v) b j = nt_R M b j := if_neg h
theorem me_Rk {M : nt_M} {a k j : Nat} {v : Option Nat} (h : j ≠ k) : nt_R (nt_sR M a k v) a j = nt_R M a j := (if_pos rfl).trans (if_neg h)
theorem me_Rs {M : nt_M} {a k : Nat} {v : Option Nat} : nt_R (nt_sR M a k v) a k = v := (if_pos rfl).trans (if_pos rfl)
theorem yc_open {X : nt_X} {d t Rd Tp By RR Sp Yr Y m0 s0 : Nat} {Rw : Nat → Nat} {f : Nat → Int32} {M : nt_M} {o : Option Value × nt_M} {C : lb_C} {J : Nat → Nat → Int32} (hP : yc_P M t Rd Tp By RR Sp Yr Y Rw) (hA : J Tp 1 = nI t ∧ (∀ j, J By j = f j) ∧ J RR 2 = nI s0 ∧ J RR 3 = nI m0) (hY : J Y 0 = nI 0 ∧ J Y 1 = nI 0 ∧ J Y 2 = nI 0 ∧ J Y 3 = nI 0 ∧ J Y 4 = nI 0) (hs : s0 ≤ 400 ∧ m0 ≤ 60) (hCC : ∀ i, 5 ≤ i → i ≤ 12 → ∀ j, J (Rw i) j = C i j) (k : nt_ev X d 28 [.ref Rd] (me_w M J) o) : ∃ J', o = (none, me_w M J') ∧ yc_S Rw C f t Rd Tp By RR Y m0 s0 (lb_s f t 0) 0 (0, 0, 0, 0, 0) (J') := by
  have k : nt_rn X d 28 (0, [(0, .ref Rd)], [], me_w M J) o := k
  have t4 : t ≤ 400 := hP.2.2.2.2.2.1
  have k := ly_revb 2 (c' := (2, [(0, .ref Rd)], [.int (Int32.ofInt 0), .ref Rd], me_w M J)) rfl k
  have k := me_put rfl (by decide) k
  have k : nt_rn X _ 28 (5, [(0, .ref Rd)], [], me_w M (nt_u J Rd 1 (Int32.ofInt 0))) _ := k
  have k := ly_revb 2 (c' := (7, [(0, .ref Rd)], [.int (Int32.ofInt 0), .ref Rd], me_w M (nt_u J Rd 1 (Int32.ofInt 0)))) rfl k
  have k := me_put rfl (by decide) k
  have k : nt_rn X _ 28 (10, [(0, .ref Rd)], [], me_w M (nt_u (nt_u J Rd 1 (Int32.ofInt 0)) Rd 2 (Int32.ofInt 0))) _ := k
  have k := ly_revb 2 (c' := (12, [(0, .ref Rd)], [.int (Int32.ofInt 0), .ref Rd], me_w M (nt_u (nt_u J Rd 1 (Int32.ofInt 0)) Rd 2 (Int32.ofInt 0)))) rfl k
  obtain ⟨d1, o1, ed, kc, k⟩ := lz_c (g := 29) (q := 1) (vs := [.ref Rd, .int (Int32.ofInt 0)]) (rest := []) rfl rfl (by decide) (Or.inr (Or.inl ⟨_, rfl, rfl⟩)) rfl k
  have n1 := hP.2.1.1
  have n2 := hP.2.1.2.2.2.1
  have n3 := hP.2.1.2.2.2.2.2.2.1
  have n4 := hP.2.2.2.1.1
  have hS0 : yc_S Rw C f t Rd Tp By RR Y m0 s0 0 0 (0, 0, 0, 0, 0) (nt_u (nt_u J Rd 1 (Int32.ofInt 0)) Rd 2 (Int32.ofInt 0)) := ⟨⟨(me_uk (by decide)).trans me_us, me_us⟩, ⟨(me_uj n1).trans ((me_uj n1).trans hA.1), fun j => (me_uj n2).trans ((me_uj n2).trans (hA.2.1 j)), (me_uj (Ne.symm n3)).trans ((me_uj (Ne.symm n3)).trans hA.2.2.1), (me_uj (Ne.symm n3)).trans ((me_uj (Ne.symm n3)).trans hA.2.2.2)⟩, ⟨(me_uj n4).trans ((me_uj n4).trans hY.1), (me_uj n4).trans ((me_uj n4).trans hY.2.1), (me_uj n4).trans ((me_uj n4).trans hY.2.2.1), (me_uj n4).trans ((me_uj n4).trans hY.2.2.2.1), (me_uj n4).trans ((me_uj n4).trans hY.2.2.2.2)⟩, hs, fun i h5 h12 j => (me_uj (hP.2.2.2.2.1 i h5 h12).2.1).trans ((me_uj (hP.2.2.2.2.1 i h5 h12).2.1).trans (hCC i h5 h12 j))⟩
  have e1 := lc_skip (b := 0) (yc_lP hP hS0) (yc_lS hP hS0) (Nat.zero_le t) (by omega) kc
  rw [show min (0 + 0) t = 0 from by omega] at e1
  subst e1
  have k : nt_rn X _ 28 (15, [(0, .ref Rd)], [], me_w M (nt_u (nt_u (nt_u J Rd 1 (Int32.ofInt 0)) Rd 2 (Int32.ofInt 0)) Rd 1 (nI (lb_s f t 0)))) _ := k
  have k := lz_rv rfl rfl k
  exact ⟨_, k, yc_Sp hP hS0⟩
theorem yc_read {X : nt_X} {d t Rd Tp By RR Sp Yr Y m0 s0 : Nat} {Rw : Nat → Nat} {f : Nat → Int32} {M : nt_M} {o : Option Value × nt_M} {C : lb_C} {M0 : nt_M} {J : Nat → Nat → Int32} (hP : yc_P M t Rd Tp By RR Sp Yr Y Rw) (hM : M = nt_sR M0 Yr 1 (some Y)) (hA : J Tp 1 = nI t ∧ (∀ j, J By j = f j) ∧ J RR 2 = nI s0 ∧ J RR 3 = nI m0) (hs : s0 ≤ 400 ∧ m0 ≤ 60) (hCC : ∀ i, 5 ≤ i → i ≤ 12 → ∀ j, J (Rw i) j = C i j) (k : nt_ev X d 92 [.ref Yr, .ref Y] (me_w M0 J) o) : ∃ k r J', o = (some (.int (lb_ry r)), me_w M J') ∧ lb_ya f t k 0 (lb_s f t 0, (0, 0, 0, 0, 0)) r ∧ (∀ u1, r = .inr u1 → lb_ub u1.2 ∧ ∃ k D, lb_yaC f t k 0 (lb_s f t 0, (0, 0, 0, 0, 0)) u1 C D ∧ yc_R Rw Y u1.2 D J') ∧ (∀ c, r = .inl c → c ≠ 0) := by
  have k : nt_rn X d 92 (0, [(0, .ref Yr), (1, .ref Y)], [], me_w M0 J) o := k
  have t4 : t ≤ 400 := hP.2.2.2.2.2.1
  have k := ly_revb 2 (c' := (2, [(0, .ref Yr), (1, .ref Y)], [.ref Y, .ref Yr], me_w M0 J)) rfl k
  have k := lz_putr rfl (by decide) k
  have k : nt_rn X d 92 (5, [(0, .ref Yr), (1, .ref Y)], [], me_w (nt_sR M0 Yr 1 (some Y)) J) o := k
  rw [← hM] at k
  have k := ly_revb 1 (c' := (6, [(0, .ref Yr), (1, .ref Y)], [.ref Yr], me_w M J)) rfl k
  have k := lz_get (a := Yr) (g := 901) (M := me_w M J) (v := .ref Y) rfl (nt_gfR rfl hP.2.2.1.2) k
  obtain ⟨d1, o1, ed, kc, k⟩ := lz_c (g := 86) (q := 1) (vs := [.ref Y]) (rest := []) rfl rfl (by decide) (Or.inr (Or.inl ⟨_, rfl, rfl⟩)) rfl k
  have e1 := yc_clear kc
  subst e1
  have k : nt_rn X _ 92 (12, [(0, .ref Yr), (1, .ref Y)], [], me_w M (nt_u (nt_u (nt_u (nt_u (nt_u J Y 0 (Int32.ofInt 0)) Y 1 (Int32.ofInt 0)) Y 2 (Int32.ofInt 0)) Y 3 (Int32.ofInt 0)) Y 4 (Int32.ofInt 0))) _ := k
  have k := ly_revb 1 (c' := (13, [(0, .ref Yr), (1, .ref Y)], [.ref Yr], me_w M (nt_u (nt_u (nt_u (nt_u (nt_u J Y 0 (Int32.ofInt 0)) Y 1 (Int32.ofInt 0)) Y 2 (Int32.ofInt 0)) Y 3 (Int32.ofInt 0)) Y 4 (Int32.ofInt 0)))) rfl k
  have k := lz_get (a := Yr) (g := 900) (M := me_w M (nt_u (nt_u (nt_u (nt_u (nt_u J Y 0 (Int32.ofInt 0)) Y 1 (Int32.ofInt 0)) Y 2 (Int32.ofInt 0)) Y 3 (Int32.ofInt 0)) Y 4 (Int32.ofInt 0))) (v := .ref Rd) rfl (nt_gfR rfl hP.2.2.1.1) k
  obtain ⟨d1, o1, ed, kc, k⟩ := lz_c (g := 28) (q := 1) (vs := [.ref Rd]) (rest := []) rfl rfl (by decide) (Or.inr (Or.inl ⟨_, rfl, rfl⟩)) rfl k
  obtain ⟨n1, n2, n3, n4⟩ := hP.2.2.2.1
  obtain ⟨J1, e1, hS⟩ := yc_open (J := nt_u (nt_u (nt_u (nt_u (nt_u J Y 0 (Int32.ofInt 0)) Y 1 (Int32.ofInt 0)) Y 2 (Int32.ofInt 0)) Y 3 (Int32.ofInt 0)) Y 4 (Int32.ofInt 0)) hP ⟨(me_uj (Ne.symm n2)).trans ((me_uj (Ne.symm n2)).trans ((me_uj (Ne.symm n2)).trans ((me_uj (Ne.symm n2)).trans ((me_uj (Ne.symm n2)).trans (hA.1))))), fun j => (me_uj (Ne.symm n3)).trans ((me_uj (Ne.symm n3)).trans ((me_uj (Ne.symm n3)).trans ((me_uj (Ne.symm n3)).trans ((me_uj (Ne.symm n3)).trans (hA.2.1 j))))), (me_uj (Ne.symm n4)).trans ((me_uj (Ne.symm n4)).trans ((me_uj (Ne.symm n4)).trans ((me_uj (Ne.symm n4)).trans ((me_uj (Ne.symm n4)).trans (hA.2.2.1))))), (me_uj (Ne.symm n4)).trans ((me_uj (Ne.symm n4)).trans ((me_uj (Ne.symm n4)).trans ((me_uj (Ne.symm n4)).trans ((me_uj (Ne.symm n4)).trans (hA.2.2.2)))))⟩ ⟨(me_uk (by decide)).trans ((me_uk (by decide)).trans ((me_uk (by decide)).trans ((me_uk (by decide)).trans (me_us)))), (me_uk (by decide)).trans ((me_uk (by decide)).trans ((me_uk (by decide)).trans (me_us))), (me_uk (by decide)).trans ((me_uk (by decide)).trans (me_us)), (me_uk (by decide)).trans (me_us), me_us⟩ hs (fun i h5 h12 j => (me_uj (hP.2.2.2.2.1 i h5 h12).2.2.2.2.2.1).trans ((me_uj (hP.2.2.2.2.1 i h5 h12).2.2.2.2.2.1).trans ((me_uj (hP.2.2.2.2.1 i h5 h12).2.2.2.2.2.1).trans ((me_uj (hP.2.2.2.2.1 i h5 h12).2.2.2.2.2.1).trans ((me_uj (hP.2.2.2.2.1 i h5 h12).2.2.2.2.2.1).trans (hCC i h5 h12 j)))))) kc
  subst e1
  have k : nt_rn X _ 92 (19, [(0, .ref Yr), (1, .ref Y)], [], me_w M J1) _ := k
  have k := ly_revb 4 (c' := (23, [(3, .int (Int32.ofInt 0)), (2, .int (Int32.ofInt 1)), (0, .ref Yr), (1, .ref Y)], [], me_w M J1)) rfl k
  exact yc_rdl hP 40 0 _ (0, 0, 0, 0, 0) C J1 rfl (lb_s_le t 0 (by omega)).2 ⟨by decide, by decide, by decide, by decide, by decide⟩ hS k
def kk_w_yread : sx_K := (92, 8, ly_D, ([(19, 1, 2), (49, 0, 4), (50, 0, 2147483647), (51, 0, 2147483647), (52, 0, 2147483647), (53, 0, 2147483647), (54, 0, 2147483647), (55, 0, 2147483647), (56, 0, 2147483647), (57, 0, 2147483647)], [(20, 1)]), [(2, 20, (0, [])), (2, 49, (0, []))], (ly_C, ly_R, (ly_b, []), 11), [(some (0, 0, (0, [(11, 1)])), (ly_C, ly_R, ([(11, (-2147483648), 2147483647)], []), 12))])
theorem kc_w_yread : sx_wkc (sx_tbs, sx_gps) kk_yread kk_w_yread = true := by decide +kernel
theorem ko_w_yread (X : nt_X) : sx_KOK X (sx_tbs, sx_gps) kk_w_yread := sx_wk (sx_lift (by decide +kernel) (ko_yread X)) kc_w_yread
theorem lq_yreadB {X : nt_X} {pl : Nat → Nat} {v : Nat → Int} {M : nt_M} {d : Nat} {o : Option Value × nt_M} (hd : 8 ≤ d) (hB : ly_B pl v M) (k : nt_ev X d 92 [.ref (pl 20), .ref (pl 49)] M o) : ly_B pl v o.2 := by
  have hij := ly_ij (K := kk_w_yread) rfl hB
  have hon := ly_app (K := kk_w_yread) (r := v) (ed := []) (ec := []) (er := []) rfl hB (fun _ _ => rfl) (fun _ _ => rfl) hij ly_nil (fun q hq => by cases hq) (fun q hq => by cases hq) (ly_ob hB) ly_oc0
  obtain ⟨o', h1, p, hp, r', h2, h3⟩ := ly_run (ko_w_yread X) hd (vs := [.ref (pl 20), .ref (pl 49)]) ⟨rfl, rfl, trivial⟩ hon
  have e : o = o' := lz_det k h1
  subst e
  rw [List.mem_singleton.mp hp] at h3
  have hr' : ∀ s, s < 11 → r' s = v s := fun s hs => h3.2.2.2.2.2.1 s hs
  exact ly_bk (ed := []) rfl rfl (fun _ _ => rfl) h3 (ly_oiC (more := []) (fun _ _ => rfl) rfl h3.2.2.1 hr') (ly_or2 (more := []) (fun _ _ => rfl) h3.2.2.2.1)
theorem lq_yP {pl : Nat → Nat} {v : Nat → Int} {M : nt_M} {t : Nat} (hB : ly_B pl v M) (ht : t ≤ 400) : yc_P (nt_sR M (pl 20) 1 (some (pl 49))) t (pl 19) (pl 17) (pl 18) (pl 21) (pl 22) (pl 20) (pl 49) (fun i => pl (45 + i)) := by
  have ne : ∀ g h, g < 66 → h < 66 → g ≠ h → pl g ≠ pl h := fun g h hg hh e c => e (hB.1 g h hg hh c)
  refine ⟨⟨(me_Ro (ne 19 20 (by omega) (by omega) (by decide))).trans (ly_ref (g := 19) (j := 0) (k := 17) hB (List.mem_of_getElem? (i := 12) rfl)), (me_Ro (ne 17 20 (by omega) (by omega) (by decide))).trans (ly_ref (g := 17) (j := 0) (k := 18) hB (List.mem_of_getElem? (i := 28) rfl)), (me_Ro (ne 21 20 (by omega) (by omega) (by decide))).trans (ly_ref (g := 21) (j := 0) (k := 19) hB (List.mem_of_getElem? (i := 10) rfl)), (me_Ro (ne 21 20 (by omega) (by omega) (by decide))).trans (ly_ref (g := 21) (j := 1) (k := 22) hB (List.mem_of_getElem? (i := 11) rfl))⟩, ⟨ne 17 19 (by omega) (by omega) (by decide), ne 17 21 (by omega) (by omega) (by decide), ne 17 22 (by omega) (by omega) (by decide), ne 18 19 (by omega) (by omega) (by decide), ne 18 21 (by omega) (by omega) (by decide), ne 18 22 (by omega) (by omega) (by decide), ne 19 21 (by omega) (by omega) (by decide), ne 19 22 (by omega) (by omega) (by decide), ne 21 22 (by omega) (by omega) (by decide)⟩, ⟨(me_Rk (by decide)).trans (ly_ref (g := 20) (j := 0) (k := 19) hB (List.mem_of_getElem? (i := 9) rfl)), me_Rs⟩, ⟨ne 49 19 (by omega) (by omega) (by decide), ne 49 17 (by omega) (by omega) (by decide), ne 49 18 (by omega) (by omega) (by decide), ne 49 21 (by omega) (by omega) (by decide)⟩, fun i h5 h12 => ?_, ht, ?_, ?_⟩
  · refine ⟨(me_Ro (ne 49 20 (by omega) (by omega) (by decide))).trans ?_, ne _ 19 (by omega) (by omega) (by omega), ne _ 17 (by omega) (by omega) (by omega), ne _ 18 (by omega) (by omega) (by omega), ne _ 21 (by omega) (by omega) (by omega), ne _ 49 (by omega) (by omega) (by omega), fun i' h5' h12' e => ne _ _ (by omega) (by omega) (by omega)⟩
    rcases (by omega : i = 5 ∨ i = 6 ∨ i = 7 ∨ i = 8 ∨ i = 9 ∨ i = 10 ∨ i = 11 ∨ i = 12) with rfl | rfl | rfl | rfl | rfl | rfl | rfl | rfl
    · exact ly_ref (g := 49) (j := 5) (k := 50) hB (List.mem_of_getElem? (i := 51) rfl)
    · exact ly_ref (g := 49) (j := 6) (k := 51) hB (List.mem_of_getElem? (i := 52) rfl)
    · exact ly_ref (g := 49) (j := 7) (k := 52) hB (List.mem_of_getElem? (i := 53) rfl)
    · exact ly_ref (g := 49) (j := 8) (k := 53) hB (List.mem_of_getElem? (i := 54) rfl)
    · exact ly_ref (g := 49) (j := 9) (k := 54) hB (List.mem_of_getElem? (i := 55) rfl)
    · exact ly_ref (g := 49) (j := 10) (k := 55) hB (List.mem_of_getElem? (i := 56) rfl)
    · exact ly_ref (g := 49) (j := 11) (k := 56) hB (List.mem_of_getElem? (i := 57) rfl)
    · exact ly_ref (g := 49) (j := 12) (k := 57) hB (List.mem_of_getElem? (i := 58) rfl)
  · show nt_l M (pl 22) = 400
    have := (hB.2.1.2 22 _ (show ly_E.2.1[22]? = some (13, 400, 400, 0) from rfl)).2.2.1
    dsimp only at this
    omega
  · have a := (hB.2.1.2 22 _ (show ly_E.2.1[22]? = some (13, 400, 400, 0) from rfl)).1
    have b : nt_n M ≤ nt_sp := hB.2.1.1
    omega
theorem lq_out {x y : Int32} {M M' : nt_M} (h : ((some (Value.int x), M) : Option Value × nt_M) = (some (Value.int y), M')) : x = y ∧ M = M' := by
  cases h
  exact ⟨rfl, rfl⟩
theorem lq_yardA {X : nt_X} {pl : Nat → Nat} {v : Nat → Int} {M M1 : nt_M} {y1 : Int32} {t : Nat} (hB : ly_B pl v M) (ht : t ≤ 400) (h17 : nt_I M (pl 17) 1 = nI t) (k : nt_ev X 99 104 [.ref (pl 16)] M (some (.int y1), M1)) : ∃ n r, lb_ya (nt_I M (pl 18)) t n 0 (lb_s (nt_I M (pl 18)) t 0, (0, 0, 0, 0, 0)) r ∧ ((∃ c, r = .inl c ∧ c ≠ 0 ∧ y1 = Int32.ofInt (-2) - c ∧ nt_R M1 (pl 16) 7 = some (pl 31)) ∨ ∃ u, r = .inr u ∧ y1 = nI u.2.2.1 ∧ nt_R M1 (pl 16) 7 = some (pl 48) ∧ lb_ub u.2 ∧ ∃ k D, lb_yaC (nt_I M (pl 18)) t k 0 (lb_s (nt_I M (pl 18)) t 0, (0, 0, 0, 0, 0)) u (fun i j => nt_I M (pl (45 + i)) j) D ∧ ∃ JY, yc_R (fun i => pl (45 + i)) (pl 49) u.2 D JY ∧ nt_I M1 = x64 (fun i => pl (48 + i)) (JY (pl 31) 6) JY) := by
  have ne : ∀ g h, g < 66 → h < 66 → g ≠ h → pl g ≠ pl h := fun g h hg hh e c => e (hB.1 g h hg hh c)
  have k : nt_rn X 99 104 (0, [(0, .ref (pl 16))], [], M) (some (.int y1), M1) := k
  have k := ly_revb 1 (c' := (1, [(0, .ref (pl 16))], [.ref (pl 16)], M)) rfl k
  have k := lz_get (a := pl 16) (g := 1001) (v := .ref (pl 20)) rfl (nt_gfR rfl (ly_ref (g := 16) (j := 1) (k := 20) hB (List.mem_of_getElem? (i := 1) rfl))) k
  have k := ly_revb 1 (c' := (5, [(0, .ref (pl 16))], [.ref (pl 16), .ref (pl 20)], M)) rfl k
  have k := lz_get (a := pl 16) (g := 1008) (v := .ref (pl 48)) rfl (nt_gfR rfl (ly_ref (g := 16) (j := 8) (k := 48) hB (List.mem_of_getElem? (i := 7) rfl))) k
  have k := lz_get (a := pl 48) (g := 600) (v := .ref (pl 49)) rfl (nt_gfR rfl (ly_ref (g := 48) (j := 0) (k := 49) hB (List.mem_of_getElem? (i := 50) rfl))) k
  obtain ⟨d1, o1, ed, kc, k⟩ := lz_c (g := 92) (q := 1) (vs := [.ref (pl 20), .ref (pl 49)]) (rest := []) rfl rfl (by decide) (Or.inr (Or.inl ⟨_, rfl, rfl⟩)) rfl k
  have ed : d1 = 98 := by omega
  subst ed
  have hB1 := lq_yreadB (by decide) hB kc
  have g21 := hB.2.1.2 21 _ (show ly_E.2.1[21]? = some (5, 0, 0, 6) from rfl)
  have b2 : 0 ≤ (nt_I M (pl 21) 2).toInt ∧ (nt_I M (pl 21) 2).toInt ≤ 400 := g21.2.2.2.2 2
  have b3 : 0 ≤ (nt_I M (pl 21) 3).toInt ∧ (nt_I M (pl 21) 3).toInt ≤ 60 := g21.2.2.2.2 3
  obtain ⟨n, r, J', e1, hya, hsh, hne⟩ := yc_read (f := nt_I M (pl 18)) (s0 := (nt_I M (pl 21) 2).toInt.toNat) (m0 := (nt_I M (pl 21) 3).toInt.toNat) (J := nt_I M) (lq_yP hB ht) rfl ⟨h17, fun _ => rfl, Int32.toInt_inj.mp (by rw [nI_toInt (by omega)]; omega), Int32.toInt_inj.mp (by rw [nI_toInt (by omega)]; omega)⟩ ⟨by omega, by omega⟩ (C := fun i j => nt_I M (pl (45 + i)) j) (fun i h5 h12 j => rfl) kc
  subst e1
  generalize hMR : me_w (nt_sR M (pl 20) 1 (some (pl 49))) J' = MR at k hB1
  have hB1 : ly_B pl v MR := hB1
  have iMR : nt_I MR = J' := by rw [← hMR]; rfl
  have k : nt_rn X 99 104 (14, [(0, .ref (pl 16))], [.int (lb_ry r)], MR) (some (.int y1), M1) := k
  have k := ly_revb 2 (c' := (16, [(1, .int (lb_ry r)), (0, .ref (pl 16))], [.ref (pl 16)], MR)) rfl k
  have k := lz_get (a := pl 16) (g := 1000) (v := .ref (pl 17)) rfl (nt_gfR rfl (ly_ref (g := 16) (j := 0) (k := 17) hB1 (List.mem_of_getElem? (i := 0) rfl))) k
  have k := ly_revb 1 (c' := (20, [(1, .int (lb_ry r)), (0, .ref (pl 16))], [.int (Int32.ofInt 0), .ref (pl 17)], MR)) rfl k
  have k := lz_put rfl (by decide) k
  obtain ⟨M2, hM2⟩ : ∃ M2, M2 = nt_sI MR (pl 17) 1 (Int32.ofInt 0) := ⟨_, rfl⟩
  have k : nt_rn X 99 104 (23, [(1, .int (lb_ry r)), (0, .ref (pl 16))], [], nt_sI MR (pl 17) 1 (Int32.ofInt 0)) (some (.int y1), M1) := k
  rw [← hM2] at k
  have hB2 : ly_B pl v M2 := by
    rw [hM2]
    refine ly_B_wI (q := (7, 0, 0, 4)) hB1 rfl (by decide) (by show (0 : Int) ≤ 0 ∧ (0 : Int) ≤ 400; decide) (fun c hc => ⟨fun z => ?_, fun _ => rfl⟩)
    have l := List.all_eq_true.mp (show ly_C.all (fun c => !Nat.beq c.1.1 17) = true from by decide +kernel) c hc
    rw [z.1] at l
    cases l
  have k := ly_revb 2 (c' := (if lb_ry r = 0 then 32 else 27, [(1, .int (lb_ry r)), (0, .ref (pl 16))], [], M2)) rfl k
  rcases r with c | u
  · have hc := hne c rfl
    rw [if_neg (show ¬ lb_ry (.inl c) = 0 from hc)] at k
    have k := ly_revb 3 (c' := (31, [(1, .int (lb_ry (.inl c))), (0, .ref (pl 16))], [.int (Int32.ofInt (-2) - lb_ry (.inl c))], M2)) rfl k
    have k := lz_ri rfl (by decide) k
    exact ⟨n, _, hya, Or.inl ⟨c, rfl, hc, (lq_out k).1, by rw [(lq_out k).2]; exact ly_ref (g := 16) (j := 7) (k := 31) hB2 (List.mem_of_getElem? (i := 6) rfl)⟩⟩
  · rw [if_pos (show lb_ry (.inr u) = 0 from rfl)] at k
    obtain ⟨hub, k0, D0, hyC, hyR⟩ := hsh u rfl
    have k := ly_revb 1 (c' := (33, [(1, .int (lb_ry (.inr u))), (0, .ref (pl 16))], [.ref (pl 16)], M2)) rfl k
    have k := lz_get (a := pl 16) (g := 1008) (v := .ref (pl 48)) rfl (nt_gfR rfl (ly_ref (g := 16) (j := 8) (k := 48) hB2 (List.mem_of_getElem? (i := 7) rfl))) k
    have k := ly_revb 1 (c' := (37, [(1, .int (lb_ry (.inr u))), (0, .ref (pl 16))], [.ref (pl 16), .ref (pl 48)], M2)) rfl k
    have k := lz_get (a := pl 16) (g := 1007) (v := .ref (pl 31)) rfl (nt_gfR rfl (ly_ref (g := 16) (j := 7) (k := 31) hB2 (List.mem_of_getElem? (i := 6) rfl))) k
    have k := lz_get (a := pl 31) (g := 606) (v := .int (nt_I M2 (pl 31) 6)) rfl rfl k
    obtain ⟨d1, o1, ed, kc2, k⟩ := lz_c (g := 64) (q := 1) (vs := [.ref (pl 48), .int (nt_I M2 (pl 31) 6)]) (rest := []) rfl rfl (by decide) (Or.inr (Or.inl ⟨_, rfl, rfl⟩)) rfl k
    obtain ⟨ov, M3⟩ := o1
    have e64 := xt64 (q := fun i => pl (48 + i)) (J := nt_I M2) (zz_Qm hB2) kc2
    have en : ov = none := congrArg Prod.fst e64
    have eM3 : M3 = me_w M2 (x64 (fun i => pl (48 + i)) (nt_I M2 (pl 31) 6) (nt_I M2)) := congrArg Prod.snd e64
    subst en
    have eR : ∀ a j, nt_R M3 a j = nt_R M2 a j := fun a j => by rw [eM3]; rfl
    have hJY : yc_R (fun i => pl (45 + i)) (pl 49) u.2 D0 (nt_I M2) := by
      have q : nt_I M2 = nt_u J' (pl 17) 1 (Int32.ofInt 0) := by rw [hM2, ← iMR]; rfl
      rw [q]
      have n4 := ne 49 17 (by omega) (by omega) (by decide)
      exact ⟨⟨(me_uj n4).trans hyR.1.1, (me_uj n4).trans hyR.1.2.1, (me_uj n4).trans hyR.1.2.2.1, (me_uj n4).trans hyR.1.2.2.2.1, (me_uj n4).trans hyR.1.2.2.2.2⟩, fun i h5 h12 j => (me_uj (ne _ 17 (by omega) (by omega) (by omega))).trans (hyR.2 i h5 h12 j)⟩
    have k : nt_rn X 99 104 (46, [(1, .int (lb_ry (.inr u))), (0, .ref (pl 16))], [], M3) (some (.int y1), M1) := k
    have k := ly_revb 1 (c' := (47, [(1, .int (lb_ry (.inr u))), (0, .ref (pl 16))], [.ref (pl 16)], M3)) rfl k
    have k := lz_get (a := pl 16) (g := 1007) (v := .ref (pl 31)) rfl (nt_gfR rfl ((eR _ _).trans (ly_ref (g := 16) (j := 7) (k := 31) hB2 (List.mem_of_getElem? (i := 6) rfl)))) k
    have k := ly_revb 3 (c' := (53, [(2, .ref (pl 31)), (1, .int (lb_ry (.inr u))), (0, .ref (pl 16))], [.ref (pl 16), .ref (pl 16)], M3)) rfl k
    have k := lz_get (a := pl 16) (g := 1008) (v := .ref (pl 48)) rfl (nt_gfR rfl ((eR _ _).trans (ly_ref (g := 16) (j := 8) (k := 48) hB2 (List.mem_of_getElem? (i := 7) rfl)))) k
    have k := lz_putr rfl (by decide) k
    obtain ⟨M4, hM4⟩ : ∃ M4, M4 = nt_sR M3 (pl 16) 7 (some (pl 48)) := ⟨_, rfl⟩
    have k : nt_rn X 99 104 (59, [(2, .ref (pl 31)), (1, .int (lb_ry (.inr u))), (0, .ref (pl 16))], [], nt_sR M3 (pl 16) 7 (some (pl 48))) (some (.int y1), M1) := k
    rw [← hM4] at k
    have k := ly_revb 2 (c' := (61, [(2, .ref (pl 31)), (1, .int (lb_ry (.inr u))), (0, .ref (pl 16))], [.ref (pl 31), .ref (pl 16)], M4)) rfl k
    have k := lz_putr rfl (by decide) k
    obtain ⟨M5, hM5⟩ : ∃ M5, M5 = nt_sR M4 (pl 16) 8 (some (pl 31)) := ⟨_, rfl⟩
    have k : nt_rn X 99 104 (64, [(2, .ref (pl 31)), (1, .int (lb_ry (.inr u))), (0, .ref (pl 16))], [], nt_sR M4 (pl 16) 8 (some (pl 31))) (some (.int y1), M1) := k
    rw [← hM5] at k
    have k := ly_revb 1 (c' := (65, [(2, .ref (pl 31)), (1, .int (lb_ry (.inr u))), (0, .ref (pl 16))], [.ref (pl 16)], M5)) rfl k
    have r7 : nt_R M5 (pl 16) 7 = some (pl 48) := by rw [hM5, me_Rk (by decide), hM4, me_Rs]
    have r0 : nt_R M5 (pl 48) 0 = some (pl 49) := by
      rw [hM5, me_Ro (ne 48 16 (by omega) (by omega) (by decide)), hM4, me_Ro (ne 48 16 (by omega) (by omega) (by decide)), eR]
      exact ly_ref (g := 48) (j := 0) (k := 49) hB2 (List.mem_of_getElem? (i := 50) rfl)
    have i1 : nt_I M5 (pl 49) 1 = nI u.2.2.1 := by
      have q : nt_I M5 (pl 49) 1 = nt_I M3 (pl 49) 1 := by rw [hM5, hM4]; rfl
      rw [q, eM3]
      show x64 (fun i => pl (48 + i)) (nt_I M2 (pl 31) 6) (nt_I M2) (pl 49) 1 = _
      rw [x64_frJ (ne 49 48 (by omega) (by omega) (by decide)) (ne 49 58 (by omega) (by omega) (by decide)) (ne 49 59 (by omega) (by omega) (by decide)) (ne 49 60 (by omega) (by omega) (by decide)) (ne 49 61 (by omega) (by omega) (by decide)) (ne 49 62 (by omega) (by omega) (by decide)) (ne 49 63 (by omega) (by omega) (by decide)) (ne 49 64 (by omega) (by omega) (by decide))]
      exact hJY.1.2.1
    have k := lz_get (a := pl 16) (g := 1007) (v := .ref (pl 48)) rfl (nt_gfR rfl r7) k
    have k := lz_get (a := pl 48) (g := 600) (v := .ref (pl 49)) rfl (nt_gfR rfl r0) k
    have k := lz_get (a := pl 49) (g := 801) (v := .int (nI u.2.2.1)) rfl (congrArg Value.int i1) k
    have k := lz_ri rfl (by decide) k
    have eI : nt_I M5 = nt_I M3 := by rw [hM5, hM4]; rfl
    exact ⟨n, _, hya, Or.inr ⟨u, rfl, (lq_out k).1, by rw [(lq_out k).2]; exact r7, hub, k0, D0, hyC, nt_I M2, hJY, by rw [(lq_out k).2, eI, eM3]; rfl⟩⟩
end
section
/-! the other side's yard, whole -/
def yr_c0 (R0 R1 R2 : Nat) (J : Nat → Nat → Int32) : lb_C := fun a n => if a = 5 then J R0 n else if a ≤ 8 then J R1 (3 * n + (a - 6)) else J R2 (4 * n + (a - 9))
theorem yr_c0_C {R0 R1 R2 B Sg Ln : Nat} {J : Nat → Nat → Int32} (h1 : (R0 ≠ B ∧ R0 ≠ Sg ∧ R0 ≠ Ln) ∧ (R1 ≠ B ∧ R1 ≠ Sg ∧ R1 ≠ Ln) ∧ (R2 ≠ B ∧ R2 ≠ Sg ∧ R2 ≠ Ln)) (h2 : R0 ≠ R1 ∧ R0 ≠ R2 ∧ R1 ≠ R2) : yr_C R0 R1 R2 B Sg Ln (yr_c0 R0 R1 R2 J) J := ⟨h1, h2, fun n => rfl, fun n => ⟨rfl, rfl, rfl⟩, fun n => ⟨rfl, rfl, rfl, rfl⟩⟩
theorem ly_B_0 {pl : Nat → Nat} {v : Nat → Int} {M : nt_M} {j : Nat} {x : Int32} (hB : ly_B pl v M) (hb : (sx_iv (sx_tbs.getD 9 []) j).1 ≤ x.toInt ∧ x.toInt ≤ (sx_iv (sx_tbs.getD 9 []) j).2) : ly_B pl v (nt_sI M (pl 0) j x) := by
  refine ly_B_wI (g := 0) (q := (11, 0, 0, 9)) hB rfl (by decide) hb (fun c hc => ⟨fun z => ?_, fun _ => rfl⟩)
  have l := List.all_eq_true.mp (show ly_C.all (fun c => !Nat.beq c.1.1 0) = true from by decide +kernel) c hc
  rw [z.1] at l
  cases l
def kk_w_readsAllY2 : sx_K := (134, 5, ly_D, ([(0, 1, 1), (0, 7, 11), (0, 15, 17), (0, 19, 19), (0, 21, 21), (10, 0, 2147483647), (11, 0, 2147483647), (12, 0, 2147483647), (13, 0, 2147483647)], []), [(2, 0, (0, []))], (ly_C ++ [((0, (18, [])), (0, [(11, 1)]))], ly_R, (ly_b ++ [(11, 6, 6)], []), 12), [(some (0, 0, (0, [(12, 1)])), (ly_C, ly_R, ([(12, 0, 1)], []), 13))])
theorem kc_w_readsAllY2 : sx_wkc (sx_tbs, sx_gps) kk_readsAllY2 kk_w_readsAllY2 = true := by decide +kernel
theorem ko_w_readsAllY2 (X : nt_X) : sx_KOK X (sx_tbs, sx_gps) kk_w_readsAllY2 := sx_wk (sx_lift (by decide +kernel) (ko_readsAllY2 X)) kc_w_readsAllY2
theorem lq_readsB {X : nt_X} {pl : Nat → Nat} {v : Nat → Int} {M : nt_M} {d : Nat} {o : Option Value × nt_M} (hd : 5 ≤ d) (hB : ly_B pl v M) (h18 : nt_I M (pl 0) 18 = nI 6) (k : nt_ev X d 134 [.ref (pl 0)] M o) : ly_B pl v o.2 ∧ ∀ j, nt_I o.2 (pl 4) j = nt_I M (pl 4) j := by
  obtain ⟨r, hr, h11⟩ : ∃ r : Nat → Int, (∀ s, s < 11 → r s = v s) ∧ r 11 = 6 := ⟨fun s => if s = 11 then 6 else v s, fun s hs => if_neg (by omega), if_pos rfl⟩
  have hij := ly_ij (K := kk_w_readsAllY2) rfl hB
  have hon := ly_app (K := kk_w_readsAllY2) (ed := []) (ec := [((0, (18, [])), (0, [(11, 1)]))]) (er := []) rfl hB (fun _ _ => rfl) hr hij ly_nil (fun q hq => by
    rw [List.mem_singleton.mp hq]
    refine ⟨Or.inl (by show 0 < 66; decide), ?_⟩
    dsimp only
    rw [sx_c_e, sx_s_e, h11]
    unfold sx_rd
    rw [if_neg (by decide), if_neg (by decide)]
    show (nt_I M (pl 0) 18).toInt = 6
    rw [h18]
    decide) (fun q hq => by cases hq) (ly_oba (ly_obr hr (ly_ob hB)) (ly_ob1 (by omega))) ly_oc0
  obtain ⟨o', h1, p, hp, r', h2, h3⟩ := ly_run (ko_w_readsAllY2 X) hd (vs := [.ref (pl 0)]) ⟨rfl, trivial⟩ hon
  have e : o = o' := lz_det k h1
  subst e
  rw [List.mem_singleton.mp hp] at h3
  have hr' : ∀ s, s < 11 → r' s = v s := fun s hs => (h3.2.2.2.2.2.1 s (by show s < 12; omega)).trans (hr s hs)
  refine ⟨ly_bk (ed := []) rfl rfl (fun _ _ => rfl) h3 (ly_oiC (more := []) (fun _ _ => rfl) rfl h3.2.2.1 hr') (ly_or2 (more := []) (fun _ _ => rfl) h3.2.2.2.1), fun j => h3.2.2.2.2.2.2.2.1 _ j fun q hq hl hz => ?_⟩
  have e := hij 4 q.1 (by show 4 < 66; decide) hl hz.1
  have l := List.all_eq_true.mp (show kk_w_readsAllY2.2.2.2.1.1.all (fun q => !Nat.beq q.1 4) = true from by decide +kernel) q hq
  rw [← e] at l
  exact absurd l (by decide)
theorem lq_sp {pl : Nat → Nat} {v : Nat → Int} {M : nt_M} (hB : ly_B pl v M) {g : Nat} {q : Nat × Int × Int × Nat} (h : ly_E.2.1[g]? = some q) : pl g ≠ nt_sp := by
  have a := (hB.2.1.2 g q h).1
  have b : nt_n M ≤ nt_sp := hB.2.1.1
  omega
theorem lq_yardB {X : nt_X} {pl : Nat → Nat} {v : Nat → Int} {M M2 : nt_M} {y2 : Int32} {t : Nat} {f : Nat → Int32} (hB : ly_B pl v M) (ht : t ≤ 400) (h01 : nt_I M (pl 0) 1 = nI t) (hf : ∀ j, nt_I M (pl 8) j = f j) (k : nt_ev X 99 166 [.ref (pl 0)] M (some (.int y2), M2)) : ∃ r, (∃ n, lb_ya f t n 0 (lb_s f t 0, (0, 0, 0, 0, 0)) r) ∧ ((∃ c, r = .inl c ∧ y2 = Int32.ofInt (-2) - c ∧ ∀ j, nt_I M2 (pl 4) j = nt_I M (pl 4) j) ∨ ∃ u, r = .inr u ∧ y2 = nI u.2.2.1 ∧ lb_ub u.2 ∧ ∃ k D, lb_yaC f t k 0 (lb_s f t 0, (0, 0, 0, 0, 0)) u (yr_c0 (pl 11) (pl 12) (pl 13) (nt_I M)) D ∧ yf_R (nt_I M2 (pl 4)) u.2 D (nt_I M (pl 4) 9)) := by
  have ne : ∀ g h, g < 66 → h < 66 → g ≠ h → pl g ≠ pl h := fun g h hg hh e c => e (hB.1 g h hg hh c)
  have hW : yr_W M (pl 0) (pl 8) (pl 1) (pl 10) (pl 11) (pl 12) (pl 13) := ⟨⟨ly_ref (g := 0) (j := 12) (k := 11) hB (List.mem_of_getElem? (i := 23) rfl), ly_ref (g := 0) (j := 13) (k := 12) hB (List.mem_of_getElem? (i := 24) rfl), ly_ref (g := 0) (j := 14) (k := 13) hB (List.mem_of_getElem? (i := 25) rfl)⟩, ⟨ne 11 0 (by omega) (by omega) (by decide), ne 11 8 (by omega) (by omega) (by decide), ne 11 1 (by omega) (by omega) (by decide), ne 11 10 (by omega) (by omega) (by decide)⟩, ⟨ne 12 0 (by omega) (by omega) (by decide), ne 12 8 (by omega) (by omega) (by decide), ne 12 1 (by omega) (by omega) (by decide), ne 12 10 (by omega) (by omega) (by decide)⟩, ⟨ne 13 0 (by omega) (by omega) (by decide), ne 13 8 (by omega) (by omega) (by decide), ne 13 1 (by omega) (by omega) (by decide), ne 13 10 (by omega) (by omega) (by decide)⟩⟩
  have k : nt_rn X 99 166 (0, [(0, .ref (pl 0))], [], me_w M (nt_I M)) (some (.int y2), M2) := k
  have k := ly_revb 2 (c' := (3, [(0, .ref (pl 0))], [.int (Int32.ofInt 6), .ref (pl 0)], me_w M ((nt_I M)))) rfl k
  have k := me_put rfl (by decide) k
  have k : nt_rn X _ 166 (6, [(0, .ref (pl 0))], [], me_w M (nt_u ((nt_I M)) (pl 0) 18 (Int32.ofInt 6))) _ := k
  have k := ly_revb 2 (c' := (8, [(0, .ref (pl 0))], [.int (Int32.ofInt 0), .ref (pl 0)], me_w M (nt_u ((nt_I M)) (pl 0) 18 (Int32.ofInt 6)))) rfl k
  have k := me_put rfl (by decide) k
  have k : nt_rn X _ 166 (11, [(0, .ref (pl 0))], [], me_w M (nt_u (nt_u ((nt_I M)) (pl 0) 18 (Int32.ofInt 6)) (pl 0) 7 (Int32.ofInt 0))) _ := k
  have k := ly_revb 2 (c' := (13, [(0, .ref (pl 0))], [.int (Int32.ofInt 0), .ref (pl 0)], me_w M (nt_u (nt_u ((nt_I M)) (pl 0) 18 (Int32.ofInt 6)) (pl 0) 7 (Int32.ofInt 0)))) rfl k
  have k := me_put rfl (by decide) k
  have k : nt_rn X _ 166 (16, [(0, .ref (pl 0))], [], me_w M (nt_u (nt_u (nt_u ((nt_I M)) (pl 0) 18 (Int32.ofInt 6)) (pl 0) 7 (Int32.ofInt 0)) (pl 0) 8 (Int32.ofInt 0))) _ := k
  have k := ly_revb 2 (c' := (18, [(0, .ref (pl 0))], [.int (Int32.ofInt 0), .ref (pl 0)], me_w M (nt_u (nt_u (nt_u ((nt_I M)) (pl 0) 18 (Int32.ofInt 6)) (pl 0) 7 (Int32.ofInt 0)) (pl 0) 8 (Int32.ofInt 0)))) rfl k
  have k := me_put rfl (by decide) k
  have k : nt_rn X _ 166 (21, [(0, .ref (pl 0))], [], me_w M (nt_u (nt_u (nt_u (nt_u ((nt_I M)) (pl 0) 18 (Int32.ofInt 6)) (pl 0) 7 (Int32.ofInt 0)) (pl 0) 8 (Int32.ofInt 0)) (pl 0) 9 (Int32.ofInt 0))) _ := k
  have k := ly_revb 2 (c' := (23, [(0, .ref (pl 0))], [.int (Int32.ofInt 0), .ref (pl 0)], me_w M (nt_u (nt_u (nt_u (nt_u ((nt_I M)) (pl 0) 18 (Int32.ofInt 6)) (pl 0) 7 (Int32.ofInt 0)) (pl 0) 8 (Int32.ofInt 0)) (pl 0) 9 (Int32.ofInt 0)))) rfl k
  have k := me_put rfl (by decide) k
  have k : nt_rn X _ 166 (26, [(0, .ref (pl 0))], [], me_w M (nt_u (nt_u (nt_u (nt_u (nt_u ((nt_I M)) (pl 0) 18 (Int32.ofInt 6)) (pl 0) 7 (Int32.ofInt 0)) (pl 0) 8 (Int32.ofInt 0)) (pl 0) 9 (Int32.ofInt 0)) (pl 0) 10 (Int32.ofInt 0))) _ := k
  have k := ly_revb 2 (c' := (28, [(0, .ref (pl 0))], [.int (Int32.ofInt (-1)), .ref (pl 0)], me_w M (nt_u (nt_u (nt_u (nt_u (nt_u ((nt_I M)) (pl 0) 18 (Int32.ofInt 6)) (pl 0) 7 (Int32.ofInt 0)) (pl 0) 8 (Int32.ofInt 0)) (pl 0) 9 (Int32.ofInt 0)) (pl 0) 10 (Int32.ofInt 0)))) rfl k
  have k := me_put rfl (by decide) k
  have k : nt_rn X _ 166 (31, [(0, .ref (pl 0))], [], me_w M (nt_u (nt_u (nt_u (nt_u (nt_u (nt_u ((nt_I M)) (pl 0) 18 (Int32.ofInt 6)) (pl 0) 7 (Int32.ofInt 0)) (pl 0) 8 (Int32.ofInt 0)) (pl 0) 9 (Int32.ofInt 0)) (pl 0) 10 (Int32.ofInt 0)) (pl 0) 11 (Int32.ofInt (-1)))) _ := k
  have k := ly_revb 1 (c' := (32, [(0, .ref (pl 0))], [.ref (pl 0)], me_w M (nt_u (nt_u (nt_u (nt_u (nt_u (nt_u ((nt_I M)) (pl 0) 18 (Int32.ofInt 6)) (pl 0) 7 (Int32.ofInt 0)) (pl 0) 8 (Int32.ofInt 0)) (pl 0) 9 (Int32.ofInt 0)) (pl 0) 10 (Int32.ofInt 0)) (pl 0) 11 (Int32.ofInt (-1))))) rfl k
  obtain ⟨d1, o1, ed, kc, k⟩ := lz_c (g := 134) (q := 1) (vs := [.ref (pl 0)]) (rest := []) rfl rfl (by decide) (Or.inr (Or.inl ⟨_, rfl, rfl⟩)) rfl k
  have ed : d1 = 98 := by omega
  subst ed
  have hB6 : ly_B pl v (me_w M (nt_u (nt_u (nt_u (nt_u (nt_u (nt_u (nt_I M) (pl 0) 18 (Int32.ofInt 6)) (pl 0) 7 (Int32.ofInt 0)) (pl 0) 8 (Int32.ofInt 0)) (pl 0) 9 (Int32.ofInt 0)) (pl 0) 10 (Int32.ofInt 0)) (pl 0) 11 (Int32.ofInt (-1)))) := ly_B_0 (ly_B_0 (ly_B_0 (ly_B_0 (ly_B_0 (ly_B_0 (hB) (show (sx_iv (sx_tbs.getD 9 []) 18).1 ≤ (Int32.ofInt 6 : Int32).toInt ∧ (Int32.ofInt 6 : Int32).toInt ≤ (sx_iv (sx_tbs.getD 9 []) 18).2 by decide)) (show (sx_iv (sx_tbs.getD 9 []) 7).1 ≤ (Int32.ofInt 0 : Int32).toInt ∧ (Int32.ofInt 0 : Int32).toInt ≤ (sx_iv (sx_tbs.getD 9 []) 7).2 by decide)) (show (sx_iv (sx_tbs.getD 9 []) 8).1 ≤ (Int32.ofInt 0 : Int32).toInt ∧ (Int32.ofInt 0 : Int32).toInt ≤ (sx_iv (sx_tbs.getD 9 []) 8).2 by decide)) (show (sx_iv (sx_tbs.getD 9 []) 9).1 ≤ (Int32.ofInt 0 : Int32).toInt ∧ (Int32.ofInt 0 : Int32).toInt ≤ (sx_iv (sx_tbs.getD 9 []) 9).2 by decide)) (show (sx_iv (sx_tbs.getD 9 []) 10).1 ≤ (Int32.ofInt 0 : Int32).toInt ∧ (Int32.ofInt 0 : Int32).toInt ≤ (sx_iv (sx_tbs.getD 9 []) 10).2 by decide)) (show (sx_iv (sx_tbs.getD 9 []) 11).1 ≤ (Int32.ofInt (-1) : Int32).toInt ∧ (Int32.ofInt (-1) : Int32).toInt ≤ (sx_iv (sx_tbs.getD 9 []) 11).2 by decide)
  obtain ⟨hBR, h4R⟩ := lq_readsB (by decide) hB6 (show (nt_u (nt_u (nt_u (nt_u (nt_u (nt_u (nt_I M) (pl 0) 18 (Int32.ofInt 6)) (pl 0) 7 (Int32.ofInt 0)) (pl 0) 8 (Int32.ofInt 0)) (pl 0) 9 (Int32.ofInt 0)) (pl 0) 10 (Int32.ofInt 0)) (pl 0) 11 (Int32.ofInt (-1))) (pl 0) 18 = nI 6 from (me_uk (by decide)).trans ((me_uk (by decide)).trans ((me_uk (by decide)).trans ((me_uk (by decide)).trans ((me_uk (by decide)).trans (me_us)))))) kc
  have n80 := ne 8 0 (by omega) (by omega) (by decide)
  have hP : md_P M (nt_u (nt_u (nt_u (nt_u (nt_u (nt_u (nt_I M) (pl 0) 18 (Int32.ofInt 6)) (pl 0) 7 (Int32.ofInt 0)) (pl 0) 8 (Int32.ofInt 0)) (pl 0) 9 (Int32.ofInt 0)) (pl 0) 10 (Int32.ofInt 0)) (pl 0) 11 (Int32.ofInt (-1))) f t 6 (pl 0) (pl 8) (pl 1) (pl 10) := ⟨⟨ly_ref (g := 0) (j := 0) (k := 8) hB (List.mem_of_getElem? (i := 20) rfl), ly_ref (g := 0) (j := 3) (k := 1) hB (List.mem_of_getElem? (i := 13) rfl), ly_ref (g := 0) (j := 4) (k := 10) hB (List.mem_of_getElem? (i := 22) rfl)⟩, ⟨ne 8 0 (by omega) (by omega) (by decide), ne 8 1 (by omega) (by omega) (by decide), ne 8 10 (by omega) (by omega) (by decide), ne 0 1 (by omega) (by omega) (by decide), ne 0 10 (by omega) (by omega) (by decide), ne 1 10 (by omega) (by omega) (by decide)⟩, (me_uk (by decide)).trans ((me_uk (by decide)).trans ((me_uk (by decide)).trans ((me_uk (by decide)).trans ((me_uk (by decide)).trans ((me_uk (by decide)).trans (h01)))))), (me_uk (by decide)).trans ((me_uk (by decide)).trans ((me_uk (by decide)).trans ((me_uk (by decide)).trans ((me_uk (by decide)).trans (me_us))))), fun j => (me_uj n80).trans ((me_uj n80).trans ((me_uj n80).trans ((me_uj n80).trans ((me_uj n80).trans ((me_uj n80).trans (hf j)))))), ht, by decide, by have := (hB.2.1.2 1 _ (show ly_E.2.1[1]? = some (13, 2400, 2400, 0) from rfl)).2.2.1; dsimp only at this; omega, lq_sp hB (show ly_E.2.1[1]? = some (13, 2400, 2400, 0) from rfl), lq_sp hB (show ly_E.2.1[10]? = some (13, 7, 7, 13) from rfl)⟩
  obtain ⟨r, a, J', e1, hya, hfin⟩ := yr_reads hW hP ⟨(me_uk (by decide)).trans ((me_uk (by decide)).trans ((me_uk (by decide)).trans ((me_uk (by decide)).trans (me_us)))), (me_uk (by decide)).trans ((me_uk (by decide)).trans ((me_uk (by decide)).trans (me_us))), (me_uk (by decide)).trans ((me_uk (by decide)).trans (me_us)), (me_uk (by decide)).trans (me_us), me_us⟩ (yr_Cr (yr_c0_C (J := nt_I M) ⟨⟨ne 11 0 (by omega) (by omega) (by decide), ne 11 1 (by omega) (by omega) (by decide), ne 11 10 (by omega) (by omega) (by decide)⟩, ⟨ne 12 0 (by omega) (by omega) (by decide), ne 12 1 (by omega) (by omega) (by decide), ne 12 10 (by omega) (by omega) (by decide)⟩, ⟨ne 13 0 (by omega) (by omega) (by decide), ne 13 1 (by omega) (by omega) (by decide), ne 13 10 (by omega) (by omega) (by decide)⟩⟩ ⟨ne 11 12 (by omega) (by omega) (by decide), ne 11 13 (by omega) (by omega) (by decide), ne 12 13 (by omega) (by omega) (by decide)⟩) (fun a z1 _ _ => (me_uo z1).trans ((me_uo z1).trans ((me_uo z1).trans ((me_uo z1).trans ((me_uo z1).trans (me_uo z1))))))) kc
  subst e1
  have hBR : ly_B pl v (me_w M J') := hBR
  have h4S : ∀ j, J' (pl 4) j = nt_I M (pl 4) j := by
    intro j
    have q : J' (pl 4) j = (nt_u (nt_u (nt_u (nt_u (nt_u (nt_u (nt_I M) (pl 0) 18 (Int32.ofInt 6)) (pl 0) 7 (Int32.ofInt 0)) (pl 0) 8 (Int32.ofInt 0)) (pl 0) 9 (Int32.ofInt 0)) (pl 0) 10 (Int32.ofInt 0)) (pl 0) 11 (Int32.ofInt (-1))) (pl 4) j := h4R j
    rw [q, me_uo (ne 4 0 (by omega) (by omega) (by decide)), me_uo (ne 4 0 (by omega) (by omega) (by decide)), me_uo (ne 4 0 (by omega) (by omega) (by decide)), me_uo (ne 4 0 (by omega) (by omega) (by decide)), me_uo (ne 4 0 (by omega) (by omega) (by decide)), me_uo (ne 4 0 (by omega) (by omega) (by decide))]
  rcases hfin with ⟨c, rfl, hc, rfl, w16⟩ | ⟨w, D, rfl, rfl, hub, ⟨k0, hyC⟩, hE⟩
  · have k : nt_rn X _ 166 (35, [(0, .ref (pl 0))], [.int (Int32.ofInt 0)], me_w M (J')) _ := k
    have k := ly_revb 1 (c' := (if (Int32.ofInt 0) = 0 then 38 else 46, [(0, .ref (pl 0))], [], me_w M (J'))) rfl k
    rw [if_pos (show (Int32.ofInt 0) = 0 from by decide)] at k
    have k := ly_revb 2 (c' := (41, [(0, .ref (pl 0))], [.ref (pl 0), .int (Int32.ofInt (-2))], me_w M (J'))) rfl k
    have k := lz_get (a := (pl 0)) (g := 1116) (M := me_w M (J')) (v := .int (c)) rfl (congrArg Value.int (w16)) k
    have k := ly_revb 1 (c' := (45, [(0, .ref (pl 0))], [.int ((Int32.ofInt (-2)) - c)], me_w M (J'))) rfl k
    have k := lz_ri rfl (by decide) k
    exact ⟨_, hya, Or.inl ⟨c, rfl, (lq_out k).1, fun j => by rw [(lq_out k).2]; exact h4S j⟩⟩
  · have k : nt_rn X _ 166 (35, [(0, .ref (pl 0))], [.int (Int32.ofInt 1)], me_w M (J')) _ := k
    have k := ly_revb 1 (c' := (if (Int32.ofInt 1) = 0 then 38 else 46, [(0, .ref (pl 0))], [], me_w M (J'))) rfl k
    rw [if_neg (show ¬ ((Int32.ofInt 1) = 0) from by decide)] at k
    have e9 := xt166F (p := pl) (J := J') (zz_P hB) k
    obtain ⟨z1, z2⟩ := yf_row (p := pl) (zz_ne hB) hub hE
    have eM := (lq_out e9).2
    have ey := (lq_out e9).1
    refine ⟨_, hya, Or.inr ⟨w, rfl, ey.trans z1, hub, k0, D, hyC, ?_⟩⟩
    rw [show nt_I M2 = (x166F pl J').2 from by rw [eM]; rfl, ← h4S 9]
    exact z2
end
section
/-! a new yard is the same on both sides -/
theorem yg_0 {q : Nat → Nat} {v : Int32} {J : Nat → Nat → Int32} (hq : zq q) : (x64 q v J (q 0) 1 = Int32.ofInt 1 ∧ x64 q v J (q 0) 2 = Int32.ofInt 0 ∧ x64 q v J (q 0) 3 = Int32.ofInt 0 ∧ x64 q v J (q 0) 4 = Int32.ofInt 0 ∧ x64 q v J (q 0) 5 = Int32.ofInt 0) ∧ (∀ j, j < 6 → x64 q v J (q 10) j = Int32.ofInt 0 ∧ x64 q v J (q 11) j = Int32.ofInt 0 ∧ x64 q v J (q 12) j = Int32.ofInt (-1)) ∧ (∀ j, j < 24 → x64 q v J (q 13) j = J (q 4) j ∧ x64 q v J (q 14) j = Int32.ofInt (-1) ∧ x64 q v J (q 15) j = vp_nar .boolean (Int32.ofInt 0)) ∧ (∀ j, j < 8 → x64 q v J (q 16) j = Int32.ofInt 0) := by
  have ne : ∀ i j, i < 17 → j < 17 → i ≠ j → q i ≠ q j := hq
  unfold x64
  obtain ⟨JA, hA⟩ : ∃ JA, JA = nt_u (nt_u (nt_u (nt_u (nt_u (nt_u J (q 0) 1 (Int32.ofInt 1)) (q 0) 2 (Int32.ofInt 0)) (q 0) 3 (Int32.ofInt 0)) (q 0) 4 (Int32.ofInt 0)) (q 0) 5 (Int32.ofInt 0)) (q 0) 6 v := ⟨_, rfl⟩
  rw [← hA]
  obtain ⟨JB, hB⟩ : ∃ JB, JB = x64_32 q ((Int32.ofInt 6).toNatClampNeg) (Int32.ofInt 0) JA := ⟨_, rfl⟩
  rw [← hB]
  obtain ⟨JC, hC⟩ : ∃ JC, JC = x64_67 q ((Int32.ofInt 24).toNatClampNeg) (Int32.ofInt 0) JB := ⟨_, rfl⟩
  rw [← hC]
  obtain ⟨JD, hD⟩ : ∃ JD, JD = x64_110 q ((Int32.ofInt 8).toNatClampNeg) (Int32.ofInt 0) JC := ⟨_, rfl⟩
  rw [← hD]
  have vB := yg_32 hq 6 0 JA (by omega) (by omega)
  have eJB : x64_32 q 6 (nI 0) JA = JB := hB.symm
  rw [eJB] at vB
  have vC := yg_67 hq 24 0 JB (by omega) (by omega)
  have eJC : x64_67 q 24 (nI 0) JB = JC := hC.symm
  rw [eJC] at vC
  have vD := yg_110 hq 8 0 JC (by omega) (by omega)
  have eJD : x64_110 q 8 (nI 0) JC = JD := hD.symm
  rw [eJD] at vD
  have fD : ∀ i, i < 16 → JD (q i) = JC (q i) := fun i hi => by
    rw [hD]
    exact x64_110_frJ _ _ _ (ne i 16 (by omega) (by omega) (by omega))
  have fC : ∀ i, i < 17 → i ≠ 13 → i ≠ 14 → i ≠ 15 → JC (q i) = JB (q i) := fun i hi a b c => by
    rw [hC]
    exact x64_67_frJ _ _ _ (ne i 13 hi (by omega) a) (ne i 14 hi (by omega) b) (ne i 15 hi (by omega) c)
  have fB : ∀ i, i < 17 → i ≠ 10 → i ≠ 11 → i ≠ 12 → JB (q i) = JA (q i) := fun i hi a b c => by
    rw [hB]
    exact x64_32_frJ _ _ _ (ne i 10 hi (by omega) a) (ne i 11 hi (by omega) b) (ne i 12 hi (by omega) c)
  have e0 : JD (q 0) = JA (q 0) := by rw [fD 0 (by omega), fC 0 (by omega) (by decide) (by decide) (by decide), fB 0 (by omega) (by decide) (by decide) (by decide)]
  have e4 : JB (q 4) = J (q 4) := by
    have n4 := ne 4 0 (by omega) (by omega) (by decide)
    rw [fB 4 (by omega) (by decide) (by decide) (by decide), hA, me_uo n4, me_uo n4, me_uo n4, me_uo n4, me_uo n4, me_uo n4]
  refine ⟨⟨?_, ?_, ?_, ?_, ?_⟩, fun j hj => ⟨?_, ?_, ?_⟩, fun j hj => ⟨?_, ?_, ?_⟩, fun j hj => ?_⟩
  · rw [e0, hA, me_uk (by decide), me_uk (by decide), me_uk (by decide), me_uk (by decide), me_uk (by decide), me_us]
  · rw [e0, hA, me_uk (by decide), me_uk (by decide), me_uk (by decide), me_uk (by decide), me_us]
  · rw [e0, hA, me_uk (by decide), me_uk (by decide), me_uk (by decide), me_us]
  · rw [e0, hA, me_uk (by decide), me_uk (by decide), me_us]
  · rw [e0, hA, me_uk (by decide), me_us]
  · rw [fD 10 (by omega), fC 10 (by omega) (by decide) (by decide) (by decide), vB.1 j, if_pos (by omega)]
  · rw [fD 11 (by omega), fC 11 (by omega) (by decide) (by decide) (by decide), vB.2.1 j, if_pos (by omega)]
  · rw [fD 12 (by omega), fC 12 (by omega) (by decide) (by decide) (by decide), vB.2.2 j, if_pos (by omega)]
  · rw [fD 13 (by omega), vC.1 j, if_pos (by omega), e4]
  · rw [fD 14 (by omega), vC.2.1 j, if_pos (by omega)]
  · rw [fD 15 (by omega), vC.2.2 j, if_pos (by omega)]
  · rw [vD j, if_pos (by omega)]
theorem yg_fr {q : Nat → Nat} {v : Int32} {J : Nat → Nat → Int32} (hq : zq q) (i : Nat) (h1 : 1 ≤ i) (h2 : i ≤ 9) : x64 q v J (q i) = J (q i) := x64_frJ (hq i 0 (by omega) (by omega) (by omega)) (hq i 10 (by omega) (by omega) (by omega)) (hq i 11 (by omega) (by omega) (by omega)) (hq i 12 (by omega) (by omega) (by omega)) (hq i 13 (by omega) (by omega) (by omega)) (hq i 14 (by omega) (by omega) (by omega)) (hq i 15 (by omega) (by omega) (by omega)) (hq i 16 (by omega) (by omega) (by omega))
theorem yy_R {q : Nat → Nat} {JY : Nat → Nat → Int32} {e : Nat → Int32} {u : Nat × Nat × Nat × Nat × Nat} {D D' : lb_C} {x x' : Int32} (hq : zq q) (hub : lb_ub u) (hk1 : 1 ≤ u.1) (hY : (JY (q 1) 0 = nI u.1 ∧ JY (q 1) 1 = nI u.2.1 ∧ JY (q 1) 2 = nI u.2.2.1 ∧ JY (q 1) 3 = nI u.2.2.2.1 ∧ JY (q 1) 4 = nI (lb_hd u.2.2.2.2)) ∧ ∀ i, 5 ≤ i → i ≤ 12 → ∀ j, JY (q (i - 3)) j = D i j) (hk : yk u D D') (hR : yf_R e u D' x) (hw : xr_W e) : zz_R q (x64 q x' JY) e := by
  obtain ⟨⟨c0, c1, c2, c3, c4⟩, rows⟩ := hY
  obtain ⟨b1, b2, b3, b4, b5⟩ := hub
  obtain ⟨⟨k1, k2, k3⟩, l1, l2, l3⟩ := hk
  obtain ⟨⟨r0, r1, r2, r3⟩, ⟨r4, r5, r6, r7, r8, r9⟩, rs, rp, rv⟩ := hR
  obtain ⟨g0, gs, gp, gv⟩ := yg_0 (v := x') (J := JY) hq
  have fr := yg_fr (v := x') (J := JY) hq
  obtain ⟨K, S, P, V, h⟩ := u
  dsimp only at b1 b2 b3 b4 b5 k1 k2 k3 l1 l2 l3 r0 r1 r2 r3 r5 rs rp rv c0 c1 c2 c3 c4 hk1
  have z0 : zn e 0 = K := by unfold zn; rw [r0, nI_clamp (by omega)]
  have z1 : zn e 1 = S := by unfold zn; rw [r1, nI_clamp (by omega)]
  have z2 : zn e 2 = P := by unfold zn; rw [r2, nI_clamp (by omega)]
  have z3 : zn e 3 = V := by unfold zn; rw [r3, nI_clamp (by omega)]
  have t0 : (e 0).toInt = K := by rw [r0, nI_toInt (by omega)]
  have t1 : (e 1).toInt = S := by rw [r1, nI_toInt (by omega)]
  have m1 : (Int32.ofInt (-1)).toInt = -1 := by decide
  have hd30 : lb_hd h ≤ 30 := by
    unfold lb_hd
    split <;> omega
  have d5 : (e 5).toInt = (lb_hd h : Nat) := by rw [r5, nI_toInt (by omega)]
  have i0 : (0 : Int32).toInt = 0 := by decide
  refine ⟨⟨fun j hj => ?_, ?_⟩, ⟨hw, ⟨?_, ?_, ?_, ?_, ?_⟩, ⟨?_, ?_⟩, ⟨?_, ?_, ?_, ?_⟩, ⟨?_, ?_, ?_⟩⟩, ?_, ?_⟩
  · unfold zv at hj
    rw [z0, z1, z2, z3] at hj
    rcases hj with hj | ⟨h1, h2, h3, h4⟩ | ⟨h1, h2, h3⟩ | ⟨h1, h2, h3⟩
    · rcases (by omega : j = 0 ∨ j = 1 ∨ j = 2 ∨ j = 3 ∨ j = 4 ∨ j = 5 ∨ j = 6 ∨ j = 7 ∨ j = 8) with rfl | rfl | rfl | rfl | rfl | rfl | rfl | rfl | rfl
      · show x64 q x' JY (q 1) 0 = e 0
        rw [fr 1 (by omega) (by omega), c0, r0]
      · show x64 q x' JY (q 1) 1 = e 1
        rw [fr 1 (by omega) (by omega), c1, r1]
      · show x64 q x' JY (q 1) 2 = e 2
        rw [fr 1 (by omega) (by omega), c2, r2]
      · show x64 q x' JY (q 1) 3 = e 3
        rw [fr 1 (by omega) (by omega), c3, r3]
      · show x64 q x' JY (q 0) 2 = e 4
        rw [g0.2.1, r4]
        rfl
      · show x64 q x' JY (q 1) 4 = e 5
        rw [fr 1 (by omega) (by omega), c4, r5]
      · show x64 q x' JY (q 0) 3 = e 6
        rw [g0.2.2.1, r6]
        rfl
      · show x64 q x' JY (q 0) 5 = e 7
        rw [g0.2.2.2.2, r7]
        rfl
      · show x64 q x' JY (q 0) 4 = e 8
        rw [g0.2.2.2.1, r8]
        rfl
    · obtain ⟨s, k, hs, hk, rfl⟩ : ∃ s k, s < S ∧ k < 7 ∧ j = 10 + 7 * s + k := ⟨(j - 10) / 7, (j - 10) % 7, by omega, by omega, by omega⟩
      rw [show (10 + 7 * s + k - 10) % 7 = k from by omega] at h4
      by_cases k4 : k < 4
      · rw [zc_m s (by omega) k k4]
        show x64 q x' JY (q 2) (4 * s + k) = _
        rw [fr 2 (by omega) (by omega), rows 5 (by omega) (by omega), k1 s k hs (h4 k4), (rs s hs).1 k (h4 k4)]
      · rcases (by omega : k = 4 ∨ k = 5 ∨ k = 6) with rfl | rfl | rfl
        · rw [zc_s4 s (by omega), (rs s hs).2.1]
          exact (gs s (by omega)).1
        · rw [zc_s5 s (by omega), (rs s hs).2.2.1]
          exact (gs s (by omega)).2.2
        · rw [zc_s6 s (by omega), (rs s hs).2.2.2]
          exact (gs s (by omega)).2.1
    · obtain ⟨n, k, hn, hk, rfl⟩ : ∃ n k, n < P ∧ k < 5 ∧ j = 52 + 5 * n + k := ⟨(j - 52) / 5, (j - 52) % 5, by omega, by omega, by omega⟩
      have y := k2 n hn
      have w := rp n hn
      rcases (by omega : k = 0 ∨ k = 1 ∨ k = 2 ∨ k = 3 ∨ k = 4) with rfl | rfl | rfl | rfl | rfl
      · rw [zc_p0 n (by omega), w.1, ← y.1, ← rows 6 (by omega) (by omega)]
        exact congrFun (fr 3 (by omega) (by omega)) _
      · rw [zc_p1 n (by omega), w.2.1, ← y.2.1, ← rows 7 (by omega) (by omega)]
        exact (gp n (by omega)).1
      · rw [zc_p2 n (by omega), w.2.2.1, ← y.2.2, ← rows 8 (by omega) (by omega)]
        exact congrFun (fr 5 (by omega) (by omega)) _
      · rw [zc_p3 n (by omega), w.2.2.2.1]
        exact (gp n (by omega)).2.1
      · rw [zc_p4 n (by omega), w.2.2.2.2]
        exact (gp n (by omega)).2.2.trans (by decide)
    · obtain ⟨n, k, hn, hk, rfl⟩ : ∃ n k, n < V ∧ k < 5 ∧ j = 172 + 5 * n + k := ⟨(j - 172) / 5, (j - 172) % 5, by omega, by omega, by omega⟩
      have y := k3 n hn
      have w := rv n hn
      rcases (by omega : k = 0 ∨ k = 1 ∨ k = 2 ∨ k = 3 ∨ k = 4) with rfl | rfl | rfl | rfl | rfl
      · rw [zc_v0 n (by omega), w.1, ← y.1, ← rows 9 (by omega) (by omega)]
        exact congrFun (fr 6 (by omega) (by omega)) _
      · rw [zc_v1 n (by omega), w.2.1, ← y.2.1, ← rows 10 (by omega) (by omega)]
        exact congrFun (fr 7 (by omega) (by omega)) _
      · rw [zc_v2 n (by omega), w.2.2.1, ← y.2.2.1, ← rows 11 (by omega) (by omega)]
        exact congrFun (fr 8 (by omega) (by omega)) _
      · rw [zc_v3 n (by omega), w.2.2.2.1, ← y.2.2.2, ← rows 12 (by omega) (by omega)]
        exact congrFun (fr 9 (by omega) (by omega)) _
      · rw [zc_v4 n (by omega), w.2.2.2.2]
        exact gv n (by omega)
  · rw [g0.1, if_neg (by rw [r0]; exact nI_ne0 (by omega) (by omega))]
    rfl
  · omega
  · intro s hs k hk
    rw [z1] at hs
    rw [z0] at hk
    rw [(rs s hs).1 k hk, ← k1 s k hs hk]
    exact l1 s k hs hk
  · intro p hp
    rw [z2] at hp
    rw [(rp p hp).1, ← (k2 p hp).1, t0]
    exact (l2 p hp).1
  · intro p hp
    rw [z2] at hp
    rw [(rp p hp).2.2.1, ← (k2 p hp).2.2, t1]
    exact (l2 p hp).2.2
  · intro v hv
    rw [z3] at hv
    have w := rv v hv
    have y := k3 v hv
    have l := l3 v hv
    rw [w.1, w.2.1, w.2.2.1, ← y.1, ← y.2.1, ← y.2.2.1, t1]
    omega
  · intro p hp
    rw [z2] at hp
    rw [(rp p hp).2.2.2.1, t1, m1]
    omega
  · intro p hp
    rw [z2] at hp
    rw [(rp p hp).2.2.2.2, (rp p hp).2.2.2.1, if_neg (by rw [m1]; omega)]
  · intro s hs
    rw [z1] at hs
    exact Or.inl (rs s hs).2.1
  · intro s hs c
    rw [z1] at hs
    rw [(rs s hs).2.1] at c
    exact absurd c (by decide)
  · intro s hs _
    rw [z1] at hs
    exact (rs s hs).2.2.1
  · intro v hv c
    rw [z3] at hv
    rw [(rv v hv).2.2.2.2] at c
    exact absurd c (by decide)
  · rw [r6, d5, i0]
    omega
  · rw [r4, i0]
    omega
  · intro p hp
    rw [z2] at hp
    have l := (l2 p hp).2.1
    rw [(rp p hp).2.1, ← (k2 p hp).2.1]
    omega
  · rw [r4, i0]
    omega
  · intro c
    rw [r0] at c
    exact absurd c (nI_ne0 (by omega) (by omega))
end
