/-! the class reads a yard's clauses -/
def lb_ub (u : Nat × Nat × Nat × Nat × Nat) : Prop := u.1 ≤ 4 ∧ u.2.1 ≤ 6 ∧ u.2.2.1 ≤ 24 ∧ u.2.2.2.1 ≤ 8 ∧ u.2.2.2.2 ≤ 30
def yc_Q (Rw : Nat → Nat) (P : lb_U → lb_C → Prop) (f : Nat → Int32) (t Rd Tp By RR Y m0 s0 : Nat) (r : Int32 ⊕ lb_U) (J : Nat → Nat → Int32) : Prop := match r with
  | .inl c => c ≠ 0 ∧ ∃ u' D, yc_S Rw D f t Rd Tp By RR Y m0 s0 t c u' J
  | .inr u => u.1 ≤ t ∧ lb_ub u.2 ∧ ∃ D, P u D ∧ yc_S Rw D f t Rd Tp By RR Y m0 s0 u.1 0 u.2 J
theorem yc_Qm {Rw : Nat → Nat} {P P' : lb_U → lb_C → Prop} {f : Nat → Int32} {t Rd Tp By RR Y m0 s0 : Nat} {r : Int32 ⊕ lb_U} {J : Nat → Nat → Int32} (h : ∀ u D, P u D → P' u D) (hQ : yc_Q Rw P f t Rd Tp By RR Y m0 s0 r J) : yc_Q Rw P' f t Rd Tp By RR Y m0 s0 r J := by
  rcases r with c | u
  · exact hQ
  · obtain ⟨h1, h2, D, h3, h4⟩ := hQ
    exact ⟨h1, h2, D, h _ _ h3, h4⟩
theorem yc_nn {x : Int32} {b : Nat} (hb : b < 1000) (h0 : (Int32.ofInt 1).toInt ≤ x.toInt) (h1 : x.toInt ≤ (nI b).toInt) : x = nI x.toInt.toNat ∧ x.toInt.toNat ≤ b := by
  rw [nI_toInt (by omega)] at h1
  have e1 : (Int32.ofInt 1).toInt = 1 := by decide
  rw [e1] at h0
  exact ⟨Int32.toInt_inj.mp (by rw [nI_toInt (by omega)]; omega), by omega⟩
theorem yc_pa0 {X : nt_X} {d t Rd Tp By RR Sp Yr Y m0 s0 : Nat} {Rw : Nat → Nat} {f : Nat → Int32} {M : nt_M} {o : Option Value × nt_M} {C : lb_C} {p : Nat} {u : Nat × Nat × Nat × Nat × Nat} {J : Nat → Nat → Int32} (hP : yc_P M t Rd Tp By RR Sp Yr Y Rw) (hS : yc_S Rw C f t Rd Tp By RR Y m0 s0 p 0 u J) (hp : p ≤ t) (hb : lb_ub u) (hat : lb_yw f t p 0) (hfu : ¬ lb_fu (p, u) 0) (k : nt_ev X d 96 [.ref Yr, .int (nI 0)] (me_w M J) o) : ∃ r J', o = (none, me_w M J') ∧ lb_pa f t (p, u) (lb_s f t (p + (lb_W (nt_sp + 1 + 0)).length)) 0 r ∧ yc_Q Rw (fun v D => lb_paC f t u (lb_s f t (p + (lb_W (nt_sp + 1 + 0)).length)) v.1 0 C D) f t Rd Tp By RR Y m0 s0 r J' := by
  have k : nt_rn X d 96 (0, [(0, .ref Yr), (1, .int (nI 0))], [], me_w M J) o := k
  have t4 : t ≤ 400 := hP.2.2.2.2.2.1
  have k := ly_revb 2 (c' := (32, [(0, .ref Yr), (1, .int (nI 0))], [], me_w M J)) rfl k
  have k := ly_revb 1 (c' := (33, [(0, .ref Yr), (1, .int (nI 0))], [.ref Yr], me_w M J)) rfl k
  have k := lz_get (a := Yr) (g := 900) (M := me_w M J) (v := .ref Rd) rfl (nt_gfR rfl hP.2.2.1.1) k
  have k := ly_revb 1 (c' := (38, [(0, .ref Yr), (1, .int (nI 0))], [.ref (nt_sp + 1 + 0), .ref Rd], me_w M J)) rfl k
  obtain ⟨d1, o1, ed, kc, k⟩ := lz_c (g := 32) (q := 1) (vs := [.ref Rd, .ref (nt_sp + 1 + 0)]) (rest := []) rfl rfl (by decide) (Or.inr (Or.inl ⟨_, rfl, rfl⟩)) rfl k
  obtain ⟨_, e1⟩ := (lc_takesWord (yc_lP hP hS) (yc_lS hP hS) hp kc).resolve_right (fun c => c.1 hat)
  subst e1
  have hS1 := yc_Sp (q := lb_s f t (p + (lb_W (nt_sp + 1 + 0)).length)) hP hS
  have hq0 : lb_s f t (p + (lb_W (nt_sp + 1 + 0)).length) ≤ t := (lb_s_le (t - (p + (lb_W (nt_sp + 1 + 0)).length)) (p + (lb_W (nt_sp + 1 + 0)).length) (by have := hat.1; omega)).2
  have k : nt_rn X _ 96 (41, [(0, .ref Yr), (1, .int (nI 0))], [.int (Int32.ofInt 1)], me_w M (nt_u J Rd 1 (nI (lb_s f t (p + (lb_W (nt_sp + 1 + 0)).length))))) _ := k
  have k := ly_revb 2 (c' := (43, [(0, .ref Yr), (1, .int (nI 0))], [.ref Yr], me_w M (nt_u J Rd 1 (nI (lb_s f t (p + (lb_W (nt_sp + 1 + 0)).length)))))) rfl k
  have k := lz_get (a := Yr) (g := 901) (M := me_w M (nt_u J Rd 1 (nI (lb_s f t (p + (lb_W (nt_sp + 1 + 0)).length))))) (v := .ref Y) rfl (nt_gfR rfl hP.2.2.1.2) k
  have k := ly_revb 3 (c' := (49, [(0, .ref Yr), (1, .int (nI 0))], [.int (Int32.ofInt 4), .int (Int32.ofInt 1), .ref Yr, .ref Y], me_w M (nt_u J Rd 1 (nI (lb_s f t (p + (lb_W (nt_sp + 1 + 0)).length)))))) rfl k
  obtain ⟨d1, o1, ed, kc, k⟩ := lz_c (g := 97) (q := 1) (vs := [.ref Yr, .int (Int32.ofInt 1), .int (Int32.ofInt 4)]) (rest := [.ref Y]) rfl rfl (by decide) (Or.inr (Or.inl ⟨_, rfl, rfl⟩)) rfl k
  obtain ⟨r1, a1, J1, e1, hv1, hN1⟩ := yc_num hP hS1 hq0 (by decide) kc
  subst e1
  rcases r1 with c | ⟨q1, x1⟩
  · obtain ⟨hc, rfl, hT1⟩ := hN1
    have k : nt_rn X _ 96 (52, [(0, .ref Yr), (1, .int (nI 0))], [.int (Int32.ofInt 0), .ref Y], me_w M J1) _ := k
    have k := me_put rfl (by decide) k
    have k : nt_rn X _ 96 (55, [(0, .ref Yr), (1, .int (nI 0))], [], me_w M (nt_u J1 Y 0 (Int32.ofInt 0))) _ := k
    have hS2 : yc_S Rw C f t Rd Tp By RR Y m0 s0 t c (0, u.2.1, u.2.2.1, u.2.2.2.1, u.2.2.2.2) (nt_u J1 Y 0 (Int32.ofInt 0)) := yc_S0 (y := 0) hP hT1
    have k := ly_revb 1 (c' := (133, [(0, .ref Yr), (1, .int (nI 0))], [], me_w M (nt_u J1 Y 0 (Int32.ofInt 0)))) rfl k
    have k := lz_rv rfl rfl k
    exact ⟨.inl c, _, k, ⟨_, hv1, Or.inl ⟨c, rfl, rfl⟩⟩, hc, _, _, hS2⟩
  · obtain ⟨ea, hq1, hT1⟩ := hN1
    dsimp only at ea hq1 hT1
    subst ea
    have hu1 := lb_nu_up hq0 hv1
    have k : nt_rn X _ 96 (52, [(0, .ref Yr), (1, .int (nI 0))], [.int (a1), .ref Y], me_w M J1) _ := k
    have k := me_put rfl (by decide) k
    have k : nt_rn X _ 96 (55, [(0, .ref Yr), (1, .int (nI 0))], [], me_w M (nt_u J1 Y 0 (a1))) _ := k
    obtain ⟨ex, hx⟩ := yc_nn (b := 4) (by decide) hu1.2.1 hu1.2.2
    have hS2 := yc_S0 (y := a1.toInt.toNat) hP hT1
    rw [← ex] at hS2
    have k := ly_revb 1 (c' := (133, [(0, .ref Yr), (1, .int (nI 0))], [], me_w M (nt_u J1 Y 0 (a1)))) rfl k
    have k := lz_rv rfl rfl k
    obtain ⟨b1, b2, b3, b4, b5⟩ := hb
    exact ⟨.inr (q1, a1.toInt.toNat, u.2.1, u.2.2.1, u.2.2.2.1, u.2.2.2.2), _, k, ⟨_, hv1, Or.inr ⟨_, _, rfl, rfl⟩⟩, hq1, ⟨hx, b2, b3, b4, b5⟩, _, rfl, hS2⟩
theorem yc_pa1 {X : nt_X} {d t Rd Tp By RR Sp Yr Y m0 s0 : Nat} {Rw : Nat → Nat} {f : Nat → Int32} {M : nt_M} {o : Option Value × nt_M} {C : lb_C} {p : Nat} {u : Nat × Nat × Nat × Nat × Nat} {J : Nat → Nat → Int32} (hP : yc_P M t Rd Tp By RR Sp Yr Y Rw) (hS : yc_S Rw C f t Rd Tp By RR Y m0 s0 p 0 u J) (hp : p ≤ t) (hb : lb_ub u) (hat : lb_yw f t p 1) (hfu : ¬ lb_fu (p, u) 1) (k : nt_ev X d 96 [.ref Yr, .int (nI 1)] (me_w M J) o) : ∃ r J', o = (none, me_w M J') ∧ lb_pa f t (p, u) (lb_s f t (p + (lb_W (nt_sp + 1 + 1)).length)) 1 r ∧ yc_Q Rw (fun v D => lb_paC f t u (lb_s f t (p + (lb_W (nt_sp + 1 + 1)).length)) v.1 1 C D) f t Rd Tp By RR Y m0 s0 r J' := by
  have k : nt_rn X d 96 (0, [(0, .ref Yr), (1, .int (nI 1))], [], me_w M J) o := k
  have t4 : t ≤ 400 := hP.2.2.2.2.2.1
  have k := ly_revb 2 (c' := (58, [(0, .ref Yr), (1, .int (nI 1))], [], me_w M J)) rfl k
  have k := ly_revb 1 (c' := (59, [(0, .ref Yr), (1, .int (nI 1))], [.ref Yr], me_w M J)) rfl k
  have k := lz_get (a := Yr) (g := 900) (M := me_w M J) (v := .ref Rd) rfl (nt_gfR rfl hP.2.2.1.1) k
  have k := ly_revb 1 (c' := (64, [(0, .ref Yr), (1, .int (nI 1))], [.ref (nt_sp + 1 + 1), .ref Rd], me_w M J)) rfl k
  obtain ⟨d1, o1, ed, kc, k⟩ := lz_c (g := 32) (q := 1) (vs := [.ref Rd, .ref (nt_sp + 1 + 1)]) (rest := []) rfl rfl (by decide) (Or.inr (Or.inl ⟨_, rfl, rfl⟩)) rfl k
  obtain ⟨_, e1⟩ := (lc_takesWord (yc_lP hP hS) (yc_lS hP hS) hp kc).resolve_right (fun c => c.1 hat)
  subst e1
  have hS1 := yc_Sp (q := lb_s f t (p + (lb_W (nt_sp + 1 + 1)).length)) hP hS
  have hq0 : lb_s f t (p + (lb_W (nt_sp + 1 + 1)).length) ≤ t := (lb_s_le (t - (p + (lb_W (nt_sp + 1 + 1)).length)) (p + (lb_W (nt_sp + 1 + 1)).length) (by have := hat.1; omega)).2
  have k : nt_rn X _ 96 (67, [(0, .ref Yr), (1, .int (nI 1))], [.int (Int32.ofInt 1)], me_w M (nt_u J Rd 1 (nI (lb_s f t (p + (lb_W (nt_sp + 1 + 1)).length))))) _ := k
  have k := ly_revb 2 (c' := (69, [(0, .ref Yr), (1, .int (nI 1))], [.ref Yr], me_w M (nt_u J Rd 1 (nI (lb_s f t (p + (lb_W (nt_sp + 1 + 1)).length)))))) rfl k
  obtain ⟨d1, o1, ed, kc, k⟩ := lz_c (g := 98) (q := 1) (vs := [.ref Yr]) (rest := []) rfl rfl (by decide) (Or.inr (Or.inl ⟨_, rfl, rfl⟩)) rfl k
  obtain ⟨r1, J9, e1, hsp, hr⟩ := yc_ship hP hS1 hb.1 hb.2.1 hq0 kc
  subst e1
  have k : nt_rn X _ 96 (72, [(0, .ref Yr), (1, .int (nI 1))], [], me_w M J9) _ := k
  have k := ly_revb 1 (c' := (133, [(0, .ref Yr), (1, .int (nI 1))], [], me_w M J9)) rfl k
  have k := lz_rv rfl rfl k
  rcases hr with ⟨c, rfl, hc, u1, D, h9⟩ | ⟨q, D, rfl, hq, hC, h9⟩
  · exact ⟨.inl c, _, k, ⟨_, hsp, Or.inl ⟨c, rfl, rfl⟩⟩, hc, u1, D, h9⟩
  · refine ⟨.inr (q, u.1, u.2.1 + 1, u.2.2.1, u.2.2.2.1, u.2.2.2.2), _, k, ⟨_, hsp, Or.inr ⟨q, rfl, rfl⟩⟩, hq, ?_, D, hC, h9⟩
    obtain ⟨b1, b2, b3, b4, b5⟩ := hb
    have hf : ¬ 6 ≤ u.2.1 := hfu
    exact ⟨b1, by dsimp only; omega, b3, b4, b5⟩
theorem yc_pa2 {X : nt_X} {d t Rd Tp By RR Sp Yr Y m0 s0 : Nat} {Rw : Nat → Nat} {f : Nat → Int32} {M : nt_M} {o : Option Value × nt_M} {C : lb_C} {p : Nat} {u : Nat × Nat × Nat × Nat × Nat} {J : Nat → Nat → Int32} (hP : yc_P M t Rd Tp By RR Sp Yr Y Rw) (hS : yc_S Rw C f t Rd Tp By RR Y m0 s0 p 0 u J) (hp : p ≤ t) (hb : lb_ub u) (hat : lb_yw f t p 2) (hfu : ¬ lb_fu (p, u) 2) (k : nt_ev X d 96 [.ref Yr, .int (nI 2)] (me_w M J) o) : ∃ r J', o = (none, me_w M J') ∧ lb_pa f t (p, u) (lb_s f t (p + (lb_W (nt_sp + 1 + 2)).length)) 2 r ∧ yc_Q Rw (fun v D => lb_paC f t u (lb_s f t (p + (lb_W (nt_sp + 1 + 2)).length)) v.1 2 C D) f t Rd Tp By RR Y m0 s0 r J' := by
  have k : nt_rn X d 96 (0, [(0, .ref Yr), (1, .int (nI 2))], [], me_w M J) o := k
  have t4 : t ≤ 400 := hP.2.2.2.2.2.1
  have k := ly_revb 2 (c' := (75, [(0, .ref Yr), (1, .int (nI 2))], [], me_w M J)) rfl k
  have k := ly_revb 1 (c' := (76, [(0, .ref Yr), (1, .int (nI 2))], [.ref Yr], me_w M J)) rfl k
  have k := lz_get (a := Yr) (g := 900) (M := me_w M J) (v := .ref Rd) rfl (nt_gfR rfl hP.2.2.1.1) k
  have k := ly_revb 1 (c' := (81, [(0, .ref Yr), (1, .int (nI 2))], [.ref (nt_sp + 1 + 2), .ref Rd], me_w M J)) rfl k
  obtain ⟨d1, o1, ed, kc, k⟩ := lz_c (g := 32) (q := 1) (vs := [.ref Rd, .ref (nt_sp + 1 + 2)]) (rest := []) rfl rfl (by decide) (Or.inr (Or.inl ⟨_, rfl, rfl⟩)) rfl k
  obtain ⟨_, e1⟩ := (lc_takesWord (yc_lP hP hS) (yc_lS hP hS) hp kc).resolve_right (fun c => c.1 hat)
  subst e1
  have hS1 := yc_Sp (q := lb_s f t (p + (lb_W (nt_sp + 1 + 2)).length)) hP hS
  have hq0 : lb_s f t (p + (lb_W (nt_sp + 1 + 2)).length) ≤ t := (lb_s_le (t - (p + (lb_W (nt_sp + 1 + 2)).length)) (p + (lb_W (nt_sp + 1 + 2)).length) (by have := hat.1; omega)).2
  have k : nt_rn X _ 96 (84, [(0, .ref Yr), (1, .int (nI 2))], [.int (Int32.ofInt 1)], me_w M (nt_u J Rd 1 (nI (lb_s f t (p + (lb_W (nt_sp + 1 + 2)).length))))) _ := k
  have k := ly_revb 2 (c' := (86, [(0, .ref Yr), (1, .int (nI 2))], [.ref Yr], me_w M (nt_u J Rd 1 (nI (lb_s f t (p + (lb_W (nt_sp + 1 + 2)).length)))))) rfl k
  obtain ⟨d1, o1, ed, kc, k⟩ := lz_c (g := 99) (q := 1) (vs := [.ref Yr]) (rest := []) rfl rfl (by decide) (Or.inr (Or.inl ⟨_, rfl, rfl⟩)) rfl k
  obtain ⟨r1, J9, e1, hsp, hr⟩ := yc_plank hP hS1 (by have := hb.2.2.1; omega) hq0 kc
  subst e1
  have k : nt_rn X _ 96 (89, [(0, .ref Yr), (1, .int (nI 2))], [], me_w M J9) _ := k
  have k := ly_revb 1 (c' := (133, [(0, .ref Yr), (1, .int (nI 2))], [], me_w M J9)) rfl k
  have k := lz_rv rfl rfl k
  rcases hr with ⟨c, rfl, hc, u1, D, h9⟩ | ⟨q, D, rfl, hq, hC, h9⟩
  · exact ⟨.inl c, _, k, ⟨_, hsp, Or.inl ⟨c, rfl, rfl⟩⟩, hc, u1, D, h9⟩
  · refine ⟨.inr (q, u.1, u.2.1, u.2.2.1 + 1, u.2.2.2.1, u.2.2.2.2), _, k, ⟨_, hsp, Or.inr ⟨q, rfl, rfl⟩⟩, hq, ?_, D, hC, h9⟩
    obtain ⟨b1, b2, b3, b4, b5⟩ := hb
    have hf : ¬ 24 ≤ u.2.2.1 := hfu
    exact ⟨b1, b2, by dsimp only; omega, b4, b5⟩
theorem yc_pa3 {X : nt_X} {d t Rd Tp By RR Sp Yr Y m0 s0 : Nat} {Rw : Nat → Nat} {f : Nat → Int32} {M : nt_M} {o : Option Value × nt_M} {C : lb_C} {p : Nat} {u : Nat × Nat × Nat × Nat × Nat} {J : Nat → Nat → Int32} (hP : yc_P M t Rd Tp By RR Sp Yr Y Rw) (hS : yc_S Rw C f t Rd Tp By RR Y m0 s0 p 0 u J) (hp : p ≤ t) (hb : lb_ub u) (hat : lb_yw f t p 3) (hfu : ¬ lb_fu (p, u) 3) (k : nt_ev X d 96 [.ref Yr, .int (nI 3)] (me_w M J) o) : ∃ r J', o = (none, me_w M J') ∧ lb_pa f t (p, u) (lb_s f t (p + (lb_W (nt_sp + 1 + 3)).length)) 3 r ∧ yc_Q Rw (fun v D => lb_paC f t u (lb_s f t (p + (lb_W (nt_sp + 1 + 3)).length)) v.1 3 C D) f t Rd Tp By RR Y m0 s0 r J' := by
  have k : nt_rn X d 96 (0, [(0, .ref Yr), (1, .int (nI 3))], [], me_w M J) o := k
  have t4 : t ≤ 400 := hP.2.2.2.2.2.1
  have k := ly_revb 2 (c' := (92, [(0, .ref Yr), (1, .int (nI 3))], [], me_w M J)) rfl k
  have k := ly_revb 1 (c' := (93, [(0, .ref Yr), (1, .int (nI 3))], [.ref Yr], me_w M J)) rfl k
  have k := lz_get (a := Yr) (g := 900) (M := me_w M J) (v := .ref Rd) rfl (nt_gfR rfl hP.2.2.1.1) k
  have k := ly_revb 1 (c' := (98, [(0, .ref Yr), (1, .int (nI 3))], [.ref (nt_sp + 1 + 3), .ref Rd], me_w M J)) rfl k
  obtain ⟨d1, o1, ed, kc, k⟩ := lz_c (g := 32) (q := 1) (vs := [.ref Rd, .ref (nt_sp + 1 + 3)]) (rest := []) rfl rfl (by decide) (Or.inr (Or.inl ⟨_, rfl, rfl⟩)) rfl k
  obtain ⟨_, e1⟩ := (lc_takesWord (yc_lP hP hS) (yc_lS hP hS) hp kc).resolve_right (fun c => c.1 hat)
  subst e1
  have hS1 := yc_Sp (q := lb_s f t (p + (lb_W (nt_sp + 1 + 3)).length)) hP hS
  have hq0 : lb_s f t (p + (lb_W (nt_sp + 1 + 3)).length) ≤ t := (lb_s_le (t - (p + (lb_W (nt_sp + 1 + 3)).length)) (p + (lb_W (nt_sp + 1 + 3)).length) (by have := hat.1; omega)).2
  have k : nt_rn X _ 96 (101, [(0, .ref Yr), (1, .int (nI 3))], [.int (Int32.ofInt 1)], me_w M (nt_u J Rd 1 (nI (lb_s f t (p + (lb_W (nt_sp + 1 + 3)).length))))) _ := k
  have k := ly_revb 2 (c' := (103, [(0, .ref Yr), (1, .int (nI 3))], [.ref Yr], me_w M (nt_u J Rd 1 (nI (lb_s f t (p + (lb_W (nt_sp + 1 + 3)).length)))))) rfl k
  obtain ⟨d1, o1, ed, kc, k⟩ := lz_c (g := 100) (q := 1) (vs := [.ref Yr]) (rest := []) rfl rfl (by decide) (Or.inr (Or.inl ⟨_, rfl, rfl⟩)) rfl k
  obtain ⟨r1, J9, e1, hsp, hr⟩ := yc_voyage hP hS1 (by have := hb.2.2.2.1; omega) hq0 kc
  subst e1
  have k : nt_rn X _ 96 (106, [(0, .ref Yr), (1, .int (nI 3))], [], me_w M J9) _ := k
  have k := ly_revb 1 (c' := (133, [(0, .ref Yr), (1, .int (nI 3))], [], me_w M J9)) rfl k
  have k := lz_rv rfl rfl k
  rcases hr with ⟨c, rfl, hc, u1, D, h9⟩ | ⟨q, D, rfl, hq, hC, h9⟩
  · exact ⟨.inl c, _, k, ⟨_, hsp, Or.inl ⟨c, rfl, rfl⟩⟩, hc, u1, D, h9⟩
  · refine ⟨.inr (q, u.1, u.2.1, u.2.2.1, u.2.2.2.1 + 1, u.2.2.2.2), _, k, ⟨_, hsp, Or.inr ⟨q, rfl, rfl⟩⟩, hq, ?_, D, hC, h9⟩
    obtain ⟨b1, b2, b3, b4, b5⟩ := hb
    have hf : ¬ 8 ≤ u.2.2.2.1 := hfu
    exact ⟨b1, b2, b3, by dsimp only; omega, b5⟩
theorem yc_pa4 {X : nt_X} {d t Rd Tp By RR Sp Yr Y m0 s0 : Nat} {Rw : Nat → Nat} {f : Nat → Int32} {M : nt_M} {o : Option Value × nt_M} {C : lb_C} {p : Nat} {u : Nat × Nat × Nat × Nat × Nat} {J : Nat → Nat → Int32} (hP : yc_P M t Rd Tp By RR Sp Yr Y Rw) (hS : yc_S Rw C f t Rd Tp By RR Y m0 s0 p 0 u J) (hp : p ≤ t) (hb : lb_ub u) (hat : lb_yw f t p 4) (hfu : ¬ lb_fu (p, u) 4) (k : nt_ev X d 96 [.ref Yr, .int (nI 4)] (me_w M J) o) : ∃ r J', o = (none, me_w M J') ∧ lb_pa f t (p, u) (lb_s f t (p + (lb_W (nt_sp + 1 + 4)).length)) 4 r ∧ yc_Q Rw (fun v D => lb_paC f t u (lb_s f t (p + (lb_W (nt_sp + 1 + 4)).length)) v.1 4 C D) f t Rd Tp By RR Y m0 s0 r J' := by
  have k : nt_rn X d 96 (0, [(0, .ref Yr), (1, .int (nI 4))], [], me_w M J) o := k
  have t4 : t ≤ 400 := hP.2.2.2.2.2.1
  have k := ly_revb 2 (c' := (109, [(0, .ref Yr), (1, .int (nI 4))], [], me_w M J)) rfl k
  have k := ly_revb 1 (c' := (110, [(0, .ref Yr), (1, .int (nI 4))], [.ref Yr], me_w M J)) rfl k
  have k := lz_get (a := Yr) (g := 900) (M := me_w M J) (v := .ref Rd) rfl (nt_gfR rfl hP.2.2.1.1) k
  have k := ly_revb 1 (c' := (115, [(0, .ref Yr), (1, .int (nI 4))], [.ref (nt_sp + 1 + 4), .ref Rd], me_w M J)) rfl k
  obtain ⟨d1, o1, ed, kc, k⟩ := lz_c (g := 32) (q := 1) (vs := [.ref Rd, .ref (nt_sp + 1 + 4)]) (rest := []) rfl rfl (by decide) (Or.inr (Or.inl ⟨_, rfl, rfl⟩)) rfl k
  obtain ⟨_, e1⟩ := (lc_takesWord (yc_lP hP hS) (yc_lS hP hS) hp kc).resolve_right (fun c => c.1 hat)
  subst e1
  have hS1 := yc_Sp (q := lb_s f t (p + (lb_W (nt_sp + 1 + 4)).length)) hP hS
  have hq0 : lb_s f t (p + (lb_W (nt_sp + 1 + 4)).length) ≤ t := (lb_s_le (t - (p + (lb_W (nt_sp + 1 + 4)).length)) (p + (lb_W (nt_sp + 1 + 4)).length) (by have := hat.1; omega)).2
  have k : nt_rn X _ 96 (118, [(0, .ref Yr), (1, .int (nI 4))], [.int (Int32.ofInt 1)], me_w M (nt_u J Rd 1 (nI (lb_s f t (p + (lb_W (nt_sp + 1 + 4)).length))))) _ := k
  have k := ly_revb 2 (c' := (120, [(0, .ref Yr), (1, .int (nI 4))], [.ref Yr], me_w M (nt_u J Rd 1 (nI (lb_s f t (p + (lb_W (nt_sp + 1 + 4)).length)))))) rfl k
  have k := lz_get (a := Yr) (g := 901) (M := me_w M (nt_u J Rd 1 (nI (lb_s f t (p + (lb_W (nt_sp + 1 + 4)).length))))) (v := .ref Y) rfl (nt_gfR rfl hP.2.2.1.2) k
  have k := ly_revb 3 (c' := (127, [(0, .ref Yr), (1, .int (nI 4))], [.int (Int32.ofInt 30), .int (Int32.ofInt 1), .ref Yr, .ref Y], me_w M (nt_u J Rd 1 (nI (lb_s f t (p + (lb_W (nt_sp + 1 + 4)).length)))))) rfl k
  obtain ⟨d1, o1, ed, kc, k⟩ := lz_c (g := 97) (q := 1) (vs := [.ref Yr, .int (Int32.ofInt 1), .int (Int32.ofInt 30)]) (rest := [.ref Y]) rfl rfl (by decide) (Or.inr (Or.inl ⟨_, rfl, rfl⟩)) rfl k
  obtain ⟨r1, a1, J1, e1, hv1, hN1⟩ := yc_num hP hS1 hq0 (by decide) kc
  subst e1
  rcases r1 with c | ⟨q1, x1⟩
  · obtain ⟨hc, rfl, hT1⟩ := hN1
    have k : nt_rn X _ 96 (130, [(0, .ref Yr), (1, .int (nI 4))], [.int (Int32.ofInt 0), .ref Y], me_w M J1) _ := k
    have k := me_put rfl (by decide) k
    have k : nt_rn X _ 96 (133, [(0, .ref Yr), (1, .int (nI 4))], [], me_w M (nt_u J1 Y 4 (Int32.ofInt 0))) _ := k
    have hS2 : yc_S Rw C f t Rd Tp By RR Y m0 s0 t c (u.1, u.2.1, u.2.2.1, u.2.2.2.1, 0) (nt_u J1 Y 4 (Int32.ofInt 0)) := yc_S4 (y := 0) hP hT1
    have k := lz_rv rfl rfl k
    exact ⟨.inl c, _, k, ⟨_, hv1, Or.inl ⟨c, rfl, rfl⟩⟩, hc, _, _, hS2⟩
  · obtain ⟨ea, hq1, hT1⟩ := hN1
    dsimp only at ea hq1 hT1
    subst ea
    have hu1 := lb_nu_up hq0 hv1
    have k : nt_rn X _ 96 (130, [(0, .ref Yr), (1, .int (nI 4))], [.int (a1), .ref Y], me_w M J1) _ := k
    have k := me_put rfl (by decide) k
    have k : nt_rn X _ 96 (133, [(0, .ref Yr), (1, .int (nI 4))], [], me_w M (nt_u J1 Y 4 (a1))) _ := k
    obtain ⟨ex, hx⟩ := yc_nn (b := 30) (by decide) hu1.2.1 hu1.2.2
    have hS2 := yc_S4 (y := a1.toInt.toNat) hP hT1
    rw [← ex] at hS2
    have k := lz_rv rfl rfl k
    obtain ⟨b1, b2, b3, b4, b5⟩ := hb
    exact ⟨.inr (q1, u.1, u.2.1, u.2.2.1, u.2.2.2.1, a1.toInt.toNat), _, k, ⟨_, hv1, Or.inr ⟨_, _, rfl, rfl⟩⟩, hq1, ⟨b1, b2, b3, b4, hx⟩, _, rfl, hS2⟩
theorem yc_fu0 {X : nt_X} {d t Rd Tp By RR Sp Yr Y m0 s0 : Nat} {Rw : Nat → Nat} {f : Nat → Int32} {M : nt_M} {o : Option Value × nt_M} {C : lb_C} {p : Nat} {u : Nat × Nat × Nat × Nat × Nat} {J : Nat → Nat → Int32} (hP : yc_P M t Rd Tp By RR Sp Yr Y Rw) (hS : yc_S Rw C f t Rd Tp By RR Y m0 s0 p 0 u J) (hb : lb_ub u) (k : nt_ev X d 95 [.ref Yr, .int (nI 0)] (me_w M J) o) : ∃ a, o = (some (.int a), me_w M J) ∧ (a = Int32.ofInt 1 ∧ lb_fu (p, u) 0 ∨ a = Int32.ofInt 0 ∧ ¬ lb_fu (p, u) 0) := by
  have k : nt_rn X d 95 (0, [(0, .ref Yr), (1, .int (nI 0))], [], me_w M J) o := k
  have t4 : t ≤ 400 := hP.2.2.2.2.2.1
  obtain ⟨b1, b2, b3, b4, b5⟩ := hb
  have k := ly_revb 2 (c' := (102, [(0, .ref Yr), (1, .int (nI 0))], [], me_w M J)) rfl k
  have k := ly_revb 1 (c' := (103, [(0, .ref Yr), (1, .int (nI 0))], [.int (Int32.ofInt 0)], me_w M J)) rfl k
  have k := lz_ri rfl (by decide) k
  exact ⟨_, k, Or.inr ⟨rfl, fun c => c⟩⟩
theorem yc_fu1 {X : nt_X} {d t Rd Tp By RR Sp Yr Y m0 s0 : Nat} {Rw : Nat → Nat} {f : Nat → Int32} {M : nt_M} {o : Option Value × nt_M} {C : lb_C} {p : Nat} {u : Nat × Nat × Nat × Nat × Nat} {J : Nat → Nat → Int32} (hP : yc_P M t Rd Tp By RR Sp Yr Y Rw) (hS : yc_S Rw C f t Rd Tp By RR Y m0 s0 p 0 u J) (hb : lb_ub u) (k : nt_ev X d 95 [.ref Yr, .int (nI 1)] (me_w M J) o) : ∃ a, o = (some (.int a), me_w M J) ∧ (a = Int32.ofInt 1 ∧ lb_fu (p, u) 1 ∨ a = Int32.ofInt 0 ∧ ¬ lb_fu (p, u) 1) := by
  have k : nt_rn X d 95 (0, [(0, .ref Yr), (1, .int (nI 1))], [], me_w M J) o := k
  have t4 : t ≤ 400 := hP.2.2.2.2.2.1
  obtain ⟨b1, b2, b3, b4, b5⟩ := hb
  have k := ly_revb 2 (c' := (32, [(0, .ref Yr), (1, .int (nI 1))], [], me_w M J)) rfl k
  have k := ly_revb 1 (c' := (33, [(0, .ref Yr), (1, .int (nI 1))], [.ref Yr], me_w M J)) rfl k
  have k := lz_get (a := Yr) (g := 901) (M := me_w M J) (v := .ref Y) rfl (nt_gfR rfl hP.2.2.1.2) k
  have k := lz_get (a := Y) (g := 801) (M := me_w M J) (v := .int (nI u.2.1)) rfl (congrArg Value.int (hS.2.2.1.2.1)) k
  have k := ly_revb 2 (c' := (if (nI u.2.1) < (Int32.ofInt 6) then 48 else 44, [(0, .ref Yr), (1, .int (nI 1))], [], me_w M J)) rfl k
  by_cases h41 : u.2.1 < 6
  · rw [if_pos (show (nI u.2.1) < (Int32.ofInt 6) from show nI u.2.1 < nI 6 from nI_lt h41 (by omega))] at k
    have k := ly_revb 1 (c' := (49, [(0, .ref Yr), (1, .int (nI 1))], [.int (Int32.ofInt 0)], me_w M J)) rfl k
    have k := lz_ri rfl (by decide) k
    exact ⟨_, k, Or.inr ⟨rfl, show ¬ 6 ≤ u.2.1 by omega⟩⟩
  · rw [if_neg (show ¬ ((nI u.2.1) < (Int32.ofInt 6)) from show ¬ nI u.2.1 < nI 6 from nI_nlt (Nat.not_lt.mp h41) (by omega))] at k
    have k := ly_revb 2 (c' := (49, [(0, .ref Yr), (1, .int (nI 1))], [.int (Int32.ofInt 1)], me_w M J)) rfl k
    have k := lz_ri rfl (by decide) k
    exact ⟨_, k, Or.inl ⟨rfl, show 6 ≤ u.2.1 by omega⟩⟩
theorem yc_fu2 {X : nt_X} {d t Rd Tp By RR Sp Yr Y m0 s0 : Nat} {Rw : Nat → Nat} {f : Nat → Int32} {M : nt_M} {o : Option Value × nt_M} {C : lb_C} {p : Nat} {u : Nat × Nat × Nat × Nat × Nat} {J : Nat → Nat → Int32} (hP : yc_P M t Rd Tp By RR Sp Yr Y Rw) (hS : yc_S Rw C f t Rd Tp By RR Y m0 s0 p 0 u J) (hb : lb_ub u) (k : nt_ev X d 95 [.ref Yr, .int (nI 2)] (me_w M J) o) : ∃ a, o = (some (.int a), me_w M J) ∧ (a = Int32.ofInt 1 ∧ lb_fu (p, u) 2 ∨ a = Int32.ofInt 0 ∧ ¬ lb_fu (p, u) 2) := by
  have k : nt_rn X d 95 (0, [(0, .ref Yr), (1, .int (nI 2))], [], me_w M J) o := k
  have t4 : t ≤ 400 := hP.2.2.2.2.2.1
  obtain ⟨b1, b2, b3, b4, b5⟩ := hb
  have k := ly_revb 2 (c' := (50, [(0, .ref Yr), (1, .int (nI 2))], [], me_w M J)) rfl k
  have k := ly_revb 1 (c' := (51, [(0, .ref Yr), (1, .int (nI 2))], [.ref Yr], me_w M J)) rfl k
  have k := lz_get (a := Yr) (g := 901) (M := me_w M J) (v := .ref Y) rfl (nt_gfR rfl hP.2.2.1.2) k
  have k := lz_get (a := Y) (g := 802) (M := me_w M J) (v := .int (nI u.2.2.1)) rfl (congrArg Value.int (hS.2.2.1.2.2.1)) k
  have k := ly_revb 2 (c' := (if (nI u.2.2.1) < (Int32.ofInt 24) then 66 else 62, [(0, .ref Yr), (1, .int (nI 2))], [], me_w M J)) rfl k
  by_cases h59 : u.2.2.1 < 24
  · rw [if_pos (show (nI u.2.2.1) < (Int32.ofInt 24) from show nI u.2.2.1 < nI 24 from nI_lt h59 (by omega))] at k
    have k := ly_revb 1 (c' := (67, [(0, .ref Yr), (1, .int (nI 2))], [.int (Int32.ofInt 0)], me_w M J)) rfl k
    have k := lz_ri rfl (by decide) k
    exact ⟨_, k, Or.inr ⟨rfl, show ¬ 24 ≤ u.2.2.1 by omega⟩⟩
  · rw [if_neg (show ¬ ((nI u.2.2.1) < (Int32.ofInt 24)) from show ¬ nI u.2.2.1 < nI 24 from nI_nlt (Nat.not_lt.mp h59) (by omega))] at k
    have k := ly_revb 2 (c' := (67, [(0, .ref Yr), (1, .int (nI 2))], [.int (Int32.ofInt 1)], me_w M J)) rfl k
    have k := lz_ri rfl (by decide) k
    exact ⟨_, k, Or.inl ⟨rfl, show 24 ≤ u.2.2.1 by omega⟩⟩
theorem yc_fu3 {X : nt_X} {d t Rd Tp By RR Sp Yr Y m0 s0 : Nat} {Rw : Nat → Nat} {f : Nat → Int32} {M : nt_M} {o : Option Value × nt_M} {C : lb_C} {p : Nat} {u : Nat × Nat × Nat × Nat × Nat} {J : Nat → Nat → Int32} (hP : yc_P M t Rd Tp By RR Sp Yr Y Rw) (hS : yc_S Rw C f t Rd Tp By RR Y m0 s0 p 0 u J) (hb : lb_ub u) (k : nt_ev X d 95 [.ref Yr, .int (nI 3)] (me_w M J) o) : ∃ a, o = (some (.int a), me_w M J) ∧ (a = Int32.ofInt 1 ∧ lb_fu (p, u) 3 ∨ a = Int32.ofInt 0 ∧ ¬ lb_fu (p, u) 3) := by
  have k : nt_rn X d 95 (0, [(0, .ref Yr), (1, .int (nI 3))], [], me_w M J) o := k
  have t4 : t ≤ 400 := hP.2.2.2.2.2.1
  obtain ⟨b1, b2, b3, b4, b5⟩ := hb
  have k := ly_revb 2 (c' := (68, [(0, .ref Yr), (1, .int (nI 3))], [], me_w M J)) rfl k
  have k := ly_revb 1 (c' := (69, [(0, .ref Yr), (1, .int (nI 3))], [.ref Yr], me_w M J)) rfl k
  have k := lz_get (a := Yr) (g := 901) (M := me_w M J) (v := .ref Y) rfl (nt_gfR rfl hP.2.2.1.2) k
  have k := lz_get (a := Y) (g := 803) (M := me_w M J) (v := .int (nI u.2.2.2.1)) rfl (congrArg Value.int (hS.2.2.1.2.2.2.1)) k
  have k := ly_revb 2 (c' := (if (nI u.2.2.2.1) < (Int32.ofInt 8) then 84 else 80, [(0, .ref Yr), (1, .int (nI 3))], [], me_w M J)) rfl k
  by_cases h77 : u.2.2.2.1 < 8
  · rw [if_pos (show (nI u.2.2.2.1) < (Int32.ofInt 8) from show nI u.2.2.2.1 < nI 8 from nI_lt h77 (by omega))] at k
    have k := ly_revb 1 (c' := (85, [(0, .ref Yr), (1, .int (nI 3))], [.int (Int32.ofInt 0)], me_w M J)) rfl k
    have k := lz_ri rfl (by decide) k
    exact ⟨_, k, Or.inr ⟨rfl, show ¬ 8 ≤ u.2.2.2.1 by omega⟩⟩
  · rw [if_neg (show ¬ ((nI u.2.2.2.1) < (Int32.ofInt 8)) from show ¬ nI u.2.2.2.1 < nI 8 from nI_nlt (Nat.not_lt.mp h77) (by omega))] at k
    have k := ly_revb 2 (c' := (85, [(0, .ref Yr), (1, .int (nI 3))], [.int (Int32.ofInt 1)], me_w M J)) rfl k
    have k := lz_ri rfl (by decide) k
    exact ⟨_, k, Or.inl ⟨rfl, show 8 ≤ u.2.2.2.1 by omega⟩⟩
theorem yc_fu4 {X : nt_X} {d t Rd Tp By RR Sp Yr Y m0 s0 : Nat} {Rw : Nat → Nat} {f : Nat → Int32} {M : nt_M} {o : Option Value × nt_M} {C : lb_C} {p : Nat} {u : Nat × Nat × Nat × Nat × Nat} {J : Nat → Nat → Int32} (hP : yc_P M t Rd Tp By RR Sp Yr Y Rw) (hS : yc_S Rw C f t Rd Tp By RR Y m0 s0 p 0 u J) (hb : lb_ub u) (k : nt_ev X d 95 [.ref Yr, .int (nI 4)] (me_w M J) o) : ∃ a, o = (some (.int a), me_w M J) ∧ (a = Int32.ofInt 1 ∧ lb_fu (p, u) 4 ∨ a = Int32.ofInt 0 ∧ ¬ lb_fu (p, u) 4) := by
  have k : nt_rn X d 95 (0, [(0, .ref Yr), (1, .int (nI 4))], [], me_w M J) o := k
  have t4 : t ≤ 400 := hP.2.2.2.2.2.1
  obtain ⟨b1, b2, b3, b4, b5⟩ := hb
  have k := ly_revb 2 (c' := (86, [(0, .ref Yr), (1, .int (nI 4))], [], me_w M J)) rfl k
  have k := ly_revb 1 (c' := (87, [(0, .ref Yr), (1, .int (nI 4))], [.ref Yr], me_w M J)) rfl k
  have k := lz_get (a := Yr) (g := 901) (M := me_w M J) (v := .ref Y) rfl (nt_gfR rfl hP.2.2.1.2) k
  have k := lz_get (a := Y) (g := 804) (M := me_w M J) (v := .int (nI u.2.2.2.2)) rfl (congrArg Value.int (hS.2.2.1.2.2.2.2)) k
  have k := ly_revb 1 (c' := (if (nI u.2.2.2.2) = 0 then 100 else 96, [(0, .ref Yr), (1, .int (nI 4))], [], me_w M J)) rfl k
  by_cases h93 : u.2.2.2.2 = 0
  · rw [if_pos (show (nI u.2.2.2.2) = 0 from show nI u.2.2.2.2 = nI 0 from congrArg nI h93)] at k
    have k := ly_revb 1 (c' := (101, [(0, .ref Yr), (1, .int (nI 4))], [.int (Int32.ofInt 0)], me_w M J)) rfl k
    have k := lz_ri rfl (by decide) k
    exact ⟨_, k, Or.inr ⟨rfl, fun c => c h93⟩⟩
  · rw [if_neg (show ¬ ((nI u.2.2.2.2) = 0) from nI_ne0 (Nat.pos_of_ne_zero h93) (by omega))] at k
    have k := ly_revb 2 (c' := (101, [(0, .ref Yr), (1, .int (nI 4))], [.int (Int32.ofInt 1)], me_w M J)) rfl k
    have k := lz_ri rfl (by decide) k
    exact ⟨_, k, Or.inl ⟨rfl, show ¬ u.2.2.2.2 = 0 from h93⟩⟩
theorem yc_at {X : nt_X} {d t Rd Tp By RR Sp Yr Y m0 s0 : Nat} {Rw : Nat → Nat} {f : Nat → Int32} {M : nt_M} {o : Option Value × nt_M} {C : lb_C} {p : Nat} {u : Nat × Nat × Nat × Nat × Nat} {J : Nat → Nat → Int32} (hP : yc_P M t Rd Tp By RR Sp Yr Y Rw) (hS : yc_S Rw C f t Rd Tp By RR Y m0 s0 p 0 u J) (hp : p ≤ t) (k : nt_ev X d 94 [.ref Yr] (me_w M J) o) : ∃ a, o = (some (.int a), me_w M J) ∧ ((∃ w, w < 5 ∧ a = nI w ∧ lb_yw f t p w ∧ ∀ v, v < w → ¬ lb_yw f t p v) ∨ a = Int32.ofInt (-1) ∧ ∀ v, v < 5 → ¬ lb_yw f t p v) := by
  have k : nt_rn X d 94 (0, [(0, .ref Yr)], [], me_w M J) o := k
  have t4 : t ≤ 400 := hP.2.2.2.2.2.1
  have k := ly_revb 1 (c' := (1, [(0, .ref Yr)], [.ref Yr], me_w M J)) rfl k
  have k := lz_get (a := Yr) (g := 900) (M := me_w M J) (v := .ref Rd) rfl (nt_gfR rfl hP.2.2.1.1) k
  have k := ly_revb 1 (c' := (6, [(0, .ref Yr)], [.ref (nt_sp + 1 + 0), .ref Rd], me_w M J)) rfl k
  obtain ⟨d1, o1, ed, kc, k⟩ := lz_c (g := 30) (q := 1) (vs := [.ref Rd, .ref (nt_sp + 1 + 0)]) (rest := []) rfl rfl (by decide) (Or.inr (Or.inl ⟨_, rfl, rfl⟩)) rfl k
  obtain ⟨r, e1, hr⟩ := lc_isAt (yc_lP hP hS) (yc_lS hP hS) hp kc
  subst e1
  rcases hr with ⟨rfl, g0⟩ | ⟨rfl, g0⟩
  · have k : nt_rn X _ 94 (9, [(0, .ref Yr)], [.int (Int32.ofInt 1)], me_w M J) _ := k
    have k := ly_revb 1 (c' := (if (Int32.ofInt 1) = 0 then 14 else 12, [(0, .ref Yr)], [], me_w M J)) rfl k
    rw [if_neg (show ¬ ((Int32.ofInt 1) = 0) from by decide)] at k
    have k := ly_revb 1 (c' := (13, [(0, .ref Yr)], [.int (Int32.ofInt 0)], me_w M J)) rfl k
    have k := lz_ri rfl (by decide) k
    refine ⟨_, k, Or.inl ⟨0, by decide, rfl, g0, fun v hv => ?_⟩⟩
    omega
  · have k : nt_rn X _ 94 (9, [(0, .ref Yr)], [.int (Int32.ofInt 0)], me_w M J) _ := k
    have k := ly_revb 1 (c' := (if (Int32.ofInt 0) = 0 then 14 else 12, [(0, .ref Yr)], [], me_w M J)) rfl k
    rw [if_pos (show (Int32.ofInt 0) = 0 from by decide)] at k
    have k := ly_revb 1 (c' := (15, [(0, .ref Yr)], [.ref Yr], me_w M J)) rfl k
    have k := lz_get (a := Yr) (g := 900) (M := me_w M J) (v := .ref Rd) rfl (nt_gfR rfl hP.2.2.1.1) k
    have k := ly_revb 1 (c' := (20, [(0, .ref Yr)], [.ref (nt_sp + 1 + 1), .ref Rd], me_w M J)) rfl k
    obtain ⟨d1, o1, ed, kc, k⟩ := lz_c (g := 30) (q := 1) (vs := [.ref Rd, .ref (nt_sp + 1 + 1)]) (rest := []) rfl rfl (by decide) (Or.inr (Or.inl ⟨_, rfl, rfl⟩)) rfl k
    obtain ⟨r, e1, hr⟩ := lc_isAt (yc_lP hP hS) (yc_lS hP hS) hp kc
    subst e1
    rcases hr with ⟨rfl, g1⟩ | ⟨rfl, g1⟩
    · have k : nt_rn X _ 94 (23, [(0, .ref Yr)], [.int (Int32.ofInt 1)], me_w M J) _ := k
      have k := ly_revb 1 (c' := (if (Int32.ofInt 1) = 0 then 28 else 26, [(0, .ref Yr)], [], me_w M J)) rfl k
      rw [if_neg (show ¬ ((Int32.ofInt 1) = 0) from by decide)] at k
      have k := ly_revb 1 (c' := (27, [(0, .ref Yr)], [.int (Int32.ofInt 1)], me_w M J)) rfl k
      have k := lz_ri rfl (by decide) k
      refine ⟨_, k, Or.inl ⟨1, by decide, rfl, g1, fun v hv => ?_⟩⟩
      rcases (by omega : v = 0) with rfl
      · exact g0
    · have k : nt_rn X _ 94 (23, [(0, .ref Yr)], [.int (Int32.ofInt 0)], me_w M J) _ := k
      have k := ly_revb 1 (c' := (if (Int32.ofInt 0) = 0 then 28 else 26, [(0, .ref Yr)], [], me_w M J)) rfl k
      rw [if_pos (show (Int32.ofInt 0) = 0 from by decide)] at k
      have k := ly_revb 1 (c' := (29, [(0, .ref Yr)], [.ref Yr], me_w M J)) rfl k
      have k := lz_get (a := Yr) (g := 900) (M := me_w M J) (v := .ref Rd) rfl (nt_gfR rfl hP.2.2.1.1) k
      have k := ly_revb 1 (c' := (34, [(0, .ref Yr)], [.ref (nt_sp + 1 + 2), .ref Rd], me_w M J)) rfl k
      obtain ⟨d1, o1, ed, kc, k⟩ := lz_c (g := 30) (q := 1) (vs := [.ref Rd, .ref (nt_sp + 1 + 2)]) (rest := []) rfl rfl (by decide) (Or.inr (Or.inl ⟨_, rfl, rfl⟩)) rfl k
      obtain ⟨r, e1, hr⟩ := lc_isAt (yc_lP hP hS) (yc_lS hP hS) hp kc
      subst e1
      rcases hr with ⟨rfl, g2⟩ | ⟨rfl, g2⟩
      · have k : nt_rn X _ 94 (37, [(0, .ref Yr)], [.int (Int32.ofInt 1)], me_w M J) _ := k
        have k := ly_revb 1 (c' := (if (Int32.ofInt 1) = 0 then 42 else 40, [(0, .ref Yr)], [], me_w M J)) rfl k
        rw [if_neg (show ¬ ((Int32.ofInt 1) = 0) from by decide)] at k
        have k := ly_revb 1 (c' := (41, [(0, .ref Yr)], [.int (Int32.ofInt 2)], me_w M J)) rfl k
        have k := lz_ri rfl (by decide) k
        refine ⟨_, k, Or.inl ⟨2, by decide, rfl, g2, fun v hv => ?_⟩⟩
        rcases (by omega : v = 0 ∨ v = 1) with rfl | rfl
        · exact g0
        · exact g1
      · have k : nt_rn X _ 94 (37, [(0, .ref Yr)], [.int (Int32.ofInt 0)], me_w M J) _ := k
        have k := ly_revb 1 (c' := (if (Int32.ofInt 0) = 0 then 42 else 40, [(0, .ref Yr)], [], me_w M J)) rfl k
        rw [if_pos (show (Int32.ofInt 0) = 0 from by decide)] at k
        have k := ly_revb 1 (c' := (43, [(0, .ref Yr)], [.ref Yr], me_w M J)) rfl k
        have k := lz_get (a := Yr) (g := 900) (M := me_w M J) (v := .ref Rd) rfl (nt_gfR rfl hP.2.2.1.1) k
        have k := ly_revb 1 (c' := (48, [(0, .ref Yr)], [.ref (nt_sp + 1 + 3), .ref Rd], me_w M J)) rfl k
        obtain ⟨d1, o1, ed, kc, k⟩ := lz_c (g := 30) (q := 1) (vs := [.ref Rd, .ref (nt_sp + 1 + 3)]) (rest := []) rfl rfl (by decide) (Or.inr (Or.inl ⟨_, rfl, rfl⟩)) rfl k
        obtain ⟨r, e1, hr⟩ := lc_isAt (yc_lP hP hS) (yc_lS hP hS) hp kc
        subst e1
        rcases hr with ⟨rfl, g3⟩ | ⟨rfl, g3⟩
        · have k : nt_rn X _ 94 (51, [(0, .ref Yr)], [.int (Int32.ofInt 1)], me_w M J) _ := k
          have k := ly_revb 1 (c' := (if (Int32.ofInt 1) = 0 then 56 else 54, [(0, .ref Yr)], [], me_w M J)) rfl k
          rw [if_neg (show ¬ ((Int32.ofInt 1) = 0) from by decide)] at k
          have k := ly_revb 1 (c' := (55, [(0, .ref Yr)], [.int (Int32.ofInt 3)], me_w M J)) rfl k
          have k := lz_ri rfl (by decide) k
          refine ⟨_, k, Or.inl ⟨3, by decide, rfl, g3, fun v hv => ?_⟩⟩
          rcases (by omega : v = 0 ∨ v = 1 ∨ v = 2) with rfl | rfl | rfl
          · exact g0
          · exact g1
          · exact g2
        · have k : nt_rn X _ 94 (51, [(0, .ref Yr)], [.int (Int32.ofInt 0)], me_w M J) _ := k
          have k := ly_revb 1 (c' := (if (Int32.ofInt 0) = 0 then 56 else 54, [(0, .ref Yr)], [], me_w M J)) rfl k
          rw [if_pos (show (Int32.ofInt 0) = 0 from by decide)] at k
          have k := ly_revb 1 (c' := (57, [(0, .ref Yr)], [.ref Yr], me_w M J)) rfl k
          have k := lz_get (a := Yr) (g := 900) (M := me_w M J) (v := .ref Rd) rfl (nt_gfR rfl hP.2.2.1.1) k
          have k := ly_revb 1 (c' := (62, [(0, .ref Yr)], [.ref (nt_sp + 1 + 4), .ref Rd], me_w M J)) rfl k
          obtain ⟨d1, o1, ed, kc, k⟩ := lz_c (g := 30) (q := 1) (vs := [.ref Rd, .ref (nt_sp + 1 + 4)]) (rest := []) rfl rfl (by decide) (Or.inr (Or.inl ⟨_, rfl, rfl⟩)) rfl k
          obtain ⟨r, e1, hr⟩ := lc_isAt (yc_lP hP hS) (yc_lS hP hS) hp kc
          subst e1
          rcases hr with ⟨rfl, g4⟩ | ⟨rfl, g4⟩
          · have k : nt_rn X _ 94 (65, [(0, .ref Yr)], [.int (Int32.ofInt 1)], me_w M J) _ := k
            have k := ly_revb 1 (c' := (if (Int32.ofInt 1) = 0 then 72 else 68, [(0, .ref Yr)], [], me_w M J)) rfl k
            rw [if_neg (show ¬ ((Int32.ofInt 1) = 0) from by decide)] at k
            have k := ly_revb 2 (c' := (73, [(0, .ref Yr)], [.int (Int32.ofInt 4)], me_w M J)) rfl k
            have k := lz_ri rfl (by decide) k
            refine ⟨_, k, Or.inl ⟨4, by decide, rfl, g4, fun v hv => ?_⟩⟩
            rcases (by omega : v = 0 ∨ v = 1 ∨ v = 2 ∨ v = 3) with rfl | rfl | rfl | rfl
            · exact g0
            · exact g1
            · exact g2
            · exact g3
          · have k : nt_rn X _ 94 (65, [(0, .ref Yr)], [.int (Int32.ofInt 0)], me_w M J) _ := k
            have k := ly_revb 1 (c' := (if (Int32.ofInt 0) = 0 then 72 else 68, [(0, .ref Yr)], [], me_w M J)) rfl k
            rw [if_pos (show (Int32.ofInt 0) = 0 from by decide)] at k
            have k := ly_revb 1 (c' := (73, [(0, .ref Yr)], [.int (Int32.ofInt (-1))], me_w M J)) rfl k
            have k := lz_ri rfl (by decide) k
            refine ⟨_, k, Or.inr ⟨rfl, fun v hv => ?_⟩⟩
            rcases (by omega : v = 0 ∨ v = 1 ∨ v = 2 ∨ v = 3 ∨ v = 4) with rfl | rfl | rfl | rfl | rfl
            · exact g0
            · exact g1
            · exact g2
            · exact g3
            · exact g4
theorem yc_clause {X : nt_X} {d t Rd Tp By RR Sp Yr Y m0 s0 : Nat} {Rw : Nat → Nat} {f : Nat → Int32} {M : nt_M} {o : Option Value × nt_M} {C : lb_C} {p : Nat} {u : Nat × Nat × Nat × Nat × Nat} {J : Nat → Nat → Int32} {i : Nat} (hP : yc_P M t Rd Tp By RR Sp Yr Y Rw) (hS : yc_S Rw C f t Rd Tp By RR Y m0 s0 p 0 u J) (hp : p ≤ t) (hb : lb_ub u) (hi : i ≤ 40) (k : nt_ev X d 93 [.ref Yr, .int (nI i)] (me_w M J) o) : ∃ r J', o = (none, me_w M J') ∧ lb_yc f t i (p, u) r ∧ yc_Q Rw (fun v D => lb_ycC f t (p, u) v C D) f t Rd Tp By RR Y m0 s0 r J' := by
  have k : nt_rn X d 93 (0, [(0, .ref Yr), (1, .int (nI i))], [], me_w M J) o := k
  have t4 : t ≤ 400 := hP.2.2.2.2.2.1
  have k := ly_revb 1 (c' := (1, [(0, .ref Yr), (1, .int (nI i))], [.ref Yr], me_w M J)) rfl k
  obtain ⟨d1, o1, ed, kc, k⟩ := lz_c (g := 94) (q := 1) (vs := [.ref Yr]) (rest := []) rfl rfl (by decide) (Or.inr (Or.inl ⟨_, rfl, rfl⟩)) rfl k
  obtain ⟨a, e1, hw⟩ := yc_at hP hS hp kc
  subst e1
  rcases hw with ⟨w, hw, rfl, hat, hbe⟩ | ⟨rfl, hno⟩
  · rcases (by omega : w = 0 ∨ w = 1 ∨ w = 2 ∨ w = 3 ∨ w = 4) with rfl | rfl | rfl | rfl | rfl
    · have k : nt_rn X _ 93 (4, [(0, .ref Yr), (1, .int (nI i))], [.int (nI 0)], me_w M J) _ := k
      have k := ly_revb 4 (c' := (if (nI 0) = (Int32.ofInt (-1)) then 10 else 21, [(2, .int (nI 0)), (0, .ref Yr), (1, .int (nI i))], [], me_w M J)) rfl k
      rw [if_neg (show ¬ ((nI 0) = (Int32.ofInt (-1))) from me_nm1 (by decide))] at k
      have k := ly_revb 3 (c' := (if (Int32.ofInt 40) ≤ (nI i) then 56 else 27, [(2, .int (nI 0)), (0, .ref Yr), (1, .int (nI i))], [], me_w M J)) rfl k
      by_cases h24 : 40 ≤ i
      · rw [if_pos (show (Int32.ofInt 40) ≤ (nI i) from show nI 40 ≤ nI i from nI_le h24 (by omega))] at k
        have k := ly_revb 1 (c' := (57, [(2, .int (nI 0)), (0, .ref Yr), (1, .int (nI i))], [.ref Yr], me_w M J)) rfl k
        have k := lz_get (a := Yr) (g := 900) (M := me_w M J) (v := .ref Rd) rfl (nt_gfR rfl hP.2.2.1.1) k
        have k := ly_revb 1 (c' := (61, [(2, .int (nI 0)), (0, .ref Yr), (1, .int (nI i))], [.int (Int32.ofInt 4), .ref Rd], me_w M J)) rfl k
        obtain ⟨d1, o1, ed, kc, k⟩ := lz_c (g := 31) (q := 1) (vs := [.ref Rd, .int (Int32.ofInt 4)]) (rest := []) rfl rfl (by decide) (Or.inr (Or.inl ⟨_, rfl, rfl⟩)) rfl k
        obtain ⟨hf, e1⟩ := (lc_fail (yc_lP hP hS) (yc_lS hP hS) hp kc).resolve_right (fun c => c.1 rfl)
        subst e1
        have hS1 := yc_Sp (q := t) hP (yc_Sf (fb := lb_c p (Int32.ofInt 4)) hP hS)
        have k : nt_rn X _ 93 (64, [(2, .int (nI 0)), (0, .ref Yr), (1, .int (nI i))], [], me_w M (nt_u (nt_u J Rd 2 (lb_c p (Int32.ofInt 4))) Rd 1 (nI t))) _ := k
        have k := ly_revb 1 (c' := (72, [(2, .int (nI 0)), (0, .ref Yr), (1, .int (nI i))], [], me_w M (nt_u (nt_u J Rd 2 (lb_c p (Int32.ofInt 4))) Rd 1 (nI t)))) rfl k
        have k := lz_rv rfl rfl k
        exact ⟨.inl (lb_c p (Int32.ofInt 4)), _, k, Or.inr ⟨0, by decide, hat, hbe, Or.inl ⟨Or.inl (by omega), rfl⟩⟩, (lb_c_ne (by omega) (by decide) (by decide)), _, _, hS1⟩
      · rw [if_neg (show ¬ ((Int32.ofInt 40) ≤ (nI i)) from show ¬ nI 40 ≤ nI i from nI_ge (Nat.not_le.mp h24) (by omega))] at k
        have k := ly_revb 2 (c' := (if (nI i) = 0 then 31 else 35, [(2, .int (nI 0)), (0, .ref Yr), (1, .int (nI i))], [], me_w M J)) rfl k
        by_cases h28 : i = 0
        · rw [if_pos (show (nI i) = 0 from show nI i = nI 0 from congrArg nI h28)] at k
          have k := ly_revb 4 (c' := (if (nI 0) = 0 then 40 else 44, [(2, .int (nI 0)), (0, .ref Yr), (1, .int (nI i))], [.int (Int32.ofInt 1)], me_w M J)) rfl k
          rw [if_pos (show (nI 0) = 0 from by decide)] at k
          have k := ly_revb 3 (c' := (if (Int32.ofInt 1) = (Int32.ofInt 1) then 48 else 56, [(2, .int (nI 0)), (0, .ref Yr), (1, .int (nI i))], [], me_w M J)) rfl k
          rw [if_pos (show (Int32.ofInt 1) = (Int32.ofInt 1) from by decide)] at k
          have k := ly_revb 2 (c' := (50, [(2, .int (nI 0)), (0, .ref Yr), (1, .int (nI i))], [.int (nI 0), .ref Yr], me_w M J)) rfl k
          obtain ⟨d1, o1, ed, kc, k⟩ := lz_c (g := 95) (q := 1) (vs := [.ref Yr, .int (nI 0)]) (rest := []) rfl rfl (by decide) (Or.inr (Or.inl ⟨_, rfl, rfl⟩)) rfl k
          obtain ⟨a, e1, hfu⟩ := yc_fu0 hP hS hb kc
          subst e1
          rcases hfu with ⟨rfl, hfu⟩ | ⟨rfl, hfu⟩
          · have k : nt_rn X _ 93 (53, [(2, .int (nI 0)), (0, .ref Yr), (1, .int (nI i))], [.int (Int32.ofInt 1)], me_w M J) _ := k
            have k := ly_revb 1 (c' := (if (Int32.ofInt 1) = 0 then 67 else 56, [(2, .int (nI 0)), (0, .ref Yr), (1, .int (nI i))], [], me_w M J)) rfl k
            rw [if_neg (show ¬ ((Int32.ofInt 1) = 0) from by decide)] at k
            have k := ly_revb 1 (c' := (57, [(2, .int (nI 0)), (0, .ref Yr), (1, .int (nI i))], [.ref Yr], me_w M J)) rfl k
            have k := lz_get (a := Yr) (g := 900) (M := me_w M J) (v := .ref Rd) rfl (nt_gfR rfl hP.2.2.1.1) k
            have k := ly_revb 1 (c' := (61, [(2, .int (nI 0)), (0, .ref Yr), (1, .int (nI i))], [.int (Int32.ofInt 4), .ref Rd], me_w M J)) rfl k
            obtain ⟨d1, o1, ed, kc, k⟩ := lz_c (g := 31) (q := 1) (vs := [.ref Rd, .int (Int32.ofInt 4)]) (rest := []) rfl rfl (by decide) (Or.inr (Or.inl ⟨_, rfl, rfl⟩)) rfl k
            obtain ⟨hf, e1⟩ := (lc_fail (yc_lP hP hS) (yc_lS hP hS) hp kc).resolve_right (fun c => c.1 rfl)
            subst e1
            have hS1 := yc_Sp (q := t) hP (yc_Sf (fb := lb_c p (Int32.ofInt 4)) hP hS)
            have k : nt_rn X _ 93 (64, [(2, .int (nI 0)), (0, .ref Yr), (1, .int (nI i))], [], me_w M (nt_u (nt_u J Rd 2 (lb_c p (Int32.ofInt 4))) Rd 1 (nI t))) _ := k
            have k := ly_revb 1 (c' := (72, [(2, .int (nI 0)), (0, .ref Yr), (1, .int (nI i))], [], me_w M (nt_u (nt_u J Rd 2 (lb_c p (Int32.ofInt 4))) Rd 1 (nI t)))) rfl k
            have k := lz_rv rfl rfl k
            exact ⟨.inl (lb_c p (Int32.ofInt 4)), _, k, Or.inr ⟨0, by decide, hat, hbe, Or.inl ⟨Or.inr (Or.inr hfu), rfl⟩⟩, (lb_c_ne (by omega) (by decide) (by decide)), _, _, hS1⟩
          · have k : nt_rn X _ 93 (53, [(2, .int (nI 0)), (0, .ref Yr), (1, .int (nI i))], [.int (Int32.ofInt 0)], me_w M J) _ := k
            have k := ly_revb 1 (c' := (if (Int32.ofInt 0) = 0 then 67 else 56, [(2, .int (nI 0)), (0, .ref Yr), (1, .int (nI i))], [], me_w M J)) rfl k
            rw [if_pos (show (Int32.ofInt 0) = 0 from by decide)] at k
            have k := ly_revb 2 (c' := (69, [(2, .int (nI 0)), (0, .ref Yr), (1, .int (nI i))], [.int (nI 0), .ref Yr], me_w M J)) rfl k
            obtain ⟨d1, o1, ed, kc, k⟩ := lz_c (g := 96) (q := 1) (vs := [.ref Yr, .int (nI 0)]) (rest := []) rfl rfl (by decide) (Or.inr (Or.inl ⟨_, rfl, rfl⟩)) rfl k
            obtain ⟨r, J9, e1, hpa, hQ⟩ := yc_pa0 hP hS hp hb hat hfu kc
            subst e1
            have k : nt_rn X _ 93 (72, [(2, .int (nI 0)), (0, .ref Yr), (1, .int (nI i))], [], me_w M J9) _ := k
            have k := lz_rv rfl rfl k
            refine ⟨r, _, k, Or.inr ⟨0, by decide, hat, hbe, Or.inr ⟨?_, hpa⟩⟩, yc_Qm (fun v D hh => ⟨0, by decide, hat, hbe, hh⟩) hQ⟩
            intro c; rcases c with c | c | c
            · omega
            · exact c (by omega)
            · exact hfu c
        · rw [if_neg (show ¬ ((nI i) = 0) from nI_ne0 (Nat.pos_of_ne_zero h28) (by omega))] at k
          have k := ly_revb 3 (c' := (if (nI 0) = 0 then 40 else 44, [(2, .int (nI 0)), (0, .ref Yr), (1, .int (nI i))], [.int (Int32.ofInt 0)], me_w M J)) rfl k
          rw [if_pos (show (nI 0) = 0 from by decide)] at k
          have k := ly_revb 3 (c' := (if (Int32.ofInt 0) = (Int32.ofInt 1) then 48 else 56, [(2, .int (nI 0)), (0, .ref Yr), (1, .int (nI i))], [], me_w M J)) rfl k
          rw [if_neg (show ¬ ((Int32.ofInt 0) = (Int32.ofInt 1)) from by decide)] at k
          have k := ly_revb 1 (c' := (57, [(2, .int (nI 0)), (0, .ref Yr), (1, .int (nI i))], [.ref Yr], me_w M J)) rfl k
          have k := lz_get (a := Yr) (g := 900) (M := me_w M J) (v := .ref Rd) rfl (nt_gfR rfl hP.2.2.1.1) k
          have k := ly_revb 1 (c' := (61, [(2, .int (nI 0)), (0, .ref Yr), (1, .int (nI i))], [.int (Int32.ofInt 4), .ref Rd], me_w M J)) rfl k
          obtain ⟨d1, o1, ed, kc, k⟩ := lz_c (g := 31) (q := 1) (vs := [.ref Rd, .int (Int32.ofInt 4)]) (rest := []) rfl rfl (by decide) (Or.inr (Or.inl ⟨_, rfl, rfl⟩)) rfl k
          obtain ⟨hf, e1⟩ := (lc_fail (yc_lP hP hS) (yc_lS hP hS) hp kc).resolve_right (fun c => c.1 rfl)
          subst e1
          have hS1 := yc_Sp (q := t) hP (yc_Sf (fb := lb_c p (Int32.ofInt 4)) hP hS)
          have k : nt_rn X _ 93 (64, [(2, .int (nI 0)), (0, .ref Yr), (1, .int (nI i))], [], me_w M (nt_u (nt_u J Rd 2 (lb_c p (Int32.ofInt 4))) Rd 1 (nI t))) _ := k
          have k := ly_revb 1 (c' := (72, [(2, .int (nI 0)), (0, .ref Yr), (1, .int (nI i))], [], me_w M (nt_u (nt_u J Rd 2 (lb_c p (Int32.ofInt 4))) Rd 1 (nI t)))) rfl k
          have k := lz_rv rfl rfl k
          exact ⟨.inl (lb_c p (Int32.ofInt 4)), _, k, Or.inr ⟨0, by decide, hat, hbe, Or.inl ⟨Or.inr (Or.inl (by omega)), rfl⟩⟩, (lb_c_ne (by omega) (by decide) (by decide)), _, _, hS1⟩
    · have k : nt_rn X _ 93 (4, [(0, .ref Yr), (1, .int (nI i))], [.int (nI 1)], me_w M J) _ := k
      have k := ly_revb 4 (c' := (if (nI 1) = (Int32.ofInt (-1)) then 10 else 21, [(2, .int (nI 1)), (0, .ref Yr), (1, .int (nI i))], [], me_w M J)) rfl k
      rw [if_neg (show ¬ ((nI 1) = (Int32.ofInt (-1))) from me_nm1 (by decide))] at k
      have k := ly_revb 3 (c' := (if (Int32.ofInt 40) ≤ (nI i) then 56 else 27, [(2, .int (nI 1)), (0, .ref Yr), (1, .int (nI i))], [], me_w M J)) rfl k
      by_cases h24 : 40 ≤ i
      · rw [if_pos (show (Int32.ofInt 40) ≤ (nI i) from show nI 40 ≤ nI i from nI_le h24 (by omega))] at k
        have k := ly_revb 1 (c' := (57, [(2, .int (nI 1)), (0, .ref Yr), (1, .int (nI i))], [.ref Yr], me_w M J)) rfl k
        have k := lz_get (a := Yr) (g := 900) (M := me_w M J) (v := .ref Rd) rfl (nt_gfR rfl hP.2.2.1.1) k
        have k := ly_revb 1 (c' := (61, [(2, .int (nI 1)), (0, .ref Yr), (1, .int (nI i))], [.int (Int32.ofInt 4), .ref Rd], me_w M J)) rfl k
        obtain ⟨d1, o1, ed, kc, k⟩ := lz_c (g := 31) (q := 1) (vs := [.ref Rd, .int (Int32.ofInt 4)]) (rest := []) rfl rfl (by decide) (Or.inr (Or.inl ⟨_, rfl, rfl⟩)) rfl k
        obtain ⟨hf, e1⟩ := (lc_fail (yc_lP hP hS) (yc_lS hP hS) hp kc).resolve_right (fun c => c.1 rfl)
        subst e1
        have hS1 := yc_Sp (q := t) hP (yc_Sf (fb := lb_c p (Int32.ofInt 4)) hP hS)
        have k : nt_rn X _ 93 (64, [(2, .int (nI 1)), (0, .ref Yr), (1, .int (nI i))], [], me_w M (nt_u (nt_u J Rd 2 (lb_c p (Int32.ofInt 4))) Rd 1 (nI t))) _ := k
        have k := ly_revb 1 (c' := (72, [(2, .int (nI 1)), (0, .ref Yr), (1, .int (nI i))], [], me_w M (nt_u (nt_u J Rd 2 (lb_c p (Int32.ofInt 4))) Rd 1 (nI t)))) rfl k
        have k := lz_rv rfl rfl k
        exact ⟨.inl (lb_c p (Int32.ofInt 4)), _, k, Or.inr ⟨1, by decide, hat, hbe, Or.inl ⟨Or.inl (by omega), rfl⟩⟩, (lb_c_ne (by omega) (by decide) (by decide)), _, _, hS1⟩
      · rw [if_neg (show ¬ ((Int32.ofInt 40) ≤ (nI i)) from show ¬ nI 40 ≤ nI i from nI_ge (Nat.not_le.mp h24) (by omega))] at k
        have k := ly_revb 2 (c' := (if (nI i) = 0 then 31 else 35, [(2, .int (nI 1)), (0, .ref Yr), (1, .int (nI i))], [], me_w M J)) rfl k
        by_cases h28 : i = 0
        · rw [if_pos (show (nI i) = 0 from show nI i = nI 0 from congrArg nI h28)] at k
          have k := ly_revb 4 (c' := (if (nI 1) = 0 then 40 else 44, [(2, .int (nI 1)), (0, .ref Yr), (1, .int (nI i))], [.int (Int32.ofInt 1)], me_w M J)) rfl k
          rw [if_neg (show ¬ ((nI 1) = 0) from by decide)] at k
          have k := ly_revb 2 (c' := (if (Int32.ofInt 1) = (Int32.ofInt 0) then 48 else 56, [(2, .int (nI 1)), (0, .ref Yr), (1, .int (nI i))], [], me_w M J)) rfl k
          rw [if_neg (show ¬ ((Int32.ofInt 1) = (Int32.ofInt 0)) from by decide)] at k
          have k := ly_revb 1 (c' := (57, [(2, .int (nI 1)), (0, .ref Yr), (1, .int (nI i))], [.ref Yr], me_w M J)) rfl k
          have k := lz_get (a := Yr) (g := 900) (M := me_w M J) (v := .ref Rd) rfl (nt_gfR rfl hP.2.2.1.1) k
          have k := ly_revb 1 (c' := (61, [(2, .int (nI 1)), (0, .ref Yr), (1, .int (nI i))], [.int (Int32.ofInt 4), .ref Rd], me_w M J)) rfl k
          obtain ⟨d1, o1, ed, kc, k⟩ := lz_c (g := 31) (q := 1) (vs := [.ref Rd, .int (Int32.ofInt 4)]) (rest := []) rfl rfl (by decide) (Or.inr (Or.inl ⟨_, rfl, rfl⟩)) rfl k
          obtain ⟨hf, e1⟩ := (lc_fail (yc_lP hP hS) (yc_lS hP hS) hp kc).resolve_right (fun c => c.1 rfl)
          subst e1
          have hS1 := yc_Sp (q := t) hP (yc_Sf (fb := lb_c p (Int32.ofInt 4)) hP hS)
          have k : nt_rn X _ 93 (64, [(2, .int (nI 1)), (0, .ref Yr), (1, .int (nI i))], [], me_w M (nt_u (nt_u J Rd 2 (lb_c p (Int32.ofInt 4))) Rd 1 (nI t))) _ := k
          have k := ly_revb 1 (c' := (72, [(2, .int (nI 1)), (0, .ref Yr), (1, .int (nI i))], [], me_w M (nt_u (nt_u J Rd 2 (lb_c p (Int32.ofInt 4))) Rd 1 (nI t)))) rfl k
          have k := lz_rv rfl rfl k
          exact ⟨.inl (lb_c p (Int32.ofInt 4)), _, k, Or.inr ⟨1, by decide, hat, hbe, Or.inl ⟨Or.inr (Or.inl (by omega)), rfl⟩⟩, (lb_c_ne (by omega) (by decide) (by decide)), _, _, hS1⟩
        · rw [if_neg (show ¬ ((nI i) = 0) from nI_ne0 (Nat.pos_of_ne_zero h28) (by omega))] at k
          have k := ly_revb 3 (c' := (if (nI 1) = 0 then 40 else 44, [(2, .int (nI 1)), (0, .ref Yr), (1, .int (nI i))], [.int (Int32.ofInt 0)], me_w M J)) rfl k
          rw [if_neg (show ¬ ((nI 1) = 0) from by decide)] at k
          have k := ly_revb 2 (c' := (if (Int32.ofInt 0) = (Int32.ofInt 0) then 48 else 56, [(2, .int (nI 1)), (0, .ref Yr), (1, .int (nI i))], [], me_w M J)) rfl k
          rw [if_pos (show (Int32.ofInt 0) = (Int32.ofInt 0) from by decide)] at k
          have k := ly_revb 2 (c' := (50, [(2, .int (nI 1)), (0, .ref Yr), (1, .int (nI i))], [.int (nI 1), .ref Yr], me_w M J)) rfl k
          obtain ⟨d1, o1, ed, kc, k⟩ := lz_c (g := 95) (q := 1) (vs := [.ref Yr, .int (nI 1)]) (rest := []) rfl rfl (by decide) (Or.inr (Or.inl ⟨_, rfl, rfl⟩)) rfl k
          obtain ⟨a, e1, hfu⟩ := yc_fu1 hP hS hb kc
          subst e1
          rcases hfu with ⟨rfl, hfu⟩ | ⟨rfl, hfu⟩
          · have k : nt_rn X _ 93 (53, [(2, .int (nI 1)), (0, .ref Yr), (1, .int (nI i))], [.int (Int32.ofInt 1)], me_w M J) _ := k
            have k := ly_revb 1 (c' := (if (Int32.ofInt 1) = 0 then 67 else 56, [(2, .int (nI 1)), (0, .ref Yr), (1, .int (nI i))], [], me_w M J)) rfl k
            rw [if_neg (show ¬ ((Int32.ofInt 1) = 0) from by decide)] at k
            have k := ly_revb 1 (c' := (57, [(2, .int (nI 1)), (0, .ref Yr), (1, .int (nI i))], [.ref Yr], me_w M J)) rfl k
            have k := lz_get (a := Yr) (g := 900) (M := me_w M J) (v := .ref Rd) rfl (nt_gfR rfl hP.2.2.1.1) k
            have k := ly_revb 1 (c' := (61, [(2, .int (nI 1)), (0, .ref Yr), (1, .int (nI i))], [.int (Int32.ofInt 4), .ref Rd], me_w M J)) rfl k
            obtain ⟨d1, o1, ed, kc, k⟩ := lz_c (g := 31) (q := 1) (vs := [.ref Rd, .int (Int32.ofInt 4)]) (rest := []) rfl rfl (by decide) (Or.inr (Or.inl ⟨_, rfl, rfl⟩)) rfl k
            obtain ⟨hf, e1⟩ := (lc_fail (yc_lP hP hS) (yc_lS hP hS) hp kc).resolve_right (fun c => c.1 rfl)
            subst e1
            have hS1 := yc_Sp (q := t) hP (yc_Sf (fb := lb_c p (Int32.ofInt 4)) hP hS)
            have k : nt_rn X _ 93 (64, [(2, .int (nI 1)), (0, .ref Yr), (1, .int (nI i))], [], me_w M (nt_u (nt_u J Rd 2 (lb_c p (Int32.ofInt 4))) Rd 1 (nI t))) _ := k
            have k := ly_revb 1 (c' := (72, [(2, .int (nI 1)), (0, .ref Yr), (1, .int (nI i))], [], me_w M (nt_u (nt_u J Rd 2 (lb_c p (Int32.ofInt 4))) Rd 1 (nI t)))) rfl k
            have k := lz_rv rfl rfl k
            exact ⟨.inl (lb_c p (Int32.ofInt 4)), _, k, Or.inr ⟨1, by decide, hat, hbe, Or.inl ⟨Or.inr (Or.inr hfu), rfl⟩⟩, (lb_c_ne (by omega) (by decide) (by decide)), _, _, hS1⟩
          · have k : nt_rn X _ 93 (53, [(2, .int (nI 1)), (0, .ref Yr), (1, .int (nI i))], [.int (Int32.ofInt 0)], me_w M J) _ := k
            have k := ly_revb 1 (c' := (if (Int32.ofInt 0) = 0 then 67 else 56, [(2, .int (nI 1)), (0, .ref Yr), (1, .int (nI i))], [], me_w M J)) rfl k
            rw [if_pos (show (Int32.ofInt 0) = 0 from by decide)] at k
            have k := ly_revb 2 (c' := (69, [(2, .int (nI 1)), (0, .ref Yr), (1, .int (nI i))], [.int (nI 1), .ref Yr], me_w M J)) rfl k
            obtain ⟨d1, o1, ed, kc, k⟩ := lz_c (g := 96) (q := 1) (vs := [.ref Yr, .int (nI 1)]) (rest := []) rfl rfl (by decide) (Or.inr (Or.inl ⟨_, rfl, rfl⟩)) rfl k
            obtain ⟨r, J9, e1, hpa, hQ⟩ := yc_pa1 hP hS hp hb hat hfu kc
            subst e1
            have k : nt_rn X _ 93 (72, [(2, .int (nI 1)), (0, .ref Yr), (1, .int (nI i))], [], me_w M J9) _ := k
            have k := lz_rv rfl rfl k
            refine ⟨r, _, k, Or.inr ⟨1, by decide, hat, hbe, Or.inr ⟨?_, hpa⟩⟩, yc_Qm (fun v D hh => ⟨1, by decide, hat, hbe, hh⟩) hQ⟩
            intro c; rcases c with c | c | c
            · omega
            · exact c (by omega)
            · exact hfu c
    · have k : nt_rn X _ 93 (4, [(0, .ref Yr), (1, .int (nI i))], [.int (nI 2)], me_w M J) _ := k
      have k := ly_revb 4 (c' := (if (nI 2) = (Int32.ofInt (-1)) then 10 else 21, [(2, .int (nI 2)), (0, .ref Yr), (1, .int (nI i))], [], me_w M J)) rfl k
      rw [if_neg (show ¬ ((nI 2) = (Int32.ofInt (-1))) from me_nm1 (by decide))] at k
      have k := ly_revb 3 (c' := (if (Int32.ofInt 40) ≤ (nI i) then 56 else 27, [(2, .int (nI 2)), (0, .ref Yr), (1, .int (nI i))], [], me_w M J)) rfl k
      by_cases h24 : 40 ≤ i
      · rw [if_pos (show (Int32.ofInt 40) ≤ (nI i) from show nI 40 ≤ nI i from nI_le h24 (by omega))] at k
        have k := ly_revb 1 (c' := (57, [(2, .int (nI 2)), (0, .ref Yr), (1, .int (nI i))], [.ref Yr], me_w M J)) rfl k
        have k := lz_get (a := Yr) (g := 900) (M := me_w M J) (v := .ref Rd) rfl (nt_gfR rfl hP.2.2.1.1) k
        have k := ly_revb 1 (c' := (61, [(2, .int (nI 2)), (0, .ref Yr), (1, .int (nI i))], [.int (Int32.ofInt 4), .ref Rd], me_w M J)) rfl k
        obtain ⟨d1, o1, ed, kc, k⟩ := lz_c (g := 31) (q := 1) (vs := [.ref Rd, .int (Int32.ofInt 4)]) (rest := []) rfl rfl (by decide) (Or.inr (Or.inl ⟨_, rfl, rfl⟩)) rfl k
        obtain ⟨hf, e1⟩ := (lc_fail (yc_lP hP hS) (yc_lS hP hS) hp kc).resolve_right (fun c => c.1 rfl)
        subst e1
        have hS1 := yc_Sp (q := t) hP (yc_Sf (fb := lb_c p (Int32.ofInt 4)) hP hS)
        have k : nt_rn X _ 93 (64, [(2, .int (nI 2)), (0, .ref Yr), (1, .int (nI i))], [], me_w M (nt_u (nt_u J Rd 2 (lb_c p (Int32.ofInt 4))) Rd 1 (nI t))) _ := k
        have k := ly_revb 1 (c' := (72, [(2, .int (nI 2)), (0, .ref Yr), (1, .int (nI i))], [], me_w M (nt_u (nt_u J Rd 2 (lb_c p (Int32.ofInt 4))) Rd 1 (nI t)))) rfl k
        have k := lz_rv rfl rfl k
        exact ⟨.inl (lb_c p (Int32.ofInt 4)), _, k, Or.inr ⟨2, by decide, hat, hbe, Or.inl ⟨Or.inl (by omega), rfl⟩⟩, (lb_c_ne (by omega) (by decide) (by decide)), _, _, hS1⟩
      · rw [if_neg (show ¬ ((Int32.ofInt 40) ≤ (nI i)) from show ¬ nI 40 ≤ nI i from nI_ge (Nat.not_le.mp h24) (by omega))] at k
        have k := ly_revb 2 (c' := (if (nI i) = 0 then 31 else 35, [(2, .int (nI 2)), (0, .ref Yr), (1, .int (nI i))], [], me_w M J)) rfl k
        by_cases h28 : i = 0
        · rw [if_pos (show (nI i) = 0 from show nI i = nI 0 from congrArg nI h28)] at k
          have k := ly_revb 4 (c' := (if (nI 2) = 0 then 40 else 44, [(2, .int (nI 2)), (0, .ref Yr), (1, .int (nI i))], [.int (Int32.ofInt 1)], me_w M J)) rfl k
          rw [if_neg (show ¬ ((nI 2) = 0) from by decide)] at k
          have k := ly_revb 2 (c' := (if (Int32.ofInt 1) = (Int32.ofInt 0) then 48 else 56, [(2, .int (nI 2)), (0, .ref Yr), (1, .int (nI i))], [], me_w M J)) rfl k
          rw [if_neg (show ¬ ((Int32.ofInt 1) = (Int32.ofInt 0)) from by decide)] at k
          have k := ly_revb 1 (c' := (57, [(2, .int (nI 2)), (0, .ref Yr), (1, .int (nI i))], [.ref Yr], me_w M J)) rfl k
          have k := lz_get (a := Yr) (g := 900) (M := me_w M J) (v := .ref Rd) rfl (nt_gfR rfl hP.2.2.1.1) k
          have k := ly_revb 1 (c' := (61, [(2, .int (nI 2)), (0, .ref Yr), (1, .int (nI i))], [.int (Int32.ofInt 4), .ref Rd], me_w M J)) rfl k
          obtain ⟨d1, o1, ed, kc, k⟩ := lz_c (g := 31) (q := 1) (vs := [.ref Rd, .int (Int32.ofInt 4)]) (rest := []) rfl rfl (by decide) (Or.inr (Or.inl ⟨_, rfl, rfl⟩)) rfl k
          obtain ⟨hf, e1⟩ := (lc_fail (yc_lP hP hS) (yc_lS hP hS) hp kc).resolve_right (fun c => c.1 rfl)
          subst e1
          have hS1 := yc_Sp (q := t) hP (yc_Sf (fb := lb_c p (Int32.ofInt 4)) hP hS)
          have k : nt_rn X _ 93 (64, [(2, .int (nI 2)), (0, .ref Yr), (1, .int (nI i))], [], me_w M (nt_u (nt_u J Rd 2 (lb_c p (Int32.ofInt 4))) Rd 1 (nI t))) _ := k
          have k := ly_revb 1 (c' := (72, [(2, .int (nI 2)), (0, .ref Yr), (1, .int (nI i))], [], me_w M (nt_u (nt_u J Rd 2 (lb_c p (Int32.ofInt 4))) Rd 1 (nI t)))) rfl k
          have k := lz_rv rfl rfl k
          exact ⟨.inl (lb_c p (Int32.ofInt 4)), _, k, Or.inr ⟨2, by decide, hat, hbe, Or.inl ⟨Or.inr (Or.inl (by omega)), rfl⟩⟩, (lb_c_ne (by omega) (by decide) (by decide)), _, _, hS1⟩
        · rw [if_neg (show ¬ ((nI i) = 0) from nI_ne0 (Nat.pos_of_ne_zero h28) (by omega))] at k
          have k := ly_revb 3 (c' := (if (nI 2) = 0 then 40 else 44, [(2, .int (nI 2)), (0, .ref Yr), (1, .int (nI i))], [.int (Int32.ofInt 0)], me_w M J)) rfl k
          rw [if_neg (show ¬ ((nI 2) = 0) from by decide)] at k
          have k := ly_revb 2 (c' := (if (Int32.ofInt 0) = (Int32.ofInt 0) then 48 else 56, [(2, .int (nI 2)), (0, .ref Yr), (1, .int (nI i))], [], me_w M J)) rfl k
          rw [if_pos (show (Int32.ofInt 0) = (Int32.ofInt 0) from by decide)] at k
          have k := ly_revb 2 (c' := (50, [(2, .int (nI 2)), (0, .ref Yr), (1, .int (nI i))], [.int (nI 2), .ref Yr], me_w M J)) rfl k
          obtain ⟨d1, o1, ed, kc, k⟩ := lz_c (g := 95) (q := 1) (vs := [.ref Yr, .int (nI 2)]) (rest := []) rfl rfl (by decide) (Or.inr (Or.inl ⟨_, rfl, rfl⟩)) rfl k
          obtain ⟨a, e1, hfu⟩ := yc_fu2 hP hS hb kc
          subst e1
          rcases hfu with ⟨rfl, hfu⟩ | ⟨rfl, hfu⟩
          · have k : nt_rn X _ 93 (53, [(2, .int (nI 2)), (0, .ref Yr), (1, .int (nI i))], [.int (Int32.ofInt 1)], me_w M J) _ := k
            have k := ly_revb 1 (c' := (if (Int32.ofInt 1) = 0 then 67 else 56, [(2, .int (nI 2)), (0, .ref Yr), (1, .int (nI i))], [], me_w M J)) rfl k
            rw [if_neg (show ¬ ((Int32.ofInt 1) = 0) from by decide)] at k
            have k := ly_revb 1 (c' := (57, [(2, .int (nI 2)), (0, .ref Yr), (1, .int (nI i))], [.ref Yr], me_w M J)) rfl k
            have k := lz_get (a := Yr) (g := 900) (M := me_w M J) (v := .ref Rd) rfl (nt_gfR rfl hP.2.2.1.1) k
            have k := ly_revb 1 (c' := (61, [(2, .int (nI 2)), (0, .ref Yr), (1, .int (nI i))], [.int (Int32.ofInt 4), .ref Rd], me_w M J)) rfl k
            obtain ⟨d1, o1, ed, kc, k⟩ := lz_c (g := 31) (q := 1) (vs := [.ref Rd, .int (Int32.ofInt 4)]) (rest := []) rfl rfl (by decide) (Or.inr (Or.inl ⟨_, rfl, rfl⟩)) rfl k
            obtain ⟨hf, e1⟩ := (lc_fail (yc_lP hP hS) (yc_lS hP hS) hp kc).resolve_right (fun c => c.1 rfl)
            subst e1
            have hS1 := yc_Sp (q := t) hP (yc_Sf (fb := lb_c p (Int32.ofInt 4)) hP hS)
            have k : nt_rn X _ 93 (64, [(2, .int (nI 2)), (0, .ref Yr), (1, .int (nI i))], [], me_w M (nt_u (nt_u J Rd 2 (lb_c p (Int32.ofInt 4))) Rd 1 (nI t))) _ := k
            have k := ly_revb 1 (c' := (72, [(2, .int (nI 2)), (0, .ref Yr), (1, .int (nI i))], [], me_w M (nt_u (nt_u J Rd 2 (lb_c p (Int32.ofInt 4))) Rd 1 (nI t)))) rfl k
            have k := lz_rv rfl rfl k
            exact ⟨.inl (lb_c p (Int32.ofInt 4)), _, k, Or.inr ⟨2, by decide, hat, hbe, Or.inl ⟨Or.inr (Or.inr hfu), rfl⟩⟩, (lb_c_ne (by omega) (by decide) (by decide)), _, _, hS1⟩
          · have k : nt_rn X _ 93 (53, [(2, .int (nI 2)), (0, .ref Yr), (1, .int (nI i))], [.int (Int32.ofInt 0)], me_w M J) _ := k
            have k := ly_revb 1 (c' := (if (Int32.ofInt 0) = 0 then 67 else 56, [(2, .int (nI 2)), (0, .ref Yr), (1, .int (nI i))], [], me_w M J)) rfl k
            rw [if_pos (show (Int32.ofInt 0) = 0 from by decide)] at k
            have k := ly_revb 2 (c' := (69, [(2, .int (nI 2)), (0, .ref Yr), (1, .int (nI i))], [.int (nI 2), .ref Yr], me_w M J)) rfl k
            obtain ⟨d1, o1, ed, kc, k⟩ := lz_c (g := 96) (q := 1) (vs := [.ref Yr, .int (nI 2)]) (rest := []) rfl rfl (by decide) (Or.inr (Or.inl ⟨_, rfl, rfl⟩)) rfl k
            obtain ⟨r, J9, e1, hpa, hQ⟩ := yc_pa2 hP hS hp hb hat hfu kc
            subst e1
            have k : nt_rn X _ 93 (72, [(2, .int (nI 2)), (0, .ref Yr), (1, .int (nI i))], [], me_w M J9) _ := k
            have k := lz_rv rfl rfl k
            refine ⟨r, _, k, Or.inr ⟨2, by decide, hat, hbe, Or.inr ⟨?_, hpa⟩⟩, yc_Qm (fun v D hh => ⟨2, by decide, hat, hbe, hh⟩) hQ⟩
            intro c; rcases c with c | c | c
            · omega
            · exact c (by omega)
            · exact hfu c
    · have k : nt_rn X _ 93 (4, [(0, .ref Yr), (1, .int (nI i))], [.int (nI 3)], me_w M J) _ := k
      have k := ly_revb 4 (c' := (if (nI 3) = (Int32.ofInt (-1)) then 10 else 21, [(2, .int (nI 3)), (0, .ref Yr), (1, .int (nI i))], [], me_w M J)) rfl k
      rw [if_neg (show ¬ ((nI 3) = (Int32.ofInt (-1))) from me_nm1 (by decide))] at k
      have k := ly_revb 3 (c' := (if (Int32.ofInt 40) ≤ (nI i) then 56 else 27, [(2, .int (nI 3)), (0, .ref Yr), (1, .int (nI i))], [], me_w M J)) rfl k
      by_cases h24 : 40 ≤ i
      · rw [if_pos (show (Int32.ofInt 40) ≤ (nI i) from show nI 40 ≤ nI i from nI_le h24 (by omega))] at k
        have k := ly_revb 1 (c' := (57, [(2, .int (nI 3)), (0, .ref Yr), (1, .int (nI i))], [.ref Yr], me_w M J)) rfl k
        have k := lz_get (a := Yr) (g := 900) (M := me_w M J) (v := .ref Rd) rfl (nt_gfR rfl hP.2.2.1.1) k
        have k := ly_revb 1 (c' := (61, [(2, .int (nI 3)), (0, .ref Yr), (1, .int (nI i))], [.int (Int32.ofInt 4), .ref Rd], me_w M J)) rfl k
        obtain ⟨d1, o1, ed, kc, k⟩ := lz_c (g := 31) (q := 1) (vs := [.ref Rd, .int (Int32.ofInt 4)]) (rest := []) rfl rfl (by decide) (Or.inr (Or.inl ⟨_, rfl, rfl⟩)) rfl k
        obtain ⟨hf, e1⟩ := (lc_fail (yc_lP hP hS) (yc_lS hP hS) hp kc).resolve_right (fun c => c.1 rfl)
        subst e1
        have hS1 := yc_Sp (q := t) hP (yc_Sf (fb := lb_c p (Int32.ofInt 4)) hP hS)
        have k : nt_rn X _ 93 (64, [(2, .int (nI 3)), (0, .ref Yr), (1, .int (nI i))], [], me_w M (nt_u (nt_u J Rd 2 (lb_c p (Int32.ofInt 4))) Rd 1 (nI t))) _ := k
        have k := ly_revb 1 (c' := (72, [(2, .int (nI 3)), (0, .ref Yr), (1, .int (nI i))], [], me_w M (nt_u (nt_u J Rd 2 (lb_c p (Int32.ofInt 4))) Rd 1 (nI t)))) rfl k
        have k := lz_rv rfl rfl k
        exact ⟨.inl (lb_c p (Int32.ofInt 4)), _, k, Or.inr ⟨3, by decide, hat, hbe, Or.inl ⟨Or.inl (by omega), rfl⟩⟩, (lb_c_ne (by omega) (by decide) (by decide)), _, _, hS1⟩
      · rw [if_neg (show ¬ ((Int32.ofInt 40) ≤ (nI i)) from show ¬ nI 40 ≤ nI i from nI_ge (Nat.not_le.mp h24) (by omega))] at k
        have k := ly_revb 2 (c' := (if (nI i) = 0 then 31 else 35, [(2, .int (nI 3)), (0, .ref Yr), (1, .int (nI i))], [], me_w M J)) rfl k
        by_cases h28 : i = 0
        · rw [if_pos (show (nI i) = 0 from show nI i = nI 0 from congrArg nI h28)] at k
          have k := ly_revb 4 (c' := (if (nI 3) = 0 then 40 else 44, [(2, .int (nI 3)), (0, .ref Yr), (1, .int (nI i))], [.int (Int32.ofInt 1)], me_w M J)) rfl k
          rw [if_neg (show ¬ ((nI 3) = 0) from by decide)] at k
          have k := ly_revb 2 (c' := (if (Int32.ofInt 1) = (Int32.ofInt 0) then 48 else 56, [(2, .int (nI 3)), (0, .ref Yr), (1, .int (nI i))], [], me_w M J)) rfl k
          rw [if_neg (show ¬ ((Int32.ofInt 1) = (Int32.ofInt 0)) from by decide)] at k
          have k := ly_revb 1 (c' := (57, [(2, .int (nI 3)), (0, .ref Yr), (1, .int (nI i))], [.ref Yr], me_w M J)) rfl k
          have k := lz_get (a := Yr) (g := 900) (M := me_w M J) (v := .ref Rd) rfl (nt_gfR rfl hP.2.2.1.1) k
          have k := ly_revb 1 (c' := (61, [(2, .int (nI 3)), (0, .ref Yr), (1, .int (nI i))], [.int (Int32.ofInt 4), .ref Rd], me_w M J)) rfl k
          obtain ⟨d1, o1, ed, kc, k⟩ := lz_c (g := 31) (q := 1) (vs := [.ref Rd, .int (Int32.ofInt 4)]) (rest := []) rfl rfl (by decide) (Or.inr (Or.inl ⟨_, rfl, rfl⟩)) rfl k
          obtain ⟨hf, e1⟩ := (lc_fail (yc_lP hP hS) (yc_lS hP hS) hp kc).resolve_right (fun c => c.1 rfl)
          subst e1
          have hS1 := yc_Sp (q := t) hP (yc_Sf (fb := lb_c p (Int32.ofInt 4)) hP hS)
          have k : nt_rn X _ 93 (64, [(2, .int (nI 3)), (0, .ref Yr), (1, .int (nI i))], [], me_w M (nt_u (nt_u J Rd 2 (lb_c p (Int32.ofInt 4))) Rd 1 (nI t))) _ := k
          have k := ly_revb 1 (c' := (72, [(2, .int (nI 3)), (0, .ref Yr), (1, .int (nI i))], [], me_w M (nt_u (nt_u J Rd 2 (lb_c p (Int32.ofInt 4))) Rd 1 (nI t)))) rfl k
          have k := lz_rv rfl rfl k
          exact ⟨.inl (lb_c p (Int32.ofInt 4)), _, k, Or.inr ⟨3, by decide, hat, hbe, Or.inl ⟨Or.inr (Or.inl (by omega)), rfl⟩⟩, (lb_c_ne (by omega) (by decide) (by decide)), _, _, hS1⟩
        · rw [if_neg (show ¬ ((nI i) = 0) from nI_ne0 (Nat.pos_of_ne_zero h28) (by omega))] at k
          have k := ly_revb 3 (c' := (if (nI 3) = 0 then 40 else 44, [(2, .int (nI 3)), (0, .ref Yr), (1, .int (nI i))], [.int (Int32.ofInt 0)], me_w M J)) rfl k
          rw [if_neg (show ¬ ((nI 3) = 0) from by decide)] at k
          have k := ly_revb 2 (c' := (if (Int32.ofInt 0) = (Int32.ofInt 0) then 48 else 56, [(2, .int (nI 3)), (0, .ref Yr), (1, .int (nI i))], [], me_w M J)) rfl k
          rw [if_pos (show (Int32.ofInt 0) = (Int32.ofInt 0) from by decide)] at k
          have k := ly_revb 2 (c' := (50, [(2, .int (nI 3)), (0, .ref Yr), (1, .int (nI i))], [.int (nI 3), .ref Yr], me_w M J)) rfl k
          obtain ⟨d1, o1, ed, kc, k⟩ := lz_c (g := 95) (q := 1) (vs := [.ref Yr, .int (nI 3)]) (rest := []) rfl rfl (by decide) (Or.inr (Or.inl ⟨_, rfl, rfl⟩)) rfl k
          obtain ⟨a, e1, hfu⟩ := yc_fu3 hP hS hb kc
          subst e1
          rcases hfu with ⟨rfl, hfu⟩ | ⟨rfl, hfu⟩
          · have k : nt_rn X _ 93 (53, [(2, .int (nI 3)), (0, .ref Yr), (1, .int (nI i))], [.int (Int32.ofInt 1)], me_w M J) _ := k
            have k := ly_revb 1 (c' := (if (Int32.ofInt 1) = 0 then 67 else 56, [(2, .int (nI 3)), (0, .ref Yr), (1, .int (nI i))], [], me_w M J)) rfl k
            rw [if_neg (show ¬ ((Int32.ofInt 1) = 0) from by decide)] at k
            have k := ly_revb 1 (c' := (57, [(2, .int (nI 3)), (0, .ref Yr), (1, .int (nI i))], [.ref Yr], me_w M J)) rfl k
            have k := lz_get (a := Yr) (g := 900) (M := me_w M J) (v := .ref Rd) rfl (nt_gfR rfl hP.2.2.1.1) k
            have k := ly_revb 1 (c' := (61, [(2, .int (nI 3)), (0, .ref Yr), (1, .int (nI i))], [.int (Int32.ofInt 4), .ref Rd], me_w M J)) rfl k
            obtain ⟨d1, o1, ed, kc, k⟩ := lz_c (g := 31) (q := 1) (vs := [.ref Rd, .int (Int32.ofInt 4)]) (rest := []) rfl rfl (by decide) (Or.inr (Or.inl ⟨_, rfl, rfl⟩)) rfl k
            obtain ⟨hf, e1⟩ := (lc_fail (yc_lP hP hS) (yc_lS hP hS) hp kc).resolve_right (fun c => c.1 rfl)
            subst e1
            have hS1 := yc_Sp (q := t) hP (yc_Sf (fb := lb_c p (Int32.ofInt 4)) hP hS)
            have k : nt_rn X _ 93 (64, [(2, .int (nI 3)), (0, .ref Yr), (1, .int (nI i))], [], me_w M (nt_u (nt_u J Rd 2 (lb_c p (Int32.ofInt 4))) Rd 1 (nI t))) _ := k
            have k := ly_revb 1 (c' := (72, [(2, .int (nI 3)), (0, .ref Yr), (1, .int (nI i))], [], me_w M (nt_u (nt_u J Rd 2 (lb_c p (Int32.ofInt 4))) Rd 1 (nI t)))) rfl k
            have k := lz_rv rfl rfl k
            exact ⟨.inl (lb_c p (Int32.ofInt 4)), _, k, Or.inr ⟨3, by decide, hat, hbe, Or.inl ⟨Or.inr (Or.inr hfu), rfl⟩⟩, (lb_c_ne (by omega) (by decide) (by decide)), _, _, hS1⟩
          · have k : nt_rn X _ 93 (53, [(2, .int (nI 3)), (0, .ref Yr), (1, .int (nI i))], [.int (Int32.ofInt 0)], me_w M J) _ := k
            have k := ly_revb 1 (c' := (if (Int32.ofInt 0) = 0 then 67 else 56, [(2, .int (nI 3)), (0, .ref Yr), (1, .int (nI i))], [], me_w M J)) rfl k
            rw [if_pos (show (Int32.ofInt 0) = 0 from by decide)] at k
            have k := ly_revb 2 (c' := (69, [(2, .int (nI 3)), (0, .ref Yr), (1, .int (nI i))], [.int (nI 3), .ref Yr], me_w M J)) rfl k
            obtain ⟨d1, o1, ed, kc, k⟩ := lz_c (g := 96) (q := 1) (vs := [.ref Yr, .int (nI 3)]) (rest := []) rfl rfl (by decide) (Or.inr (Or.inl ⟨_, rfl, rfl⟩)) rfl k
            obtain ⟨r, J9, e1, hpa, hQ⟩ := yc_pa3 hP hS hp hb hat hfu kc
            subst e1
            have k : nt_rn X _ 93 (72, [(2, .int (nI 3)), (0, .ref Yr), (1, .int (nI i))], [], me_w M J9) _ := k
            have k := lz_rv rfl rfl k
            refine ⟨r, _, k, Or.inr ⟨3, by decide, hat, hbe, Or.inr ⟨?_, hpa⟩⟩, yc_Qm (fun v D hh => ⟨3, by decide, hat, hbe, hh⟩) hQ⟩
            intro c; rcases c with c | c | c
            · omega
            · exact c (by omega)
            · exact hfu c
    · have k : nt_rn X _ 93 (4, [(0, .ref Yr), (1, .int (nI i))], [.int (nI 4)], me_w M J) _ := k
      have k := ly_revb 4 (c' := (if (nI 4) = (Int32.ofInt (-1)) then 10 else 21, [(2, .int (nI 4)), (0, .ref Yr), (1, .int (nI i))], [], me_w M J)) rfl k
      rw [if_neg (show ¬ ((nI 4) = (Int32.ofInt (-1))) from me_nm1 (by decide))] at k
      have k := ly_revb 3 (c' := (if (Int32.ofInt 40) ≤ (nI i) then 56 else 27, [(2, .int (nI 4)), (0, .ref Yr), (1, .int (nI i))], [], me_w M J)) rfl k
      by_cases h24 : 40 ≤ i
      · rw [if_pos (show (Int32.ofInt 40) ≤ (nI i) from show nI 40 ≤ nI i from nI_le h24 (by omega))] at k
        have k := ly_revb 1 (c' := (57, [(2, .int (nI 4)), (0, .ref Yr), (1, .int (nI i))], [.ref Yr], me_w M J)) rfl k
        have k := lz_get (a := Yr) (g := 900) (M := me_w M J) (v := .ref Rd) rfl (nt_gfR rfl hP.2.2.1.1) k
        have k := ly_revb 1 (c' := (61, [(2, .int (nI 4)), (0, .ref Yr), (1, .int (nI i))], [.int (Int32.ofInt 4), .ref Rd], me_w M J)) rfl k
        obtain ⟨d1, o1, ed, kc, k⟩ := lz_c (g := 31) (q := 1) (vs := [.ref Rd, .int (Int32.ofInt 4)]) (rest := []) rfl rfl (by decide) (Or.inr (Or.inl ⟨_, rfl, rfl⟩)) rfl k
        obtain ⟨hf, e1⟩ := (lc_fail (yc_lP hP hS) (yc_lS hP hS) hp kc).resolve_right (fun c => c.1 rfl)
        subst e1
        have hS1 := yc_Sp (q := t) hP (yc_Sf (fb := lb_c p (Int32.ofInt 4)) hP hS)
        have k : nt_rn X _ 93 (64, [(2, .int (nI 4)), (0, .ref Yr), (1, .int (nI i))], [], me_w M (nt_u (nt_u J Rd 2 (lb_c p (Int32.ofInt 4))) Rd 1 (nI t))) _ := k
        have k := ly_revb 1 (c' := (72, [(2, .int (nI 4)), (0, .ref Yr), (1, .int (nI i))], [], me_w M (nt_u (nt_u J Rd 2 (lb_c p (Int32.ofInt 4))) Rd 1 (nI t)))) rfl k
        have k := lz_rv rfl rfl k
        exact ⟨.inl (lb_c p (Int32.ofInt 4)), _, k, Or.inr ⟨4, by decide, hat, hbe, Or.inl ⟨Or.inl (by omega), rfl⟩⟩, (lb_c_ne (by omega) (by decide) (by decide)), _, _, hS1⟩
      · rw [if_neg (show ¬ ((Int32.ofInt 40) ≤ (nI i)) from show ¬ nI 40 ≤ nI i from nI_ge (Nat.not_le.mp h24) (by omega))] at k
        have k := ly_revb 2 (c' := (if (nI i) = 0 then 31 else 35, [(2, .int (nI 4)), (0, .ref Yr), (1, .int (nI i))], [], me_w M J)) rfl k
        by_cases h28 : i = 0
        · rw [if_pos (show (nI i) = 0 from show nI i = nI 0 from congrArg nI h28)] at k
          have k := ly_revb 4 (c' := (if (nI 4) = 0 then 40 else 44, [(2, .int (nI 4)), (0, .ref Yr), (1, .int (nI i))], [.int (Int32.ofInt 1)], me_w M J)) rfl k
          rw [if_neg (show ¬ ((nI 4) = 0) from by decide)] at k
          have k := ly_revb 2 (c' := (if (Int32.ofInt 1) = (Int32.ofInt 0) then 48 else 56, [(2, .int (nI 4)), (0, .ref Yr), (1, .int (nI i))], [], me_w M J)) rfl k
          rw [if_neg (show ¬ ((Int32.ofInt 1) = (Int32.ofInt 0)) from by decide)] at k
          have k := ly_revb 1 (c' := (57, [(2, .int (nI 4)), (0, .ref Yr), (1, .int (nI i))], [.ref Yr], me_w M J)) rfl k
          have k := lz_get (a := Yr) (g := 900) (M := me_w M J) (v := .ref Rd) rfl (nt_gfR rfl hP.2.2.1.1) k
          have k := ly_revb 1 (c' := (61, [(2, .int (nI 4)), (0, .ref Yr), (1, .int (nI i))], [.int (Int32.ofInt 4), .ref Rd], me_w M J)) rfl k
          obtain ⟨d1, o1, ed, kc, k⟩ := lz_c (g := 31) (q := 1) (vs := [.ref Rd, .int (Int32.ofInt 4)]) (rest := []) rfl rfl (by decide) (Or.inr (Or.inl ⟨_, rfl, rfl⟩)) rfl k
          obtain ⟨hf, e1⟩ := (lc_fail (yc_lP hP hS) (yc_lS hP hS) hp kc).resolve_right (fun c => c.1 rfl)
          subst e1
          have hS1 := yc_Sp (q := t) hP (yc_Sf (fb := lb_c p (Int32.ofInt 4)) hP hS)
          have k : nt_rn X _ 93 (64, [(2, .int (nI 4)), (0, .ref Yr), (1, .int (nI i))], [], me_w M (nt_u (nt_u J Rd 2 (lb_c p (Int32.ofInt 4))) Rd 1 (nI t))) _ := k
          have k := ly_revb 1 (c' := (72, [(2, .int (nI 4)), (0, .ref Yr), (1, .int (nI i))], [], me_w M (nt_u (nt_u J Rd 2 (lb_c p (Int32.ofInt 4))) Rd 1 (nI t)))) rfl k
          have k := lz_rv rfl rfl k
          exact ⟨.inl (lb_c p (Int32.ofInt 4)), _, k, Or.inr ⟨4, by decide, hat, hbe, Or.inl ⟨Or.inr (Or.inl (by omega)), rfl⟩⟩, (lb_c_ne (by omega) (by decide) (by decide)), _, _, hS1⟩
        · rw [if_neg (show ¬ ((nI i) = 0) from nI_ne0 (Nat.pos_of_ne_zero h28) (by omega))] at k
          have k := ly_revb 3 (c' := (if (nI 4) = 0 then 40 else 44, [(2, .int (nI 4)), (0, .ref Yr), (1, .int (nI i))], [.int (Int32.ofInt 0)], me_w M J)) rfl k
          rw [if_neg (show ¬ ((nI 4) = 0) from by decide)] at k
          have k := ly_revb 2 (c' := (if (Int32.ofInt 0) = (Int32.ofInt 0) then 48 else 56, [(2, .int (nI 4)), (0, .ref Yr), (1, .int (nI i))], [], me_w M J)) rfl k
          rw [if_pos (show (Int32.ofInt 0) = (Int32.ofInt 0) from by decide)] at k
          have k := ly_revb 2 (c' := (50, [(2, .int (nI 4)), (0, .ref Yr), (1, .int (nI i))], [.int (nI 4), .ref Yr], me_w M J)) rfl k
          obtain ⟨d1, o1, ed, kc, k⟩ := lz_c (g := 95) (q := 1) (vs := [.ref Yr, .int (nI 4)]) (rest := []) rfl rfl (by decide) (Or.inr (Or.inl ⟨_, rfl, rfl⟩)) rfl k
          obtain ⟨a, e1, hfu⟩ := yc_fu4 hP hS hb kc
          subst e1
          rcases hfu with ⟨rfl, hfu⟩ | ⟨rfl, hfu⟩
          · have k : nt_rn X _ 93 (53, [(2, .int (nI 4)), (0, .ref Yr), (1, .int (nI i))], [.int (Int32.ofInt 1)], me_w M J) _ := k
            have k := ly_revb 1 (c' := (if (Int32.ofInt 1) = 0 then 67 else 56, [(2, .int (nI 4)), (0, .ref Yr), (1, .int (nI i))], [], me_w M J)) rfl k
            rw [if_neg (show ¬ ((Int32.ofInt 1) = 0) from by decide)] at k
            have k := ly_revb 1 (c' := (57, [(2, .int (nI 4)), (0, .ref Yr), (1, .int (nI i))], [.ref Yr], me_w M J)) rfl k
            have k := lz_get (a := Yr) (g := 900) (M := me_w M J) (v := .ref Rd) rfl (nt_gfR rfl hP.2.2.1.1) k
            have k := ly_revb 1 (c' := (61, [(2, .int (nI 4)), (0, .ref Yr), (1, .int (nI i))], [.int (Int32.ofInt 4), .ref Rd], me_w M J)) rfl k
            obtain ⟨d1, o1, ed, kc, k⟩ := lz_c (g := 31) (q := 1) (vs := [.ref Rd, .int (Int32.ofInt 4)]) (rest := []) rfl rfl (by decide) (Or.inr (Or.inl ⟨_, rfl, rfl⟩)) rfl k
            obtain ⟨hf, e1⟩ := (lc_fail (yc_lP hP hS) (yc_lS hP hS) hp kc).resolve_right (fun c => c.1 rfl)
            subst e1
            have hS1 := yc_Sp (q := t) hP (yc_Sf (fb := lb_c p (Int32.ofInt 4)) hP hS)
            have k : nt_rn X _ 93 (64, [(2, .int (nI 4)), (0, .ref Yr), (1, .int (nI i))], [], me_w M (nt_u (nt_u J Rd 2 (lb_c p (Int32.ofInt 4))) Rd 1 (nI t))) _ := k
            have k := ly_revb 1 (c' := (72, [(2, .int (nI 4)), (0, .ref Yr), (1, .int (nI i))], [], me_w M (nt_u (nt_u J Rd 2 (lb_c p (Int32.ofInt 4))) Rd 1 (nI t)))) rfl k
            have k := lz_rv rfl rfl k
            exact ⟨.inl (lb_c p (Int32.ofInt 4)), _, k, Or.inr ⟨4, by decide, hat, hbe, Or.inl ⟨Or.inr (Or.inr hfu), rfl⟩⟩, (lb_c_ne (by omega) (by decide) (by decide)), _, _, hS1⟩
          · have k : nt_rn X _ 93 (53, [(2, .int (nI 4)), (0, .ref Yr), (1, .int (nI i))], [.int (Int32.ofInt 0)], me_w M J) _ := k
            have k := ly_revb 1 (c' := (if (Int32.ofInt 0) = 0 then 67 else 56, [(2, .int (nI 4)), (0, .ref Yr), (1, .int (nI i))], [], me_w M J)) rfl k
            rw [if_pos (show (Int32.ofInt 0) = 0 from by decide)] at k
            have k := ly_revb 2 (c' := (69, [(2, .int (nI 4)), (0, .ref Yr), (1, .int (nI i))], [.int (nI 4), .ref Yr], me_w M J)) rfl k
            obtain ⟨d1, o1, ed, kc, k⟩ := lz_c (g := 96) (q := 1) (vs := [.ref Yr, .int (nI 4)]) (rest := []) rfl rfl (by decide) (Or.inr (Or.inl ⟨_, rfl, rfl⟩)) rfl k
            obtain ⟨r, J9, e1, hpa, hQ⟩ := yc_pa4 hP hS hp hb hat hfu kc
            subst e1
            have k : nt_rn X _ 93 (72, [(2, .int (nI 4)), (0, .ref Yr), (1, .int (nI i))], [], me_w M J9) _ := k
            have k := lz_rv rfl rfl k
            refine ⟨r, _, k, Or.inr ⟨4, by decide, hat, hbe, Or.inr ⟨?_, hpa⟩⟩, yc_Qm (fun v D hh => ⟨4, by decide, hat, hbe, hh⟩) hQ⟩
            intro c; rcases c with c | c | c
            · omega
            · exact c (by omega)
            · exact hfu c
  · have k : nt_rn X _ 93 (4, [(0, .ref Yr), (1, .int (nI i))], [.int (Int32.ofInt (-1))], me_w M J) _ := k
    have k := ly_revb 4 (c' := (if (Int32.ofInt (-1)) = (Int32.ofInt (-1)) then 10 else 21, [(2, .int (Int32.ofInt (-1))), (0, .ref Yr), (1, .int (nI i))], [], me_w M J)) rfl k
    rw [if_pos (show (Int32.ofInt (-1)) = (Int32.ofInt (-1)) from rfl)] at k
    have k := ly_revb 1 (c' := (11, [(2, .int (Int32.ofInt (-1))), (0, .ref Yr), (1, .int (nI i))], [.ref Yr], me_w M J)) rfl k
    have k := lz_get (a := Yr) (g := 900) (M := me_w M J) (v := .ref Rd) rfl (nt_gfR rfl hP.2.2.1.1) k
    have k := ly_revb 1 (c' := (15, [(2, .int (Int32.ofInt (-1))), (0, .ref Yr), (1, .int (nI i))], [.int (Int32.ofInt 0), .ref Rd], me_w M J)) rfl k
    obtain ⟨d1, o1, ed, kc, k⟩ := lz_c (g := 31) (q := 1) (vs := [.ref Rd, .int (Int32.ofInt 0)]) (rest := []) rfl rfl (by decide) (Or.inr (Or.inl ⟨_, rfl, rfl⟩)) rfl k
    obtain ⟨hf, e1⟩ := (lc_fail (yc_lP hP hS) (yc_lS hP hS) hp kc).resolve_right (fun c => c.1 rfl)
    subst e1
    have hS1 := yc_Sp (q := t) hP (yc_Sf (fb := lb_c p (Int32.ofInt 0)) hP hS)
    have k : nt_rn X _ 93 (18, [(2, .int (Int32.ofInt (-1))), (0, .ref Yr), (1, .int (nI i))], [], me_w M (nt_u (nt_u J Rd 2 (lb_c p (Int32.ofInt 0))) Rd 1 (nI t))) _ := k
    have k := ly_revb 1 (c' := (72, [(2, .int (Int32.ofInt (-1))), (0, .ref Yr), (1, .int (nI i))], [], me_w M (nt_u (nt_u J Rd 2 (lb_c p (Int32.ofInt 0))) Rd 1 (nI t)))) rfl k
    have k := lz_rv rfl rfl k
    exact ⟨.inl (lb_c p (Int32.ofInt 0)), _, k, Or.inl ⟨hno, rfl⟩, (lb_c_ne (by omega) (by decide) (by decide)), _, _, hS1⟩
def lb_ry : Int32 ⊕ lb_U → Int32
  | .inl c => c
  | .inr _ => 0
def lb_hd (h : Nat) : Nat := if h = 0 then 30 else h
/-- the yard's object holds what was read -/
def yc_R (Rw : Nat → Nat) (Y : Nat) (u : Nat × Nat × Nat × Nat × Nat) (D : lb_C) (J : Nat → Nat → Int32) : Prop := (J Y 0 = nI u.1 ∧ J Y 1 = nI u.2.1 ∧ J Y 2 = nI u.2.2.1 ∧ J Y 3 = nI u.2.2.2.1 ∧ J Y 4 = nI (lb_hd u.2.2.2.2)) ∧ ∀ i, 5 ≤ i → i ≤ 12 → ∀ j, J (Rw i) j = D i j
theorem yc_rdl {X : nt_X} {d t Rd Tp By RR Sp Yr Y m0 s0 : Nat} {Rw : Nat → Nat} {f : Nat → Int32} {M : nt_M} {o : Option Value × nt_M} (hP : yc_P M t Rd Tp By RR Sp Yr Y Rw) : ∀ (c i p : Nat) (u : Nat × Nat × Nat × Nat × Nat) (C : lb_C) (J : Nat → Nat → Int32), i + c = 40 → p ≤ t → lb_ub u → yc_S Rw C f t Rd Tp By RR Y m0 s0 p 0 u J → nt_rn X d 92 (23, [(3, .int (nI i)), (2, .int (Int32.ofInt 1)), (0, .ref Yr), (1, .ref Y)], [], me_w M J) o → ∃ k r J', o = (some (.int (lb_ry r)), me_w M J') ∧ lb_ya f t k i (p, u) r ∧ (∀ u1, r = .inr u1 → lb_ub u1.2 ∧ ∃ k D, lb_yaC f t k i (p, u) u1 C D ∧ yc_R Rw Y u1.2 D J') ∧ (∀ c, r = .inl c → c ≠ 0) := by
  have t4 : t ≤ 400 := hP.2.2.2.2.2.1
  intro c
  induction c with
  | zero =>
    intro i p u C J hc hp hb hS k
    have k := ly_revb 2 (c' := (if (Int32.ofInt 1) = 0 then 52 else 27, [(3, .int (nI i)), (2, .int (Int32.ofInt 1)), (0, .ref Yr), (1, .ref Y)], [], me_w M J)) rfl k
    rw [if_neg (show ¬ ((Int32.ofInt 1) = 0) from by decide)] at k
    have k := ly_revb 3 (c' := (if (Int32.ofInt 40) < (nI i) then 52 else 33, [(3, .int (nI i)), (2, .int (Int32.ofInt 1)), (0, .ref Yr), (1, .ref Y)], [], me_w M J)) rfl k
    rw [if_neg (show ¬ ((Int32.ofInt 40) < (nI i)) from show ¬ nI 40 < nI i from nI_nlt (by omega) (by omega))] at k
    have k := ly_revb 2 (c' := (35, [(3, .int (nI i)), (2, .int (Int32.ofInt 1)), (0, .ref Yr), (1, .ref Y)], [.int (nI i), .ref Yr], me_w M J)) rfl k
    obtain ⟨d1, o1, ed, kc, k⟩ := lz_c (g := 93) (q := 1) (vs := [.ref Yr, .int (nI i)]) (rest := []) rfl rfl (by decide) (Or.inr (Or.inl ⟨_, rfl, rfl⟩)) rfl k
    obtain ⟨r1, J1, e1, hy, hQ⟩ := yc_clause hP hS hp hb (by omega) kc
    subst e1
    rcases r1 with c | u1
    · obtain ⟨hc, u9, D9, hS9⟩ := hQ
      have k : nt_rn X _ 92 (38, [(3, .int (nI i)), (2, .int (Int32.ofInt 1)), (0, .ref Yr), (1, .ref Y)], [], me_w M J1) _ := k
      have k := ly_revb 1 (c' := (39, [(3, .int (nI i)), (2, .int (Int32.ofInt 1)), (0, .ref Yr), (1, .ref Y)], [.ref Yr], me_w M J1)) rfl k
      have k := lz_get (a := Yr) (g := 900) (M := me_w M J1) (v := .ref Rd) rfl (nt_gfR rfl hP.2.2.1.1) k
      obtain ⟨d1, o1, ed, kc, k⟩ := lz_c (g := 35) (q := 1) (vs := [.ref Rd]) (rest := []) rfl rfl (by decide) (Or.inr (Or.inl ⟨_, rfl, rfl⟩)) rfl k
      have hgt : lb_g f t t = Int32.ofInt (-1) := if_neg (by omega)
      have e1 : o1 = (some (.int (Int32.ofInt 0)), me_w M J1) := by
        rcases lc_nextClause (yc_lP hP hS9) (yc_lS hP hS9) (Nat.le_refl t) kc with ⟨q, _⟩ | ⟨_, q⟩ | ⟨_, q, _⟩ | ⟨_, q, _⟩
        · rw [hgt] at q; exact absurd q (by decide)
        · exact q
        · exact absurd hgt q
        · exact absurd hgt q
      subst e1
      have k : nt_rn X _ 92 (45, [(3, .int (nI i)), (2, .int (Int32.ofInt 1)), (0, .ref Yr), (1, .ref Y)], [.int (Int32.ofInt 0)], me_w M J1) _ := k
      have k := ly_revb 2 (c' := (49, [(3, .int ((nI i) + Int32.ofInt 1)), (2, .int (Int32.ofInt 0)), (0, .ref Yr), (1, .ref Y)], [], me_w M J1)) rfl k
      rw [show ((nI i) + Int32.ofInt 1 : Int32) = nI (i + 1) from me_add (k := 1)] at k
      have k := ly_revb 1 (c' := (23, [(3, .int (nI (i + 1))), (2, .int (Int32.ofInt 0)), (0, .ref Yr), (1, .ref Y)], [], me_w M J1)) rfl k
      have k := ly_revb 2 (c' := (if (Int32.ofInt 0) = 0 then 52 else 27, [(3, .int (nI (i + 1))), (2, .int (Int32.ofInt 0)), (0, .ref Yr), (1, .ref Y)], [], me_w M J1)) rfl k
      rw [if_pos (show (Int32.ofInt 0) = 0 from by decide)] at k
      have k := ly_revb 1 (c' := (53, [(3, .int (nI (i + 1))), (2, .int (Int32.ofInt 0)), (0, .ref Yr), (1, .ref Y)], [.ref Yr], me_w M J1)) rfl k
      have k := lz_get (a := Yr) (g := 901) (M := me_w M J1) (v := .ref Y) rfl (nt_gfR rfl hP.2.2.1.2) k
      have k := lz_get (a := Y) (g := 804) (M := me_w M J1) (v := .int (nI u9.2.2.2.2)) rfl (congrArg Value.int (hS9.2.2.1.2.2.2.2)) k
      have k := ly_revb 1 (c' := (if (nI u9.2.2.2.2) = 0 then 62 else 71, [(3, .int (nI (i + 1))), (2, .int (Int32.ofInt 0)), (0, .ref Yr), (1, .ref Y)], [], me_w M J1)) rfl k
      by_cases h59 : nI u9.2.2.2.2 = 0
      · rw [if_pos (show (nI u9.2.2.2.2) = 0 from h59)] at k
        have k := ly_revb 1 (c' := (63, [(3, .int (nI (i + 1))), (2, .int (Int32.ofInt 0)), (0, .ref Yr), (1, .ref Y)], [.ref Yr], me_w M J1)) rfl k
        have k := lz_get (a := Yr) (g := 901) (M := me_w M J1) (v := .ref Y) rfl (nt_gfR rfl hP.2.2.1.2) k
        have k := ly_revb 1 (c' := (68, [(3, .int (nI (i + 1))), (2, .int (Int32.ofInt 0)), (0, .ref Yr), (1, .ref Y)], [.int (Int32.ofInt 30), .ref Y], me_w M J1)) rfl k
        have k := me_put rfl (by decide) k
        have k : nt_rn X _ 92 (71, [(3, .int (nI (i + 1))), (2, .int (Int32.ofInt 0)), (0, .ref Yr), (1, .ref Y)], [], me_w M (nt_u J1 Y 4 (Int32.ofInt 30))) _ := k
        have hS1 := yc_S4 (y := 30) hP hS9
        have k := ly_revb 1 (c' := (72, [(3, .int (nI (i + 1))), (2, .int (Int32.ofInt 0)), (0, .ref Yr), (1, .ref Y)], [.ref Yr], me_w M (nt_u J1 Y 4 (Int32.ofInt 30)))) rfl k
        have k := lz_get (a := Yr) (g := 900) (M := me_w M (nt_u J1 Y 4 (Int32.ofInt 30))) (v := .ref Rd) rfl (nt_gfR rfl hP.2.2.1.1) k
        obtain ⟨d1, o1, ed, kc, k⟩ := lz_c (g := 38) (q := 1) (vs := [.ref Rd]) (rest := []) rfl rfl (by decide) (Or.inr (Or.inl ⟨_, rfl, rfl⟩)) rfl k
        have e1 := lc_fault (yc_lP hP hS1) (yc_lS hP hS1) (Nat.le_refl t) kc
        subst e1
        have k : nt_rn X _ 92 (78, [(3, .int (nI (i + 1))), (2, .int (Int32.ofInt 0)), (0, .ref Yr), (1, .ref Y)], [.int (c)], me_w M (nt_u J1 Y 4 (Int32.ofInt 30))) _ := k
        have k := lz_ri rfl (by decide) k
        exact ⟨1, .inl c, _, k, ⟨_, hy, Or.inl ⟨c, rfl, rfl⟩⟩, fun u1 e => (by cases e), fun c e => (by cases e; exact hc)⟩
      · rw [if_neg (show ¬ ((nI u9.2.2.2.2) = 0) from h59)] at k
        have k := ly_revb 1 (c' := (72, [(3, .int (nI (i + 1))), (2, .int (Int32.ofInt 0)), (0, .ref Yr), (1, .ref Y)], [.ref Yr], me_w M J1)) rfl k
        have k := lz_get (a := Yr) (g := 900) (M := me_w M J1) (v := .ref Rd) rfl (nt_gfR rfl hP.2.2.1.1) k
        obtain ⟨d1, o1, ed, kc, k⟩ := lz_c (g := 38) (q := 1) (vs := [.ref Rd]) (rest := []) rfl rfl (by decide) (Or.inr (Or.inl ⟨_, rfl, rfl⟩)) rfl k
        have e1 := lc_fault (yc_lP hP hS9) (yc_lS hP hS9) (Nat.le_refl t) kc
        subst e1
        have k : nt_rn X _ 92 (78, [(3, .int (nI (i + 1))), (2, .int (Int32.ofInt 0)), (0, .ref Yr), (1, .ref Y)], [.int (c)], me_w M J1) _ := k
        have k := lz_ri rfl (by decide) k
        exact ⟨1, .inl c, _, k, ⟨_, hy, Or.inl ⟨c, rfl, rfl⟩⟩, fun u1 e => (by cases e), fun c e => (by cases e; exact hc)⟩
    · obtain ⟨hp1, hb1, D9, hC9, hS9⟩ := hQ
      have k : nt_rn X _ 92 (38, [(3, .int (nI i)), (2, .int (Int32.ofInt 1)), (0, .ref Yr), (1, .ref Y)], [], me_w M J1) _ := k
      have k := ly_revb 1 (c' := (39, [(3, .int (nI i)), (2, .int (Int32.ofInt 1)), (0, .ref Yr), (1, .ref Y)], [.ref Yr], me_w M J1)) rfl k
      have k := lz_get (a := Yr) (g := 900) (M := me_w M J1) (v := .ref Rd) rfl (nt_gfR rfl hP.2.2.1.1) k
      obtain ⟨d1, o1, ed, kc, k⟩ := lz_c (g := 35) (q := 1) (vs := [.ref Rd]) (rest := []) rfl rfl (by decide) (Or.inr (Or.inl ⟨_, rfl, rfl⟩)) rfl k
      rcases lc_nextClause (yc_lP hP hS9) (yc_lS hP hS9) hp1 kc with ⟨hn, e1⟩ | ⟨hn, e1⟩ | ⟨hn, hn2, _, e1⟩ | ⟨_, _, hf, _⟩
      · have hlt := lb_g_lt (f := f) (t := t) (p := u1.1) (by rw [hn]; decide)
        rw [Nat.min_eq_left (show u1.1 + 1 ≤ t from hlt)] at e1
        subst e1
        have hS1 := yc_Sp (q := lb_s f t (u1.1 + 1)) hP hS9
        have hp2 : lb_s f t (u1.1 + 1) ≤ t := (lb_s_le (t - (u1.1 + 1)) (u1.1 + 1) (by omega)).2
        have k : nt_rn X _ 92 (45, [(3, .int (nI i)), (2, .int (Int32.ofInt 1)), (0, .ref Yr), (1, .ref Y)], [.int (Int32.ofInt 1)], me_w M (nt_u J1 Rd 1 (nI (lb_s f t (u1.1 + 1))))) _ := k
        have k := ly_revb 2 (c' := (49, [(3, .int ((nI i) + Int32.ofInt 1)), (2, .int (Int32.ofInt 1)), (0, .ref Yr), (1, .ref Y)], [], me_w M (nt_u J1 Rd 1 (nI (lb_s f t (u1.1 + 1)))))) rfl k
        rw [show ((nI i) + Int32.ofInt 1 : Int32) = nI (i + 1) from me_add (k := 1)] at k
        have k := ly_revb 1 (c' := (23, [(3, .int (nI (i + 1))), (2, .int (Int32.ofInt 1)), (0, .ref Yr), (1, .ref Y)], [], me_w M (nt_u J1 Rd 1 (nI (lb_s f t (u1.1 + 1)))))) rfl k
        exfalso
        obtain ⟨w, hw, hat, hbe, hh⟩ := hy.resolve_left (fun h => by cases h.2)
        rcases hh with ⟨_, h⟩ | ⟨h, _⟩
        · cases h
        · exact h (Or.inl (by omega))
      · subst e1
        have k : nt_rn X _ 92 (45, [(3, .int (nI i)), (2, .int (Int32.ofInt 1)), (0, .ref Yr), (1, .ref Y)], [.int (Int32.ofInt 0)], me_w M J1) _ := k
        have k := ly_revb 2 (c' := (49, [(3, .int ((nI i) + Int32.ofInt 1)), (2, .int (Int32.ofInt 0)), (0, .ref Yr), (1, .ref Y)], [], me_w M J1)) rfl k
        rw [show ((nI i) + Int32.ofInt 1 : Int32) = nI (i + 1) from me_add (k := 1)] at k
        have k := ly_revb 1 (c' := (23, [(3, .int (nI (i + 1))), (2, .int (Int32.ofInt 0)), (0, .ref Yr), (1, .ref Y)], [], me_w M J1)) rfl k
        have k := ly_revb 2 (c' := (if (Int32.ofInt 0) = 0 then 52 else 27, [(3, .int (nI (i + 1))), (2, .int (Int32.ofInt 0)), (0, .ref Yr), (1, .ref Y)], [], me_w M J1)) rfl k
        rw [if_pos (show (Int32.ofInt 0) = 0 from by decide)] at k
        have k := ly_revb 1 (c' := (53, [(3, .int (nI (i + 1))), (2, .int (Int32.ofInt 0)), (0, .ref Yr), (1, .ref Y)], [.ref Yr], me_w M J1)) rfl k
        have k := lz_get (a := Yr) (g := 901) (M := me_w M J1) (v := .ref Y) rfl (nt_gfR rfl hP.2.2.1.2) k
        have k := lz_get (a := Y) (g := 804) (M := me_w M J1) (v := .int (nI u1.2.2.2.2.2)) rfl (congrArg Value.int (hS9.2.2.1.2.2.2.2)) k
        have k := ly_revb 1 (c' := (if (nI u1.2.2.2.2.2) = 0 then 62 else 71, [(3, .int (nI (i + 1))), (2, .int (Int32.ofInt 0)), (0, .ref Yr), (1, .ref Y)], [], me_w M J1)) rfl k
        by_cases h59 : u1.2.2.2.2.2 = 0
        · rw [if_pos (show (nI u1.2.2.2.2.2) = 0 from show nI u1.2.2.2.2.2 = nI 0 from congrArg nI h59)] at k
          have k := ly_revb 1 (c' := (63, [(3, .int (nI (i + 1))), (2, .int (Int32.ofInt 0)), (0, .ref Yr), (1, .ref Y)], [.ref Yr], me_w M J1)) rfl k
          have k := lz_get (a := Yr) (g := 901) (M := me_w M J1) (v := .ref Y) rfl (nt_gfR rfl hP.2.2.1.2) k
          have k := ly_revb 1 (c' := (68, [(3, .int (nI (i + 1))), (2, .int (Int32.ofInt 0)), (0, .ref Yr), (1, .ref Y)], [.int (Int32.ofInt 30), .ref Y], me_w M J1)) rfl k
          have k := me_put rfl (by decide) k
          have k : nt_rn X _ 92 (71, [(3, .int (nI (i + 1))), (2, .int (Int32.ofInt 0)), (0, .ref Yr), (1, .ref Y)], [], me_w M (nt_u J1 Y 4 (Int32.ofInt 30))) _ := k
          have hS1 := yc_S4 (y := 30) hP hS9
          have k := ly_revb 1 (c' := (72, [(3, .int (nI (i + 1))), (2, .int (Int32.ofInt 0)), (0, .ref Yr), (1, .ref Y)], [.ref Yr], me_w M (nt_u J1 Y 4 (Int32.ofInt 30)))) rfl k
          have k := lz_get (a := Yr) (g := 900) (M := me_w M (nt_u J1 Y 4 (Int32.ofInt 30))) (v := .ref Rd) rfl (nt_gfR rfl hP.2.2.1.1) k
          obtain ⟨d1, o1, ed, kc, k⟩ := lz_c (g := 38) (q := 1) (vs := [.ref Rd]) (rest := []) rfl rfl (by decide) (Or.inr (Or.inl ⟨_, rfl, rfl⟩)) rfl k
          have e1 := lc_fault (yc_lP hP hS1) (yc_lS hP hS1) hp1 kc
          subst e1
          have k : nt_rn X _ 92 (78, [(3, .int (nI (i + 1))), (2, .int (Int32.ofInt 0)), (0, .ref Yr), (1, .ref Y)], [.int ((0 : Int32))], me_w M (nt_u J1 Y 4 (Int32.ofInt 30))) _ := k
          have k := lz_ri rfl (by decide) k
          exact ⟨1, .inr u1, _, k, ⟨_, hy, Or.inr ⟨u1, rfl, Or.inr (Or.inl ⟨hn, rfl⟩)⟩⟩, fun u2 e => (by cases e; exact ⟨hb1, 1, D9, ⟨_, _, hy, hC9, Or.inr ⟨hn, rfl, rfl⟩⟩, ⟨hS1.2.2.1.1, hS1.2.2.1.2.1, hS1.2.2.1.2.2.1, hS1.2.2.1.2.2.2.1, hS1.2.2.1.2.2.2.2.trans (congrArg nI (if_pos h59).symm)⟩, hS1.2.2.2.2⟩), fun c e => (by cases e)⟩
        · rw [if_neg (show ¬ ((nI u1.2.2.2.2.2) = 0) from nI_ne0 (Nat.pos_of_ne_zero h59) (by have := hb1.2.2.2.2; omega))] at k
          have k := ly_revb 1 (c' := (72, [(3, .int (nI (i + 1))), (2, .int (Int32.ofInt 0)), (0, .ref Yr), (1, .ref Y)], [.ref Yr], me_w M J1)) rfl k
          have k := lz_get (a := Yr) (g := 900) (M := me_w M J1) (v := .ref Rd) rfl (nt_gfR rfl hP.2.2.1.1) k
          obtain ⟨d1, o1, ed, kc, k⟩ := lz_c (g := 38) (q := 1) (vs := [.ref Rd]) (rest := []) rfl rfl (by decide) (Or.inr (Or.inl ⟨_, rfl, rfl⟩)) rfl k
          have e1 := lc_fault (yc_lP hP hS9) (yc_lS hP hS9) hp1 kc
          subst e1
          have k : nt_rn X _ 92 (78, [(3, .int (nI (i + 1))), (2, .int (Int32.ofInt 0)), (0, .ref Yr), (1, .ref Y)], [.int ((0 : Int32))], me_w M J1) _ := k
          have k := lz_ri rfl (by decide) k
          exact ⟨1, .inr u1, _, k, ⟨_, hy, Or.inr ⟨u1, rfl, Or.inr (Or.inl ⟨hn, rfl⟩)⟩⟩, fun u2 e => (by cases e; exact ⟨hb1, 1, D9, ⟨_, _, hy, hC9, Or.inr ⟨hn, rfl, rfl⟩⟩, ⟨hS9.2.2.1.1, hS9.2.2.1.2.1, hS9.2.2.1.2.2.1, hS9.2.2.1.2.2.2.1, hS9.2.2.1.2.2.2.2.trans (congrArg nI (if_neg h59).symm)⟩, hS9.2.2.2.2⟩), fun c e => (by cases e)⟩
      · subst e1
        have hS1 := yc_Sp (q := t) hP (yc_Sf (fb := lb_c u1.1 (Int32.ofInt 0)) hP hS9)
        have k : nt_rn X _ 92 (45, [(3, .int (nI i)), (2, .int (Int32.ofInt 1)), (0, .ref Yr), (1, .ref Y)], [.int (Int32.ofInt 0)], me_w M (nt_u (nt_u J1 Rd 2 (lb_c u1.1 (Int32.ofInt 0))) Rd 1 (nI t))) _ := k
        have k := ly_revb 2 (c' := (49, [(3, .int ((nI i) + Int32.ofInt 1)), (2, .int (Int32.ofInt 0)), (0, .ref Yr), (1, .ref Y)], [], me_w M (nt_u (nt_u J1 Rd 2 (lb_c u1.1 (Int32.ofInt 0))) Rd 1 (nI t)))) rfl k
        rw [show ((nI i) + Int32.ofInt 1 : Int32) = nI (i + 1) from me_add (k := 1)] at k
        have k := ly_revb 1 (c' := (23, [(3, .int (nI (i + 1))), (2, .int (Int32.ofInt 0)), (0, .ref Yr), (1, .ref Y)], [], me_w M (nt_u (nt_u J1 Rd 2 (lb_c u1.1 (Int32.ofInt 0))) Rd 1 (nI t)))) rfl k
        have k := ly_revb 2 (c' := (if (Int32.ofInt 0) = 0 then 52 else 27, [(3, .int (nI (i + 1))), (2, .int (Int32.ofInt 0)), (0, .ref Yr), (1, .ref Y)], [], me_w M (nt_u (nt_u J1 Rd 2 (lb_c u1.1 (Int32.ofInt 0))) Rd 1 (nI t)))) rfl k
        rw [if_pos (show (Int32.ofInt 0) = 0 from by decide)] at k
        have k := ly_revb 1 (c' := (53, [(3, .int (nI (i + 1))), (2, .int (Int32.ofInt 0)), (0, .ref Yr), (1, .ref Y)], [.ref Yr], me_w M (nt_u (nt_u J1 Rd 2 (lb_c u1.1 (Int32.ofInt 0))) Rd 1 (nI t)))) rfl k
        have k := lz_get (a := Yr) (g := 901) (M := me_w M (nt_u (nt_u J1 Rd 2 (lb_c u1.1 (Int32.ofInt 0))) Rd 1 (nI t))) (v := .ref Y) rfl (nt_gfR rfl hP.2.2.1.2) k
        have k := lz_get (a := Y) (g := 804) (M := me_w M (nt_u (nt_u J1 Rd 2 (lb_c u1.1 (Int32.ofInt 0))) Rd 1 (nI t))) (v := .int (nI u1.2.2.2.2.2)) rfl (congrArg Value.int (hS1.2.2.1.2.2.2.2)) k
        have k := ly_revb 1 (c' := (if (nI u1.2.2.2.2.2) = 0 then 62 else 71, [(3, .int (nI (i + 1))), (2, .int (Int32.ofInt 0)), (0, .ref Yr), (1, .ref Y)], [], me_w M (nt_u (nt_u J1 Rd 2 (lb_c u1.1 (Int32.ofInt 0))) Rd 1 (nI t)))) rfl k
        by_cases h59 : u1.2.2.2.2.2 = 0
        · rw [if_pos (show (nI u1.2.2.2.2.2) = 0 from show nI u1.2.2.2.2.2 = nI 0 from congrArg nI h59)] at k
          have k := ly_revb 1 (c' := (63, [(3, .int (nI (i + 1))), (2, .int (Int32.ofInt 0)), (0, .ref Yr), (1, .ref Y)], [.ref Yr], me_w M (nt_u (nt_u J1 Rd 2 (lb_c u1.1 (Int32.ofInt 0))) Rd 1 (nI t)))) rfl k
          have k := lz_get (a := Yr) (g := 901) (M := me_w M (nt_u (nt_u J1 Rd 2 (lb_c u1.1 (Int32.ofInt 0))) Rd 1 (nI t))) (v := .ref Y) rfl (nt_gfR rfl hP.2.2.1.2) k
          have k := ly_revb 1 (c' := (68, [(3, .int (nI (i + 1))), (2, .int (Int32.ofInt 0)), (0, .ref Yr), (1, .ref Y)], [.int (Int32.ofInt 30), .ref Y], me_w M (nt_u (nt_u J1 Rd 2 (lb_c u1.1 (Int32.ofInt 0))) Rd 1 (nI t)))) rfl k
          have k := me_put rfl (by decide) k
          have k : nt_rn X _ 92 (71, [(3, .int (nI (i + 1))), (2, .int (Int32.ofInt 0)), (0, .ref Yr), (1, .ref Y)], [], me_w M (nt_u (nt_u (nt_u J1 Rd 2 (lb_c u1.1 (Int32.ofInt 0))) Rd 1 (nI t)) Y 4 (Int32.ofInt 30))) _ := k
          have hS2 := yc_S4 (y := 30) hP hS1
          have k := ly_revb 1 (c' := (72, [(3, .int (nI (i + 1))), (2, .int (Int32.ofInt 0)), (0, .ref Yr), (1, .ref Y)], [.ref Yr], me_w M (nt_u (nt_u (nt_u J1 Rd 2 (lb_c u1.1 (Int32.ofInt 0))) Rd 1 (nI t)) Y 4 (Int32.ofInt 30)))) rfl k
          have k := lz_get (a := Yr) (g := 900) (M := me_w M (nt_u (nt_u (nt_u J1 Rd 2 (lb_c u1.1 (Int32.ofInt 0))) Rd 1 (nI t)) Y 4 (Int32.ofInt 30))) (v := .ref Rd) rfl (nt_gfR rfl hP.2.2.1.1) k
          obtain ⟨d1, o1, ed, kc, k⟩ := lz_c (g := 38) (q := 1) (vs := [.ref Rd]) (rest := []) rfl rfl (by decide) (Or.inr (Or.inl ⟨_, rfl, rfl⟩)) rfl k
          have e1 := lc_fault (yc_lP hP hS2) (yc_lS hP hS2) (Nat.le_refl t) kc
          subst e1
          have k : nt_rn X _ 92 (78, [(3, .int (nI (i + 1))), (2, .int (Int32.ofInt 0)), (0, .ref Yr), (1, .ref Y)], [.int (lb_c u1.1 (Int32.ofInt 0))], me_w M (nt_u (nt_u (nt_u J1 Rd 2 (lb_c u1.1 (Int32.ofInt 0))) Rd 1 (nI t)) Y 4 (Int32.ofInt 30))) _ := k
          have k := lz_ri rfl (by decide) k
          exact ⟨1, .inl (lb_c u1.1 (Int32.ofInt 0)), _, k, ⟨_, hy, Or.inr ⟨u1, rfl, Or.inr (Or.inr ⟨hn, hn2, rfl⟩)⟩⟩, fun u1 e => (by cases e), fun c e => (by cases e; exact (lb_c_ne (by omega) (by decide) (by decide)))⟩
        · rw [if_neg (show ¬ ((nI u1.2.2.2.2.2) = 0) from nI_ne0 (Nat.pos_of_ne_zero h59) (by have := hb1.2.2.2.2; omega))] at k
          have k := ly_revb 1 (c' := (72, [(3, .int (nI (i + 1))), (2, .int (Int32.ofInt 0)), (0, .ref Yr), (1, .ref Y)], [.ref Yr], me_w M (nt_u (nt_u J1 Rd 2 (lb_c u1.1 (Int32.ofInt 0))) Rd 1 (nI t)))) rfl k
          have k := lz_get (a := Yr) (g := 900) (M := me_w M (nt_u (nt_u J1 Rd 2 (lb_c u1.1 (Int32.ofInt 0))) Rd 1 (nI t))) (v := .ref Rd) rfl (nt_gfR rfl hP.2.2.1.1) k
          obtain ⟨d1, o1, ed, kc, k⟩ := lz_c (g := 38) (q := 1) (vs := [.ref Rd]) (rest := []) rfl rfl (by decide) (Or.inr (Or.inl ⟨_, rfl, rfl⟩)) rfl k
          have e1 := lc_fault (yc_lP hP hS1) (yc_lS hP hS1) (Nat.le_refl t) kc
          subst e1
          have k : nt_rn X _ 92 (78, [(3, .int (nI (i + 1))), (2, .int (Int32.ofInt 0)), (0, .ref Yr), (1, .ref Y)], [.int (lb_c u1.1 (Int32.ofInt 0))], me_w M (nt_u (nt_u J1 Rd 2 (lb_c u1.1 (Int32.ofInt 0))) Rd 1 (nI t))) _ := k
          have k := lz_ri rfl (by decide) k
          exact ⟨1, .inl (lb_c u1.1 (Int32.ofInt 0)), _, k, ⟨_, hy, Or.inr ⟨u1, rfl, Or.inr (Or.inr ⟨hn, hn2, rfl⟩)⟩⟩, fun u1 e => (by cases e), fun c e => (by cases e; exact (lb_c_ne (by omega) (by decide) (by decide)))⟩
      · exact absurd rfl hf
  | succ c ih =>
    intro i p u C J hc hp hb hS k
    have k := ly_revb 2 (c' := (if (Int32.ofInt 1) = 0 then 52 else 27, [(3, .int (nI i)), (2, .int (Int32.ofInt 1)), (0, .ref Yr), (1, .ref Y)], [], me_w M J)) rfl k
    rw [if_neg (show ¬ ((Int32.ofInt 1) = 0) from by decide)] at k
    have k := ly_revb 3 (c' := (if (Int32.ofInt 40) < (nI i) then 52 else 33, [(3, .int (nI i)), (2, .int (Int32.ofInt 1)), (0, .ref Yr), (1, .ref Y)], [], me_w M J)) rfl k
    rw [if_neg (show ¬ ((Int32.ofInt 40) < (nI i)) from show ¬ nI 40 < nI i from nI_nlt (by omega) (by omega))] at k
    have k := ly_revb 2 (c' := (35, [(3, .int (nI i)), (2, .int (Int32.ofInt 1)), (0, .ref Yr), (1, .ref Y)], [.int (nI i), .ref Yr], me_w M J)) rfl k
    obtain ⟨d1, o1, ed, kc, k⟩ := lz_c (g := 93) (q := 1) (vs := [.ref Yr, .int (nI i)]) (rest := []) rfl rfl (by decide) (Or.inr (Or.inl ⟨_, rfl, rfl⟩)) rfl k
    obtain ⟨r1, J1, e1, hy, hQ⟩ := yc_clause hP hS hp hb (by omega) kc
    subst e1
    rcases r1 with c | u1
    · obtain ⟨hc, u9, D9, hS9⟩ := hQ
      have k : nt_rn X _ 92 (38, [(3, .int (nI i)), (2, .int (Int32.ofInt 1)), (0, .ref Yr), (1, .ref Y)], [], me_w M J1) _ := k
      have k := ly_revb 1 (c' := (39, [(3, .int (nI i)), (2, .int (Int32.ofInt 1)), (0, .ref Yr), (1, .ref Y)], [.ref Yr], me_w M J1)) rfl k
      have k := lz_get (a := Yr) (g := 900) (M := me_w M J1) (v := .ref Rd) rfl (nt_gfR rfl hP.2.2.1.1) k
      obtain ⟨d1, o1, ed, kc, k⟩ := lz_c (g := 35) (q := 1) (vs := [.ref Rd]) (rest := []) rfl rfl (by decide) (Or.inr (Or.inl ⟨_, rfl, rfl⟩)) rfl k
      have hgt : lb_g f t t = Int32.ofInt (-1) := if_neg (by omega)
      have e1 : o1 = (some (.int (Int32.ofInt 0)), me_w M J1) := by
        rcases lc_nextClause (yc_lP hP hS9) (yc_lS hP hS9) (Nat.le_refl t) kc with ⟨q, _⟩ | ⟨_, q⟩ | ⟨_, q, _⟩ | ⟨_, q, _⟩
        · rw [hgt] at q; exact absurd q (by decide)
        · exact q
        · exact absurd hgt q
        · exact absurd hgt q
      subst e1
      have k : nt_rn X _ 92 (45, [(3, .int (nI i)), (2, .int (Int32.ofInt 1)), (0, .ref Yr), (1, .ref Y)], [.int (Int32.ofInt 0)], me_w M J1) _ := k
      have k := ly_revb 2 (c' := (49, [(3, .int ((nI i) + Int32.ofInt 1)), (2, .int (Int32.ofInt 0)), (0, .ref Yr), (1, .ref Y)], [], me_w M J1)) rfl k
      rw [show ((nI i) + Int32.ofInt 1 : Int32) = nI (i + 1) from me_add (k := 1)] at k
      have k := ly_revb 1 (c' := (23, [(3, .int (nI (i + 1))), (2, .int (Int32.ofInt 0)), (0, .ref Yr), (1, .ref Y)], [], me_w M J1)) rfl k
      have k := ly_revb 2 (c' := (if (Int32.ofInt 0) = 0 then 52 else 27, [(3, .int (nI (i + 1))), (2, .int (Int32.ofInt 0)), (0, .ref Yr), (1, .ref Y)], [], me_w M J1)) rfl k
      rw [if_pos (show (Int32.ofInt 0) = 0 from by decide)] at k
      have k := ly_revb 1 (c' := (53, [(3, .int (nI (i + 1))), (2, .int (Int32.ofInt 0)), (0, .ref Yr), (1, .ref Y)], [.ref Yr], me_w M J1)) rfl k
      have k := lz_get (a := Yr) (g := 901) (M := me_w M J1) (v := .ref Y) rfl (nt_gfR rfl hP.2.2.1.2) k
      have k := lz_get (a := Y) (g := 804) (M := me_w M J1) (v := .int (nI u9.2.2.2.2)) rfl (congrArg Value.int (hS9.2.2.1.2.2.2.2)) k
      have k := ly_revb 1 (c' := (if (nI u9.2.2.2.2) = 0 then 62 else 71, [(3, .int (nI (i + 1))), (2, .int (Int32.ofInt 0)), (0, .ref Yr), (1, .ref Y)], [], me_w M J1)) rfl k
      by_cases h59 : nI u9.2.2.2.2 = 0
      · rw [if_pos (show (nI u9.2.2.2.2) = 0 from h59)] at k
        have k := ly_revb 1 (c' := (63, [(3, .int (nI (i + 1))), (2, .int (Int32.ofInt 0)), (0, .ref Yr), (1, .ref Y)], [.ref Yr], me_w M J1)) rfl k
        have k := lz_get (a := Yr) (g := 901) (M := me_w M J1) (v := .ref Y) rfl (nt_gfR rfl hP.2.2.1.2) k
        have k := ly_revb 1 (c' := (68, [(3, .int (nI (i + 1))), (2, .int (Int32.ofInt 0)), (0, .ref Yr), (1, .ref Y)], [.int (Int32.ofInt 30), .ref Y], me_w M J1)) rfl k
        have k := me_put rfl (by decide) k
        have k : nt_rn X _ 92 (71, [(3, .int (nI (i + 1))), (2, .int (Int32.ofInt 0)), (0, .ref Yr), (1, .ref Y)], [], me_w M (nt_u J1 Y 4 (Int32.ofInt 30))) _ := k
        have hS1 := yc_S4 (y := 30) hP hS9
        have k := ly_revb 1 (c' := (72, [(3, .int (nI (i + 1))), (2, .int (Int32.ofInt 0)), (0, .ref Yr), (1, .ref Y)], [.ref Yr], me_w M (nt_u J1 Y 4 (Int32.ofInt 30)))) rfl k
        have k := lz_get (a := Yr) (g := 900) (M := me_w M (nt_u J1 Y 4 (Int32.ofInt 30))) (v := .ref Rd) rfl (nt_gfR rfl hP.2.2.1.1) k
        obtain ⟨d1, o1, ed, kc, k⟩ := lz_c (g := 38) (q := 1) (vs := [.ref Rd]) (rest := []) rfl rfl (by decide) (Or.inr (Or.inl ⟨_, rfl, rfl⟩)) rfl k
        have e1 := lc_fault (yc_lP hP hS1) (yc_lS hP hS1) (Nat.le_refl t) kc
        subst e1
        have k : nt_rn X _ 92 (78, [(3, .int (nI (i + 1))), (2, .int (Int32.ofInt 0)), (0, .ref Yr), (1, .ref Y)], [.int (c)], me_w M (nt_u J1 Y 4 (Int32.ofInt 30))) _ := k
        have k := lz_ri rfl (by decide) k
        exact ⟨1, .inl c, _, k, ⟨_, hy, Or.inl ⟨c, rfl, rfl⟩⟩, fun u1 e => (by cases e), fun c e => (by cases e; exact hc)⟩
      · rw [if_neg (show ¬ ((nI u9.2.2.2.2) = 0) from h59)] at k
        have k := ly_revb 1 (c' := (72, [(3, .int (nI (i + 1))), (2, .int (Int32.ofInt 0)), (0, .ref Yr), (1, .ref Y)], [.ref Yr], me_w M J1)) rfl k
        have k := lz_get (a := Yr) (g := 900) (M := me_w M J1) (v := .ref Rd) rfl (nt_gfR rfl hP.2.2.1.1) k
        obtain ⟨d1, o1, ed, kc, k⟩ := lz_c (g := 38) (q := 1) (vs := [.ref Rd]) (rest := []) rfl rfl (by decide) (Or.inr (Or.inl ⟨_, rfl, rfl⟩)) rfl k
        have e1 := lc_fault (yc_lP hP hS9) (yc_lS hP hS9) (Nat.le_refl t) kc
        subst e1
        have k : nt_rn X _ 92 (78, [(3, .int (nI (i + 1))), (2, .int (Int32.ofInt 0)), (0, .ref Yr), (1, .ref Y)], [.int (c)], me_w M J1) _ := k
        have k := lz_ri rfl (by decide) k
        exact ⟨1, .inl c, _, k, ⟨_, hy, Or.inl ⟨c, rfl, rfl⟩⟩, fun u1 e => (by cases e), fun c e => (by cases e; exact hc)⟩
    · obtain ⟨hp1, hb1, D9, hC9, hS9⟩ := hQ
      have k : nt_rn X _ 92 (38, [(3, .int (nI i)), (2, .int (Int32.ofInt 1)), (0, .ref Yr), (1, .ref Y)], [], me_w M J1) _ := k
      have k := ly_revb 1 (c' := (39, [(3, .int (nI i)), (2, .int (Int32.ofInt 1)), (0, .ref Yr), (1, .ref Y)], [.ref Yr], me_w M J1)) rfl k
      have k := lz_get (a := Yr) (g := 900) (M := me_w M J1) (v := .ref Rd) rfl (nt_gfR rfl hP.2.2.1.1) k
      obtain ⟨d1, o1, ed, kc, k⟩ := lz_c (g := 35) (q := 1) (vs := [.ref Rd]) (rest := []) rfl rfl (by decide) (Or.inr (Or.inl ⟨_, rfl, rfl⟩)) rfl k
      rcases lc_nextClause (yc_lP hP hS9) (yc_lS hP hS9) hp1 kc with ⟨hn, e1⟩ | ⟨hn, e1⟩ | ⟨hn, hn2, _, e1⟩ | ⟨_, _, hf, _⟩
      · have hlt := lb_g_lt (f := f) (t := t) (p := u1.1) (by rw [hn]; decide)
        rw [Nat.min_eq_left (show u1.1 + 1 ≤ t from hlt)] at e1
        subst e1
        have hS1 := yc_Sp (q := lb_s f t (u1.1 + 1)) hP hS9
        have hp2 : lb_s f t (u1.1 + 1) ≤ t := (lb_s_le (t - (u1.1 + 1)) (u1.1 + 1) (by omega)).2
        have k : nt_rn X _ 92 (45, [(3, .int (nI i)), (2, .int (Int32.ofInt 1)), (0, .ref Yr), (1, .ref Y)], [.int (Int32.ofInt 1)], me_w M (nt_u J1 Rd 1 (nI (lb_s f t (u1.1 + 1))))) _ := k
        have k := ly_revb 2 (c' := (49, [(3, .int ((nI i) + Int32.ofInt 1)), (2, .int (Int32.ofInt 1)), (0, .ref Yr), (1, .ref Y)], [], me_w M (nt_u J1 Rd 1 (nI (lb_s f t (u1.1 + 1)))))) rfl k
        rw [show ((nI i) + Int32.ofInt 1 : Int32) = nI (i + 1) from me_add (k := 1)] at k
        have k := ly_revb 1 (c' := (23, [(3, .int (nI (i + 1))), (2, .int (Int32.ofInt 1)), (0, .ref Yr), (1, .ref Y)], [], me_w M (nt_u J1 Rd 1 (nI (lb_s f t (u1.1 + 1)))))) rfl k
        obtain ⟨k9, r, J', e9, hya, hf1, hf2⟩ := ih (i + 1) (lb_s f t (u1.1 + 1)) u1.2 _ _ (by omega) hp2 hb1 hS1 k
        exact ⟨k9 + 1, r, J', e9, ⟨_, hy, Or.inr ⟨u1, rfl, Or.inl ⟨hn, hya⟩⟩⟩, fun u2 e2 => (fun ⟨x0, k0, D0, x1, x2⟩ => ⟨x0, k0 + 1, D0, ⟨_, _, hy, hC9, Or.inl ⟨hn, x1⟩⟩, x2⟩) (hf1 u2 e2), hf2⟩
      · subst e1
        have k : nt_rn X _ 92 (45, [(3, .int (nI i)), (2, .int (Int32.ofInt 1)), (0, .ref Yr), (1, .ref Y)], [.int (Int32.ofInt 0)], me_w M J1) _ := k
        have k := ly_revb 2 (c' := (49, [(3, .int ((nI i) + Int32.ofInt 1)), (2, .int (Int32.ofInt 0)), (0, .ref Yr), (1, .ref Y)], [], me_w M J1)) rfl k
        rw [show ((nI i) + Int32.ofInt 1 : Int32) = nI (i + 1) from me_add (k := 1)] at k
        have k := ly_revb 1 (c' := (23, [(3, .int (nI (i + 1))), (2, .int (Int32.ofInt 0)), (0, .ref Yr), (1, .ref Y)], [], me_w M J1)) rfl k
        have k := ly_revb 2 (c' := (if (Int32.ofInt 0) = 0 then 52 else 27, [(3, .int (nI (i + 1))), (2, .int (Int32.ofInt 0)), (0, .ref Yr), (1, .ref Y)], [], me_w M J1)) rfl k
        rw [if_pos (show (Int32.ofInt 0) = 0 from by decide)] at k
        have k := ly_revb 1 (c' := (53, [(3, .int (nI (i + 1))), (2, .int (Int32.ofInt 0)), (0, .ref Yr), (1, .ref Y)], [.ref Yr], me_w M J1)) rfl k
        have k := lz_get (a := Yr) (g := 901) (M := me_w M J1) (v := .ref Y) rfl (nt_gfR rfl hP.2.2.1.2) k
        have k := lz_get (a := Y) (g := 804) (M := me_w M J1) (v := .int (nI u1.2.2.2.2.2)) rfl (congrArg Value.int (hS9.2.2.1.2.2.2.2)) k
        have k := ly_revb 1 (c' := (if (nI u1.2.2.2.2.2) = 0 then 62 else 71, [(3, .int (nI (i + 1))), (2, .int (Int32.ofInt 0)), (0, .ref Yr), (1, .ref Y)], [], me_w M J1)) rfl k
        by_cases h59 : u1.2.2.2.2.2 = 0
        · rw [if_pos (show (nI u1.2.2.2.2.2) = 0 from show nI u1.2.2.2.2.2 = nI 0 from congrArg nI h59)] at k
          have k := ly_revb 1 (c' := (63, [(3, .int (nI (i + 1))), (2, .int (Int32.ofInt 0)), (0, .ref Yr), (1, .ref Y)], [.ref Yr], me_w M J1)) rfl k
          have k := lz_get (a := Yr) (g := 901) (M := me_w M J1) (v := .ref Y) rfl (nt_gfR rfl hP.2.2.1.2) k
          have k := ly_revb 1 (c' := (68, [(3, .int (nI (i + 1))), (2, .int (Int32.ofInt 0)), (0, .ref Yr), (1, .ref Y)], [.int (Int32.ofInt 30), .ref Y], me_w M J1)) rfl k
          have k := me_put rfl (by decide) k
          have k : nt_rn X _ 92 (71, [(3, .int (nI (i + 1))), (2, .int (Int32.ofInt 0)), (0, .ref Yr), (1, .ref Y)], [], me_w M (nt_u J1 Y 4 (Int32.ofInt 30))) _ := k
          have hS1 := yc_S4 (y := 30) hP hS9
          have k := ly_revb 1 (c' := (72, [(3, .int (nI (i + 1))), (2, .int (Int32.ofInt 0)), (0, .ref Yr), (1, .ref Y)], [.ref Yr], me_w M (nt_u J1 Y 4 (Int32.ofInt 30)))) rfl k
          have k := lz_get (a := Yr) (g := 900) (M := me_w M (nt_u J1 Y 4 (Int32.ofInt 30))) (v := .ref Rd) rfl (nt_gfR rfl hP.2.2.1.1) k
          obtain ⟨d1, o1, ed, kc, k⟩ := lz_c (g := 38) (q := 1) (vs := [.ref Rd]) (rest := []) rfl rfl (by decide) (Or.inr (Or.inl ⟨_, rfl, rfl⟩)) rfl k
          have e1 := lc_fault (yc_lP hP hS1) (yc_lS hP hS1) hp1 kc
          subst e1
          have k : nt_rn X _ 92 (78, [(3, .int (nI (i + 1))), (2, .int (Int32.ofInt 0)), (0, .ref Yr), (1, .ref Y)], [.int ((0 : Int32))], me_w M (nt_u J1 Y 4 (Int32.ofInt 30))) _ := k
          have k := lz_ri rfl (by decide) k
          exact ⟨1, .inr u1, _, k, ⟨_, hy, Or.inr ⟨u1, rfl, Or.inr (Or.inl ⟨hn, rfl⟩)⟩⟩, fun u2 e => (by cases e; exact ⟨hb1, 1, D9, ⟨_, _, hy, hC9, Or.inr ⟨hn, rfl, rfl⟩⟩, ⟨hS1.2.2.1.1, hS1.2.2.1.2.1, hS1.2.2.1.2.2.1, hS1.2.2.1.2.2.2.1, hS1.2.2.1.2.2.2.2.trans (congrArg nI (if_pos h59).symm)⟩, hS1.2.2.2.2⟩), fun c e => (by cases e)⟩
        · rw [if_neg (show ¬ ((nI u1.2.2.2.2.2) = 0) from nI_ne0 (Nat.pos_of_ne_zero h59) (by have := hb1.2.2.2.2; omega))] at k
          have k := ly_revb 1 (c' := (72, [(3, .int (nI (i + 1))), (2, .int (Int32.ofInt 0)), (0, .ref Yr), (1, .ref Y)], [.ref Yr], me_w M J1)) rfl k
          have k := lz_get (a := Yr) (g := 900) (M := me_w M J1) (v := .ref Rd) rfl (nt_gfR rfl hP.2.2.1.1) k
          obtain ⟨d1, o1, ed, kc, k⟩ := lz_c (g := 38) (q := 1) (vs := [.ref Rd]) (rest := []) rfl rfl (by decide) (Or.inr (Or.inl ⟨_, rfl, rfl⟩)) rfl k
          have e1 := lc_fault (yc_lP hP hS9) (yc_lS hP hS9) hp1 kc
          subst e1
          have k : nt_rn X _ 92 (78, [(3, .int (nI (i + 1))), (2, .int (Int32.ofInt 0)), (0, .ref Yr), (1, .ref Y)], [.int ((0 : Int32))], me_w M J1) _ := k
          have k := lz_ri rfl (by decide) k
          exact ⟨1, .inr u1, _, k, ⟨_, hy, Or.inr ⟨u1, rfl, Or.inr (Or.inl ⟨hn, rfl⟩)⟩⟩, fun u2 e => (by cases e; exact ⟨hb1, 1, D9, ⟨_, _, hy, hC9, Or.inr ⟨hn, rfl, rfl⟩⟩, ⟨hS9.2.2.1.1, hS9.2.2.1.2.1, hS9.2.2.1.2.2.1, hS9.2.2.1.2.2.2.1, hS9.2.2.1.2.2.2.2.trans (congrArg nI (if_neg h59).symm)⟩, hS9.2.2.2.2⟩), fun c e => (by cases e)⟩
      · subst e1
        have hS1 := yc_Sp (q := t) hP (yc_Sf (fb := lb_c u1.1 (Int32.ofInt 0)) hP hS9)
        have k : nt_rn X _ 92 (45, [(3, .int (nI i)), (2, .int (Int32.ofInt 1)), (0, .ref Yr), (1, .ref Y)], [.int (Int32.ofInt 0)], me_w M (nt_u (nt_u J1 Rd 2 (lb_c u1.1 (Int32.ofInt 0))) Rd 1 (nI t))) _ := k
        have k := ly_revb 2 (c' := (49, [(3, .int ((nI i) + Int32.ofInt 1)), (2, .int (Int32.ofInt 0)), (0, .ref Yr), (1, .ref Y)], [], me_w M (nt_u (nt_u J1 Rd 2 (lb_c u1.1 (Int32.ofInt 0))) Rd 1 (nI t)))) rfl k
        rw [show ((nI i) + Int32.ofInt 1 : Int32) = nI (i + 1) from me_add (k := 1)] at k
        have k := ly_revb 1 (c' := (23, [(3, .int (nI (i + 1))), (2, .int (Int32.ofInt 0)), (0, .ref Yr), (1, .ref Y)], [], me_w M (nt_u (nt_u J1 Rd 2 (lb_c u1.1 (Int32.ofInt 0))) Rd 1 (nI t)))) rfl k
        have k := ly_revb 2 (c' := (if (Int32.ofInt 0) = 0 then 52 else 27, [(3, .int (nI (i + 1))), (2, .int (Int32.ofInt 0)), (0, .ref Yr), (1, .ref Y)], [], me_w M (nt_u (nt_u J1 Rd 2 (lb_c u1.1 (Int32.ofInt 0))) Rd 1 (nI t)))) rfl k
        rw [if_pos (show (Int32.ofInt 0) = 0 from by decide)] at k
        have k := ly_revb 1 (c' := (53, [(3, .int (nI (i + 1))), (2, .int (Int32.ofInt 0)), (0, .ref Yr), (1, .ref Y)], [.ref Yr], me_w M (nt_u (nt_u J1 Rd 2 (lb_c u1.1 (Int32.ofInt 0))) Rd 1 (nI t)))) rfl k
        have k := lz_get (a := Yr) (g := 901) (M := me_w M (nt_u (nt_u J1 Rd 2 (lb_c u1.1 (Int32.ofInt 0))) Rd 1 (nI t))) (v := .ref Y) rfl (nt_gfR rfl hP.2.2.1.2) k
        have k := lz_get (a := Y) (g := 804) (M := me_w M (nt_u (nt_u J1 Rd 2 (lb_c u1.1 (Int32.ofInt 0))) Rd 1 (nI t))) (v := .int (nI u1.2.2.2.2.2)) rfl (congrArg Value.int (hS1.2.2.1.2.2.2.2)) k
        have k := ly_revb 1 (c' := (if (nI u1.2.2.2.2.2) = 0 then 62 else 71, [(3, .int (nI (i + 1))), (2, .int (Int32.ofInt 0)), (0, .ref Yr), (1, .ref Y)], [], me_w M (nt_u (nt_u J1 Rd 2 (lb_c u1.1 (Int32.ofInt 0))) Rd 1 (nI t)))) rfl k
        by_cases h59 : u1.2.2.2.2.2 = 0
        · rw [if_pos (show (nI u1.2.2.2.2.2) = 0 from show nI u1.2.2.2.2.2 = nI 0 from congrArg nI h59)] at k
          have k := ly_revb 1 (c' := (63, [(3, .int (nI (i + 1))), (2, .int (Int32.ofInt 0)), (0, .ref Yr), (1, .ref Y)], [.ref Yr], me_w M (nt_u (nt_u J1 Rd 2 (lb_c u1.1 (Int32.ofInt 0))) Rd 1 (nI t)))) rfl k
          have k := lz_get (a := Yr) (g := 901) (M := me_w M (nt_u (nt_u J1 Rd 2 (lb_c u1.1 (Int32.ofInt 0))) Rd 1 (nI t))) (v := .ref Y) rfl (nt_gfR rfl hP.2.2.1.2) k
          have k := ly_revb 1 (c' := (68, [(3, .int (nI (i + 1))), (2, .int (Int32.ofInt 0)), (0, .ref Yr), (1, .ref Y)], [.int (Int32.ofInt 30), .ref Y], me_w M (nt_u (nt_u J1 Rd 2 (lb_c u1.1 (Int32.ofInt 0))) Rd 1 (nI t)))) rfl k
          have k := me_put rfl (by decide) k
          have k : nt_rn X _ 92 (71, [(3, .int (nI (i + 1))), (2, .int (Int32.ofInt 0)), (0, .ref Yr), (1, .ref Y)], [], me_w M (nt_u (nt_u (nt_u J1 Rd 2 (lb_c u1.1 (Int32.ofInt 0))) Rd 1 (nI t)) Y 4 (Int32.ofInt 30))) _ := k
          have hS2 := yc_S4 (y := 30) hP hS1
          have k := ly_revb 1 (c' := (72, [(3, .int (nI (i + 1))), (2, .int (Int32.ofInt 0)), (0, .ref Yr), (1, .ref Y)], [.ref Yr], me_w M (nt_u (nt_u (nt_u J1 Rd 2 (lb_c u1.1 (Int32.ofInt 0))) Rd 1 (nI t)) Y 4 (Int32.ofInt 30)))) rfl k
          have k := lz_get (a := Yr) (g := 900) (M := me_w M (nt_u (nt_u (nt_u J1 Rd 2 (lb_c u1.1 (Int32.ofInt 0))) Rd 1 (nI t)) Y 4 (Int32.ofInt 30))) (v := .ref Rd) rfl (nt_gfR rfl hP.2.2.1.1) k
          obtain ⟨d1, o1, ed, kc, k⟩ := lz_c (g := 38) (q := 1) (vs := [.ref Rd]) (rest := []) rfl rfl (by decide) (Or.inr (Or.inl ⟨_, rfl, rfl⟩)) rfl k
          have e1 := lc_fault (yc_lP hP hS2) (yc_lS hP hS2) (Nat.le_refl t) kc
          subst e1
          have k : nt_rn X _ 92 (78, [(3, .int (nI (i + 1))), (2, .int (Int32.ofInt 0)), (0, .ref Yr), (1, .ref Y)], [.int (lb_c u1.1 (Int32.ofInt 0))], me_w M (nt_u (nt_u (nt_u J1 Rd 2 (lb_c u1.1 (Int32.ofInt 0))) Rd 1 (nI t)) Y 4 (Int32.ofInt 30))) _ := k
          have k := lz_ri rfl (by decide) k
          exact ⟨1, .inl (lb_c u1.1 (Int32.ofInt 0)), _, k, ⟨_, hy, Or.inr ⟨u1, rfl, Or.inr (Or.inr ⟨hn, hn2, rfl⟩)⟩⟩, fun u1 e => (by cases e), fun c e => (by cases e; exact (lb_c_ne (by omega) (by decide) (by decide)))⟩
        · rw [if_neg (show ¬ ((nI u1.2.2.2.2.2) = 0) from nI_ne0 (Nat.pos_of_ne_zero h59) (by have := hb1.2.2.2.2; omega))] at k
          have k := ly_revb 1 (c' := (72, [(3, .int (nI (i + 1))), (2, .int (Int32.ofInt 0)), (0, .ref Yr), (1, .ref Y)], [.ref Yr], me_w M (nt_u (nt_u J1 Rd 2 (lb_c u1.1 (Int32.ofInt 0))) Rd 1 (nI t)))) rfl k
          have k := lz_get (a := Yr) (g := 900) (M := me_w M (nt_u (nt_u J1 Rd 2 (lb_c u1.1 (Int32.ofInt 0))) Rd 1 (nI t))) (v := .ref Rd) rfl (nt_gfR rfl hP.2.2.1.1) k
          obtain ⟨d1, o1, ed, kc, k⟩ := lz_c (g := 38) (q := 1) (vs := [.ref Rd]) (rest := []) rfl rfl (by decide) (Or.inr (Or.inl ⟨_, rfl, rfl⟩)) rfl k
          have e1 := lc_fault (yc_lP hP hS1) (yc_lS hP hS1) (Nat.le_refl t) kc
          subst e1
          have k : nt_rn X _ 92 (78, [(3, .int (nI (i + 1))), (2, .int (Int32.ofInt 0)), (0, .ref Yr), (1, .ref Y)], [.int (lb_c u1.1 (Int32.ofInt 0))], me_w M (nt_u (nt_u J1 Rd 2 (lb_c u1.1 (Int32.ofInt 0))) Rd 1 (nI t))) _ := k
          have k := lz_ri rfl (by decide) k
          exact ⟨1, .inl (lb_c u1.1 (Int32.ofInt 0)), _, k, ⟨_, hy, Or.inr ⟨u1, rfl, Or.inr (Or.inr ⟨hn, hn2, rfl⟩)⟩⟩, fun u1 e => (by cases e), fun c e => (by cases e; exact (lb_c_ne (by omega) (by decide) (by decide)))⟩
      · exact absurd rfl hf
theorem yc_clear {X : nt_X} {d Y : Nat} {M : nt_M} {J : Nat → Nat → Int32} {o : Option Value × nt_M} (k : nt_ev X d 86 [.ref Y] (me_w M J) o) : o = (none, me_w M (nt_u (nt_u (nt_u (nt_u (nt_u J Y 0 (Int32.ofInt 0)) Y 1 (Int32.ofInt 0)) Y 2 (Int32.ofInt 0)) Y 3 (Int32.ofInt 0)) Y 4 (Int32.ofInt 0))) := by
  have k : nt_rn X d 86 (0, [(0, .ref Y)], [], me_w M J) o := k
  have k := ly_revb 2 (c' := (2, [(0, .ref Y)], [.int (Int32.ofInt 0), .ref Y], me_w M J)) rfl k
  have k := me_put rfl (by decide) k
  have k : nt_rn X _ 86 (5, [(0, .ref Y)], [], me_w M (nt_u J Y 0 (Int32.ofInt 0))) _ := k
  have k := ly_revb 2 (c' := (7, [(0, .ref Y)], [.int (Int32.ofInt 0), .ref Y], me_w M (nt_u J Y 0 (Int32.ofInt 0)))) rfl k
  have k := me_put rfl (by decide) k
  have k : nt_rn X _ 86 (10, [(0, .ref Y)], [], me_w M (nt_u (nt_u J Y 0 (Int32.ofInt 0)) Y 1 (Int32.ofInt 0))) _ := k
  have k := ly_revb 2 (c' := (12, [(0, .ref Y)], [.int (Int32.ofInt 0), .ref Y], me_w M (nt_u (nt_u J Y 0 (Int32.ofInt 0)) Y 1 (Int32.ofInt 0)))) rfl k
  have k := me_put rfl (by decide) k
  have k : nt_rn X _ 86 (15, [(0, .ref Y)], [], me_w M (nt_u (nt_u (nt_u J Y 0 (Int32.ofInt 0)) Y 1 (Int32.ofInt 0)) Y 2 (Int32.ofInt 0))) _ := k
  have k := ly_revb 2 (c' := (17, [(0, .ref Y)], [.int (Int32.ofInt 0), .ref Y], me_w M (nt_u (nt_u (nt_u J Y 0 (Int32.ofInt 0)) Y 1 (Int32.ofInt 0)) Y 2 (Int32.ofInt 0)))) rfl k
  have k := me_put rfl (by decide) k
  have k : nt_rn X _ 86 (20, [(0, .ref Y)], [], me_w M (nt_u (nt_u (nt_u (nt_u J Y 0 (Int32.ofInt 0)) Y 1 (Int32.ofInt 0)) Y 2 (Int32.ofInt 0)) Y 3 (Int32.ofInt 0))) _ := k
  have k := ly_revb 2 (c' := (22, [(0, .ref Y)], [.int (Int32.ofInt 0), .ref Y], me_w M (nt_u (nt_u (nt_u (nt_u J Y 0 (Int32.ofInt 0)) Y 1 (Int32.ofInt 0)) Y 2 (Int32.ofInt 0)) Y 3 (Int32.ofInt 0)))) rfl k
  have k := me_put rfl (by decide) k
  have k : nt_rn X _ 86 (25, [(0, .ref Y)], [], me_w M (nt_u (nt_u (nt_u (nt_u (nt_u J Y 0 (Int32.ofInt 0)) Y 1 (Int32.ofInt 0)) Y 2 (Int32.ofInt 0)) Y 3 (Int32.ofInt 0)) Y 4 (Int32.ofInt 0))) _ := k
  have k := lz_rv rfl rfl k
  exact k
