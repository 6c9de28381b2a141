/-! the class reads a yard -/
def yc_P (M : nt_M) (t Rd Tp By RR Sp Yr Y : Nat) (Rw : Nat → Nat) : Prop := (nt_R M Rd 0 = some Tp ∧ nt_R M Tp 0 = some By ∧ nt_R M RR 0 = some Rd ∧ nt_R M RR 1 = some Sp) ∧ (Tp ≠ Rd ∧ Tp ≠ RR ∧ Tp ≠ Sp ∧ By ≠ Rd ∧ By ≠ RR ∧ By ≠ Sp ∧ Rd ≠ RR ∧ Rd ≠ Sp ∧ RR ≠ Sp) ∧ (nt_R M Yr 0 = some Rd ∧ nt_R M Yr 1 = some Y) ∧ (Y ≠ Rd ∧ Y ≠ Tp ∧ Y ≠ By ∧ Y ≠ RR) ∧ (∀ i, 5 ≤ i → i ≤ 12 → nt_R M Y i = some (Rw i) ∧ Rw i ≠ Rd ∧ Rw i ≠ Tp ∧ Rw i ≠ By ∧ Rw i ≠ RR ∧ Rw i ≠ Y ∧ ∀ i', 5 ≤ i' → i' ≤ 12 → i' ≠ i → Rw i' ≠ Rw i) ∧ t ≤ 400 ∧ nt_l M Sp = 400 ∧ Sp ≠ nt_sp
def yc_S (Rw : Nat → Nat) (C : lb_C) (f : Nat → Int32) (t Rd Tp By RR Y m0 s0 p : Nat) (fa : Int32) (u : Nat × Nat × Nat × Nat × Nat) (J : Nat → Nat → Int32) : Prop := (J Rd 1 = nI p ∧ J Rd 2 = fa) ∧ (J Tp 1 = nI t ∧ (∀ j, J By j = f j) ∧ J RR 2 = nI s0 ∧ J RR 3 = nI m0) ∧ (J Y 0 = nI u.1 ∧ J Y 1 = nI u.2.1 ∧ J Y 2 = nI u.2.2.1 ∧ J Y 3 = nI u.2.2.2.1 ∧ J Y 4 = nI u.2.2.2.2) ∧ (s0 ≤ 400 ∧ m0 ≤ 60) ∧ ∀ i, 5 ≤ i → i ≤ 12 → ∀ j, J (Rw i) j = C i j
theorem yc_Cr {Rw : Nat → Nat} {C : lb_C} {J : Nat → Nat → Int32} {i j : Nat} {x : Int32} (hr : ∀ i', 5 ≤ i' → i' ≤ 12 → i' ≠ i → Rw i' ≠ Rw i) (h : ∀ i, 5 ≤ i → i ≤ 12 → ∀ j, J (Rw i) j = C i j) (i' : Nat) (h5 : 5 ≤ i') (h12 : i' ≤ 12) (j' : Nat) : nt_u J (Rw i) j x (Rw i') j' = nt_u C i j x i' j' := by
  by_cases e : i' = i
  · subst e
    by_cases e2 : j' = j
    · subst e2
      rw [me_us, me_us]
    · rw [me_uk e2, me_uk e2]
      exact h i' h5 h12 j'
  · rw [me_uj (hr i' h5 h12 e), me_uj e]
    exact h i' h5 h12 j'
theorem yc_lP {M : nt_M} {f : Nat → Int32} {t Rd Tp By RR Sp Yr Y m0 s0 p : Nat} {Rw : Nat → Nat} {C : lb_C} {fa : Int32} {u : Nat × Nat × Nat × Nat × Nat} {J : Nat → Nat → Int32} (hP : yc_P M t Rd Tp By RR Sp Yr Y Rw) (hS : yc_S Rw C f t Rd Tp By RR Y m0 s0 p fa u J) : lc_P M J f t Rd Tp By RR Sp := ⟨hP.1, hP.2.1, hS.2.1.1, hS.2.1.2.1, hP.2.2.2.2.2⟩
theorem yc_lS {M : nt_M} {f : Nat → Int32} {t Rd Tp By RR Sp Yr Y m0 s0 p : Nat} {Rw : Nat → Nat} {C : lb_C} {fa : Int32} {u : Nat × Nat × Nat × Nat × Nat} {J : Nat → Nat → Int32} (hP : yc_P M t Rd Tp By RR Sp Yr Y Rw) (hS : yc_S Rw C f t Rd Tp By RR Y m0 s0 p fa u J) : lc_S J Rd RR Sp p fa m0 (s0, J Sp) J := ⟨hS.1.1, hS.1.2, hS.2.1.2.2.1, hS.2.1.2.2.2, fun _ _ => rfl, fun _ _ _ _ => rfl, hS.2.2.2.1⟩
theorem yc_Sp {M : nt_M} {f : Nat → Int32} {t Rd Tp By RR Sp Yr Y m0 s0 p : Nat} {Rw : Nat → Nat} {C : lb_C} {fa : Int32} {u : Nat × Nat × Nat × Nat × Nat} {J : Nat → Nat → Int32} {q : Nat} (hP : yc_P M t Rd Tp By RR Sp Yr Y Rw) (hS : yc_S Rw C f t Rd Tp By RR Y m0 s0 p fa u J) : yc_S Rw C f t Rd Tp By RR Y m0 s0 q fa u (nt_u J Rd 1 (nI q)) := by
  obtain ⟨⟨a1, a2⟩, ⟨b1, b2, b3, b4⟩, ⟨c1, c2, c3, c4, c5⟩, d⟩ := hS
  have n1 := hP.2.1.1
  have n2 := hP.2.1.2.2.2.1
  have n3 := hP.2.1.2.2.2.2.2.2.1
  have n4 := hP.2.2.2.1.1
  exact ⟨⟨me_us, (me_uk (by decide)).trans a2⟩, ⟨(me_uj n1).trans b1, fun j => (me_uj n2).trans (b2 j), (me_uj (Ne.symm n3)).trans b3, (me_uj (Ne.symm n3)).trans b4⟩, ⟨(me_uj n4).trans c1, (me_uj n4).trans c2, (me_uj n4).trans c3, (me_uj n4).trans c4, (me_uj n4).trans c5⟩, d.1, fun i h5 h12 j => (me_uj (hP.2.2.2.2.1 i h5 h12).2.1).trans (d.2 i h5 h12 j)⟩
theorem yc_Sf {M : nt_M} {f : Nat → Int32} {t Rd Tp By RR Sp Yr Y m0 s0 p : Nat} {Rw : Nat → Nat} {C : lb_C} {fa : Int32} {u : Nat × Nat × Nat × Nat × Nat} {J : Nat → Nat → Int32} {fb : Int32} (hP : yc_P M t Rd Tp By RR Sp Yr Y Rw) (hS : yc_S Rw C f t Rd Tp By RR Y m0 s0 p fa u J) : yc_S Rw C f t Rd Tp By RR Y m0 s0 p fb u (nt_u J Rd 2 fb) := by
  obtain ⟨⟨a1, a2⟩, ⟨b1, b2, b3, b4⟩, ⟨c1, c2, c3, c4, c5⟩, d⟩ := hS
  have n1 := hP.2.1.1
  have n2 := hP.2.1.2.2.2.1
  have n3 := hP.2.1.2.2.2.2.2.2.1
  have n4 := hP.2.2.2.1.1
  exact ⟨⟨(me_uk (by decide)).trans a1, me_us⟩, ⟨(me_uj n1).trans b1, fun j => (me_uj n2).trans (b2 j), (me_uj (Ne.symm n3)).trans b3, (me_uj (Ne.symm n3)).trans b4⟩, ⟨(me_uj n4).trans c1, (me_uj n4).trans c2, (me_uj n4).trans c3, (me_uj n4).trans c4, (me_uj n4).trans c5⟩, d.1, fun i h5 h12 j => (me_uj (hP.2.2.2.2.1 i h5 h12).2.1).trans (d.2 i h5 h12 j)⟩
theorem yc_Sr {M : nt_M} {f : Nat → Int32} {t Rd Tp By RR Sp Yr Y m0 s0 p : Nat} {Rw : Nat → Nat} {C : lb_C} {fa : Int32} {u : Nat × Nat × Nat × Nat × Nat} {J : Nat → Nat → Int32} {i j : Nat} {x : Int32} (hP : yc_P M t Rd Tp By RR Sp Yr Y Rw) (hS : yc_S Rw C f t Rd Tp By RR Y m0 s0 p fa u J) (h5 : 5 ≤ i) (h12 : i ≤ 12) {j0 : Nat} (ej : j = j0) : yc_S Rw (nt_u C i j0 x) f t Rd Tp By RR Y m0 s0 p fa u (nt_u J (Rw i) j x) := by
  obtain ⟨⟨a1, a2⟩, ⟨b1, b2, b3, b4⟩, ⟨c1, c2, c3, c4, c5⟩, d⟩ := hS
  subst ej
  obtain ⟨_, r1, r2, r3, r4, r5, r6⟩ := hP.2.2.2.2.1 i h5 h12
  exact ⟨⟨(me_uj (Ne.symm r1)).trans a1, (me_uj (Ne.symm r1)).trans a2⟩, ⟨(me_uj (Ne.symm r2)).trans b1, fun j => (me_uj (Ne.symm r3)).trans (b2 j), (me_uj (Ne.symm r4)).trans b3, (me_uj (Ne.symm r4)).trans b4⟩, ⟨(me_uj (Ne.symm r5)).trans c1, (me_uj (Ne.symm r5)).trans c2, (me_uj (Ne.symm r5)).trans c3, (me_uj (Ne.symm r5)).trans c4, (me_uj (Ne.symm r5)).trans c5⟩, d.1, yc_Cr r6 d.2⟩
theorem yc_S0 {M : nt_M} {f : Nat → Int32} {t Rd Tp By RR Sp Yr Y m0 s0 p : Nat} {Rw : Nat → Nat} {C : lb_C} {fa : Int32} {u : Nat × Nat × Nat × Nat × Nat} {J : Nat → Nat → Int32} {y : Nat} (hP : yc_P M t Rd Tp By RR Sp Yr Y Rw) (hS : yc_S Rw C f t Rd Tp By RR Y m0 s0 p fa u J) : yc_S Rw C f t Rd Tp By RR Y m0 s0 p fa (y, u.2.1, u.2.2.1, u.2.2.2.1, u.2.2.2.2) (nt_u J Y 0 (nI y)) := by
  obtain ⟨⟨a1, a2⟩, ⟨b1, b2, b3, b4⟩, ⟨c1, c2, c3, c4, c5⟩, d⟩ := hS
  obtain ⟨n1, n2, n3, n4⟩ := hP.2.2.2.1
  exact ⟨⟨(me_uj (Ne.symm n1)).trans a1, (me_uj (Ne.symm n1)).trans a2⟩, ⟨(me_uj (Ne.symm n2)).trans b1, fun j => (me_uj (Ne.symm n3)).trans (b2 j), (me_uj (Ne.symm n4)).trans b3, (me_uj (Ne.symm n4)).trans b4⟩, ⟨me_us, (me_uk (by decide)).trans c2, (me_uk (by decide)).trans c3, (me_uk (by decide)).trans c4, (me_uk (by decide)).trans c5⟩, d.1, fun i h5 h12 j => (me_uj (hP.2.2.2.2.1 i h5 h12).2.2.2.2.2.1).trans (d.2 i h5 h12 j)⟩
theorem yc_S1 {M : nt_M} {f : Nat → Int32} {t Rd Tp By RR Sp Yr Y m0 s0 p : Nat} {Rw : Nat → Nat} {C : lb_C} {fa : Int32} {u : Nat × Nat × Nat × Nat × Nat} {J : Nat → Nat → Int32} {y : Nat} (hP : yc_P M t Rd Tp By RR Sp Yr Y Rw) (hS : yc_S Rw C f t Rd Tp By RR Y m0 s0 p fa u J) : yc_S Rw C f t Rd Tp By RR Y m0 s0 p fa (u.1, y, u.2.2.1, u.2.2.2.1, u.2.2.2.2) (nt_u J Y 1 (nI y)) := by
  obtain ⟨⟨a1, a2⟩, ⟨b1, b2, b3, b4⟩, ⟨c1, c2, c3, c4, c5⟩, d⟩ := hS
  obtain ⟨n1, n2, n3, n4⟩ := hP.2.2.2.1
  exact ⟨⟨(me_uj (Ne.symm n1)).trans a1, (me_uj (Ne.symm n1)).trans a2⟩, ⟨(me_uj (Ne.symm n2)).trans b1, fun j => (me_uj (Ne.symm n3)).trans (b2 j), (me_uj (Ne.symm n4)).trans b3, (me_uj (Ne.symm n4)).trans b4⟩, ⟨(me_uk (by decide)).trans c1, me_us, (me_uk (by decide)).trans c3, (me_uk (by decide)).trans c4, (me_uk (by decide)).trans c5⟩, d.1, fun i h5 h12 j => (me_uj (hP.2.2.2.2.1 i h5 h12).2.2.2.2.2.1).trans (d.2 i h5 h12 j)⟩
theorem yc_S2 {M : nt_M} {f : Nat → Int32} {t Rd Tp By RR Sp Yr Y m0 s0 p : Nat} {Rw : Nat → Nat} {C : lb_C} {fa : Int32} {u : Nat × Nat × Nat × Nat × Nat} {J : Nat → Nat → Int32} {y : Nat} (hP : yc_P M t Rd Tp By RR Sp Yr Y Rw) (hS : yc_S Rw C f t Rd Tp By RR Y m0 s0 p fa u J) : yc_S Rw C f t Rd Tp By RR Y m0 s0 p fa (u.1, u.2.1, y, u.2.2.2.1, u.2.2.2.2) (nt_u J Y 2 (nI y)) := by
  obtain ⟨⟨a1, a2⟩, ⟨b1, b2, b3, b4⟩, ⟨c1, c2, c3, c4, c5⟩, d⟩ := hS
  obtain ⟨n1, n2, n3, n4⟩ := hP.2.2.2.1
  exact ⟨⟨(me_uj (Ne.symm n1)).trans a1, (me_uj (Ne.symm n1)).trans a2⟩, ⟨(me_uj (Ne.symm n2)).trans b1, fun j => (me_uj (Ne.symm n3)).trans (b2 j), (me_uj (Ne.symm n4)).trans b3, (me_uj (Ne.symm n4)).trans b4⟩, ⟨(me_uk (by decide)).trans c1, (me_uk (by decide)).trans c2, me_us, (me_uk (by decide)).trans c4, (me_uk (by decide)).trans c5⟩, d.1, fun i h5 h12 j => (me_uj (hP.2.2.2.2.1 i h5 h12).2.2.2.2.2.1).trans (d.2 i h5 h12 j)⟩
theorem yc_S3 {M : nt_M} {f : Nat → Int32} {t Rd Tp By RR Sp Yr Y m0 s0 p : Nat} {Rw : Nat → Nat} {C : lb_C} {fa : Int32} {u : Nat × Nat × Nat × Nat × Nat} {J : Nat → Nat → Int32} {y : Nat} (hP : yc_P M t Rd Tp By RR Sp Yr Y Rw) (hS : yc_S Rw C f t Rd Tp By RR Y m0 s0 p fa u J) : yc_S Rw C f t Rd Tp By RR Y m0 s0 p fa (u.1, u.2.1, u.2.2.1, y, u.2.2.2.2) (nt_u J Y 3 (nI y)) := by
  obtain ⟨⟨a1, a2⟩, ⟨b1, b2, b3, b4⟩, ⟨c1, c2, c3, c4, c5⟩, d⟩ := hS
  obtain ⟨n1, n2, n3, n4⟩ := hP.2.2.2.1
  exact ⟨⟨(me_uj (Ne.symm n1)).trans a1, (me_uj (Ne.symm n1)).trans a2⟩, ⟨(me_uj (Ne.symm n2)).trans b1, fun j => (me_uj (Ne.symm n3)).trans (b2 j), (me_uj (Ne.symm n4)).trans b3, (me_uj (Ne.symm n4)).trans b4⟩, ⟨(me_uk (by decide)).trans c1, (me_uk (by decide)).trans c2, (me_uk (by decide)).trans c3, me_us, (me_uk (by decide)).trans c5⟩, d.1, fun i h5 h12 j => (me_uj (hP.2.2.2.2.1 i h5 h12).2.2.2.2.2.1).trans (d.2 i h5 h12 j)⟩
theorem yc_S4 {M : nt_M} {f : Nat → Int32} {t Rd Tp By RR Sp Yr Y m0 s0 p : Nat} {Rw : Nat → Nat} {C : lb_C} {fa : Int32} {u : Nat × Nat × Nat × Nat × Nat} {J : Nat → Nat → Int32} {y : Nat} (hP : yc_P M t Rd Tp By RR Sp Yr Y Rw) (hS : yc_S Rw C f t Rd Tp By RR Y m0 s0 p fa u J) : yc_S Rw C f t Rd Tp By RR Y m0 s0 p fa (u.1, u.2.1, u.2.2.1, u.2.2.2.1, y) (nt_u J Y 4 (nI y)) := by
  obtain ⟨⟨a1, a2⟩, ⟨b1, b2, b3, b4⟩, ⟨c1, c2, c3, c4, c5⟩, d⟩ := hS
  obtain ⟨n1, n2, n3, n4⟩ := hP.2.2.2.1
  exact ⟨⟨(me_uj (Ne.symm n1)).trans a1, (me_uj (Ne.symm n1)).trans a2⟩, ⟨(me_uj (Ne.symm n2)).trans b1, fun j => (me_uj (Ne.symm n3)).trans (b2 j), (me_uj (Ne.symm n4)).trans b3, (me_uj (Ne.symm n4)).trans b4⟩, ⟨(me_uk (by decide)).trans c1, (me_uk (by decide)).trans c2, (me_uk (by decide)).trans c3, (me_uk (by decide)).trans c4, me_us⟩, d.1, fun i h5 h12 j => (me_uj (hP.2.2.2.2.1 i h5 h12).2.2.2.2.2.1).trans (d.2 i h5 h12 j)⟩
def yc_N (Rw : Nat → Nat) (C : lb_C) (f : Nat → Int32) (t Rd Tp By RR Y m0 s0 : Nat) (u : Nat × Nat × Nat × Nat × Nat) (r : lb_N) (a : Int32) (J : Nat → Nat → Int32) : Prop := match r with
  | .inl c => c ≠ 0 ∧ a = Int32.ofInt 0 ∧ yc_S Rw C f t Rd Tp By RR Y m0 s0 t c u J
  | .inr q => a = q.2 ∧ q.1 ≤ t ∧ yc_S Rw C f t Rd Tp By RR Y m0 s0 q.1 0 u J
theorem yc_num {X : nt_X} {d t Rd Tp By RR Sp Yr Y m0 s0 : Nat} {Rw : Nat → Nat} {f : Nat → Int32} {M : nt_M} {o : Option Value × nt_M} {C : lb_C} {p : Nat} {u : Nat × Nat × Nat × Nat × Nat} {J : Nat → Nat → Int32} {lo hi : Int32} (hP : yc_P M t Rd Tp By RR Sp Yr Y Rw) (hS : yc_S Rw C f t Rd Tp By RR Y m0 s0 p 0 u J) (hp : p ≤ t) (hlo : 0 ≤ lo.toInt) (k : nt_ev X d 97 [.ref Yr, .int lo, .int hi] (me_w M J) o) : ∃ r a J', o = (some (.int a), me_w M J') ∧ lb_nu f t p lo hi r ∧ yc_N Rw C f t Rd Tp By RR Y m0 s0 u r a J' := by
  have k : nt_rn X d 97 (0, [(0, .ref Yr), (1, .int (lo)), (2, .int (hi))], [], me_w M J) o := k
  have t4 : t ≤ 400 := hP.2.2.2.2.2.1
  have hd := lb_d_le (f := f) (t := t) (t - p) p (by omega)
  have k := ly_revb 1 (c' := (1, [(0, .ref Yr), (1, .int (lo)), (2, .int (hi))], [.ref Yr], me_w M J)) rfl k
  have k := lz_get (a := Yr) (g := 900) (M := me_w M J) (v := .ref Rd) rfl (nt_gfR rfl hP.2.2.1.1) k
  obtain ⟨d1, o1, ed, kc, k⟩ := lz_c (g := 33) (q := 1) (vs := [.ref Rd]) (rest := []) rfl rfl (by decide) (Or.inr (Or.inl ⟨_, rfl, rfl⟩)) rfl k
  have e1 := lc_digits (yc_lP hP hS) (yc_lS hP hS) hp kc
  subst e1
  have k : nt_rn X _ 97 (7, [(0, .ref Yr), (1, .int (lo)), (2, .int (hi))], [.int (nI (lb_d f t p))], me_w M J) _ := k
  have k := ly_revb 3 (c' := (if (nI (lb_d f t p)) = 0 then 12 else 22, [(3, .int (nI (lb_d f t p))), (0, .ref Yr), (1, .int (lo)), (2, .int (hi))], [], me_w M J)) rfl k
  by_cases h9 : (lb_d f t p) = 0
  · rw [if_pos (show (nI (lb_d f t p)) = 0 from show nI (lb_d f t p) = nI 0 from congrArg nI h9)] at k
    have k := ly_revb 1 (c' := (13, [(3, .int (nI (lb_d f t p))), (0, .ref Yr), (1, .int (lo)), (2, .int (hi))], [.ref Yr], me_w M J)) rfl k
    have k := lz_get (a := Yr) (g := 900) (M := me_w M J) (v := .ref Rd) rfl (nt_gfR rfl hP.2.2.1.1) k
    have k := ly_revb 1 (c' := (17, [(3, .int (nI (lb_d f t p))), (0, .ref Yr), (1, .int (lo)), (2, .int (hi))], [.int (Int32.ofInt 0), .ref Rd], me_w M J)) rfl k
    obtain ⟨d1, o1, ed, kc, k⟩ := lz_c (g := 31) (q := 1) (vs := [.ref Rd, .int (Int32.ofInt 0)]) (rest := []) rfl rfl (by decide) (Or.inr (Or.inl ⟨_, rfl, rfl⟩)) rfl k
    obtain ⟨hf, e1⟩ := (lc_fail (yc_lP hP hS) (yc_lS hP hS) hp kc).resolve_right (fun c => c.1 rfl)
    subst e1
    have hS1 := yc_Sp (q := t) hP (yc_Sf (fb := lb_c p (Int32.ofInt 0)) hP hS)
    have k : nt_rn X _ 97 (20, [(3, .int (nI (lb_d f t p))), (0, .ref Yr), (1, .int (lo)), (2, .int (hi))], [], me_w M (nt_u (nt_u J Rd 2 (lb_c p (Int32.ofInt 0))) Rd 1 (nI t))) _ := k
    have k := ly_revb 1 (c' := (21, [(3, .int (nI (lb_d f t p))), (0, .ref Yr), (1, .int (lo)), (2, .int (hi))], [.int (Int32.ofInt 0)], me_w M (nt_u (nt_u J Rd 2 (lb_c p (Int32.ofInt 0))) Rd 1 (nI t)))) rfl k
    have k := lz_ri rfl (by decide) k
    exact ⟨.inl (lb_c p (Int32.ofInt 0)), _, _, k, Or.inl ⟨h9, rfl⟩, (lb_c_ne (by omega) (by decide) (by decide)), rfl, hS1⟩
  · rw [if_neg (show ¬ ((nI (lb_d f t p)) = 0) from nI_ne0 (Nat.pos_of_ne_zero h9) (by omega))] at k
    have k := ly_revb 3 (c' := (if (nI (lb_d f t p)) ≤ (Int32.ofInt 5) then 31 else 27, [(3, .int (nI (lb_d f t p))), (0, .ref Yr), (1, .int (lo)), (2, .int (hi))], [], me_w M J)) rfl k
    by_cases h24 : (lb_d f t p) ≤ 5
    · rw [if_pos (show (nI (lb_d f t p)) ≤ (Int32.ofInt 5) from show nI ((lb_d f t p)) ≤ nI 5 from nI_le h24 (by omega))] at k
      have k := ly_revb 1 (c' := (32, [(3, .int (nI (lb_d f t p))), (0, .ref Yr), (1, .int (lo)), (2, .int (hi))], [.ref Yr], me_w M J)) rfl k
      have k := lz_get (a := Yr) (g := 900) (M := me_w M J) (v := .ref Rd) rfl (nt_gfR rfl hP.2.2.1.1) k
      have k := ly_revb 1 (c' := (36, [(3, .int (nI (lb_d f t p))), (0, .ref Yr), (1, .int (lo)), (2, .int (hi))], [.int (nI (lb_d f t p)), .ref Rd], me_w M J)) rfl k
      obtain ⟨d1, o1, ed, kc, k⟩ := lz_c (g := 34) (q := 1) (vs := [.ref Rd, .int (nI (lb_d f t p))]) (rest := []) rfl rfl (by decide) (Or.inr (Or.inl ⟨_, rfl, rfl⟩)) rfl k
      have e1 := lc_valueOf (yc_lP hP hS) (yc_lS hP hS) hp hd kc
      subst e1
      have k : nt_rn X _ 97 (39, [(3, .int (nI (lb_d f t p))), (0, .ref Yr), (1, .int (lo)), (2, .int (hi))], [.int (lb_v f p (lb_d f t p))], me_w M J) _ := k
      have k := ly_revb 4 (c' := (if (lb_v f p (lb_d f t p)) < lo then 53 else 47, [(4, .int (lb_v f p (lb_d f t p))), (3, .int (nI (lb_d f t p))), (0, .ref Yr), (1, .int (lo)), (2, .int (hi))], [], me_w M J)) rfl k
      by_cases h44 : (lb_v f p (lb_d f t p)).toInt < lo.toInt
      · rw [if_pos (show (lb_v f p (lb_d f t p)) < lo from Int32.lt_iff_toInt_lt.mpr h44)] at k
        have k := ly_revb 1 (c' := (54, [(4, .int (lb_v f p (lb_d f t p))), (3, .int (nI (lb_d f t p))), (0, .ref Yr), (1, .int (lo)), (2, .int (hi))], [.ref Yr], me_w M J)) rfl k
        have k := lz_get (a := Yr) (g := 900) (M := me_w M J) (v := .ref Rd) rfl (nt_gfR rfl hP.2.2.1.1) k
        have k := ly_revb 1 (c' := (58, [(4, .int (lb_v f p (lb_d f t p))), (3, .int (nI (lb_d f t p))), (0, .ref Yr), (1, .int (lo)), (2, .int (hi))], [.int (Int32.ofInt 1), .ref Rd], me_w M J)) rfl k
        obtain ⟨d1, o1, ed, kc, k⟩ := lz_c (g := 31) (q := 1) (vs := [.ref Rd, .int (Int32.ofInt 1)]) (rest := []) rfl rfl (by decide) (Or.inr (Or.inl ⟨_, rfl, rfl⟩)) rfl k
        obtain ⟨hf, e1⟩ := (lc_fail (yc_lP hP hS) (yc_lS hP hS) hp kc).resolve_right (fun c => c.1 rfl)
        subst e1
        have hS1 := yc_Sp (q := t) hP (yc_Sf (fb := lb_c p (Int32.ofInt 1)) hP hS)
        have k : nt_rn X _ 97 (61, [(4, .int (lb_v f p (lb_d f t p))), (3, .int (nI (lb_d f t p))), (0, .ref Yr), (1, .int (lo)), (2, .int (hi))], [], me_w M (nt_u (nt_u J Rd 2 (lb_c p (Int32.ofInt 1))) Rd 1 (nI t))) _ := k
        have k := ly_revb 1 (c' := (62, [(4, .int (lb_v f p (lb_d f t p))), (3, .int (nI (lb_d f t p))), (0, .ref Yr), (1, .int (lo)), (2, .int (hi))], [.int (Int32.ofInt 0)], me_w M (nt_u (nt_u J Rd 2 (lb_c p (Int32.ofInt 1))) Rd 1 (nI t)))) rfl k
        have k := lz_ri rfl (by decide) k
        exact ⟨.inl (lb_c p (Int32.ofInt 1)), _, _, k, Or.inr (Or.inl ⟨by omega, Or.inr (fun c => absurd c.1 (by omega)), rfl⟩), (lb_c_ne (by omega) (by decide) (by decide)), rfl, hS1⟩
      · rw [if_neg (show ¬ ((lb_v f p (lb_d f t p)) < lo) from fun c => h44 (Int32.lt_iff_toInt_lt.mp c))] at k
        have k := ly_revb 3 (c' := (if (lb_v f p (lb_d f t p)) ≤ hi then 63 else 53, [(4, .int (lb_v f p (lb_d f t p))), (3, .int (nI (lb_d f t p))), (0, .ref Yr), (1, .int (lo)), (2, .int (hi))], [], me_w M J)) rfl k
        by_cases h50 : (lb_v f p (lb_d f t p)).toInt ≤ hi.toInt
        · rw [if_pos (show (lb_v f p (lb_d f t p)) ≤ hi from Int32.le_iff_toInt_le.mpr h50)] at k
          have k := ly_revb 1 (c' := (64, [(4, .int (lb_v f p (lb_d f t p))), (3, .int (nI (lb_d f t p))), (0, .ref Yr), (1, .int (lo)), (2, .int (hi))], [.ref Yr], me_w M J)) rfl k
          have k := lz_get (a := Yr) (g := 900) (M := me_w M J) (v := .ref Rd) rfl (nt_gfR rfl hP.2.2.1.1) k
          have k := ly_revb 1 (c' := (68, [(4, .int (lb_v f p (lb_d f t p))), (3, .int (nI (lb_d f t p))), (0, .ref Yr), (1, .int (lo)), (2, .int (hi))], [.int (nI (lb_d f t p)), .ref Rd], me_w M J)) rfl k
          obtain ⟨d1, o1, ed, kc, k⟩ := lz_c (g := 29) (q := 1) (vs := [.ref Rd, .int (nI (lb_d f t p))]) (rest := []) rfl rfl (by decide) (Or.inr (Or.inl ⟨_, rfl, rfl⟩)) rfl k
          have e1 := lc_skip (b := lb_d f t p) (yc_lP hP hS) (yc_lS hP hS) hp (by omega) kc
          rw [Nat.min_eq_left hd] at e1
          subst e1
          have hS1 := yc_Sp (q := lb_s f t (p + lb_d f t p)) hP hS
          have hp9 : lb_s f t (p + lb_d f t p) ≤ t := (lb_s_le (t - (p + lb_d f t p)) (p + lb_d f t p) (by omega)).2
          have k : nt_rn X _ 97 (71, [(4, .int (lb_v f p (lb_d f t p))), (3, .int (nI (lb_d f t p))), (0, .ref Yr), (1, .int (lo)), (2, .int (hi))], [], me_w M (nt_u J Rd 1 (nI (lb_s f t (p + lb_d f t p))))) _ := k
          have k := ly_revb 1 (c' := (73, [(4, .int (lb_v f p (lb_d f t p))), (3, .int (nI (lb_d f t p))), (0, .ref Yr), (1, .int (lo)), (2, .int (hi))], [.int (lb_v f p (lb_d f t p))], me_w M (nt_u J Rd 1 (nI (lb_s f t (p + lb_d f t p)))))) rfl k
          have k := lz_ri rfl (by decide) k
          exact ⟨.inr (lb_s f t (p + lb_d f t p), lb_v f p (lb_d f t p)), _, _, k, Or.inr (Or.inr ⟨by omega, by omega, ⟨by omega, h50⟩, rfl⟩), rfl, hp9, hS1⟩
        · rw [if_neg (show ¬ ((lb_v f p (lb_d f t p)) ≤ hi) from fun c => h50 (Int32.le_iff_toInt_le.mp c))] at k
          have k := ly_revb 1 (c' := (54, [(4, .int (lb_v f p (lb_d f t p))), (3, .int (nI (lb_d f t p))), (0, .ref Yr), (1, .int (lo)), (2, .int (hi))], [.ref Yr], me_w M J)) rfl k
          have k := lz_get (a := Yr) (g := 900) (M := me_w M J) (v := .ref Rd) rfl (nt_gfR rfl hP.2.2.1.1) k
          have k := ly_revb 1 (c' := (58, [(4, .int (lb_v f p (lb_d f t p))), (3, .int (nI (lb_d f t p))), (0, .ref Yr), (1, .int (lo)), (2, .int (hi))], [.int (Int32.ofInt 1), .ref Rd], me_w M J)) rfl k
          obtain ⟨d1, o1, ed, kc, k⟩ := lz_c (g := 31) (q := 1) (vs := [.ref Rd, .int (Int32.ofInt 1)]) (rest := []) rfl rfl (by decide) (Or.inr (Or.inl ⟨_, rfl, rfl⟩)) rfl k
          obtain ⟨hf, e1⟩ := (lc_fail (yc_lP hP hS) (yc_lS hP hS) hp kc).resolve_right (fun c => c.1 rfl)
          subst e1
          have hS1 := yc_Sp (q := t) hP (yc_Sf (fb := lb_c p (Int32.ofInt 1)) hP hS)
          have k : nt_rn X _ 97 (61, [(4, .int (lb_v f p (lb_d f t p))), (3, .int (nI (lb_d f t p))), (0, .ref Yr), (1, .int (lo)), (2, .int (hi))], [], me_w M (nt_u (nt_u J Rd 2 (lb_c p (Int32.ofInt 1))) Rd 1 (nI t))) _ := k
          have k := ly_revb 1 (c' := (62, [(4, .int (lb_v f p (lb_d f t p))), (3, .int (nI (lb_d f t p))), (0, .ref Yr), (1, .int (lo)), (2, .int (hi))], [.int (Int32.ofInt 0)], me_w M (nt_u (nt_u J Rd 2 (lb_c p (Int32.ofInt 1))) Rd 1 (nI t)))) rfl k
          have k := lz_ri rfl (by decide) k
          exact ⟨.inl (lb_c p (Int32.ofInt 1)), _, _, k, Or.inr (Or.inl ⟨by omega, Or.inr (fun c => h50 c.2), rfl⟩), (lb_c_ne (by omega) (by decide) (by decide)), rfl, hS1⟩
    · rw [if_neg (show ¬ ((nI (lb_d f t p)) ≤ (Int32.ofInt 5)) from show ¬ nI ((lb_d f t p)) ≤ nI 5 from nI_ge (Nat.not_le.mp h24) (by omega))] at k
      have k := ly_revb 6 (c' := (if (Int32.ofInt (-1)) < lo then 53 else 47, [(4, .int (Int32.ofInt (-1))), (3, .int (nI (lb_d f t p))), (0, .ref Yr), (1, .int (lo)), (2, .int (hi))], [], me_w M J)) rfl k
      rw [if_pos (show (Int32.ofInt (-1)) < lo from Int32.lt_iff_toInt_lt.mpr (by rw [show (Int32.ofInt (-1)).toInt = -1 from by decide]; omega))] at k
      have k := ly_revb 1 (c' := (54, [(4, .int (Int32.ofInt (-1))), (3, .int (nI (lb_d f t p))), (0, .ref Yr), (1, .int (lo)), (2, .int (hi))], [.ref Yr], me_w M J)) rfl k
      have k := lz_get (a := Yr) (g := 900) (M := me_w M J) (v := .ref Rd) rfl (nt_gfR rfl hP.2.2.1.1) k
      have k := ly_revb 1 (c' := (58, [(4, .int (Int32.ofInt (-1))), (3, .int (nI (lb_d f t p))), (0, .ref Yr), (1, .int (lo)), (2, .int (hi))], [.int (Int32.ofInt 1), .ref Rd], me_w M J)) rfl k
      obtain ⟨d1, o1, ed, kc, k⟩ := lz_c (g := 31) (q := 1) (vs := [.ref Rd, .int (Int32.ofInt 1)]) (rest := []) rfl rfl (by decide) (Or.inr (Or.inl ⟨_, rfl, rfl⟩)) rfl k
      obtain ⟨hf, e1⟩ := (lc_fail (yc_lP hP hS) (yc_lS hP hS) hp kc).resolve_right (fun c => c.1 rfl)
      subst e1
      have hS1 := yc_Sp (q := t) hP (yc_Sf (fb := lb_c p (Int32.ofInt 1)) hP hS)
      have k : nt_rn X _ 97 (61, [(4, .int (Int32.ofInt (-1))), (3, .int (nI (lb_d f t p))), (0, .ref Yr), (1, .int (lo)), (2, .int (hi))], [], me_w M (nt_u (nt_u J Rd 2 (lb_c p (Int32.ofInt 1))) Rd 1 (nI t))) _ := k
      have k := ly_revb 1 (c' := (62, [(4, .int (Int32.ofInt (-1))), (3, .int (nI (lb_d f t p))), (0, .ref Yr), (1, .int (lo)), (2, .int (hi))], [.int (Int32.ofInt 0)], me_w M (nt_u (nt_u J Rd 2 (lb_c p (Int32.ofInt 1))) Rd 1 (nI t)))) rfl k
      have k := lz_ri rfl (by decide) k
      exact ⟨.inl (lb_c p (Int32.ofInt 1)), _, _, k, Or.inr (Or.inl ⟨by omega, Or.inl (by omega), rfl⟩), (lb_c_ne (by omega) (by decide) (by decide)), rfl, hS1⟩
theorem yc_numF {X : nt_X} {d t Rd Tp By RR Sp Yr Y m0 s0 : Nat} {Rw : Nat → Nat} {f : Nat → Int32} {M : nt_M} {o : Option Value × nt_M} {C : lb_C} {fa : Int32} {u : Nat × Nat × Nat × Nat × Nat} {J : Nat → Nat → Int32} {lo hi : Int32} (hP : yc_P M t Rd Tp By RR Sp Yr Y Rw) (hS : yc_S Rw C f t Rd Tp By RR Y m0 s0 t fa u J) (hfa : ¬ fa = 0) (k : nt_ev X d 97 [.ref Yr, .int lo, .int hi] (me_w M J) o) : ∃ J', o = (some (.int (Int32.ofInt 0)), me_w M J') ∧ yc_S Rw C f t Rd Tp By RR Y m0 s0 t fa u (J') := by
  have k : nt_rn X d 97 (0, [(0, .ref Yr), (1, .int (lo)), (2, .int (hi))], [], me_w M J) o := k
  have t4 : t ≤ 400 := hP.2.2.2.2.2.1
  have hd0 : lb_d f t t = 0 := lb_d0 (by omega)
  have k := ly_revb 1 (c' := (1, [(0, .ref Yr), (1, .int (lo)), (2, .int (hi))], [.ref Yr], me_w M J)) rfl k
  have k := lz_get (a := Yr) (g := 900) (M := me_w M J) (v := .ref Rd) rfl (nt_gfR rfl hP.2.2.1.1) k
  obtain ⟨d1, o1, ed, kc, k⟩ := lz_c (g := 33) (q := 1) (vs := [.ref Rd]) (rest := []) rfl rfl (by decide) (Or.inr (Or.inl ⟨_, rfl, rfl⟩)) rfl k
  have e1 := lc_digits (yc_lP hP hS) (yc_lS hP hS) (Nat.le_refl t) kc
  subst e1
  have k : nt_rn X _ 97 (7, [(0, .ref Yr), (1, .int (lo)), (2, .int (hi))], [.int (nI (lb_d f t t))], me_w M J) _ := k
  have k := ly_revb 3 (c' := (if (nI (lb_d f t t)) = 0 then 12 else 22, [(3, .int (nI (lb_d f t t))), (0, .ref Yr), (1, .int (lo)), (2, .int (hi))], [], me_w M J)) rfl k
  rw [if_pos (show (nI (lb_d f t t)) = 0 from show nI (lb_d f t t) = nI 0 from congrArg nI hd0)] at k
  have k := ly_revb 1 (c' := (13, [(3, .int (nI (lb_d f t t))), (0, .ref Yr), (1, .int (lo)), (2, .int (hi))], [.ref Yr], me_w M J)) rfl k
  have k := lz_get (a := Yr) (g := 900) (M := me_w M J) (v := .ref Rd) rfl (nt_gfR rfl hP.2.2.1.1) k
  have k := ly_revb 1 (c' := (17, [(3, .int (nI (lb_d f t t))), (0, .ref Yr), (1, .int (lo)), (2, .int (hi))], [.int (Int32.ofInt 0), .ref Rd], me_w M J)) rfl k
  obtain ⟨d1, o1, ed, kc, k⟩ := lz_c (g := 31) (q := 1) (vs := [.ref Rd, .int (Int32.ofInt 0)]) (rest := []) rfl rfl (by decide) (Or.inr (Or.inl ⟨_, rfl, rfl⟩)) rfl k
  obtain ⟨hf, e1⟩ := (lc_fail (yc_lP hP hS) (yc_lS hP hS) (Nat.le_refl t) kc).resolve_left (fun c => hfa c.1)
  subst e1
  have hS1 := yc_Sp (q := t) hP hS
  have k : nt_rn X _ 97 (20, [(3, .int (nI (lb_d f t t))), (0, .ref Yr), (1, .int (lo)), (2, .int (hi))], [], me_w M (nt_u J Rd 1 (nI t))) _ := k
  have k := ly_revb 1 (c' := (21, [(3, .int (nI (lb_d f t t))), (0, .ref Yr), (1, .int (lo)), (2, .int (hi))], [.int (Int32.ofInt 0)], me_w M (nt_u J Rd 1 (nI t)))) rfl k
  have k := lz_ri rfl (by decide) k
  exact ⟨_, k, hS1⟩
theorem yc_plank {X : nt_X} {d t Rd Tp By RR Sp Yr Y m0 s0 : Nat} {Rw : Nat → Nat} {f : Nat → Int32} {M : nt_M} {o : Option Value × nt_M} {C : lb_C} {p : Nat} {u : Nat × Nat × Nat × Nat × Nat} {J : Nat → Nat → Int32} (hP : yc_P M t Rd Tp By RR Sp Yr Y Rw) (hS : yc_S Rw C f t Rd Tp By RR Y m0 s0 p 0 u J) (hub : u.2.2.1 < 1000) (hp : p ≤ t) (k : nt_ev X d 99 [.ref Yr] (me_w M J) o) : ∃ r J', o = (none, me_w M J') ∧ lb_pl f t u.1 u.2.1 p r ∧ ((∃ c, r = .inl c ∧ c ≠ 0 ∧ ∃ u' D, yc_S Rw D f t Rd Tp By RR Y m0 s0 t c (u') (J')) ∨ ∃ q D, r = .inr q ∧ q ≤ t ∧ lb_plC f t u.1 u.2.1 p u.2.2.1 q C D ∧ yc_S Rw D f t Rd Tp By RR Y m0 s0 q 0 (u.1, u.2.1, u.2.2.1 + 1, u.2.2.2.1, u.2.2.2.2) (J')) := by
  have k : nt_rn X d 99 (0, [(0, .ref Yr)], [], me_w M J) o := k
  have t4 : t ≤ 400 := hP.2.2.2.2.2.1
  have k := ly_revb 1 (c' := (1, [(0, .ref Yr)], [.ref Yr], me_w M J)) rfl k
  have k := lz_get (a := Yr) (g := 901) (M := me_w M J) (v := .ref Y) rfl (nt_gfR rfl hP.2.2.1.2) k
  have k := lz_get (a := Y) (g := 806) (M := me_w M J) (v := .ref (Rw 6)) rfl (nt_gfR rfl (hP.2.2.2.2.1 6 (by decide) (by decide)).1) k
  have k := ly_revb 1 (c' := (8, [(0, .ref Yr)], [.ref Yr, .ref (Rw 6)], me_w M J)) rfl k
  have k := lz_get (a := Yr) (g := 901) (M := me_w M J) (v := .ref Y) rfl (nt_gfR rfl hP.2.2.1.2) k
  have k := lz_get (a := Y) (g := 802) (M := me_w M J) (v := .int (nI u.2.2.1)) rfl (congrArg Value.int (hS.2.2.1.2.2.1)) k
  have k := ly_revb 3 (c' := (17, [(0, .ref Yr)], [.ref Yr, .int (Int32.ofInt 0), .ref Yr, .int (nI u.2.2.1), .ref (Rw 6)], me_w M J)) rfl k
  have k := lz_get (a := Yr) (g := 901) (M := me_w M J) (v := .ref Y) rfl (nt_gfR rfl hP.2.2.1.2) k
  have k := lz_get (a := Y) (g := 800) (M := me_w M J) (v := .int (nI u.1)) rfl (congrArg Value.int (hS.2.2.1.1)) k
  have k := ly_revb 2 (c' := (25, [(0, .ref Yr)], [.int ((nI u.1) - (Int32.ofInt 1)), .int (Int32.ofInt 0), .ref Yr, .int (nI u.2.2.1), .ref (Rw 6)], me_w M J)) rfl k
  obtain ⟨d1, o1, ed, kc, k⟩ := lz_c (g := 97) (q := 1) (vs := [.ref Yr, .int (Int32.ofInt 0), .int ((nI u.1) - (Int32.ofInt 1))]) (rest := [.int (nI u.2.2.1), .ref (Rw 6)]) rfl rfl (by decide) (Or.inr (Or.inl ⟨_, rfl, rfl⟩)) rfl k
  obtain ⟨r1, a1, J1, e1, hv1, hN1⟩ := yc_num hP hS hp (by decide) kc
  subst e1
  rcases r1 with c | ⟨q1, x1⟩
  · obtain ⟨hc, rfl, hT1⟩ := hN1
    have k : nt_rn X _ 99 (28, [(0, .ref Yr)], [.int (Int32.ofInt 0), .int (nI u.2.2.1), .ref (Rw 6)], me_w M J1) _ := k
    have k := me_iastx rfl k
    have hS1 := yc_Sr (i := 6) (j := (nI u.2.2.1).toNatClampNeg) (x := Int32.ofInt 0) hP hT1 (by decide) (by decide) (lb_ix1 hub)
    have k : nt_rn X _ 99 (29, [(0, .ref Yr)], [], me_w M (nt_u J1 (Rw 6) (nI u.2.2.1).toNatClampNeg (Int32.ofInt 0))) _ := k
    have k := ly_revb 1 (c' := (30, [(0, .ref Yr)], [.ref Yr], me_w M (nt_u J1 (Rw 6) (nI u.2.2.1).toNatClampNeg (Int32.ofInt 0)))) rfl k
    have k := lz_get (a := Yr) (g := 901) (M := me_w M (nt_u J1 (Rw 6) (nI u.2.2.1).toNatClampNeg (Int32.ofInt 0))) (v := .ref Y) rfl (nt_gfR rfl hP.2.2.1.2) k
    have k := lz_get (a := Y) (g := 807) (M := me_w M (nt_u J1 (Rw 6) (nI u.2.2.1).toNatClampNeg (Int32.ofInt 0))) (v := .ref (Rw 7)) rfl (nt_gfR rfl (hP.2.2.2.2.1 7 (by decide) (by decide)).1) k
    have k := ly_revb 1 (c' := (37, [(0, .ref Yr)], [.ref Yr, .ref (Rw 7)], me_w M (nt_u J1 (Rw 6) (nI u.2.2.1).toNatClampNeg (Int32.ofInt 0)))) rfl k
    have k := lz_get (a := Yr) (g := 901) (M := me_w M (nt_u J1 (Rw 6) (nI u.2.2.1).toNatClampNeg (Int32.ofInt 0))) (v := .ref Y) rfl (nt_gfR rfl hP.2.2.1.2) k
    have k := lz_get (a := Y) (g := 802) (M := me_w M (nt_u J1 (Rw 6) (nI u.2.2.1).toNatClampNeg (Int32.ofInt 0))) (v := .int (nI u.2.2.1)) rfl (congrArg Value.int (hS1.2.2.1.2.2.1)) k
    have k := ly_revb 3 (c' := (47, [(0, .ref Yr)], [.int (Int32.ofInt 99), .int (Int32.ofInt 1), .ref Yr, .int (nI u.2.2.1), .ref (Rw 7)], me_w M (nt_u J1 (Rw 6) (nI u.2.2.1).toNatClampNeg (Int32.ofInt 0)))) rfl k
    obtain ⟨d1, o1, ed, kc, k⟩ := lz_c (g := 97) (q := 1) (vs := [.ref Yr, .int (Int32.ofInt 1), .int (Int32.ofInt 99)]) (rest := [.int (nI u.2.2.1), .ref (Rw 7)]) rfl rfl (by decide) (Or.inr (Or.inl ⟨_, rfl, rfl⟩)) rfl k
    obtain ⟨J2, e1, hT2⟩ := yc_numF hP hS1 hc kc
    subst e1
    have k : nt_rn X _ 99 (50, [(0, .ref Yr)], [.int (Int32.ofInt 0), .int (nI u.2.2.1), .ref (Rw 7)], me_w M J2) _ := k
    have k := me_iastx rfl k
    have hS2 := yc_Sr (i := 7) (j := (nI u.2.2.1).toNatClampNeg) (x := Int32.ofInt 0) hP hT2 (by decide) (by decide) (lb_ix1 hub)
    have k : nt_rn X _ 99 (51, [(0, .ref Yr)], [], me_w M (nt_u J2 (Rw 7) (nI u.2.2.1).toNatClampNeg (Int32.ofInt 0))) _ := k
    have k := ly_revb 1 (c' := (52, [(0, .ref Yr)], [.ref Yr], me_w M (nt_u J2 (Rw 7) (nI u.2.2.1).toNatClampNeg (Int32.ofInt 0)))) rfl k
    have k := lz_get (a := Yr) (g := 901) (M := me_w M (nt_u J2 (Rw 7) (nI u.2.2.1).toNatClampNeg (Int32.ofInt 0))) (v := .ref Y) rfl (nt_gfR rfl hP.2.2.1.2) k
    have k := lz_get (a := Y) (g := 808) (M := me_w M (nt_u J2 (Rw 7) (nI u.2.2.1).toNatClampNeg (Int32.ofInt 0))) (v := .ref (Rw 8)) rfl (nt_gfR rfl (hP.2.2.2.2.1 8 (by decide) (by decide)).1) k
    have k := ly_revb 1 (c' := (59, [(0, .ref Yr)], [.ref Yr, .ref (Rw 8)], me_w M (nt_u J2 (Rw 7) (nI u.2.2.1).toNatClampNeg (Int32.ofInt 0)))) rfl k
    have k := lz_get (a := Yr) (g := 901) (M := me_w M (nt_u J2 (Rw 7) (nI u.2.2.1).toNatClampNeg (Int32.ofInt 0))) (v := .ref Y) rfl (nt_gfR rfl hP.2.2.1.2) k
    have k := lz_get (a := Y) (g := 802) (M := me_w M (nt_u J2 (Rw 7) (nI u.2.2.1).toNatClampNeg (Int32.ofInt 0))) (v := .int (nI u.2.2.1)) rfl (congrArg Value.int (hS2.2.2.1.2.2.1)) k
    have k := ly_revb 3 (c' := (68, [(0, .ref Yr)], [.ref Yr, .int (Int32.ofInt 0), .ref Yr, .int (nI u.2.2.1), .ref (Rw 8)], me_w M (nt_u J2 (Rw 7) (nI u.2.2.1).toNatClampNeg (Int32.ofInt 0)))) rfl k
    have k := lz_get (a := Yr) (g := 901) (M := me_w M (nt_u J2 (Rw 7) (nI u.2.2.1).toNatClampNeg (Int32.ofInt 0))) (v := .ref Y) rfl (nt_gfR rfl hP.2.2.1.2) k
    have k := lz_get (a := Y) (g := 801) (M := me_w M (nt_u J2 (Rw 7) (nI u.2.2.1).toNatClampNeg (Int32.ofInt 0))) (v := .int (nI u.2.1)) rfl (congrArg Value.int (hS2.2.2.1.2.1)) k
    have k := ly_revb 2 (c' := (76, [(0, .ref Yr)], [.int ((nI u.2.1) - (Int32.ofInt 1)), .int (Int32.ofInt 0), .ref Yr, .int (nI u.2.2.1), .ref (Rw 8)], me_w M (nt_u J2 (Rw 7) (nI u.2.2.1).toNatClampNeg (Int32.ofInt 0)))) rfl k
    obtain ⟨d1, o1, ed, kc, k⟩ := lz_c (g := 97) (q := 1) (vs := [.ref Yr, .int (Int32.ofInt 0), .int ((nI u.2.1) - (Int32.ofInt 1))]) (rest := [.int (nI u.2.2.1), .ref (Rw 8)]) rfl rfl (by decide) (Or.inr (Or.inl ⟨_, rfl, rfl⟩)) rfl k
    obtain ⟨J3, e1, hT3⟩ := yc_numF hP hS2 hc kc
    subst e1
    have k : nt_rn X _ 99 (79, [(0, .ref Yr)], [.int (Int32.ofInt 0), .int (nI u.2.2.1), .ref (Rw 8)], me_w M J3) _ := k
    have k := me_iastx rfl k
    have hS3 := yc_Sr (i := 8) (j := (nI u.2.2.1).toNatClampNeg) (x := Int32.ofInt 0) hP hT3 (by decide) (by decide) (lb_ix1 hub)
    have k : nt_rn X _ 99 (80, [(0, .ref Yr)], [], me_w M (nt_u J3 (Rw 8) (nI u.2.2.1).toNatClampNeg (Int32.ofInt 0))) _ := k
    have k := ly_revb 1 (c' := (81, [(0, .ref Yr)], [.ref Yr], me_w M (nt_u J3 (Rw 8) (nI u.2.2.1).toNatClampNeg (Int32.ofInt 0)))) rfl k
    have k := lz_get (a := Yr) (g := 901) (M := me_w M (nt_u J3 (Rw 8) (nI u.2.2.1).toNatClampNeg (Int32.ofInt 0))) (v := .ref Y) rfl (nt_gfR rfl hP.2.2.1.2) k
    have k := ly_revb 1 (c' := (85, [(0, .ref Yr)], [.ref Y, .ref Y], me_w M (nt_u J3 (Rw 8) (nI u.2.2.1).toNatClampNeg (Int32.ofInt 0)))) rfl k
    have k := lz_get (a := Y) (g := 802) (M := me_w M (nt_u J3 (Rw 8) (nI u.2.2.1).toNatClampNeg (Int32.ofInt 0))) (v := .int (nI u.2.2.1)) rfl (congrArg Value.int (hS3.2.2.1.2.2.1)) k
    have k := ly_revb 2 (c' := (90, [(0, .ref Yr)], [.int ((nI u.2.2.1) + (Int32.ofInt 1)), .ref Y], me_w M (nt_u J3 (Rw 8) (nI u.2.2.1).toNatClampNeg (Int32.ofInt 0)))) rfl k
    rw [show ((nI u.2.2.1) + (Int32.ofInt 1) : Int32) = nI (u.2.2.1 + 1) from me_add (k := 1)] at k
    have k := me_put rfl (by decide) k
    have k : nt_rn X _ 99 (93, [(0, .ref Yr)], [], me_w M (nt_u (nt_u J3 (Rw 8) (nI u.2.2.1).toNatClampNeg (Int32.ofInt 0)) Y 2 (nI (u.2.2.1 + 1)))) _ := k
    have hS4 := yc_S2 (y := u.2.2.1 + 1) hP hS3
    have k := lz_rv rfl rfl k
    exact ⟨.inl c, _, k, ⟨_, hv1, Or.inl ⟨c, rfl, rfl⟩⟩, Or.inl ⟨c, rfl, hc, _, _, hS4⟩⟩
  · obtain ⟨ea, hq1, hT1⟩ := hN1
    dsimp only at ea hq1 hT1
    subst ea
    have hu1 := lb_nu_up hp hv1
    have k : nt_rn X _ 99 (28, [(0, .ref Yr)], [.int (a1), .int (nI u.2.2.1), .ref (Rw 6)], me_w M J1) _ := k
    have k := me_iastx rfl k
    have hS1 := yc_Sr (i := 6) (j := (nI u.2.2.1).toNatClampNeg) (x := a1) hP hT1 (by decide) (by decide) (lb_ix1 hub)
    have k : nt_rn X _ 99 (29, [(0, .ref Yr)], [], me_w M (nt_u J1 (Rw 6) (nI u.2.2.1).toNatClampNeg (a1))) _ := k
    have k := ly_revb 1 (c' := (30, [(0, .ref Yr)], [.ref Yr], me_w M (nt_u J1 (Rw 6) (nI u.2.2.1).toNatClampNeg (a1)))) rfl k
    have k := lz_get (a := Yr) (g := 901) (M := me_w M (nt_u J1 (Rw 6) (nI u.2.2.1).toNatClampNeg (a1))) (v := .ref Y) rfl (nt_gfR rfl hP.2.2.1.2) k
    have k := lz_get (a := Y) (g := 807) (M := me_w M (nt_u J1 (Rw 6) (nI u.2.2.1).toNatClampNeg (a1))) (v := .ref (Rw 7)) rfl (nt_gfR rfl (hP.2.2.2.2.1 7 (by decide) (by decide)).1) k
    have k := ly_revb 1 (c' := (37, [(0, .ref Yr)], [.ref Yr, .ref (Rw 7)], me_w M (nt_u J1 (Rw 6) (nI u.2.2.1).toNatClampNeg (a1)))) rfl k
    have k := lz_get (a := Yr) (g := 901) (M := me_w M (nt_u J1 (Rw 6) (nI u.2.2.1).toNatClampNeg (a1))) (v := .ref Y) rfl (nt_gfR rfl hP.2.2.1.2) k
    have k := lz_get (a := Y) (g := 802) (M := me_w M (nt_u J1 (Rw 6) (nI u.2.2.1).toNatClampNeg (a1))) (v := .int (nI u.2.2.1)) rfl (congrArg Value.int (hS1.2.2.1.2.2.1)) k
    have k := ly_revb 3 (c' := (47, [(0, .ref Yr)], [.int (Int32.ofInt 99), .int (Int32.ofInt 1), .ref Yr, .int (nI u.2.2.1), .ref (Rw 7)], me_w M (nt_u J1 (Rw 6) (nI u.2.2.1).toNatClampNeg (a1)))) rfl k
    obtain ⟨d1, o1, ed, kc, k⟩ := lz_c (g := 97) (q := 1) (vs := [.ref Yr, .int (Int32.ofInt 1), .int (Int32.ofInt 99)]) (rest := [.int (nI u.2.2.1), .ref (Rw 7)]) rfl rfl (by decide) (Or.inr (Or.inl ⟨_, rfl, rfl⟩)) rfl k
    obtain ⟨r2, a2, J2, e1, hv2, hN2⟩ := yc_num hP hS1 hq1 (by decide) kc
    subst e1
    rcases r2 with c | ⟨q2, x2⟩
    · obtain ⟨hc, rfl, hT2⟩ := hN2
      have k : nt_rn X _ 99 (50, [(0, .ref Yr)], [.int (Int32.ofInt 0), .int (nI u.2.2.1), .ref (Rw 7)], me_w M J2) _ := k
      have k := me_iastx rfl k
      have hS2 := yc_Sr (i := 7) (j := (nI u.2.2.1).toNatClampNeg) (x := Int32.ofInt 0) hP hT2 (by decide) (by decide) (lb_ix1 hub)
      have k : nt_rn X _ 99 (51, [(0, .ref Yr)], [], me_w M (nt_u J2 (Rw 7) (nI u.2.2.1).toNatClampNeg (Int32.ofInt 0))) _ := k
      have k := ly_revb 1 (c' := (52, [(0, .ref Yr)], [.ref Yr], me_w M (nt_u J2 (Rw 7) (nI u.2.2.1).toNatClampNeg (Int32.ofInt 0)))) rfl k
      have k := lz_get (a := Yr) (g := 901) (M := me_w M (nt_u J2 (Rw 7) (nI u.2.2.1).toNatClampNeg (Int32.ofInt 0))) (v := .ref Y) rfl (nt_gfR rfl hP.2.2.1.2) k
      have k := lz_get (a := Y) (g := 808) (M := me_w M (nt_u J2 (Rw 7) (nI u.2.2.1).toNatClampNeg (Int32.ofInt 0))) (v := .ref (Rw 8)) rfl (nt_gfR rfl (hP.2.2.2.2.1 8 (by decide) (by decide)).1) k
      have k := ly_revb 1 (c' := (59, [(0, .ref Yr)], [.ref Yr, .ref (Rw 8)], me_w M (nt_u J2 (Rw 7) (nI u.2.2.1).toNatClampNeg (Int32.ofInt 0)))) rfl k
      have k := lz_get (a := Yr) (g := 901) (M := me_w M (nt_u J2 (Rw 7) (nI u.2.2.1).toNatClampNeg (Int32.ofInt 0))) (v := .ref Y) rfl (nt_gfR rfl hP.2.2.1.2) k
      have k := lz_get (a := Y) (g := 802) (M := me_w M (nt_u J2 (Rw 7) (nI u.2.2.1).toNatClampNeg (Int32.ofInt 0))) (v := .int (nI u.2.2.1)) rfl (congrArg Value.int (hS2.2.2.1.2.2.1)) k
      have k := ly_revb 3 (c' := (68, [(0, .ref Yr)], [.ref Yr, .int (Int32.ofInt 0), .ref Yr, .int (nI u.2.2.1), .ref (Rw 8)], me_w M (nt_u J2 (Rw 7) (nI u.2.2.1).toNatClampNeg (Int32.ofInt 0)))) rfl k
      have k := lz_get (a := Yr) (g := 901) (M := me_w M (nt_u J2 (Rw 7) (nI u.2.2.1).toNatClampNeg (Int32.ofInt 0))) (v := .ref Y) rfl (nt_gfR rfl hP.2.2.1.2) k
      have k := lz_get (a := Y) (g := 801) (M := me_w M (nt_u J2 (Rw 7) (nI u.2.2.1).toNatClampNeg (Int32.ofInt 0))) (v := .int (nI u.2.1)) rfl (congrArg Value.int (hS2.2.2.1.2.1)) k
      have k := ly_revb 2 (c' := (76, [(0, .ref Yr)], [.int ((nI u.2.1) - (Int32.ofInt 1)), .int (Int32.ofInt 0), .ref Yr, .int (nI u.2.2.1), .ref (Rw 8)], me_w M (nt_u J2 (Rw 7) (nI u.2.2.1).toNatClampNeg (Int32.ofInt 0)))) rfl k
      obtain ⟨d1, o1, ed, kc, k⟩ := lz_c (g := 97) (q := 1) (vs := [.ref Yr, .int (Int32.ofInt 0), .int ((nI u.2.1) - (Int32.ofInt 1))]) (rest := [.int (nI u.2.2.1), .ref (Rw 8)]) rfl rfl (by decide) (Or.inr (Or.inl ⟨_, rfl, rfl⟩)) rfl k
      obtain ⟨J3, e1, hT3⟩ := yc_numF hP hS2 hc kc
      subst e1
      have k : nt_rn X _ 99 (79, [(0, .ref Yr)], [.int (Int32.ofInt 0), .int (nI u.2.2.1), .ref (Rw 8)], me_w M J3) _ := k
      have k := me_iastx rfl k
      have hS3 := yc_Sr (i := 8) (j := (nI u.2.2.1).toNatClampNeg) (x := Int32.ofInt 0) hP hT3 (by decide) (by decide) (lb_ix1 hub)
      have k : nt_rn X _ 99 (80, [(0, .ref Yr)], [], me_w M (nt_u J3 (Rw 8) (nI u.2.2.1).toNatClampNeg (Int32.ofInt 0))) _ := k
      have k := ly_revb 1 (c' := (81, [(0, .ref Yr)], [.ref Yr], me_w M (nt_u J3 (Rw 8) (nI u.2.2.1).toNatClampNeg (Int32.ofInt 0)))) rfl k
      have k := lz_get (a := Yr) (g := 901) (M := me_w M (nt_u J3 (Rw 8) (nI u.2.2.1).toNatClampNeg (Int32.ofInt 0))) (v := .ref Y) rfl (nt_gfR rfl hP.2.2.1.2) k
      have k := ly_revb 1 (c' := (85, [(0, .ref Yr)], [.ref Y, .ref Y], me_w M (nt_u J3 (Rw 8) (nI u.2.2.1).toNatClampNeg (Int32.ofInt 0)))) rfl k
      have k := lz_get (a := Y) (g := 802) (M := me_w M (nt_u J3 (Rw 8) (nI u.2.2.1).toNatClampNeg (Int32.ofInt 0))) (v := .int (nI u.2.2.1)) rfl (congrArg Value.int (hS3.2.2.1.2.2.1)) k
      have k := ly_revb 2 (c' := (90, [(0, .ref Yr)], [.int ((nI u.2.2.1) + (Int32.ofInt 1)), .ref Y], me_w M (nt_u J3 (Rw 8) (nI u.2.2.1).toNatClampNeg (Int32.ofInt 0)))) rfl k
      rw [show ((nI u.2.2.1) + (Int32.ofInt 1) : Int32) = nI (u.2.2.1 + 1) from me_add (k := 1)] at k
      have k := me_put rfl (by decide) k
      have k : nt_rn X _ 99 (93, [(0, .ref Yr)], [], me_w M (nt_u (nt_u J3 (Rw 8) (nI u.2.2.1).toNatClampNeg (Int32.ofInt 0)) Y 2 (nI (u.2.2.1 + 1)))) _ := k
      have hS4 := yc_S2 (y := u.2.2.1 + 1) hP hS3
      have k := lz_rv rfl rfl k
      exact ⟨.inl c, _, k, ⟨_, hv1, Or.inr ⟨_, _, rfl, ⟨_, hv2, Or.inl ⟨c, rfl, rfl⟩⟩⟩⟩, Or.inl ⟨c, rfl, hc, _, _, hS4⟩⟩
    · obtain ⟨ea, hq2, hT2⟩ := hN2
      dsimp only at ea hq2 hT2
      subst ea
      have hu2 := lb_nu_up hq1 hv2
      have k : nt_rn X _ 99 (50, [(0, .ref Yr)], [.int (a2), .int (nI u.2.2.1), .ref (Rw 7)], me_w M J2) _ := k
      have k := me_iastx rfl k
      have hS2 := yc_Sr (i := 7) (j := (nI u.2.2.1).toNatClampNeg) (x := a2) hP hT2 (by decide) (by decide) (lb_ix1 hub)
      have k : nt_rn X _ 99 (51, [(0, .ref Yr)], [], me_w M (nt_u J2 (Rw 7) (nI u.2.2.1).toNatClampNeg (a2))) _ := k
      have k := ly_revb 1 (c' := (52, [(0, .ref Yr)], [.ref Yr], me_w M (nt_u J2 (Rw 7) (nI u.2.2.1).toNatClampNeg (a2)))) rfl k
      have k := lz_get (a := Yr) (g := 901) (M := me_w M (nt_u J2 (Rw 7) (nI u.2.2.1).toNatClampNeg (a2))) (v := .ref Y) rfl (nt_gfR rfl hP.2.2.1.2) k
      have k := lz_get (a := Y) (g := 808) (M := me_w M (nt_u J2 (Rw 7) (nI u.2.2.1).toNatClampNeg (a2))) (v := .ref (Rw 8)) rfl (nt_gfR rfl (hP.2.2.2.2.1 8 (by decide) (by decide)).1) k
      have k := ly_revb 1 (c' := (59, [(0, .ref Yr)], [.ref Yr, .ref (Rw 8)], me_w M (nt_u J2 (Rw 7) (nI u.2.2.1).toNatClampNeg (a2)))) rfl k
      have k := lz_get (a := Yr) (g := 901) (M := me_w M (nt_u J2 (Rw 7) (nI u.2.2.1).toNatClampNeg (a2))) (v := .ref Y) rfl (nt_gfR rfl hP.2.2.1.2) k
      have k := lz_get (a := Y) (g := 802) (M := me_w M (nt_u J2 (Rw 7) (nI u.2.2.1).toNatClampNeg (a2))) (v := .int (nI u.2.2.1)) rfl (congrArg Value.int (hS2.2.2.1.2.2.1)) k
      have k := ly_revb 3 (c' := (68, [(0, .ref Yr)], [.ref Yr, .int (Int32.ofInt 0), .ref Yr, .int (nI u.2.2.1), .ref (Rw 8)], me_w M (nt_u J2 (Rw 7) (nI u.2.2.1).toNatClampNeg (a2)))) rfl k
      have k := lz_get (a := Yr) (g := 901) (M := me_w M (nt_u J2 (Rw 7) (nI u.2.2.1).toNatClampNeg (a2))) (v := .ref Y) rfl (nt_gfR rfl hP.2.2.1.2) k
      have k := lz_get (a := Y) (g := 801) (M := me_w M (nt_u J2 (Rw 7) (nI u.2.2.1).toNatClampNeg (a2))) (v := .int (nI u.2.1)) rfl (congrArg Value.int (hS2.2.2.1.2.1)) k
      have k := ly_revb 2 (c' := (76, [(0, .ref Yr)], [.int ((nI u.2.1) - (Int32.ofInt 1)), .int (Int32.ofInt 0), .ref Yr, .int (nI u.2.2.1), .ref (Rw 8)], me_w M (nt_u J2 (Rw 7) (nI u.2.2.1).toNatClampNeg (a2)))) rfl k
      obtain ⟨d1, o1, ed, kc, k⟩ := lz_c (g := 97) (q := 1) (vs := [.ref Yr, .int (Int32.ofInt 0), .int ((nI u.2.1) - (Int32.ofInt 1))]) (rest := [.int (nI u.2.2.1), .ref (Rw 8)]) rfl rfl (by decide) (Or.inr (Or.inl ⟨_, rfl, rfl⟩)) rfl k
      obtain ⟨r3, a3, J3, e1, hv3, hN3⟩ := yc_num hP hS2 hq2 (by decide) kc
      subst e1
      rcases r3 with c | ⟨q3, x3⟩
      · obtain ⟨hc, rfl, hT3⟩ := hN3
        have k : nt_rn X _ 99 (79, [(0, .ref Yr)], [.int (Int32.ofInt 0), .int (nI u.2.2.1), .ref (Rw 8)], me_w M J3) _ := k
        have k := me_iastx rfl k
        have hS3 := yc_Sr (i := 8) (j := (nI u.2.2.1).toNatClampNeg) (x := Int32.ofInt 0) hP hT3 (by decide) (by decide) (lb_ix1 hub)
        have k : nt_rn X _ 99 (80, [(0, .ref Yr)], [], me_w M (nt_u J3 (Rw 8) (nI u.2.2.1).toNatClampNeg (Int32.ofInt 0))) _ := k
        have k := ly_revb 1 (c' := (81, [(0, .ref Yr)], [.ref Yr], me_w M (nt_u J3 (Rw 8) (nI u.2.2.1).toNatClampNeg (Int32.ofInt 0)))) rfl k
        have k := lz_get (a := Yr) (g := 901) (M := me_w M (nt_u J3 (Rw 8) (nI u.2.2.1).toNatClampNeg (Int32.ofInt 0))) (v := .ref Y) rfl (nt_gfR rfl hP.2.2.1.2) k
        have k := ly_revb 1 (c' := (85, [(0, .ref Yr)], [.ref Y, .ref Y], me_w M (nt_u J3 (Rw 8) (nI u.2.2.1).toNatClampNeg (Int32.ofInt 0)))) rfl k
        have k := lz_get (a := Y) (g := 802) (M := me_w M (nt_u J3 (Rw 8) (nI u.2.2.1).toNatClampNeg (Int32.ofInt 0))) (v := .int (nI u.2.2.1)) rfl (congrArg Value.int (hS3.2.2.1.2.2.1)) k
        have k := ly_revb 2 (c' := (90, [(0, .ref Yr)], [.int ((nI u.2.2.1) + (Int32.ofInt 1)), .ref Y], me_w M (nt_u J3 (Rw 8) (nI u.2.2.1).toNatClampNeg (Int32.ofInt 0)))) rfl k
        rw [show ((nI u.2.2.1) + (Int32.ofInt 1) : Int32) = nI (u.2.2.1 + 1) from me_add (k := 1)] at k
        have k := me_put rfl (by decide) k
        have k : nt_rn X _ 99 (93, [(0, .ref Yr)], [], me_w M (nt_u (nt_u J3 (Rw 8) (nI u.2.2.1).toNatClampNeg (Int32.ofInt 0)) Y 2 (nI (u.2.2.1 + 1)))) _ := k
        have hS4 := yc_S2 (y := u.2.2.1 + 1) hP hS3
        have k := lz_rv rfl rfl k
        exact ⟨.inl c, _, k, ⟨_, hv1, Or.inr ⟨_, _, rfl, ⟨_, hv2, Or.inr ⟨_, _, rfl, ⟨_, hv3, Or.inl ⟨c, rfl, rfl⟩⟩⟩⟩⟩⟩, Or.inl ⟨c, rfl, hc, _, _, hS4⟩⟩
      · obtain ⟨ea, hq3, hT3⟩ := hN3
        dsimp only at ea hq3 hT3
        subst ea
        have hu3 := lb_nu_up hq2 hv3
        have k : nt_rn X _ 99 (79, [(0, .ref Yr)], [.int (a3), .int (nI u.2.2.1), .ref (Rw 8)], me_w M J3) _ := k
        have k := me_iastx rfl k
        have hS3 := yc_Sr (i := 8) (j := (nI u.2.2.1).toNatClampNeg) (x := a3) hP hT3 (by decide) (by decide) (lb_ix1 hub)
        have k : nt_rn X _ 99 (80, [(0, .ref Yr)], [], me_w M (nt_u J3 (Rw 8) (nI u.2.2.1).toNatClampNeg (a3))) _ := k
        have k := ly_revb 1 (c' := (81, [(0, .ref Yr)], [.ref Yr], me_w M (nt_u J3 (Rw 8) (nI u.2.2.1).toNatClampNeg (a3)))) rfl k
        have k := lz_get (a := Yr) (g := 901) (M := me_w M (nt_u J3 (Rw 8) (nI u.2.2.1).toNatClampNeg (a3))) (v := .ref Y) rfl (nt_gfR rfl hP.2.2.1.2) k
        have k := ly_revb 1 (c' := (85, [(0, .ref Yr)], [.ref Y, .ref Y], me_w M (nt_u J3 (Rw 8) (nI u.2.2.1).toNatClampNeg (a3)))) rfl k
        have k := lz_get (a := Y) (g := 802) (M := me_w M (nt_u J3 (Rw 8) (nI u.2.2.1).toNatClampNeg (a3))) (v := .int (nI u.2.2.1)) rfl (congrArg Value.int (hS3.2.2.1.2.2.1)) k
        have k := ly_revb 2 (c' := (90, [(0, .ref Yr)], [.int ((nI u.2.2.1) + (Int32.ofInt 1)), .ref Y], me_w M (nt_u J3 (Rw 8) (nI u.2.2.1).toNatClampNeg (a3)))) rfl k
        rw [show ((nI u.2.2.1) + (Int32.ofInt 1) : Int32) = nI (u.2.2.1 + 1) from me_add (k := 1)] at k
        have k := me_put rfl (by decide) k
        have k : nt_rn X _ 99 (93, [(0, .ref Yr)], [], me_w M (nt_u (nt_u J3 (Rw 8) (nI u.2.2.1).toNatClampNeg (a3)) Y 2 (nI (u.2.2.1 + 1)))) _ := k
        have hS4 := yc_S2 (y := u.2.2.1 + 1) hP hS3
        have k := lz_rv rfl rfl k
        exact ⟨.inr q3, _, k, ⟨_, hv1, Or.inr ⟨_, _, rfl, ⟨_, hv2, Or.inr ⟨_, _, rfl, ⟨_, hv3, Or.inr ⟨_, _, rfl, rfl⟩⟩⟩⟩⟩⟩, Or.inr ⟨_, _, rfl, hq3, ⟨_, _, _, _, _, hv1, hv2, hv3, rfl⟩, hS4⟩⟩
theorem yc_x1 {x : Int32} (h0 : (Int32.ofInt 0).toInt ≤ x.toInt) (h1 : x.toInt ≤ (Int32.ofInt 98).toInt) : 0 ≤ (x + Int32.ofInt 1).toInt := by
  have e0 : (Int32.ofInt 0).toInt = 0 := by decide
  have e1 : (Int32.ofInt 1).toInt = 1 := by decide
  have e9 : (Int32.ofInt 98).toInt = 98 := by decide
  rw [e0] at h0
  rw [e9] at h1
  rw [Int32.toInt_add, e1, Int.bmod_eq_of_le (by omega) (by omega)]
  omega
theorem yc_voyage {X : nt_X} {d t Rd Tp By RR Sp Yr Y m0 s0 : Nat} {Rw : Nat → Nat} {f : Nat → Int32} {M : nt_M} {o : Option Value × nt_M} {C : lb_C} {p : Nat} {u : Nat × Nat × Nat × Nat × Nat} {J : Nat → Nat → Int32} (hP : yc_P M t Rd Tp By RR Sp Yr Y Rw) (hS : yc_S Rw C f t Rd Tp By RR Y m0 s0 p 0 u J) (hub : u.2.2.2.1 < 1000) (hp : p ≤ t) (k : nt_ev X d 100 [.ref Yr] (me_w M J) o) : ∃ r J', o = (none, me_w M J') ∧ lb_vo f t u.2.1 p r ∧ ((∃ c, r = .inl c ∧ c ≠ 0 ∧ ∃ u' D, yc_S Rw D f t Rd Tp By RR Y m0 s0 t c (u') (J')) ∨ ∃ q D, r = .inr q ∧ q ≤ t ∧ lb_voC f t u.2.1 p u.2.2.2.1 q C D ∧ yc_S Rw D f t Rd Tp By RR Y m0 s0 q 0 (u.1, u.2.1, u.2.2.1, u.2.2.2.1 + 1, u.2.2.2.2) (J')) := by
  have k : nt_rn X d 100 (0, [(0, .ref Yr)], [], me_w M J) o := k
  have t4 : t ≤ 400 := hP.2.2.2.2.2.1
  have k := ly_revb 1 (c' := (1, [(0, .ref Yr)], [.ref Yr], me_w M J)) rfl k
  have k := lz_get (a := Yr) (g := 901) (M := me_w M J) (v := .ref Y) rfl (nt_gfR rfl hP.2.2.1.2) k
  have k := lz_get (a := Y) (g := 809) (M := me_w M J) (v := .ref (Rw 9)) rfl (nt_gfR rfl (hP.2.2.2.2.1 9 (by decide) (by decide)).1) k
  have k := ly_revb 1 (c' := (8, [(0, .ref Yr)], [.ref Yr, .ref (Rw 9)], me_w M J)) rfl k
  have k := lz_get (a := Yr) (g := 901) (M := me_w M J) (v := .ref Y) rfl (nt_gfR rfl hP.2.2.1.2) k
  have k := lz_get (a := Y) (g := 803) (M := me_w M J) (v := .int (nI u.2.2.2.1)) rfl (congrArg Value.int (hS.2.2.1.2.2.2.1)) k
  have k := ly_revb 3 (c' := (17, [(0, .ref Yr)], [.ref Yr, .int (Int32.ofInt 0), .ref Yr, .int (nI u.2.2.2.1), .ref (Rw 9)], me_w M J)) rfl k
  have k := lz_get (a := Yr) (g := 901) (M := me_w M J) (v := .ref Y) rfl (nt_gfR rfl hP.2.2.1.2) k
  have k := lz_get (a := Y) (g := 801) (M := me_w M J) (v := .int (nI u.2.1)) rfl (congrArg Value.int (hS.2.2.1.2.1)) k
  have k := ly_revb 2 (c' := (25, [(0, .ref Yr)], [.int ((nI u.2.1) - (Int32.ofInt 1)), .int (Int32.ofInt 0), .ref Yr, .int (nI u.2.2.2.1), .ref (Rw 9)], me_w M J)) rfl k
  obtain ⟨d1, o1, ed, kc, k⟩ := lz_c (g := 97) (q := 1) (vs := [.ref Yr, .int (Int32.ofInt 0), .int ((nI u.2.1) - (Int32.ofInt 1))]) (rest := [.int (nI u.2.2.2.1), .ref (Rw 9)]) rfl rfl (by decide) (Or.inr (Or.inl ⟨_, rfl, rfl⟩)) rfl k
  obtain ⟨r1, a1, J1, e1, hv1, hN1⟩ := yc_num hP hS hp (by decide) kc
  subst e1
  rcases r1 with c | ⟨q1, x1⟩
  · obtain ⟨hc, rfl, hT1⟩ := hN1
    have k : nt_rn X _ 100 (28, [(0, .ref Yr)], [.int (Int32.ofInt 0), .int (nI u.2.2.2.1), .ref (Rw 9)], me_w M J1) _ := k
    have k := me_iastx rfl k
    have hS1 := yc_Sr (i := 9) (j := (nI u.2.2.2.1).toNatClampNeg) (x := Int32.ofInt 0) hP hT1 (by decide) (by decide) (lb_ix1 hub)
    have k : nt_rn X _ 100 (29, [(0, .ref Yr)], [], me_w M (nt_u J1 (Rw 9) (nI u.2.2.2.1).toNatClampNeg (Int32.ofInt 0))) _ := k
    have k := ly_revb 3 (c' := (33, [(0, .ref Yr)], [.int (Int32.ofInt 98), .int (Int32.ofInt 0), .ref Yr], me_w M (nt_u J1 (Rw 9) (nI u.2.2.2.1).toNatClampNeg (Int32.ofInt 0)))) rfl k
    obtain ⟨d1, o1, ed, kc, k⟩ := lz_c (g := 97) (q := 1) (vs := [.ref Yr, .int (Int32.ofInt 0), .int (Int32.ofInt 98)]) (rest := []) rfl rfl (by decide) (Or.inr (Or.inl ⟨_, rfl, rfl⟩)) rfl k
    obtain ⟨J2, e1, hT2⟩ := yc_numF hP hS1 hc kc
    subst e1
    have k : nt_rn X _ 100 (36, [(0, .ref Yr)], [.int (Int32.ofInt 0)], me_w M J2) _ := k
    have k := ly_revb 2 (c' := (38, [(1, .int (Int32.ofInt 0)), (0, .ref Yr)], [.ref Yr], me_w M J2)) rfl k
    have k := lz_get (a := Yr) (g := 901) (M := me_w M J2) (v := .ref Y) rfl (nt_gfR rfl hP.2.2.1.2) k
    have k := lz_get (a := Y) (g := 810) (M := me_w M J2) (v := .ref (Rw 10)) rfl (nt_gfR rfl (hP.2.2.2.2.1 10 (by decide) (by decide)).1) k
    have k := ly_revb 1 (c' := (45, [(1, .int (Int32.ofInt 0)), (0, .ref Yr)], [.ref Yr, .ref (Rw 10)], me_w M J2)) rfl k
    have k := lz_get (a := Yr) (g := 901) (M := me_w M J2) (v := .ref Y) rfl (nt_gfR rfl hP.2.2.1.2) k
    have k := lz_get (a := Y) (g := 803) (M := me_w M J2) (v := .int (nI u.2.2.2.1)) rfl (congrArg Value.int (hT2.2.2.1.2.2.2.1)) k
    have k := ly_revb 1 (c' := (52, [(1, .int (Int32.ofInt 0)), (0, .ref Yr)], [.int (Int32.ofInt 0), .int (nI u.2.2.2.1), .ref (Rw 10)], me_w M J2)) rfl k
    have k := me_iastx rfl k
    have hS2 := yc_Sr (i := 10) (j := (nI u.2.2.2.1).toNatClampNeg) (x := Int32.ofInt 0) hP hT2 (by decide) (by decide) (lb_ix1 hub)
    have k : nt_rn X _ 100 (53, [(1, .int (Int32.ofInt 0)), (0, .ref Yr)], [], me_w M (nt_u J2 (Rw 10) (nI u.2.2.2.1).toNatClampNeg (Int32.ofInt 0))) _ := k
    have k := ly_revb 1 (c' := (54, [(1, .int (Int32.ofInt 0)), (0, .ref Yr)], [.ref Yr], me_w M (nt_u J2 (Rw 10) (nI u.2.2.2.1).toNatClampNeg (Int32.ofInt 0)))) rfl k
    have k := lz_get (a := Yr) (g := 901) (M := me_w M (nt_u J2 (Rw 10) (nI u.2.2.2.1).toNatClampNeg (Int32.ofInt 0))) (v := .ref Y) rfl (nt_gfR rfl hP.2.2.1.2) k
    have k := lz_get (a := Y) (g := 811) (M := me_w M (nt_u J2 (Rw 10) (nI u.2.2.2.1).toNatClampNeg (Int32.ofInt 0))) (v := .ref (Rw 11)) rfl (nt_gfR rfl (hP.2.2.2.2.1 11 (by decide) (by decide)).1) k
    have k := ly_revb 1 (c' := (61, [(1, .int (Int32.ofInt 0)), (0, .ref Yr)], [.ref Yr, .ref (Rw 11)], me_w M (nt_u J2 (Rw 10) (nI u.2.2.2.1).toNatClampNeg (Int32.ofInt 0)))) rfl k
    have k := lz_get (a := Yr) (g := 901) (M := me_w M (nt_u J2 (Rw 10) (nI u.2.2.2.1).toNatClampNeg (Int32.ofInt 0))) (v := .ref Y) rfl (nt_gfR rfl hP.2.2.1.2) k
    have k := lz_get (a := Y) (g := 803) (M := me_w M (nt_u J2 (Rw 10) (nI u.2.2.2.1).toNatClampNeg (Int32.ofInt 0))) (v := .int (nI u.2.2.2.1)) rfl (congrArg Value.int (hS2.2.2.1.2.2.2.1)) k
    have k := ly_revb 5 (c' := (73, [(1, .int (Int32.ofInt 0)), (0, .ref Yr)], [.int (Int32.ofInt 99), .int ((Int32.ofInt 0) + (Int32.ofInt 1)), .ref Yr, .int (nI u.2.2.2.1), .ref (Rw 11)], me_w M (nt_u J2 (Rw 10) (nI u.2.2.2.1).toNatClampNeg (Int32.ofInt 0)))) rfl k
    obtain ⟨d1, o1, ed, kc, k⟩ := lz_c (g := 97) (q := 1) (vs := [.ref Yr, .int ((Int32.ofInt 0) + (Int32.ofInt 1)), .int (Int32.ofInt 99)]) (rest := [.int (nI u.2.2.2.1), .ref (Rw 11)]) rfl rfl (by decide) (Or.inr (Or.inl ⟨_, rfl, rfl⟩)) rfl k
    obtain ⟨J3, e1, hT3⟩ := yc_numF hP hS2 hc kc
    subst e1
    have k : nt_rn X _ 100 (76, [(1, .int (Int32.ofInt 0)), (0, .ref Yr)], [.int (Int32.ofInt 0), .int (nI u.2.2.2.1), .ref (Rw 11)], me_w M J3) _ := k
    have k := me_iastx rfl k
    have hS3 := yc_Sr (i := 11) (j := (nI u.2.2.2.1).toNatClampNeg) (x := Int32.ofInt 0) hP hT3 (by decide) (by decide) (lb_ix1 hub)
    have k : nt_rn X _ 100 (77, [(1, .int (Int32.ofInt 0)), (0, .ref Yr)], [], me_w M (nt_u J3 (Rw 11) (nI u.2.2.2.1).toNatClampNeg (Int32.ofInt 0))) _ := k
    have k := ly_revb 1 (c' := (78, [(1, .int (Int32.ofInt 0)), (0, .ref Yr)], [.ref Yr], me_w M (nt_u J3 (Rw 11) (nI u.2.2.2.1).toNatClampNeg (Int32.ofInt 0)))) rfl k
    have k := lz_get (a := Yr) (g := 901) (M := me_w M (nt_u J3 (Rw 11) (nI u.2.2.2.1).toNatClampNeg (Int32.ofInt 0))) (v := .ref Y) rfl (nt_gfR rfl hP.2.2.1.2) k
    have k := lz_get (a := Y) (g := 812) (M := me_w M (nt_u J3 (Rw 11) (nI u.2.2.2.1).toNatClampNeg (Int32.ofInt 0))) (v := .ref (Rw 12)) rfl (nt_gfR rfl (hP.2.2.2.2.1 12 (by decide) (by decide)).1) k
    have k := ly_revb 1 (c' := (85, [(1, .int (Int32.ofInt 0)), (0, .ref Yr)], [.ref Yr, .ref (Rw 12)], me_w M (nt_u J3 (Rw 11) (nI u.2.2.2.1).toNatClampNeg (Int32.ofInt 0)))) rfl k
    have k := lz_get (a := Yr) (g := 901) (M := me_w M (nt_u J3 (Rw 11) (nI u.2.2.2.1).toNatClampNeg (Int32.ofInt 0))) (v := .ref Y) rfl (nt_gfR rfl hP.2.2.1.2) k
    have k := lz_get (a := Y) (g := 803) (M := me_w M (nt_u J3 (Rw 11) (nI u.2.2.2.1).toNatClampNeg (Int32.ofInt 0))) (v := .int (nI u.2.2.2.1)) rfl (congrArg Value.int (hS3.2.2.1.2.2.2.1)) k
    have k := ly_revb 3 (c' := (96, [(1, .int (Int32.ofInt 0)), (0, .ref Yr)], [.int (Int32.ofInt 999), .int (Int32.ofInt 0), .ref Yr, .int (nI u.2.2.2.1), .ref (Rw 12)], me_w M (nt_u J3 (Rw 11) (nI u.2.2.2.1).toNatClampNeg (Int32.ofInt 0)))) rfl k
    obtain ⟨d1, o1, ed, kc, k⟩ := lz_c (g := 97) (q := 1) (vs := [.ref Yr, .int (Int32.ofInt 0), .int (Int32.ofInt 999)]) (rest := [.int (nI u.2.2.2.1), .ref (Rw 12)]) rfl rfl (by decide) (Or.inr (Or.inl ⟨_, rfl, rfl⟩)) rfl k
    obtain ⟨J4, e1, hT4⟩ := yc_numF hP hS3 hc kc
    subst e1
    have k : nt_rn X _ 100 (99, [(1, .int (Int32.ofInt 0)), (0, .ref Yr)], [.int (Int32.ofInt 0), .int (nI u.2.2.2.1), .ref (Rw 12)], me_w M J4) _ := k
    have k := me_iastx rfl k
    have hS4 := yc_Sr (i := 12) (j := (nI u.2.2.2.1).toNatClampNeg) (x := Int32.ofInt 0) hP hT4 (by decide) (by decide) (lb_ix1 hub)
    have k : nt_rn X _ 100 (100, [(1, .int (Int32.ofInt 0)), (0, .ref Yr)], [], me_w M (nt_u J4 (Rw 12) (nI u.2.2.2.1).toNatClampNeg (Int32.ofInt 0))) _ := k
    have k := ly_revb 1 (c' := (101, [(1, .int (Int32.ofInt 0)), (0, .ref Yr)], [.ref Yr], me_w M (nt_u J4 (Rw 12) (nI u.2.2.2.1).toNatClampNeg (Int32.ofInt 0)))) rfl k
    have k := lz_get (a := Yr) (g := 901) (M := me_w M (nt_u J4 (Rw 12) (nI u.2.2.2.1).toNatClampNeg (Int32.ofInt 0))) (v := .ref Y) rfl (nt_gfR rfl hP.2.2.1.2) k
    have k := ly_revb 1 (c' := (105, [(1, .int (Int32.ofInt 0)), (0, .ref Yr)], [.ref Y, .ref Y], me_w M (nt_u J4 (Rw 12) (nI u.2.2.2.1).toNatClampNeg (Int32.ofInt 0)))) rfl k
    have k := lz_get (a := Y) (g := 803) (M := me_w M (nt_u J4 (Rw 12) (nI u.2.2.2.1).toNatClampNeg (Int32.ofInt 0))) (v := .int (nI u.2.2.2.1)) rfl (congrArg Value.int (hS4.2.2.1.2.2.2.1)) k
    have k := ly_revb 2 (c' := (110, [(1, .int (Int32.ofInt 0)), (0, .ref Yr)], [.int ((nI u.2.2.2.1) + (Int32.ofInt 1)), .ref Y], me_w M (nt_u J4 (Rw 12) (nI u.2.2.2.1).toNatClampNeg (Int32.ofInt 0)))) rfl k
    rw [show ((nI u.2.2.2.1) + (Int32.ofInt 1) : Int32) = nI (u.2.2.2.1 + 1) from me_add (k := 1)] at k
    have k := me_put rfl (by decide) k
    have k : nt_rn X _ 100 (113, [(1, .int (Int32.ofInt 0)), (0, .ref Yr)], [], me_w M (nt_u (nt_u J4 (Rw 12) (nI u.2.2.2.1).toNatClampNeg (Int32.ofInt 0)) Y 3 (nI (u.2.2.2.1 + 1)))) _ := k
    have hS5 := yc_S3 (y := u.2.2.2.1 + 1) hP hS4
    have k := lz_rv rfl rfl k
    exact ⟨.inl c, _, k, ⟨_, hv1, Or.inl ⟨c, rfl, rfl⟩⟩, Or.inl ⟨c, rfl, hc, _, _, hS5⟩⟩
  · obtain ⟨ea, hq1, hT1⟩ := hN1
    dsimp only at ea hq1 hT1
    subst ea
    have hu1 := lb_nu_up hp hv1
    have k : nt_rn X _ 100 (28, [(0, .ref Yr)], [.int (a1), .int (nI u.2.2.2.1), .ref (Rw 9)], me_w M J1) _ := k
    have k := me_iastx rfl k
    have hS1 := yc_Sr (i := 9) (j := (nI u.2.2.2.1).toNatClampNeg) (x := a1) hP hT1 (by decide) (by decide) (lb_ix1 hub)
    have k : nt_rn X _ 100 (29, [(0, .ref Yr)], [], me_w M (nt_u J1 (Rw 9) (nI u.2.2.2.1).toNatClampNeg (a1))) _ := k
    have k := ly_revb 3 (c' := (33, [(0, .ref Yr)], [.int (Int32.ofInt 98), .int (Int32.ofInt 0), .ref Yr], me_w M (nt_u J1 (Rw 9) (nI u.2.2.2.1).toNatClampNeg (a1)))) rfl k
    obtain ⟨d1, o1, ed, kc, k⟩ := lz_c (g := 97) (q := 1) (vs := [.ref Yr, .int (Int32.ofInt 0), .int (Int32.ofInt 98)]) (rest := []) rfl rfl (by decide) (Or.inr (Or.inl ⟨_, rfl, rfl⟩)) rfl k
    obtain ⟨r2, a2, J2, e1, hv2, hN2⟩ := yc_num hP hS1 hq1 (by decide) kc
    subst e1
    rcases r2 with c | ⟨q2, x2⟩
    · obtain ⟨hc, rfl, hT2⟩ := hN2
      have k : nt_rn X _ 100 (36, [(0, .ref Yr)], [.int (Int32.ofInt 0)], me_w M J2) _ := k
      have k := ly_revb 2 (c' := (38, [(1, .int (Int32.ofInt 0)), (0, .ref Yr)], [.ref Yr], me_w M J2)) rfl k
      have k := lz_get (a := Yr) (g := 901) (M := me_w M J2) (v := .ref Y) rfl (nt_gfR rfl hP.2.2.1.2) k
      have k := lz_get (a := Y) (g := 810) (M := me_w M J2) (v := .ref (Rw 10)) rfl (nt_gfR rfl (hP.2.2.2.2.1 10 (by decide) (by decide)).1) k
      have k := ly_revb 1 (c' := (45, [(1, .int (Int32.ofInt 0)), (0, .ref Yr)], [.ref Yr, .ref (Rw 10)], me_w M J2)) rfl k
      have k := lz_get (a := Yr) (g := 901) (M := me_w M J2) (v := .ref Y) rfl (nt_gfR rfl hP.2.2.1.2) k
      have k := lz_get (a := Y) (g := 803) (M := me_w M J2) (v := .int (nI u.2.2.2.1)) rfl (congrArg Value.int (hT2.2.2.1.2.2.2.1)) k
      have k := ly_revb 1 (c' := (52, [(1, .int (Int32.ofInt 0)), (0, .ref Yr)], [.int (Int32.ofInt 0), .int (nI u.2.2.2.1), .ref (Rw 10)], me_w M J2)) rfl k
      have k := me_iastx rfl k
      have hS2 := yc_Sr (i := 10) (j := (nI u.2.2.2.1).toNatClampNeg) (x := Int32.ofInt 0) hP hT2 (by decide) (by decide) (lb_ix1 hub)
      have k : nt_rn X _ 100 (53, [(1, .int (Int32.ofInt 0)), (0, .ref Yr)], [], me_w M (nt_u J2 (Rw 10) (nI u.2.2.2.1).toNatClampNeg (Int32.ofInt 0))) _ := k
      have k := ly_revb 1 (c' := (54, [(1, .int (Int32.ofInt 0)), (0, .ref Yr)], [.ref Yr], me_w M (nt_u J2 (Rw 10) (nI u.2.2.2.1).toNatClampNeg (Int32.ofInt 0)))) rfl k
      have k := lz_get (a := Yr) (g := 901) (M := me_w M (nt_u J2 (Rw 10) (nI u.2.2.2.1).toNatClampNeg (Int32.ofInt 0))) (v := .ref Y) rfl (nt_gfR rfl hP.2.2.1.2) k
      have k := lz_get (a := Y) (g := 811) (M := me_w M (nt_u J2 (Rw 10) (nI u.2.2.2.1).toNatClampNeg (Int32.ofInt 0))) (v := .ref (Rw 11)) rfl (nt_gfR rfl (hP.2.2.2.2.1 11 (by decide) (by decide)).1) k
      have k := ly_revb 1 (c' := (61, [(1, .int (Int32.ofInt 0)), (0, .ref Yr)], [.ref Yr, .ref (Rw 11)], me_w M (nt_u J2 (Rw 10) (nI u.2.2.2.1).toNatClampNeg (Int32.ofInt 0)))) rfl k
      have k := lz_get (a := Yr) (g := 901) (M := me_w M (nt_u J2 (Rw 10) (nI u.2.2.2.1).toNatClampNeg (Int32.ofInt 0))) (v := .ref Y) rfl (nt_gfR rfl hP.2.2.1.2) k
      have k := lz_get (a := Y) (g := 803) (M := me_w M (nt_u J2 (Rw 10) (nI u.2.2.2.1).toNatClampNeg (Int32.ofInt 0))) (v := .int (nI u.2.2.2.1)) rfl (congrArg Value.int (hS2.2.2.1.2.2.2.1)) k
      have k := ly_revb 5 (c' := (73, [(1, .int (Int32.ofInt 0)), (0, .ref Yr)], [.int (Int32.ofInt 99), .int ((Int32.ofInt 0) + (Int32.ofInt 1)), .ref Yr, .int (nI u.2.2.2.1), .ref (Rw 11)], me_w M (nt_u J2 (Rw 10) (nI u.2.2.2.1).toNatClampNeg (Int32.ofInt 0)))) rfl k
      obtain ⟨d1, o1, ed, kc, k⟩ := lz_c (g := 97) (q := 1) (vs := [.ref Yr, .int ((Int32.ofInt 0) + (Int32.ofInt 1)), .int (Int32.ofInt 99)]) (rest := [.int (nI u.2.2.2.1), .ref (Rw 11)]) rfl rfl (by decide) (Or.inr (Or.inl ⟨_, rfl, rfl⟩)) rfl k
      obtain ⟨J3, e1, hT3⟩ := yc_numF hP hS2 hc kc
      subst e1
      have k : nt_rn X _ 100 (76, [(1, .int (Int32.ofInt 0)), (0, .ref Yr)], [.int (Int32.ofInt 0), .int (nI u.2.2.2.1), .ref (Rw 11)], me_w M J3) _ := k
      have k := me_iastx rfl k
      have hS3 := yc_Sr (i := 11) (j := (nI u.2.2.2.1).toNatClampNeg) (x := Int32.ofInt 0) hP hT3 (by decide) (by decide) (lb_ix1 hub)
      have k : nt_rn X _ 100 (77, [(1, .int (Int32.ofInt 0)), (0, .ref Yr)], [], me_w M (nt_u J3 (Rw 11) (nI u.2.2.2.1).toNatClampNeg (Int32.ofInt 0))) _ := k
      have k := ly_revb 1 (c' := (78, [(1, .int (Int32.ofInt 0)), (0, .ref Yr)], [.ref Yr], me_w M (nt_u J3 (Rw 11) (nI u.2.2.2.1).toNatClampNeg (Int32.ofInt 0)))) rfl k
      have k := lz_get (a := Yr) (g := 901) (M := me_w M (nt_u J3 (Rw 11) (nI u.2.2.2.1).toNatClampNeg (Int32.ofInt 0))) (v := .ref Y) rfl (nt_gfR rfl hP.2.2.1.2) k
      have k := lz_get (a := Y) (g := 812) (M := me_w M (nt_u J3 (Rw 11) (nI u.2.2.2.1).toNatClampNeg (Int32.ofInt 0))) (v := .ref (Rw 12)) rfl (nt_gfR rfl (hP.2.2.2.2.1 12 (by decide) (by decide)).1) k
      have k := ly_revb 1 (c' := (85, [(1, .int (Int32.ofInt 0)), (0, .ref Yr)], [.ref Yr, .ref (Rw 12)], me_w M (nt_u J3 (Rw 11) (nI u.2.2.2.1).toNatClampNeg (Int32.ofInt 0)))) rfl k
      have k := lz_get (a := Yr) (g := 901) (M := me_w M (nt_u J3 (Rw 11) (nI u.2.2.2.1).toNatClampNeg (Int32.ofInt 0))) (v := .ref Y) rfl (nt_gfR rfl hP.2.2.1.2) k
      have k := lz_get (a := Y) (g := 803) (M := me_w M (nt_u J3 (Rw 11) (nI u.2.2.2.1).toNatClampNeg (Int32.ofInt 0))) (v := .int (nI u.2.2.2.1)) rfl (congrArg Value.int (hS3.2.2.1.2.2.2.1)) k
      have k := ly_revb 3 (c' := (96, [(1, .int (Int32.ofInt 0)), (0, .ref Yr)], [.int (Int32.ofInt 999), .int (Int32.ofInt 0), .ref Yr, .int (nI u.2.2.2.1), .ref (Rw 12)], me_w M (nt_u J3 (Rw 11) (nI u.2.2.2.1).toNatClampNeg (Int32.ofInt 0)))) rfl k
      obtain ⟨d1, o1, ed, kc, k⟩ := lz_c (g := 97) (q := 1) (vs := [.ref Yr, .int (Int32.ofInt 0), .int (Int32.ofInt 999)]) (rest := [.int (nI u.2.2.2.1), .ref (Rw 12)]) rfl rfl (by decide) (Or.inr (Or.inl ⟨_, rfl, rfl⟩)) rfl k
      obtain ⟨J4, e1, hT4⟩ := yc_numF hP hS3 hc kc
      subst e1
      have k : nt_rn X _ 100 (99, [(1, .int (Int32.ofInt 0)), (0, .ref Yr)], [.int (Int32.ofInt 0), .int (nI u.2.2.2.1), .ref (Rw 12)], me_w M J4) _ := k
      have k := me_iastx rfl k
      have hS4 := yc_Sr (i := 12) (j := (nI u.2.2.2.1).toNatClampNeg) (x := Int32.ofInt 0) hP hT4 (by decide) (by decide) (lb_ix1 hub)
      have k : nt_rn X _ 100 (100, [(1, .int (Int32.ofInt 0)), (0, .ref Yr)], [], me_w M (nt_u J4 (Rw 12) (nI u.2.2.2.1).toNatClampNeg (Int32.ofInt 0))) _ := k
      have k := ly_revb 1 (c' := (101, [(1, .int (Int32.ofInt 0)), (0, .ref Yr)], [.ref Yr], me_w M (nt_u J4 (Rw 12) (nI u.2.2.2.1).toNatClampNeg (Int32.ofInt 0)))) rfl k
      have k := lz_get (a := Yr) (g := 901) (M := me_w M (nt_u J4 (Rw 12) (nI u.2.2.2.1).toNatClampNeg (Int32.ofInt 0))) (v := .ref Y) rfl (nt_gfR rfl hP.2.2.1.2) k
      have k := ly_revb 1 (c' := (105, [(1, .int (Int32.ofInt 0)), (0, .ref Yr)], [.ref Y, .ref Y], me_w M (nt_u J4 (Rw 12) (nI u.2.2.2.1).toNatClampNeg (Int32.ofInt 0)))) rfl k
      have k := lz_get (a := Y) (g := 803) (M := me_w M (nt_u J4 (Rw 12) (nI u.2.2.2.1).toNatClampNeg (Int32.ofInt 0))) (v := .int (nI u.2.2.2.1)) rfl (congrArg Value.int (hS4.2.2.1.2.2.2.1)) k
      have k := ly_revb 2 (c' := (110, [(1, .int (Int32.ofInt 0)), (0, .ref Yr)], [.int ((nI u.2.2.2.1) + (Int32.ofInt 1)), .ref Y], me_w M (nt_u J4 (Rw 12) (nI u.2.2.2.1).toNatClampNeg (Int32.ofInt 0)))) rfl k
      rw [show ((nI u.2.2.2.1) + (Int32.ofInt 1) : Int32) = nI (u.2.2.2.1 + 1) from me_add (k := 1)] at k
      have k := me_put rfl (by decide) k
      have k : nt_rn X _ 100 (113, [(1, .int (Int32.ofInt 0)), (0, .ref Yr)], [], me_w M (nt_u (nt_u J4 (Rw 12) (nI u.2.2.2.1).toNatClampNeg (Int32.ofInt 0)) Y 3 (nI (u.2.2.2.1 + 1)))) _ := k
      have hS5 := yc_S3 (y := u.2.2.2.1 + 1) hP hS4
      have k := lz_rv rfl rfl k
      exact ⟨.inl c, _, k, ⟨_, hv1, Or.inr ⟨_, _, rfl, ⟨_, hv2, Or.inl ⟨c, rfl, rfl⟩⟩⟩⟩, Or.inl ⟨c, rfl, hc, _, _, hS5⟩⟩
    · obtain ⟨ea, hq2, hT2⟩ := hN2
      dsimp only at ea hq2 hT2
      subst ea
      have hu2 := lb_nu_up hq1 hv2
      have k : nt_rn X _ 100 (36, [(0, .ref Yr)], [.int (a2)], me_w M J2) _ := k
      have k := ly_revb 2 (c' := (38, [(1, .int (a2)), (0, .ref Yr)], [.ref Yr], me_w M J2)) rfl k
      have k := lz_get (a := Yr) (g := 901) (M := me_w M J2) (v := .ref Y) rfl (nt_gfR rfl hP.2.2.1.2) k
      have k := lz_get (a := Y) (g := 810) (M := me_w M J2) (v := .ref (Rw 10)) rfl (nt_gfR rfl (hP.2.2.2.2.1 10 (by decide) (by decide)).1) k
      have k := ly_revb 1 (c' := (45, [(1, .int (a2)), (0, .ref Yr)], [.ref Yr, .ref (Rw 10)], me_w M J2)) rfl k
      have k := lz_get (a := Yr) (g := 901) (M := me_w M J2) (v := .ref Y) rfl (nt_gfR rfl hP.2.2.1.2) k
      have k := lz_get (a := Y) (g := 803) (M := me_w M J2) (v := .int (nI u.2.2.2.1)) rfl (congrArg Value.int (hT2.2.2.1.2.2.2.1)) k
      have k := ly_revb 1 (c' := (52, [(1, .int (a2)), (0, .ref Yr)], [.int (a2), .int (nI u.2.2.2.1), .ref (Rw 10)], me_w M J2)) rfl k
      have k := me_iastx rfl k
      have hS2 := yc_Sr (i := 10) (j := (nI u.2.2.2.1).toNatClampNeg) (x := a2) hP hT2 (by decide) (by decide) (lb_ix1 hub)
      have k : nt_rn X _ 100 (53, [(1, .int (a2)), (0, .ref Yr)], [], me_w M (nt_u J2 (Rw 10) (nI u.2.2.2.1).toNatClampNeg (a2))) _ := k
      have k := ly_revb 1 (c' := (54, [(1, .int (a2)), (0, .ref Yr)], [.ref Yr], me_w M (nt_u J2 (Rw 10) (nI u.2.2.2.1).toNatClampNeg (a2)))) rfl k
      have k := lz_get (a := Yr) (g := 901) (M := me_w M (nt_u J2 (Rw 10) (nI u.2.2.2.1).toNatClampNeg (a2))) (v := .ref Y) rfl (nt_gfR rfl hP.2.2.1.2) k
      have k := lz_get (a := Y) (g := 811) (M := me_w M (nt_u J2 (Rw 10) (nI u.2.2.2.1).toNatClampNeg (a2))) (v := .ref (Rw 11)) rfl (nt_gfR rfl (hP.2.2.2.2.1 11 (by decide) (by decide)).1) k
      have k := ly_revb 1 (c' := (61, [(1, .int (a2)), (0, .ref Yr)], [.ref Yr, .ref (Rw 11)], me_w M (nt_u J2 (Rw 10) (nI u.2.2.2.1).toNatClampNeg (a2)))) rfl k
      have k := lz_get (a := Yr) (g := 901) (M := me_w M (nt_u J2 (Rw 10) (nI u.2.2.2.1).toNatClampNeg (a2))) (v := .ref Y) rfl (nt_gfR rfl hP.2.2.1.2) k
      have k := lz_get (a := Y) (g := 803) (M := me_w M (nt_u J2 (Rw 10) (nI u.2.2.2.1).toNatClampNeg (a2))) (v := .int (nI u.2.2.2.1)) rfl (congrArg Value.int (hS2.2.2.1.2.2.2.1)) k
      have k := ly_revb 5 (c' := (73, [(1, .int (a2)), (0, .ref Yr)], [.int (Int32.ofInt 99), .int (a2 + (Int32.ofInt 1)), .ref Yr, .int (nI u.2.2.2.1), .ref (Rw 11)], me_w M (nt_u J2 (Rw 10) (nI u.2.2.2.1).toNatClampNeg (a2)))) rfl k
      obtain ⟨d1, o1, ed, kc, k⟩ := lz_c (g := 97) (q := 1) (vs := [.ref Yr, .int (a2 + (Int32.ofInt 1)), .int (Int32.ofInt 99)]) (rest := [.int (nI u.2.2.2.1), .ref (Rw 11)]) rfl rfl (by decide) (Or.inr (Or.inl ⟨_, rfl, rfl⟩)) rfl k
      obtain ⟨r3, a3, J3, e1, hv3, hN3⟩ := yc_num hP hS2 hq2 (yc_x1 hu2.2.1 hu2.2.2) kc
      subst e1
      rcases r3 with c | ⟨q3, x3⟩
      · obtain ⟨hc, rfl, hT3⟩ := hN3
        have k : nt_rn X _ 100 (76, [(1, .int (a2)), (0, .ref Yr)], [.int (Int32.ofInt 0), .int (nI u.2.2.2.1), .ref (Rw 11)], me_w M J3) _ := k
        have k := me_iastx rfl k
        have hS3 := yc_Sr (i := 11) (j := (nI u.2.2.2.1).toNatClampNeg) (x := Int32.ofInt 0) hP hT3 (by decide) (by decide) (lb_ix1 hub)
        have k : nt_rn X _ 100 (77, [(1, .int (a2)), (0, .ref Yr)], [], me_w M (nt_u J3 (Rw 11) (nI u.2.2.2.1).toNatClampNeg (Int32.ofInt 0))) _ := k
        have k := ly_revb 1 (c' := (78, [(1, .int (a2)), (0, .ref Yr)], [.ref Yr], me_w M (nt_u J3 (Rw 11) (nI u.2.2.2.1).toNatClampNeg (Int32.ofInt 0)))) rfl k
        have k := lz_get (a := Yr) (g := 901) (M := me_w M (nt_u J3 (Rw 11) (nI u.2.2.2.1).toNatClampNeg (Int32.ofInt 0))) (v := .ref Y) rfl (nt_gfR rfl hP.2.2.1.2) k
        have k := lz_get (a := Y) (g := 812) (M := me_w M (nt_u J3 (Rw 11) (nI u.2.2.2.1).toNatClampNeg (Int32.ofInt 0))) (v := .ref (Rw 12)) rfl (nt_gfR rfl (hP.2.2.2.2.1 12 (by decide) (by decide)).1) k
        have k := ly_revb 1 (c' := (85, [(1, .int (a2)), (0, .ref Yr)], [.ref Yr, .ref (Rw 12)], me_w M (nt_u J3 (Rw 11) (nI u.2.2.2.1).toNatClampNeg (Int32.ofInt 0)))) rfl k
        have k := lz_get (a := Yr) (g := 901) (M := me_w M (nt_u J3 (Rw 11) (nI u.2.2.2.1).toNatClampNeg (Int32.ofInt 0))) (v := .ref Y) rfl (nt_gfR rfl hP.2.2.1.2) k
        have k := lz_get (a := Y) (g := 803) (M := me_w M (nt_u J3 (Rw 11) (nI u.2.2.2.1).toNatClampNeg (Int32.ofInt 0))) (v := .int (nI u.2.2.2.1)) rfl (congrArg Value.int (hS3.2.2.1.2.2.2.1)) k
        have k := ly_revb 3 (c' := (96, [(1, .int (a2)), (0, .ref Yr)], [.int (Int32.ofInt 999), .int (Int32.ofInt 0), .ref Yr, .int (nI u.2.2.2.1), .ref (Rw 12)], me_w M (nt_u J3 (Rw 11) (nI u.2.2.2.1).toNatClampNeg (Int32.ofInt 0)))) rfl k
        obtain ⟨d1, o1, ed, kc, k⟩ := lz_c (g := 97) (q := 1) (vs := [.ref Yr, .int (Int32.ofInt 0), .int (Int32.ofInt 999)]) (rest := [.int (nI u.2.2.2.1), .ref (Rw 12)]) rfl rfl (by decide) (Or.inr (Or.inl ⟨_, rfl, rfl⟩)) rfl k
        obtain ⟨J4, e1, hT4⟩ := yc_numF hP hS3 hc kc
        subst e1
        have k : nt_rn X _ 100 (99, [(1, .int (a2)), (0, .ref Yr)], [.int (Int32.ofInt 0), .int (nI u.2.2.2.1), .ref (Rw 12)], me_w M J4) _ := k
        have k := me_iastx rfl k
        have hS4 := yc_Sr (i := 12) (j := (nI u.2.2.2.1).toNatClampNeg) (x := Int32.ofInt 0) hP hT4 (by decide) (by decide) (lb_ix1 hub)
        have k : nt_rn X _ 100 (100, [(1, .int (a2)), (0, .ref Yr)], [], me_w M (nt_u J4 (Rw 12) (nI u.2.2.2.1).toNatClampNeg (Int32.ofInt 0))) _ := k
        have k := ly_revb 1 (c' := (101, [(1, .int (a2)), (0, .ref Yr)], [.ref Yr], me_w M (nt_u J4 (Rw 12) (nI u.2.2.2.1).toNatClampNeg (Int32.ofInt 0)))) rfl k
        have k := lz_get (a := Yr) (g := 901) (M := me_w M (nt_u J4 (Rw 12) (nI u.2.2.2.1).toNatClampNeg (Int32.ofInt 0))) (v := .ref Y) rfl (nt_gfR rfl hP.2.2.1.2) k
        have k := ly_revb 1 (c' := (105, [(1, .int (a2)), (0, .ref Yr)], [.ref Y, .ref Y], me_w M (nt_u J4 (Rw 12) (nI u.2.2.2.1).toNatClampNeg (Int32.ofInt 0)))) rfl k
        have k := lz_get (a := Y) (g := 803) (M := me_w M (nt_u J4 (Rw 12) (nI u.2.2.2.1).toNatClampNeg (Int32.ofInt 0))) (v := .int (nI u.2.2.2.1)) rfl (congrArg Value.int (hS4.2.2.1.2.2.2.1)) k
        have k := ly_revb 2 (c' := (110, [(1, .int (a2)), (0, .ref Yr)], [.int ((nI u.2.2.2.1) + (Int32.ofInt 1)), .ref Y], me_w M (nt_u J4 (Rw 12) (nI u.2.2.2.1).toNatClampNeg (Int32.ofInt 0)))) rfl k
        rw [show ((nI u.2.2.2.1) + (Int32.ofInt 1) : Int32) = nI (u.2.2.2.1 + 1) from me_add (k := 1)] at k
        have k := me_put rfl (by decide) k
        have k : nt_rn X _ 100 (113, [(1, .int (a2)), (0, .ref Yr)], [], me_w M (nt_u (nt_u J4 (Rw 12) (nI u.2.2.2.1).toNatClampNeg (Int32.ofInt 0)) Y 3 (nI (u.2.2.2.1 + 1)))) _ := k
        have hS5 := yc_S3 (y := u.2.2.2.1 + 1) hP hS4
        have k := lz_rv rfl rfl k
        exact ⟨.inl c, _, k, ⟨_, hv1, Or.inr ⟨_, _, rfl, ⟨_, hv2, Or.inr ⟨_, _, rfl, ⟨_, hv3, Or.inl ⟨c, rfl, rfl⟩⟩⟩⟩⟩⟩, Or.inl ⟨c, rfl, hc, _, _, hS5⟩⟩
      · obtain ⟨ea, hq3, hT3⟩ := hN3
        dsimp only at ea hq3 hT3
        subst ea
        have hu3 := lb_nu_up hq2 hv3
        have k : nt_rn X _ 100 (76, [(1, .int (a2)), (0, .ref Yr)], [.int (a3), .int (nI u.2.2.2.1), .ref (Rw 11)], me_w M J3) _ := k
        have k := me_iastx rfl k
        have hS3 := yc_Sr (i := 11) (j := (nI u.2.2.2.1).toNatClampNeg) (x := a3) hP hT3 (by decide) (by decide) (lb_ix1 hub)
        have k : nt_rn X _ 100 (77, [(1, .int (a2)), (0, .ref Yr)], [], me_w M (nt_u J3 (Rw 11) (nI u.2.2.2.1).toNatClampNeg (a3))) _ := k
        have k := ly_revb 1 (c' := (78, [(1, .int (a2)), (0, .ref Yr)], [.ref Yr], me_w M (nt_u J3 (Rw 11) (nI u.2.2.2.1).toNatClampNeg (a3)))) rfl k
        have k := lz_get (a := Yr) (g := 901) (M := me_w M (nt_u J3 (Rw 11) (nI u.2.2.2.1).toNatClampNeg (a3))) (v := .ref Y) rfl (nt_gfR rfl hP.2.2.1.2) k
        have k := lz_get (a := Y) (g := 812) (M := me_w M (nt_u J3 (Rw 11) (nI u.2.2.2.1).toNatClampNeg (a3))) (v := .ref (Rw 12)) rfl (nt_gfR rfl (hP.2.2.2.2.1 12 (by decide) (by decide)).1) k
        have k := ly_revb 1 (c' := (85, [(1, .int (a2)), (0, .ref Yr)], [.ref Yr, .ref (Rw 12)], me_w M (nt_u J3 (Rw 11) (nI u.2.2.2.1).toNatClampNeg (a3)))) rfl k
        have k := lz_get (a := Yr) (g := 901) (M := me_w M (nt_u J3 (Rw 11) (nI u.2.2.2.1).toNatClampNeg (a3))) (v := .ref Y) rfl (nt_gfR rfl hP.2.2.1.2) k
        have k := lz_get (a := Y) (g := 803) (M := me_w M (nt_u J3 (Rw 11) (nI u.2.2.2.1).toNatClampNeg (a3))) (v := .int (nI u.2.2.2.1)) rfl (congrArg Value.int (hS3.2.2.1.2.2.2.1)) k
        have k := ly_revb 3 (c' := (96, [(1, .int (a2)), (0, .ref Yr)], [.int (Int32.ofInt 999), .int (Int32.ofInt 0), .ref Yr, .int (nI u.2.2.2.1), .ref (Rw 12)], me_w M (nt_u J3 (Rw 11) (nI u.2.2.2.1).toNatClampNeg (a3)))) rfl k
        obtain ⟨d1, o1, ed, kc, k⟩ := lz_c (g := 97) (q := 1) (vs := [.ref Yr, .int (Int32.ofInt 0), .int (Int32.ofInt 999)]) (rest := [.int (nI u.2.2.2.1), .ref (Rw 12)]) rfl rfl (by decide) (Or.inr (Or.inl ⟨_, rfl, rfl⟩)) rfl k
        obtain ⟨r4, a4, J4, e1, hv4, hN4⟩ := yc_num hP hS3 hq3 (by decide) kc
        subst e1
        rcases r4 with c | ⟨q4, x4⟩
        · obtain ⟨hc, rfl, hT4⟩ := hN4
          have k : nt_rn X _ 100 (99, [(1, .int (a2)), (0, .ref Yr)], [.int (Int32.ofInt 0), .int (nI u.2.2.2.1), .ref (Rw 12)], me_w M J4) _ := k
          have k := me_iastx rfl k
          have hS4 := yc_Sr (i := 12) (j := (nI u.2.2.2.1).toNatClampNeg) (x := Int32.ofInt 0) hP hT4 (by decide) (by decide) (lb_ix1 hub)
          have k : nt_rn X _ 100 (100, [(1, .int (a2)), (0, .ref Yr)], [], me_w M (nt_u J4 (Rw 12) (nI u.2.2.2.1).toNatClampNeg (Int32.ofInt 0))) _ := k
          have k := ly_revb 1 (c' := (101, [(1, .int (a2)), (0, .ref Yr)], [.ref Yr], me_w M (nt_u J4 (Rw 12) (nI u.2.2.2.1).toNatClampNeg (Int32.ofInt 0)))) rfl k
          have k := lz_get (a := Yr) (g := 901) (M := me_w M (nt_u J4 (Rw 12) (nI u.2.2.2.1).toNatClampNeg (Int32.ofInt 0))) (v := .ref Y) rfl (nt_gfR rfl hP.2.2.1.2) k
          have k := ly_revb 1 (c' := (105, [(1, .int (a2)), (0, .ref Yr)], [.ref Y, .ref Y], me_w M (nt_u J4 (Rw 12) (nI u.2.2.2.1).toNatClampNeg (Int32.ofInt 0)))) rfl k
          have k := lz_get (a := Y) (g := 803) (M := me_w M (nt_u J4 (Rw 12) (nI u.2.2.2.1).toNatClampNeg (Int32.ofInt 0))) (v := .int (nI u.2.2.2.1)) rfl (congrArg Value.int (hS4.2.2.1.2.2.2.1)) k
          have k := ly_revb 2 (c' := (110, [(1, .int (a2)), (0, .ref Yr)], [.int ((nI u.2.2.2.1) + (Int32.ofInt 1)), .ref Y], me_w M (nt_u J4 (Rw 12) (nI u.2.2.2.1).toNatClampNeg (Int32.ofInt 0)))) rfl k
          rw [show ((nI u.2.2.2.1) + (Int32.ofInt 1) : Int32) = nI (u.2.2.2.1 + 1) from me_add (k := 1)] at k
          have k := me_put rfl (by decide) k
          have k : nt_rn X _ 100 (113, [(1, .int (a2)), (0, .ref Yr)], [], me_w M (nt_u (nt_u J4 (Rw 12) (nI u.2.2.2.1).toNatClampNeg (Int32.ofInt 0)) Y 3 (nI (u.2.2.2.1 + 1)))) _ := k
          have hS5 := yc_S3 (y := u.2.2.2.1 + 1) hP hS4
          have k := lz_rv rfl rfl k
          exact ⟨.inl c, _, k, ⟨_, hv1, Or.inr ⟨_, _, rfl, ⟨_, hv2, Or.inr ⟨_, _, rfl, ⟨_, hv3, Or.inr ⟨_, _, rfl, ⟨_, hv4, Or.inl ⟨c, rfl, rfl⟩⟩⟩⟩⟩⟩⟩⟩, Or.inl ⟨c, rfl, hc, _, _, hS5⟩⟩
        · obtain ⟨ea, hq4, hT4⟩ := hN4
          dsimp only at ea hq4 hT4
          subst ea
          have hu4 := lb_nu_up hq3 hv4
          have k : nt_rn X _ 100 (99, [(1, .int (a2)), (0, .ref Yr)], [.int (a4), .int (nI u.2.2.2.1), .ref (Rw 12)], me_w M J4) _ := k
          have k := me_iastx rfl k
          have hS4 := yc_Sr (i := 12) (j := (nI u.2.2.2.1).toNatClampNeg) (x := a4) hP hT4 (by decide) (by decide) (lb_ix1 hub)
          have k : nt_rn X _ 100 (100, [(1, .int (a2)), (0, .ref Yr)], [], me_w M (nt_u J4 (Rw 12) (nI u.2.2.2.1).toNatClampNeg (a4))) _ := k
          have k := ly_revb 1 (c' := (101, [(1, .int (a2)), (0, .ref Yr)], [.ref Yr], me_w M (nt_u J4 (Rw 12) (nI u.2.2.2.1).toNatClampNeg (a4)))) rfl k
          have k := lz_get (a := Yr) (g := 901) (M := me_w M (nt_u J4 (Rw 12) (nI u.2.2.2.1).toNatClampNeg (a4))) (v := .ref Y) rfl (nt_gfR rfl hP.2.2.1.2) k
          have k := ly_revb 1 (c' := (105, [(1, .int (a2)), (0, .ref Yr)], [.ref Y, .ref Y], me_w M (nt_u J4 (Rw 12) (nI u.2.2.2.1).toNatClampNeg (a4)))) rfl k
          have k := lz_get (a := Y) (g := 803) (M := me_w M (nt_u J4 (Rw 12) (nI u.2.2.2.1).toNatClampNeg (a4))) (v := .int (nI u.2.2.2.1)) rfl (congrArg Value.int (hS4.2.2.1.2.2.2.1)) k
          have k := ly_revb 2 (c' := (110, [(1, .int (a2)), (0, .ref Yr)], [.int ((nI u.2.2.2.1) + (Int32.ofInt 1)), .ref Y], me_w M (nt_u J4 (Rw 12) (nI u.2.2.2.1).toNatClampNeg (a4)))) rfl k
          rw [show ((nI u.2.2.2.1) + (Int32.ofInt 1) : Int32) = nI (u.2.2.2.1 + 1) from me_add (k := 1)] at k
          have k := me_put rfl (by decide) k
          have k : nt_rn X _ 100 (113, [(1, .int (a2)), (0, .ref Yr)], [], me_w M (nt_u (nt_u J4 (Rw 12) (nI u.2.2.2.1).toNatClampNeg (a4)) Y 3 (nI (u.2.2.2.1 + 1)))) _ := k
          have hS5 := yc_S3 (y := u.2.2.2.1 + 1) hP hS4
          have k := lz_rv rfl rfl k
          exact ⟨.inr q4, _, k, ⟨_, hv1, Or.inr ⟨_, _, rfl, ⟨_, hv2, Or.inr ⟨_, _, rfl, ⟨_, hv3, Or.inr ⟨_, _, rfl, ⟨_, hv4, Or.inr ⟨_, _, rfl, rfl⟩⟩⟩⟩⟩⟩⟩⟩, Or.inr ⟨_, _, rfl, hq4, ⟨_, _, _, _, _, _, _, hv1, hv2, hv3, hv4, rfl⟩, hS5⟩⟩
theorem yc_shF {X : nt_X} {d t Rd Tp By RR Sp Yr Y m0 s0 : Nat} {Rw : Nat → Nat} {f : Nat → Int32} {M : nt_M} {o : Option Value × nt_M} {fa : Int32} (hP : yc_P M t Rd Tp By RR Sp Yr Y Rw) (hfa : ¬ fa = 0) : ∀ (c i : Nat) (u : Nat × Nat × Nat × Nat × Nat) (C : lb_C) (J : Nat → Nat → Int32), i + c = u.1 → u.1 ≤ 4 → u.2.1 ≤ 6 → yc_S Rw C f t Rd Tp By RR Y m0 s0 t fa u J → nt_rn X d 98 (2, [(1, .int (nI i)), (0, .ref Yr)], [], me_w M J) o → ∃ J' u' D, o = (none, me_w M J') ∧ yc_S Rw D f t Rd Tp By RR Y m0 s0 t fa (u') (J') := by
  have t4 : t ≤ 400 := hP.2.2.2.2.2.1
  intro c
  induction c with
  | zero =>
    intro i u C J hc hk hk2 hS k
    have k := ly_revb 2 (c' := (4, [(1, .int (nI i)), (0, .ref Yr)], [.ref Yr, .int (nI i)], me_w M J)) rfl k
    have k := lz_get (a := Yr) (g := 901) (M := me_w M J) (v := .ref Y) rfl (nt_gfR rfl hP.2.2.1.2) k
    have k := lz_get (a := Y) (g := 800) (M := me_w M J) (v := .int (nI u.1)) rfl (congrArg Value.int (hS.2.2.1.1)) k
    have k := ly_revb 1 (c' := (if (nI u.1) ≤ (nI i) then 44 else 13, [(1, .int (nI i)), (0, .ref Yr)], [], me_w M J)) rfl k
    rw [if_pos (show (nI u.1) ≤ (nI i) from nI_le (by omega) (by omega))] at k
    have k := ly_revb 1 (c' := (45, [(1, .int (nI i)), (0, .ref Yr)], [.ref Yr], me_w M J)) rfl k
    have k := lz_get (a := Yr) (g := 901) (M := me_w M J) (v := .ref Y) rfl (nt_gfR rfl hP.2.2.1.2) k
    have k := ly_revb 1 (c' := (49, [(1, .int (nI i)), (0, .ref Yr)], [.ref Y, .ref Y], me_w M J)) rfl k
    have k := lz_get (a := Y) (g := 801) (M := me_w M J) (v := .int (nI u.2.1)) rfl (congrArg Value.int (hS.2.2.1.2.1)) k
    have k := ly_revb 2 (c' := (54, [(1, .int (nI i)), (0, .ref Yr)], [.int ((nI u.2.1) + (Int32.ofInt 1)), .ref Y], me_w M J)) rfl k
    rw [show ((nI u.2.1) + (Int32.ofInt 1) : Int32) = nI (u.2.1 + 1) from me_add (k := 1)] at k
    have k := me_put rfl (by decide) k
    have k : nt_rn X _ 98 (57, [(1, .int (nI i)), (0, .ref Yr)], [], me_w M (nt_u J Y 1 (nI (u.2.1 + 1)))) _ := k
    have hS1 := yc_S1 (y := u.2.1 + 1) hP hS
    have k := lz_rv rfl rfl k
    exact ⟨_, _, _, k, hS1⟩
  | succ c ih =>
    intro i u C J hc hk hk2 hS k
    have k := ly_revb 2 (c' := (4, [(1, .int (nI i)), (0, .ref Yr)], [.ref Yr, .int (nI i)], me_w M J)) rfl k
    have k := lz_get (a := Yr) (g := 901) (M := me_w M J) (v := .ref Y) rfl (nt_gfR rfl hP.2.2.1.2) k
    have k := lz_get (a := Y) (g := 800) (M := me_w M J) (v := .int (nI u.1)) rfl (congrArg Value.int (hS.2.2.1.1)) k
    have k := ly_revb 1 (c' := (if (nI u.1) ≤ (nI i) then 44 else 13, [(1, .int (nI i)), (0, .ref Yr)], [], me_w M J)) rfl k
    rw [if_neg (show ¬ ((nI u.1) ≤ (nI i)) from nI_ge (by omega) (by omega))] at k
    have k := ly_revb 1 (c' := (14, [(1, .int (nI i)), (0, .ref Yr)], [.ref Yr], me_w M J)) rfl k
    have k := lz_get (a := Yr) (g := 901) (M := me_w M J) (v := .ref Y) rfl (nt_gfR rfl hP.2.2.1.2) k
    have k := lz_get (a := Y) (g := 805) (M := me_w M J) (v := .ref (Rw 5)) rfl (nt_gfR rfl (hP.2.2.2.2.1 5 (by decide) (by decide)).1) k
    have k := ly_revb 1 (c' := (21, [(1, .int (nI i)), (0, .ref Yr)], [.ref Yr, .ref (Rw 5)], me_w M J)) rfl k
    have k := lz_get (a := Yr) (g := 901) (M := me_w M J) (v := .ref Y) rfl (nt_gfR rfl hP.2.2.1.2) k
    have k := lz_get (a := Y) (g := 801) (M := me_w M J) (v := .int (nI u.2.1)) rfl (congrArg Value.int (hS.2.2.1.2.1)) k
    have k := ly_revb 7 (c' := (34, [(1, .int (nI i)), (0, .ref Yr)], [.int (Int32.ofInt 5), .int (Int32.ofInt 0), .ref Yr, .int (((nI u.2.1) * (Int32.ofInt 4)) + (nI i)), .ref (Rw 5)], me_w M J)) rfl k
    obtain ⟨d1, o1, ed, kc, k⟩ := lz_c (g := 97) (q := 1) (vs := [.ref Yr, .int (Int32.ofInt 0), .int (Int32.ofInt 5)]) (rest := [.int (((nI u.2.1) * (Int32.ofInt 4)) + (nI i)), .ref (Rw 5)]) rfl rfl (by decide) (Or.inr (Or.inl ⟨_, rfl, rfl⟩)) rfl k
    obtain ⟨J1, e1, hT1⟩ := yc_numF hP hS hfa kc
    subst e1
    have k : nt_rn X _ 98 (37, [(1, .int (nI i)), (0, .ref Yr)], [.int (Int32.ofInt 0), .int (((nI u.2.1) * (Int32.ofInt 4)) + (nI i)), .ref (Rw 5)], me_w M J1) _ := k
    have k := me_iastx rfl k
    have hS1 := yc_Sr (i := 5) (j := (((nI u.2.1) * (Int32.ofInt 4)) + (nI i)).toNatClampNeg) (x := Int32.ofInt 0) hP hT1 (by decide) (by decide) (lb_ix4 hk2 (by omega))
    have k : nt_rn X _ 98 (38, [(1, .int (nI i)), (0, .ref Yr)], [], me_w M (nt_u J1 (Rw 5) (((nI u.2.1) * (Int32.ofInt 4)) + (nI i)).toNatClampNeg (Int32.ofInt 0))) _ := k
    have k := ly_revb 1 (c' := (41, [(1, .int ((nI i) + Int32.ofInt 1)), (0, .ref Yr)], [], me_w M (nt_u J1 (Rw 5) (((nI u.2.1) * (Int32.ofInt 4)) + (nI i)).toNatClampNeg (Int32.ofInt 0)))) rfl k
    rw [show ((nI i) + Int32.ofInt 1 : Int32) = nI (i + 1) from me_add (k := 1)] at k
    have k := ly_revb 1 (c' := (2, [(1, .int (nI (i + 1))), (0, .ref Yr)], [], me_w M (nt_u J1 (Rw 5) (((nI u.2.1) * (Int32.ofInt 4)) + (nI i)).toNatClampNeg (Int32.ofInt 0)))) rfl k
    exact ih (i + 1) u _ _ (by omega) hk hk2 hS1 k
theorem yc_shl {X : nt_X} {d t Rd Tp By RR Sp Yr Y m0 s0 : Nat} {Rw : Nat → Nat} {f : Nat → Int32} {M : nt_M} {o : Option Value × nt_M} (hP : yc_P M t Rd Tp By RR Sp Yr Y Rw) : ∀ (c i p : Nat) (u : Nat × Nat × Nat × Nat × Nat) (C : lb_C) (J : Nat → Nat → Int32), i + c = u.1 → u.1 ≤ 4 → u.2.1 ≤ 6 → p ≤ t → yc_S Rw C f t Rd Tp By RR Y m0 s0 p 0 u J → nt_rn X d 98 (2, [(1, .int (nI i)), (0, .ref Yr)], [], me_w M J) o → ∃ r J', o = (none, me_w M J') ∧ lb_sh f t c p r ∧ ((∃ c, r = .inl c ∧ c ≠ 0 ∧ ∃ u' D, yc_S Rw D f t Rd Tp By RR Y m0 s0 t c (u') (J')) ∨ ∃ q D, r = .inr q ∧ q ≤ t ∧ lb_shC f t u.2.1 c i p q C D ∧ yc_S Rw D f t Rd Tp By RR Y m0 s0 q 0 (u.1, u.2.1 + 1, u.2.2.1, u.2.2.2.1, u.2.2.2.2) (J')) := by
  have t4 : t ≤ 400 := hP.2.2.2.2.2.1
  intro c
  induction c with
  | zero =>
    intro i p u C J hc hk hk2 hp hS k
    have k := ly_revb 2 (c' := (4, [(1, .int (nI i)), (0, .ref Yr)], [.ref Yr, .int (nI i)], me_w M J)) rfl k
    have k := lz_get (a := Yr) (g := 901) (M := me_w M J) (v := .ref Y) rfl (nt_gfR rfl hP.2.2.1.2) k
    have k := lz_get (a := Y) (g := 800) (M := me_w M J) (v := .int (nI u.1)) rfl (congrArg Value.int (hS.2.2.1.1)) k
    have k := ly_revb 1 (c' := (if (nI u.1) ≤ (nI i) then 44 else 13, [(1, .int (nI i)), (0, .ref Yr)], [], me_w M J)) rfl k
    rw [if_pos (show (nI u.1) ≤ (nI i) from nI_le (by omega) (by omega))] at k
    have k := ly_revb 1 (c' := (45, [(1, .int (nI i)), (0, .ref Yr)], [.ref Yr], me_w M J)) rfl k
    have k := lz_get (a := Yr) (g := 901) (M := me_w M J) (v := .ref Y) rfl (nt_gfR rfl hP.2.2.1.2) k
    have k := ly_revb 1 (c' := (49, [(1, .int (nI i)), (0, .ref Yr)], [.ref Y, .ref Y], me_w M J)) rfl k
    have k := lz_get (a := Y) (g := 801) (M := me_w M J) (v := .int (nI u.2.1)) rfl (congrArg Value.int (hS.2.2.1.2.1)) k
    have k := ly_revb 2 (c' := (54, [(1, .int (nI i)), (0, .ref Yr)], [.int ((nI u.2.1) + (Int32.ofInt 1)), .ref Y], me_w M J)) rfl k
    rw [show ((nI u.2.1) + (Int32.ofInt 1) : Int32) = nI (u.2.1 + 1) from me_add (k := 1)] at k
    have k := me_put rfl (by decide) k
    have k : nt_rn X _ 98 (57, [(1, .int (nI i)), (0, .ref Yr)], [], me_w M (nt_u J Y 1 (nI (u.2.1 + 1)))) _ := k
    have hS1 := yc_S1 (y := u.2.1 + 1) hP hS
    have k := lz_rv rfl rfl k
    exact ⟨.inr p, _, k, rfl, Or.inr ⟨p, _, rfl, hp, ⟨rfl, rfl⟩, hS1⟩⟩
  | succ c ih =>
    intro i p u C J hc hk hk2 hp hS k
    have k := ly_revb 2 (c' := (4, [(1, .int (nI i)), (0, .ref Yr)], [.ref Yr, .int (nI i)], me_w M J)) rfl k
    have k := lz_get (a := Yr) (g := 901) (M := me_w M J) (v := .ref Y) rfl (nt_gfR rfl hP.2.2.1.2) k
    have k := lz_get (a := Y) (g := 800) (M := me_w M J) (v := .int (nI u.1)) rfl (congrArg Value.int (hS.2.2.1.1)) k
    have k := ly_revb 1 (c' := (if (nI u.1) ≤ (nI i) then 44 else 13, [(1, .int (nI i)), (0, .ref Yr)], [], me_w M J)) rfl k
    rw [if_neg (show ¬ ((nI u.1) ≤ (nI i)) from nI_ge (by omega) (by omega))] at k
    have k := ly_revb 1 (c' := (14, [(1, .int (nI i)), (0, .ref Yr)], [.ref Yr], me_w M J)) rfl k
    have k := lz_get (a := Yr) (g := 901) (M := me_w M J) (v := .ref Y) rfl (nt_gfR rfl hP.2.2.1.2) k
    have k := lz_get (a := Y) (g := 805) (M := me_w M J) (v := .ref (Rw 5)) rfl (nt_gfR rfl (hP.2.2.2.2.1 5 (by decide) (by decide)).1) k
    have k := ly_revb 1 (c' := (21, [(1, .int (nI i)), (0, .ref Yr)], [.ref Yr, .ref (Rw 5)], me_w M J)) rfl k
    have k := lz_get (a := Yr) (g := 901) (M := me_w M J) (v := .ref Y) rfl (nt_gfR rfl hP.2.2.1.2) k
    have k := lz_get (a := Y) (g := 801) (M := me_w M J) (v := .int (nI u.2.1)) rfl (congrArg Value.int (hS.2.2.1.2.1)) k
    have k := ly_revb 7 (c' := (34, [(1, .int (nI i)), (0, .ref Yr)], [.int (Int32.ofInt 5), .int (Int32.ofInt 0), .ref Yr, .int (((nI u.2.1) * (Int32.ofInt 4)) + (nI i)), .ref (Rw 5)], me_w M J)) rfl k
    obtain ⟨d1, o1, ed, kc, k⟩ := lz_c (g := 97) (q := 1) (vs := [.ref Yr, .int (Int32.ofInt 0), .int (Int32.ofInt 5)]) (rest := [.int (((nI u.2.1) * (Int32.ofInt 4)) + (nI i)), .ref (Rw 5)]) rfl rfl (by decide) (Or.inr (Or.inl ⟨_, rfl, rfl⟩)) rfl k
    obtain ⟨r1, a1, J1, e1, hv1, hN1⟩ := yc_num hP hS hp (by decide) kc
    subst e1
    rcases r1 with c1 | ⟨q1, x1⟩
    · obtain ⟨hc0, rfl, hT1⟩ := hN1
      have k : nt_rn X _ 98 (37, [(1, .int (nI i)), (0, .ref Yr)], [.int (Int32.ofInt 0), .int (((nI u.2.1) * (Int32.ofInt 4)) + (nI i)), .ref (Rw 5)], me_w M J1) _ := k
      have k := me_iastx rfl k
      have hS1 := yc_Sr (i := 5) (j := (((nI u.2.1) * (Int32.ofInt 4)) + (nI i)).toNatClampNeg) (x := Int32.ofInt 0) hP hT1 (by decide) (by decide) (lb_ix4 hk2 (by omega))
      have k : nt_rn X _ 98 (38, [(1, .int (nI i)), (0, .ref Yr)], [], me_w M (nt_u J1 (Rw 5) (((nI u.2.1) * (Int32.ofInt 4)) + (nI i)).toNatClampNeg (Int32.ofInt 0))) _ := k
      have k := ly_revb 1 (c' := (41, [(1, .int ((nI i) + Int32.ofInt 1)), (0, .ref Yr)], [], me_w M (nt_u J1 (Rw 5) (((nI u.2.1) * (Int32.ofInt 4)) + (nI i)).toNatClampNeg (Int32.ofInt 0)))) rfl k
      rw [show ((nI i) + Int32.ofInt 1 : Int32) = nI (i + 1) from me_add (k := 1)] at k
      have k := ly_revb 1 (c' := (2, [(1, .int (nI (i + 1))), (0, .ref Yr)], [], me_w M (nt_u J1 (Rw 5) (((nI u.2.1) * (Int32.ofInt 4)) + (nI i)).toNatClampNeg (Int32.ofInt 0)))) rfl k
      obtain ⟨J', u', D, e9, h9⟩ := yc_shF hP hc0 c (i + 1) u _ _ (by omega) hk hk2 hS1 k
      exact ⟨.inl c1, J', e9, ⟨_, hv1, Or.inl ⟨c1, rfl, rfl⟩⟩, Or.inl ⟨c1, rfl, hc0, u', D, h9⟩⟩
    · obtain ⟨ea, hq1, hT1⟩ := hN1
      dsimp only at ea hq1 hT1
      subst ea
      have hu1 := lb_nu_up hp hv1
      have k : nt_rn X _ 98 (37, [(1, .int (nI i)), (0, .ref Yr)], [.int (a1), .int (((nI u.2.1) * (Int32.ofInt 4)) + (nI i)), .ref (Rw 5)], me_w M J1) _ := k
      have k := me_iastx rfl k
      have hS1 := yc_Sr (i := 5) (j := (((nI u.2.1) * (Int32.ofInt 4)) + (nI i)).toNatClampNeg) (x := a1) hP hT1 (by decide) (by decide) (lb_ix4 hk2 (by omega))
      have k : nt_rn X _ 98 (38, [(1, .int (nI i)), (0, .ref Yr)], [], me_w M (nt_u J1 (Rw 5) (((nI u.2.1) * (Int32.ofInt 4)) + (nI i)).toNatClampNeg (a1))) _ := k
      have k := ly_revb 1 (c' := (41, [(1, .int ((nI i) + Int32.ofInt 1)), (0, .ref Yr)], [], me_w M (nt_u J1 (Rw 5) (((nI u.2.1) * (Int32.ofInt 4)) + (nI i)).toNatClampNeg (a1)))) rfl k
      rw [show ((nI i) + Int32.ofInt 1 : Int32) = nI (i + 1) from me_add (k := 1)] at k
      have k := ly_revb 1 (c' := (2, [(1, .int (nI (i + 1))), (0, .ref Yr)], [], me_w M (nt_u J1 (Rw 5) (((nI u.2.1) * (Int32.ofInt 4)) + (nI i)).toNatClampNeg (a1)))) rfl k
      obtain ⟨r, J', e9, hs, hr⟩ := ih (i + 1) q1 u _ _ (by omega) hk hk2 hq1 hS1 k
      exact ⟨r, J', e9, ⟨_, hv1, Or.inr ⟨_, _, rfl, hs⟩⟩, hr.imp id (fun ⟨q, D, e1, e2, e3, e4⟩ => ⟨q, D, e1, e2, ⟨_, _, hv1, e3⟩, e4⟩)⟩
theorem yc_ship {X : nt_X} {d t Rd Tp By RR Sp Yr Y m0 s0 : Nat} {Rw : Nat → Nat} {f : Nat → Int32} {M : nt_M} {o : Option Value × nt_M} {C : lb_C} {p : Nat} {u : Nat × Nat × Nat × Nat × Nat} {J : Nat → Nat → Int32} (hP : yc_P M t Rd Tp By RR Sp Yr Y Rw) (hS : yc_S Rw C f t Rd Tp By RR Y m0 s0 p 0 u J) (hk : u.1 ≤ 4) (hk2 : u.2.1 ≤ 6) (hp : p ≤ t) (k : nt_ev X d 98 [.ref Yr] (me_w M J) o) : ∃ r J', o = (none, me_w M J') ∧ lb_sh f t u.1 p r ∧ ((∃ c, r = .inl c ∧ c ≠ 0 ∧ ∃ u' D, yc_S Rw D f t Rd Tp By RR Y m0 s0 t c (u') (J')) ∨ ∃ q D, r = .inr q ∧ q ≤ t ∧ lb_shC f t u.2.1 u.1 0 p q C D ∧ yc_S Rw D f t Rd Tp By RR Y m0 s0 q 0 (u.1, u.2.1 + 1, u.2.2.1, u.2.2.2.1, u.2.2.2.2) (J')) := by
  have k : nt_rn X d 98 (0, [(0, .ref Yr)], [], me_w M J) o := k
  have t4 : t ≤ 400 := hP.2.2.2.2.2.1
  have k := ly_revb 2 (c' := (2, [(1, .int (Int32.ofInt 0)), (0, .ref Yr)], [], me_w M J)) rfl k
  exact yc_shl hP u.1 0 p u C J (by omega) hk hk2 hp hS k
