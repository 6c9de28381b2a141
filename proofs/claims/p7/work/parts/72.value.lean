/-! the grammar, told purely: what a value, a sum .. at a place comes to -/
abbrev lb_E : Type := (Nat × (Nat → Int32)) × (Nat × (Nat → Int32))
/-- place, count of values, what was put -/
abbrev lb_Z : Type := Nat × Nat × lb_E
abbrev lb_Y : Type := Int32 ⊕ lb_Z
def lb_a (s : Nat × (Nat → Int32)) (x : Int32) : Nat × (Nat → Int32) := (s.1 + 1, fun j => if j = s.1 then x else s.2 j)
def lb_em (e : lb_E) (x y : Int32) : lb_E := (lb_e e.1 x, lb_a e.2 y)
/-- a fault's number -/
def lb_c (p : Nat) (x : Int32) : Int32 := Int32.ofInt 1 + Int32.ofInt 8 * nI p + x
/-- the number that k digits are -/
def lb_v (f : Nat → Int32) (p : Nat) : Nat → Int32
  | 0 => Int32.ofInt 0
  | k + 1 => lb_v f p k * Int32.ofInt 10 + f (p + k) - Int32.ofInt 48
def lb_wd (w : Nat) : Nat := nt_sp + 1 + [2, 6, 7, 8, 1, 9, 10, 11, 12, 13].getD w 13
def lb_ws (f : Nat → Int32) (t p w : Nat) : Prop := lb_at f t (lb_W (lb_wd w)) p
def lb_val (f : Nat → Int32) (t : Nat) (z : lb_Z) (r : lb_Y) : Prop :=
  (5 < lb_d f t z.1 ∧ r = .inl (lb_c z.1 (Int32.ofInt 1))) ∨
  (0 < lb_d f t z.1 ∧ lb_d f t z.1 ≤ 5 ∧ z.2.1 = 60 ∧ r = .inl (lb_c z.1 (Int32.ofInt 3))) ∨
  (0 < lb_d f t z.1 ∧ lb_d f t z.1 ≤ 5 ∧ z.2.1 < 60 ∧ r = .inr (lb_s f t (z.1 + lb_d f t z.1), z.2.1 + 1, lb_em z.2.2 (Int32.ofInt 100 + lb_v f z.1 (lb_d f t z.1)) (Int32.ofInt 0 + Int32.ofInt 16 * lb_v f z.1 (lb_d f t z.1)))) ∨
  (lb_d f t z.1 = 0 ∧ (∀ v, v < 10 → ¬ lb_ws f t z.1 v) ∧ r = .inl (lb_c z.1 (Int32.ofInt 0))) ∨
  (lb_d f t z.1 = 0 ∧ ∃ w, w < 10 ∧ lb_ws f t z.1 w ∧ (∀ v, v < w → ¬ lb_ws f t z.1 v) ∧ (z.2.1 = 60 ∧ r = .inl (lb_c z.1 (Int32.ofInt 3)) ∨ z.2.1 < 60 ∧ r = .inr (lb_s f t (z.1 + (lb_W (lb_wd w)).length), z.2.1 + 1, lb_em z.2.2 (nI w) (Int32.ofInt 1 + Int32.ofInt 16 * nI w))))
theorem lb_c_ne {p : Nat} {x : Int32} (hp : p ≤ 400) (h0 : 0 ≤ x.toInt) (h1 : x.toInt ≤ 7) : lb_c p x ≠ 0 := by
  intro e
  unfold lb_c at e
  have e2 : nI (1 + 8 * p + x.toInt.toNat) = 0 := by
    rw [← e, ← me_addn, ← me_addn]
    have e3 : nI (8 * p) = Int32.ofInt 8 * nI p := Int32.ofNat_mul 8 p
    rw [e3]
    have e4 : nI x.toInt.toNat = x := by
      apply Int32.toInt_inj.mp
      rw [nI_toInt (by omega)]
      omega
    rw [e4]
    rfl
  exact nI_ne0 (by omega) (by omega) e2
theorem me_nm1 {w : Nat} (h : w < 2 ^ 31) : ¬ nI w = Int32.ofInt (-1) := by
  intro e
  have e := congrArg Int32.toInt e
  rw [nI_toInt h] at e
  have e : (w : Int) = -1 := e
  omega
theorem lz_ra {X : nt_X} {d mi pc g t a : Nat} {ls : nt_V} {M : nt_M} {o : Option Value × nt_M} {q : String} (hat : nt_at mi pc = some (pc, .areturn, g, t)) (hm : (nt_m mi).2.2.2.1 = some (.object q)) (k : nt_rn X d mi (pc, ls, [.ref a], M) o) : o = (some (.ref a), M) := by
  have h := lz_ret hat (Or.inr (Or.inr (Or.inl rfl))) k
  unfold nt_re at h
  rw [hm] at h
  have h : some (some (Value.ref a), M) = some o := h
  cases h
  rfl
/-- what the reader holds behind a result -/
def lc_Q (J0 : Nat → Nat → Int32) (Rd RR Sp t : Nat) (r : lb_Y) (J : Nat → Nat → Int32) : Prop := match r with
  | .inl c => c ≠ 0 ∧ ∃ m s, lc_S J0 Rd RR Sp t c m s J
  | .inr z => lc_S J0 Rd RR Sp z.1 0 z.2.1 z.2.2.1 J ∧ z.1 ≤ t
theorem lc_name {X : nt_X} {d w : Nat} {M : nt_M} {o : Option Value × nt_M} (hw : w < 10) (k : nt_ev X d 52 [.int (nI w)] M o) : o = (some (.ref (lb_wd w)), M) := by
  have k : nt_rn X d 52 (0, [(0, .int (nI w))], [], M) o := k
  rcases (by omega : w = 0 ∨ w = 1 ∨ w = 2 ∨ w = 3 ∨ w = 4 ∨ w = 5 ∨ w = 6 ∨ w = 7 ∨ w = 8 ∨ w = 9) with rfl | rfl | rfl | rfl | rfl | rfl | rfl | rfl | rfl | rfl
  · have k := ly_revb 3 (c' := (54, [(0, .int (nI 0))], [.ref (nt_sp + 1 + 2)], M)) rfl k
    exact lz_ra rfl rfl k
  · have k := ly_revb 3 (c' := (57, [(0, .int (nI 1))], [.ref (nt_sp + 1 + 6)], M)) rfl k
    exact lz_ra rfl rfl k
  · have k := ly_revb 3 (c' := (60, [(0, .int (nI 2))], [.ref (nt_sp + 1 + 7)], M)) rfl k
    exact lz_ra rfl rfl k
  · have k := ly_revb 3 (c' := (63, [(0, .int (nI 3))], [.ref (nt_sp + 1 + 8)], M)) rfl k
    exact lz_ra rfl rfl k
  · have k := ly_revb 3 (c' := (66, [(0, .int (nI 4))], [.ref (nt_sp + 1 + 1)], M)) rfl k
    exact lz_ra rfl rfl k
  · have k := ly_revb 3 (c' := (69, [(0, .int (nI 5))], [.ref (nt_sp + 1 + 9)], M)) rfl k
    exact lz_ra rfl rfl k
  · have k := ly_revb 3 (c' := (72, [(0, .int (nI 6))], [.ref (nt_sp + 1 + 10)], M)) rfl k
    exact lz_ra rfl rfl k
  · have k := ly_revb 3 (c' := (75, [(0, .int (nI 7))], [.ref (nt_sp + 1 + 11)], M)) rfl k
    exact lz_ra rfl rfl k
  · have k := ly_revb 3 (c' := (78, [(0, .int (nI 8))], [.ref (nt_sp + 1 + 12)], M)) rfl k
    exact lz_ra rfl rfl k
  · have k := ly_revb 3 (c' := (81, [(0, .int (nI 9))], [.ref (nt_sp + 1 + 13)], M)) rfl k
    exact lz_ra rfl rfl k
theorem lc_len {X : nt_X} {d w : Nat} {M : nt_M} {J : Nat → Nat → Int32} {o : Option Value × nt_M} (hw : w < 10) (k : nt_ev X d 55 [.int (nI w)] (me_w M J) o) : o = (some (.int (nI (lb_W (lb_wd w)).length)), me_w M J) := by
  have k : nt_rn X d 55 (0, [(0, .int (nI w))], [], me_w M J) o := k
  have k := ly_revb 1 (c' := (1, [(0, .int (nI w))], [.int (nI w)], me_w M J)) rfl k
  obtain ⟨d1, o1, ed, kc, k⟩ := lz_c (g := 52) (q := 0) (vs := [.int (nI w)]) (rest := []) rfl rfl (by decide) (Or.inl ⟨_, rfl, rfl⟩) rfl k
  have e := lc_name hw kc
  subst e
  have k : nt_rn X _ 55 (4, [(0, .int (nI w))], [.ref (lb_wd w)], me_w M J) _ := k
  obtain ⟨hw4, k⟩ := me_slen rfl k
  have k := lz_ri rfl (by decide) k
  exact k
theorem lc_wal {X : nt_X} {d t Rd Tp By RR Sp : Nat} {f : Nat → Int32} {M : nt_M} {J0 J : Nat → Nat → Int32} {o : Option Value × nt_M} {p m : Nat} {fa : Int32} {s : Nat × (Nat → Int32)} (hP : lc_P M J0 f t Rd Tp By RR Sp) (hS : lc_S J0 Rd RR Sp p fa m s J) (hp : p ≤ t) : ∀ (c w : Nat), w + c = 10 → (∀ v, v < w → ¬ lb_ws f t p v) → nt_rn X d 51 (2, [(1, .int (nI w)), (0, .ref RR)], [], me_w M J) o → ∃ r, o = (some (.int r), me_w M J) ∧ ((∃ w, w < 10 ∧ r = nI w ∧ lb_ws f t p w ∧ ∀ v, v < w → ¬ lb_ws f t p v) ∨ r = Int32.ofInt (-1) ∧ ∀ v, v < 10 → ¬ lb_ws f t p v) := by
  have t4 : t ≤ 400 := hP.2.2.2.2.1
  intro c
  induction c with
  | zero =>
    intro w hc hv k
    have k := ly_revb 3 (c' := (if (Int32.ofInt 10) ≤ (nI w) then 30 else 8, [(1, .int (nI w)), (0, .ref RR)], [], me_w M J)) rfl k
    rw [if_pos (show (Int32.ofInt 10) ≤ (nI w) from show nI 10 ≤ nI w from nI_le (by omega) (by omega))] at k
    have k := ly_revb 1 (c' := (31, [(1, .int (nI w)), (0, .ref RR)], [.int (Int32.ofInt (-1))], me_w M J)) rfl k
    have k := lz_ri rfl (by decide) k
    exact ⟨_, k, Or.inr ⟨rfl, fun v h => hv v (by omega)⟩⟩
  | succ c ih =>
    intro w hc hv k
    have hw : w < 10 := by omega
    have k := ly_revb 3 (c' := (if (Int32.ofInt 10) ≤ (nI w) then 30 else 8, [(1, .int (nI w)), (0, .ref RR)], [], me_w M J)) rfl k
    rw [if_neg (show ¬ ((Int32.ofInt 10) ≤ (nI w)) from show ¬ nI 10 ≤ nI w from nI_ge (Nat.not_le.mp (by omega)) (by omega))] at k
    have k := ly_revb 1 (c' := (9, [(1, .int (nI w)), (0, .ref RR)], [.ref RR], me_w M J)) rfl k
    have k := lz_get (a := RR) (g := 500) (M := me_w M J) (v := .ref Rd) rfl (nt_gfR rfl hP.1.2.2.1) k
    have k := ly_revb 1 (c' := (13, [(1, .int (nI w)), (0, .ref RR)], [.int (nI w), .ref Rd], me_w M J)) rfl k
    obtain ⟨d1, o1, ed, kc, k⟩ := lz_c (g := 52) (q := 0) (vs := [.int (nI w)]) (rest := [.ref Rd]) rfl rfl (by decide) (Or.inl ⟨_, rfl, rfl⟩) rfl k
    have e := lc_name hw kc
    subst e
    have k : nt_rn X _ 51 (16, [(1, .int (nI w)), (0, .ref RR)], [.ref (lb_wd w), .ref Rd], me_w M J) _ := k
    obtain ⟨d1, o1, ed, kc, k⟩ := lz_c (g := 30) (q := 1) (vs := [.ref Rd, .ref (lb_wd w)]) (rest := []) rfl rfl (by decide) (Or.inr (Or.inl ⟨_, rfl, rfl⟩)) rfl k
    obtain ⟨r, e, hr⟩ := lc_isAt hP hS hp kc
    subst e
    have k : nt_rn X _ 51 (19, [(1, .int (nI w)), (0, .ref RR)], [.int (r)], me_w M J) _ := k
    have k := ly_revb 1 (c' := (if r = 0 then 24 else 22, [(1, .int (nI w)), (0, .ref RR)], [], me_w M J)) rfl k
    by_cases h19 : r = 0
    · rw [if_pos (show r = 0 from h19)] at k
      have k := ly_revb 1 (c' := (27, [(1, .int ((nI w) + Int32.ofInt 1)), (0, .ref RR)], [], me_w M J)) rfl k
      rw [show ((nI w) + Int32.ofInt 1 : Int32) = nI (w + 1) from me_add (k := 1)] at k
      have k := ly_revb 1 (c' := (2, [(1, .int (nI (w + 1))), (0, .ref RR)], [], me_w M J)) rfl k
      rcases hr with ⟨e, hr⟩ | ⟨e, hr⟩
      · exact absurd (e.symm.trans h19) (by decide)
      · refine ih (w + 1) (by omega) (fun v h => ?_) k
        by_cases c2 : v = w
        · rw [c2]; exact hr
        · exact hv v (by omega)
    · rw [if_neg (show ¬ (r = 0) from h19)] at k
      have k := ly_revb 1 (c' := (23, [(1, .int (nI w)), (0, .ref RR)], [.int (nI w)], me_w M J)) rfl k
      have k := lz_ri rfl (by decide) k
      rcases hr with ⟨e, hr⟩ | ⟨e, hr⟩
      · exact ⟨_, k, Or.inl ⟨w, hw, rfl, hr, hv⟩⟩
      · exact absurd e h19
theorem lc_wordAt {X : nt_X} {d t Rd Tp By RR Sp : Nat} {f : Nat → Int32} {M : nt_M} {J0 J : Nat → Nat → Int32} {o : Option Value × nt_M} {p m : Nat} {fa : Int32} {s : Nat × (Nat → Int32)}  (hP : lc_P M J0 f t Rd Tp By RR Sp) (hS : lc_S J0 Rd RR Sp p fa m s J) (hp : p ≤ t) (k : nt_ev X d 51 [.ref RR] (me_w M J) o) : ∃ r, o = (some (.int r), me_w M J) ∧ ((∃ w, w < 10 ∧ r = nI w ∧ lb_ws f t p w ∧ ∀ v, v < w → ¬ lb_ws f t p v) ∨ r = Int32.ofInt (-1) ∧ ∀ v, v < 10 → ¬ lb_ws f t p v) := by
  have k : nt_rn X d 51 (0, [(0, .ref RR)], [], me_w M J) o := k
  have t4 : t ≤ 400 := hP.2.2.2.2.1
  have k := ly_revb 2 (c' := (2, [(1, .int (Int32.ofInt 0)), (0, .ref RR)], [], me_w M J)) rfl k
  exact lc_wal hP hS hp 10 0 rfl (fun v h => absurd h (by omega)) k
theorem lc_vol {X : nt_X} {d t Rd Tp By RR Sp : Nat} {f : Nat → Int32} {M : nt_M} {J0 J : Nat → Nat → Int32} {o : Option Value × nt_M} {p m : Nat} {fa : Int32} {s : Nat × (Nat → Int32)} {g : Nat} (hP : lc_P M J0 f t Rd Tp By RR Sp) (hS : lc_S J0 Rd RR Sp p fa m s J) (hp : p + g ≤ t) : ∀ (c j : Nat), j + c = g → nt_rn X d 34 (7, [(3, .int (nI (p + j))), (2, .int (lb_v f p j)), (0, .ref Rd), (1, .int (nI g))], [], me_w M J) o → o = (some (.int (lb_v f p g)), me_w M J) := by
  have t4 : t ≤ 400 := hP.2.2.2.2.1
  intro c
  induction c with
  | zero =>
    intro j hc k
    have hj : j = g := by omega
    subst hj
    have k := ly_revb 2 (c' := (9, [(3, .int (nI (p + j))), (2, .int (lb_v f p j)), (0, .ref Rd), (1, .int (nI j))], [.ref Rd, .int (nI (p + j))], me_w M J)) rfl k
    have k := lz_get (a := Rd) (g := 201) (M := me_w M J) (v := .int (nI p)) rfl (congrArg Value.int (hS.1)) k
    have k := ly_revb 2 (c' := (14, [(3, .int (nI (p + j))), (2, .int (lb_v f p j)), (0, .ref Rd), (1, .int (nI j))], [.int ((nI p) + (nI j)), .int (nI (p + j))], me_w M J)) rfl k
    rw [show ((nI p) + (nI j) : Int32) = nI (p + j) from me_addn] at k
    have k := ly_revb 1 (c' := (if (nI (p + j)) ≤ (nI (p + j)) then 52 else 17, [(3, .int (nI (p + j))), (2, .int (lb_v f p j)), (0, .ref Rd), (1, .int (nI j))], [], me_w M J)) rfl k
    rw [if_pos (show (nI (p + j)) ≤ (nI (p + j)) from nI_le (by omega) (by omega))] at k
    have k := ly_revb 1 (c' := (53, [(3, .int (nI (p + j))), (2, .int (lb_v f p j)), (0, .ref Rd), (1, .int (nI j))], [.int (lb_v f p j)], me_w M J)) rfl k
    have k := lz_ri rfl (by decide) k
    exact k
  | succ c ih =>
    intro j hc k
    have k := ly_revb 2 (c' := (9, [(3, .int (nI (p + j))), (2, .int (lb_v f p j)), (0, .ref Rd), (1, .int (nI g))], [.ref Rd, .int (nI (p + j))], me_w M J)) rfl k
    have k := lz_get (a := Rd) (g := 201) (M := me_w M J) (v := .int (nI p)) rfl (congrArg Value.int (hS.1)) k
    have k := ly_revb 2 (c' := (14, [(3, .int (nI (p + j))), (2, .int (lb_v f p j)), (0, .ref Rd), (1, .int (nI g))], [.int ((nI p) + (nI g)), .int (nI (p + j))], me_w M J)) rfl k
    rw [show ((nI p) + (nI g) : Int32) = nI (p + g) from me_addn] at k
    have k := ly_revb 1 (c' := (if (nI (p + g)) ≤ (nI (p + j)) then 52 else 17, [(3, .int (nI (p + j))), (2, .int (lb_v f p j)), (0, .ref Rd), (1, .int (nI g))], [], me_w M J)) rfl k
    rw [if_neg (show ¬ ((nI (p + g)) ≤ (nI (p + j))) from nI_ge (by omega) (by omega))] at k
    have k := ly_revb 2 (c' := (19, [(3, .int (nI (p + j))), (2, .int (lb_v f p j)), (0, .ref Rd), (1, .int (nI g))], [.ref Rd, .int (nI (p + j))], me_w M J)) rfl k
    have k := lz_get (a := Rd) (g := 200) (M := me_w M J) (v := .ref Tp) rfl (nt_gfR rfl hP.1.1) k
    have k := lz_get (a := Tp) (g := 701) (M := me_w M J) (v := .int (nI t)) rfl (congrArg Value.int (lc_t hP hS)) k
    have k := ly_revb 1 (c' := (if (nI t) ≤ (nI (p + j)) then 52 else 28, [(3, .int (nI (p + j))), (2, .int (lb_v f p j)), (0, .ref Rd), (1, .int (nI g))], [], me_w M J)) rfl k
    rw [if_neg (show ¬ ((nI t) ≤ (nI (p + j))) from nI_ge (by omega) (by omega))] at k
    have k := ly_revb 4 (c' := (33, [(3, .int (nI (p + j))), (2, .int (lb_v f p j)), (0, .ref Rd), (1, .int (nI g))], [.ref Rd, .int ((lb_v f p j) * (Int32.ofInt 10))], me_w M J)) rfl k
    have k := lz_get (a := Rd) (g := 200) (M := me_w M J) (v := .ref Tp) rfl (nt_gfR rfl hP.1.1) k
    have k := lz_get (a := Tp) (g := 700) (M := me_w M J) (v := .ref By) rfl (nt_gfR rfl hP.1.2.1) k
    have k := ly_revb 1 (c' := (40, [(3, .int (nI (p + j))), (2, .int (lb_v f p j)), (0, .ref Rd), (1, .int (nI g))], [.int (nI (p + j)), .ref By, .int ((lb_v f p j) * (Int32.ofInt 10))], me_w M J)) rfl k
    have k := me_bald (q := (p + j)) (v := f ((p + j))) rfl (rfl) (by omega) (lc_f hP hS ((p + j))) k
    have k := ly_revb 3 (c' := (45, [(3, .int (nI (p + j))), (2, .int (lb_v f p j)), (0, .ref Rd), (1, .int (nI g))], [.int ((((lb_v f p j) * (Int32.ofInt 10)) + (f ((p + j)))) - (Int32.ofInt 48))], me_w M J)) rfl k
    rw [show ((((lb_v f p j) * (Int32.ofInt 10)) + (f ((p + j)))) - (Int32.ofInt 48) : Int32) = lb_v f p (j + 1) from rfl] at k
    have k := ly_revb 2 (c' := (49, [(3, .int ((nI (p + j)) + Int32.ofInt 1)), (2, .int (lb_v f p (j + 1))), (0, .ref Rd), (1, .int (nI g))], [], me_w M J)) rfl k
    rw [show ((nI (p + j)) + Int32.ofInt 1 : Int32) = nI (p + (j + 1)) from me_add (k := 1)] at k
    have k := ly_revb 1 (c' := (7, [(3, .int (nI (p + (j + 1)))), (2, .int (lb_v f p (j + 1))), (0, .ref Rd), (1, .int (nI g))], [], me_w M J)) rfl k
    exact ih (j + 1) (by omega) k
theorem lc_valueOf {X : nt_X} {d t Rd Tp By RR Sp : Nat} {f : Nat → Int32} {M : nt_M} {J0 J : Nat → Nat → Int32} {o : Option Value × nt_M} {p m : Nat} {fa : Int32} {s : Nat × (Nat → Int32)} {g : Nat} (hP : lc_P M J0 f t Rd Tp By RR Sp) (hS : lc_S J0 Rd RR Sp p fa m s J) (hp : p ≤ t) (hg : p + g ≤ t) (k : nt_ev X d 34 [.ref Rd, .int (nI g)] (me_w M J) o) : o = (some (.int (lb_v f p g)), me_w M J) := by
  have k : nt_rn X d 34 (0, [(0, .ref Rd), (1, .int (nI g))], [], me_w M J) o := k
  have t4 : t ≤ 400 := hP.2.2.2.2.1
  have k := ly_revb 3 (c' := (3, [(2, .int (Int32.ofInt 0)), (0, .ref Rd), (1, .int (nI g))], [.ref Rd], me_w M J)) rfl k
  have k := lz_get (a := Rd) (g := 201) (M := me_w M J) (v := .int (nI p)) rfl (congrArg Value.int (hS.1)) k
  have k := ly_revb 1 (c' := (7, [(3, .int (nI p)), (2, .int (Int32.ofInt 0)), (0, .ref Rd), (1, .int (nI g))], [], me_w M J)) rfl k
  exact lc_vol hP hS hg g 0 (by omega) k
theorem lb_W_pos {w : Nat} (h : w < 10) : 0 < (lb_W (lb_wd w)).length := by
  rcases (by omega : w = 0 ∨ w = 1 ∨ w = 2 ∨ w = 3 ∨ w = 4 ∨ w = 5 ∨ w = 6 ∨ w = 7 ∨ w = 8 ∨ w = 9) with rfl | rfl | rfl | rfl | rfl | rfl | rfl | rfl | rfl | rfl <;> decide +kernel
theorem lc_readValue {X : nt_X} {d t Rd Tp By RR Sp : Nat} {f : Nat → Int32} {M : nt_M} {J0 J : Nat → Nat → Int32} {o : Option Value × nt_M} {p m : Nat} {e : lb_E}  (hP : lc_P M J0 f t Rd Tp By RR Sp) (hS : lc_S J0 Rd RR Sp p 0 m e.1 J) (hp : p ≤ t) (k : nt_ev X d 50 [.ref RR] (me_w M J) o) : ∃ r J', o = (none, me_w M J') ∧ lb_val f t (p, m, e) r ∧ lc_Q J0 Rd RR Sp t r J' := by
  have k : nt_rn X d 50 (0, [(0, .ref RR)], [], me_w M J) o := k
  have t4 : t ≤ 400 := hP.2.2.2.2.1
  have m6 : m ≤ 60 := hS.2.2.2.2.2.2.2
  have hd := lb_d_le (f := f) (t := t) (t - p) p (by omega)
  have hW := fun w => lb_W_len (a := lb_wd w)
  have k := ly_revb 1 (c' := (1, [(0, .ref RR)], [.ref RR], me_w M J)) rfl k
  have k := lz_get (a := RR) (g := 500) (M := me_w M J) (v := .ref Rd) rfl (nt_gfR rfl hP.1.2.2.1) k
  obtain ⟨d1, o1, ed, kc, k⟩ := lz_c (g := 33) (q := 1) (vs := [.ref Rd]) (rest := []) rfl rfl (by decide) (Or.inr (Or.inl ⟨_, rfl, rfl⟩)) rfl k
  have e1 := lc_digits hP hS hp kc
  subst e1
  have k : nt_rn X _ 50 (7, [(0, .ref RR)], [.int (nI (lb_d f t p))], me_w M J) _ := k
  have k := ly_revb 3 (c' := (if (nI (lb_d f t p)) = 0 then 12 else 19, [(1, .int (nI (lb_d f t p))), (0, .ref RR)], [], me_w M J)) rfl k
  by_cases h9 : (lb_d f t p) = 0
  · rw [if_pos (show (nI (lb_d f t p)) = 0 from show nI (lb_d f t p) = nI 0 from congrArg nI h9)] at k
    have k := ly_revb 1 (c' := (13, [(1, .int (nI (lb_d f t p))), (0, .ref RR)], [.ref RR], me_w M J)) rfl k
    obtain ⟨d1, o1, ed, kc, k⟩ := lz_c (g := 51) (q := 1) (vs := [.ref RR]) (rest := []) rfl rfl (by decide) (Or.inr (Or.inl ⟨_, rfl, rfl⟩)) rfl k
    obtain ⟨r, e1, hw⟩ := lc_wordAt hP hS hp kc
    subst e1
    rcases hw with ⟨w, hw, e1, hat, hbe⟩ | ⟨e1, hno⟩
    · subst e1
      have k : nt_rn X _ 50 (16, [(1, .int (nI (lb_d f t p))), (0, .ref RR)], [.int (nI w)], me_w M J) _ := k
      have k := ly_revb 4 (c' := (if (nI (lb_d f t p)) = 0 then 25 else 41, [(2, .int (nI w)), (1, .int (nI (lb_d f t p))), (0, .ref RR)], [], me_w M J)) rfl k
      rw [if_pos (show (nI (lb_d f t p)) = 0 from show nI (lb_d f t p) = nI 0 from congrArg nI h9)] at k
      have k := ly_revb 3 (c' := (if (nI w) = (Int32.ofInt (-1)) then 30 else 41, [(2, .int (nI w)), (1, .int (nI (lb_d f t p))), (0, .ref RR)], [], me_w M J)) rfl k
      rw [if_neg (show ¬ ((nI w) = (Int32.ofInt (-1))) from me_nm1 (by omega))] at k
      have k := ly_revb 3 (c' := (if (nI (lb_d f t p)) ≤ (Int32.ofInt 5) then 57 else 46, [(2, .int (nI w)), (1, .int (nI (lb_d f t p))), (0, .ref RR)], [], me_w M J)) rfl k
      rw [if_pos (show (nI (lb_d f t p)) ≤ (Int32.ofInt 5) from show nI ((lb_d f t p)) ≤ nI 5 from nI_le (by omega) (by omega))] at k
      have k := ly_revb 1 (c' := (58, [(2, .int (nI w)), (1, .int (nI (lb_d f t p))), (0, .ref RR)], [.ref RR], me_w M J)) rfl k
      obtain ⟨d1, o1, ed, kc, k⟩ := lz_c (g := 53) (q := 1) (vs := [.ref RR]) (rest := []) rfl rfl (by decide) (Or.inr (Or.inl ⟨_, rfl, rfl⟩)) rfl k
      rcases lc_counts hP hS hp kc with ⟨hm, e1⟩ | ⟨hm, _, e1⟩ | ⟨_, hf, _⟩
      · subst e1
        have hS1 := lc_Sm (q := m + 1) hP hS (by omega)
        have k : nt_rn X _ 50 (61, [(2, .int (nI w)), (1, .int (nI (lb_d f t p))), (0, .ref RR)], [.int (Int32.ofInt 1)], me_w M (nt_u J RR 3 (nI (m + 1)))) _ := k
        have k := ly_revb 1 (c' := (if (Int32.ofInt 1) = 0 then 108 else 64, [(2, .int (nI w)), (1, .int (nI (lb_d f t p))), (0, .ref RR)], [], me_w M (nt_u J RR 3 (nI (m + 1))))) rfl k
        rw [if_neg (show ¬ ((Int32.ofInt 1) = 0) from by decide)] at k
        have k := ly_revb 4 (c' := (if (nI w) = (Int32.ofInt (-1)) then 70 else 84, [(2, .int (nI w)), (1, .int (nI (lb_d f t p))), (0, .ref RR)], [.ref RR], me_w M (nt_u J RR 3 (nI (m + 1))))) rfl k
        rw [if_neg (show ¬ ((nI w) = (Int32.ofInt (-1))) from me_nm1 (by omega))] at k
        have k := ly_revb 1 (c' := (85, [(2, .int (nI w)), (1, .int (nI (lb_d f t p))), (0, .ref RR)], [.int (nI w), .ref RR], me_w M (nt_u J RR 3 (nI (m + 1))))) rfl k
        obtain ⟨d1, o1, ed, kc, k⟩ := lz_c (g := 54) (q := 1) (vs := [.ref RR, .int (nI w)]) (rest := []) rfl rfl (by decide) (Or.inr (Or.inl ⟨_, rfl, rfl⟩)) rfl k
        obtain ⟨J2, e1, hS2⟩ := lc_add hP hS1 hp kc
        subst e1
        have k : nt_rn X _ 50 (88, [(2, .int (nI w)), (1, .int (nI (lb_d f t p))), (0, .ref RR)], [], me_w M J2) _ := k
        have k := ly_revb 1 (c' := (89, [(2, .int (nI w)), (1, .int (nI (lb_d f t p))), (0, .ref RR)], [.ref RR], me_w M J2)) rfl k
        have k := lz_get (a := RR) (g := 500) (M := me_w M J2) (v := .ref Rd) rfl (nt_gfR rfl hP.1.2.2.1) k
        have k := ly_revb 3 (c' := (if (nI w) = (Int32.ofInt (-1)) then 97 else 101, [(2, .int (nI w)), (1, .int (nI (lb_d f t p))), (0, .ref RR)], [.ref Rd], me_w M J2)) rfl k
        rw [if_neg (show ¬ ((nI w) = (Int32.ofInt (-1))) from me_nm1 (by omega))] at k
        have k := ly_revb 1 (c' := (102, [(2, .int (nI w)), (1, .int (nI (lb_d f t p))), (0, .ref RR)], [.int (nI w), .ref Rd], me_w M J2)) rfl k
        obtain ⟨d1, o1, ed, kc, k⟩ := lz_c (g := 55) (q := 0) (vs := [.int (nI w)]) (rest := [.ref Rd]) rfl rfl (by decide) (Or.inl ⟨_, rfl, rfl⟩) rfl k
        have e1 := lc_len hw kc
        subst e1
        have k : nt_rn X _ 50 (105, [(2, .int (nI w)), (1, .int (nI (lb_d f t p))), (0, .ref RR)], [.int (nI (lb_W (lb_wd w)).length), .ref Rd], me_w M J2) _ := k
        obtain ⟨d1, o1, ed, kc, k⟩ := lz_c (g := 29) (q := 1) (vs := [.ref Rd, .int (nI (lb_W (lb_wd w)).length)]) (rest := []) rfl rfl (by decide) (Or.inr (Or.inl ⟨_, rfl, rfl⟩)) rfl k
        have e1 := lc_skip (b := (lb_W (lb_wd w)).length) hP hS2 hp (by first | omega | decide | (have := lb_W_len (a := lb_wd w); omega)) kc
        rw [Nat.min_eq_left (hat.1)] at e1
        subst e1
        have hS3 := lc_Spp (q := lb_s f t (p + ((lb_W (lb_wd w)).length))) hP hS2
        have hp3 : lb_s f t (p + ((lb_W (lb_wd w)).length)) ≤ t := (lb_s_le (t - (p + ((lb_W (lb_wd w)).length))) (p + ((lb_W (lb_wd w)).length)) (by have := (hat.1); omega)).2
        have k : nt_rn X _ 50 (108, [(2, .int (nI w)), (1, .int (nI (lb_d f t p))), (0, .ref RR)], [], me_w M (nt_u J2 Rd 1 (nI (lb_s f t (p + ((lb_W (lb_wd w)).length)))))) _ := k
        have k := lz_rv rfl rfl k
        refine ⟨.inr (lb_s f t (p + ((lb_W (lb_wd w)).length)), m + 1, lb_em e (nI w) (Int32.ofInt 1 + Int32.ofInt 16 * nI w)), _, k, ?_, ?_⟩
        · unfold lb_val
          dsimp only
          exact Or.inr (Or.inr (Or.inr (Or.inr ⟨h9, w, hw, hat, hbe, Or.inr ⟨hm, rfl⟩⟩)))
        · unfold lc_Q lb_em
          dsimp only
          exact ⟨hS3, hp3⟩
      · subst e1
        have hS1 := lc_Spp (q := t) hP (lc_Sf (fb := lb_c p (Int32.ofInt 3)) hP hS)
        have k : nt_rn X _ 50 (61, [(2, .int (nI w)), (1, .int (nI (lb_d f t p))), (0, .ref RR)], [.int (Int32.ofInt 0)], me_w M (nt_u (nt_u J Rd 2 (lb_c p (Int32.ofInt 3))) Rd 1 (nI t))) _ := k
        have k := ly_revb 1 (c' := (if (Int32.ofInt 0) = 0 then 108 else 64, [(2, .int (nI w)), (1, .int (nI (lb_d f t p))), (0, .ref RR)], [], me_w M (nt_u (nt_u J Rd 2 (lb_c p (Int32.ofInt 3))) Rd 1 (nI t)))) rfl k
        rw [if_pos (show (Int32.ofInt 0) = 0 from by decide)] at k
        have k := lz_rv rfl rfl k
        refine ⟨.inl (lb_c p (Int32.ofInt 3)), _, k, ?_, (lb_c_ne (by omega) (by decide) (by decide)), _, _, hS1⟩
        unfold lb_val
        dsimp only
        exact Or.inr (Or.inr (Or.inr (Or.inr ⟨h9, w, hw, hat, hbe, Or.inl ⟨hm, rfl⟩⟩)))
      · exact absurd rfl hf
    · subst e1
      have k : nt_rn X _ 50 (16, [(1, .int (nI (lb_d f t p))), (0, .ref RR)], [.int (Int32.ofInt (-1))], me_w M J) _ := k
      have k := ly_revb 4 (c' := (if (nI (lb_d f t p)) = 0 then 25 else 41, [(2, .int (Int32.ofInt (-1))), (1, .int (nI (lb_d f t p))), (0, .ref RR)], [], me_w M J)) rfl k
      rw [if_pos (show (nI (lb_d f t p)) = 0 from show nI (lb_d f t p) = nI 0 from congrArg nI h9)] at k
      have k := ly_revb 3 (c' := (if (Int32.ofInt (-1)) = (Int32.ofInt (-1)) then 30 else 41, [(2, .int (Int32.ofInt (-1))), (1, .int (nI (lb_d f t p))), (0, .ref RR)], [], me_w M J)) rfl k
      rw [if_pos (show (Int32.ofInt (-1)) = (Int32.ofInt (-1)) from rfl)] at k
      have k := ly_revb 1 (c' := (31, [(2, .int (Int32.ofInt (-1))), (1, .int (nI (lb_d f t p))), (0, .ref RR)], [.ref RR], me_w M J)) rfl k
      have k := lz_get (a := RR) (g := 500) (M := me_w M J) (v := .ref Rd) rfl (nt_gfR rfl hP.1.2.2.1) k
      have k := ly_revb 1 (c' := (35, [(2, .int (Int32.ofInt (-1))), (1, .int (nI (lb_d f t p))), (0, .ref RR)], [.int (Int32.ofInt 0), .ref Rd], me_w M J)) rfl k
      obtain ⟨d1, o1, ed, kc, k⟩ := lz_c (g := 31) (q := 1) (vs := [.ref Rd, .int (Int32.ofInt 0)]) (rest := []) rfl rfl (by decide) (Or.inr (Or.inl ⟨_, rfl, rfl⟩)) rfl k
      obtain ⟨hf, e1⟩ := (lc_fail hP hS hp kc).resolve_right (fun c => c.1 rfl)
      subst e1
      have hS1 := lc_Spp (q := t) hP (lc_Sf (fb := lb_c p (Int32.ofInt 0)) hP hS)
      have k : nt_rn X _ 50 (38, [(2, .int (Int32.ofInt (-1))), (1, .int (nI (lb_d f t p))), (0, .ref RR)], [], me_w M (nt_u (nt_u J Rd 2 (lb_c p (Int32.ofInt 0))) Rd 1 (nI t))) _ := k
      have k := ly_revb 1 (c' := (108, [(2, .int (Int32.ofInt (-1))), (1, .int (nI (lb_d f t p))), (0, .ref RR)], [], me_w M (nt_u (nt_u J Rd 2 (lb_c p (Int32.ofInt 0))) Rd 1 (nI t)))) rfl k
      have k := lz_rv rfl rfl k
      refine ⟨.inl (lb_c p (Int32.ofInt 0)), _, k, ?_, (lb_c_ne (by omega) (by decide) (by decide)), _, _, hS1⟩
      unfold lb_val
      dsimp only
      exact Or.inr (Or.inr (Or.inr (Or.inl ⟨h9, hno, rfl⟩)))
  · rw [if_neg (show ¬ ((nI (lb_d f t p)) = 0) from nI_ne0 (Nat.pos_of_ne_zero h9) (by omega))] at k
    have k := ly_revb 4 (c' := (if (nI (lb_d f t p)) = 0 then 25 else 41, [(2, .int (Int32.ofInt (-1))), (1, .int (nI (lb_d f t p))), (0, .ref RR)], [], me_w M J)) rfl k
    rw [if_neg (show ¬ ((nI (lb_d f t p)) = 0) from nI_ne0 (Nat.pos_of_ne_zero h9) (by omega))] at k
    have k := ly_revb 3 (c' := (if (nI (lb_d f t p)) ≤ (Int32.ofInt 5) then 57 else 46, [(2, .int (Int32.ofInt (-1))), (1, .int (nI (lb_d f t p))), (0, .ref RR)], [], me_w M J)) rfl k
    by_cases h43 : (lb_d f t p) ≤ 5
    · rw [if_pos (show (nI (lb_d f t p)) ≤ (Int32.ofInt 5) from show nI ((lb_d f t p)) ≤ nI 5 from nI_le h43 (by omega))] at k
      have k := ly_revb 1 (c' := (58, [(2, .int (Int32.ofInt (-1))), (1, .int (nI (lb_d f t p))), (0, .ref RR)], [.ref RR], me_w M J)) rfl k
      obtain ⟨d1, o1, ed, kc, k⟩ := lz_c (g := 53) (q := 1) (vs := [.ref RR]) (rest := []) rfl rfl (by decide) (Or.inr (Or.inl ⟨_, rfl, rfl⟩)) rfl k
      rcases lc_counts hP hS hp kc with ⟨hm, e1⟩ | ⟨hm, _, e1⟩ | ⟨_, hf, _⟩
      · subst e1
        have hS1 := lc_Sm (q := m + 1) hP hS (by omega)
        have k : nt_rn X _ 50 (61, [(2, .int (Int32.ofInt (-1))), (1, .int (nI (lb_d f t p))), (0, .ref RR)], [.int (Int32.ofInt 1)], me_w M (nt_u J RR 3 (nI (m + 1)))) _ := k
        have k := ly_revb 1 (c' := (if (Int32.ofInt 1) = 0 then 108 else 64, [(2, .int (Int32.ofInt (-1))), (1, .int (nI (lb_d f t p))), (0, .ref RR)], [], me_w M (nt_u J RR 3 (nI (m + 1))))) rfl k
        rw [if_neg (show ¬ ((Int32.ofInt 1) = 0) from by decide)] at k
        have k := ly_revb 4 (c' := (if (Int32.ofInt (-1)) = (Int32.ofInt (-1)) then 70 else 84, [(2, .int (Int32.ofInt (-1))), (1, .int (nI (lb_d f t p))), (0, .ref RR)], [.ref RR], me_w M (nt_u J RR 3 (nI (m + 1))))) rfl k
        rw [if_pos (show (Int32.ofInt (-1)) = (Int32.ofInt (-1)) from rfl)] at k
        have k := ly_revb 2 (c' := (73, [(2, .int (Int32.ofInt (-1))), (1, .int (nI (lb_d f t p))), (0, .ref RR)], [.ref RR, .int (Int32.ofInt 100), .ref RR], me_w M (nt_u J RR 3 (nI (m + 1))))) rfl k
        have k := lz_get (a := RR) (g := 500) (M := me_w M (nt_u J RR 3 (nI (m + 1)))) (v := .ref Rd) rfl (nt_gfR rfl hP.1.2.2.1) k
        have k := ly_revb 1 (c' := (77, [(2, .int (Int32.ofInt (-1))), (1, .int (nI (lb_d f t p))), (0, .ref RR)], [.int (nI (lb_d f t p)), .ref Rd, .int (Int32.ofInt 100), .ref RR], me_w M (nt_u J RR 3 (nI (m + 1))))) rfl k
        obtain ⟨d1, o1, ed, kc, k⟩ := lz_c (g := 34) (q := 1) (vs := [.ref Rd, .int (nI (lb_d f t p))]) (rest := [.int (Int32.ofInt 100), .ref RR]) rfl rfl (by decide) (Or.inr (Or.inl ⟨_, rfl, rfl⟩)) rfl k
        have e1 := lc_valueOf hP hS1 hp hd kc
        subst e1
        have k : nt_rn X _ 50 (80, [(2, .int (Int32.ofInt (-1))), (1, .int (nI (lb_d f t p))), (0, .ref RR)], [.int (lb_v f p ((lb_d f t p))), .int (Int32.ofInt 100), .ref RR], me_w M (nt_u J RR 3 (nI (m + 1)))) _ := k
        have k := ly_revb 2 (c' := (85, [(2, .int (Int32.ofInt (-1))), (1, .int (nI (lb_d f t p))), (0, .ref RR)], [.int ((Int32.ofInt 100) + (lb_v f p ((lb_d f t p)))), .ref RR], me_w M (nt_u J RR 3 (nI (m + 1))))) rfl k
        obtain ⟨d1, o1, ed, kc, k⟩ := lz_c (g := 54) (q := 1) (vs := [.ref RR, .int ((Int32.ofInt 100) + (lb_v f p ((lb_d f t p))))]) (rest := []) rfl rfl (by decide) (Or.inr (Or.inl ⟨_, rfl, rfl⟩)) rfl k
        obtain ⟨J2, e1, hS2⟩ := lc_add hP hS1 hp kc
        subst e1
        have k : nt_rn X _ 50 (88, [(2, .int (Int32.ofInt (-1))), (1, .int (nI (lb_d f t p))), (0, .ref RR)], [], me_w M J2) _ := k
        have k := ly_revb 1 (c' := (89, [(2, .int (Int32.ofInt (-1))), (1, .int (nI (lb_d f t p))), (0, .ref RR)], [.ref RR], me_w M J2)) rfl k
        have k := lz_get (a := RR) (g := 500) (M := me_w M J2) (v := .ref Rd) rfl (nt_gfR rfl hP.1.2.2.1) k
        have k := ly_revb 3 (c' := (if (Int32.ofInt (-1)) = (Int32.ofInt (-1)) then 97 else 101, [(2, .int (Int32.ofInt (-1))), (1, .int (nI (lb_d f t p))), (0, .ref RR)], [.ref Rd], me_w M J2)) rfl k
        rw [if_pos (show (Int32.ofInt (-1)) = (Int32.ofInt (-1)) from rfl)] at k
        have k := ly_revb 2 (c' := (105, [(2, .int (Int32.ofInt (-1))), (1, .int (nI (lb_d f t p))), (0, .ref RR)], [.int (nI (lb_d f t p)), .ref Rd], me_w M J2)) rfl k
        obtain ⟨d1, o1, ed, kc, k⟩ := lz_c (g := 29) (q := 1) (vs := [.ref Rd, .int (nI (lb_d f t p))]) (rest := []) rfl rfl (by decide) (Or.inr (Or.inl ⟨_, rfl, rfl⟩)) rfl k
        have e1 := lc_skip (b := (lb_d f t p)) hP hS2 hp (by first | omega | decide | (have := lb_W_len (a := lb_wd w); omega)) kc
        rw [Nat.min_eq_left (hd)] at e1
        subst e1
        have hS3 := lc_Spp (q := lb_s f t (p + ((lb_d f t p)))) hP hS2
        have hp3 : lb_s f t (p + ((lb_d f t p))) ≤ t := (lb_s_le (t - (p + ((lb_d f t p)))) (p + ((lb_d f t p))) (by have := (hd); omega)).2
        have k : nt_rn X _ 50 (108, [(2, .int (Int32.ofInt (-1))), (1, .int (nI (lb_d f t p))), (0, .ref RR)], [], me_w M (nt_u J2 Rd 1 (nI (lb_s f t (p + ((lb_d f t p))))))) _ := k
        have k := lz_rv rfl rfl k
        refine ⟨.inr (lb_s f t (p + ((lb_d f t p))), m + 1, lb_em e (Int32.ofInt 100 + lb_v f p (lb_d f t p)) (Int32.ofInt 0 + Int32.ofInt 16 * lb_v f p (lb_d f t p))), _, k, ?_, ?_⟩
        · unfold lb_val
          dsimp only
          exact Or.inr (Or.inr (Or.inl ⟨by omega, h43, hm, rfl⟩))
        · unfold lc_Q lb_em
          dsimp only
          exact ⟨hS3, hp3⟩
      · subst e1
        have hS1 := lc_Spp (q := t) hP (lc_Sf (fb := lb_c p (Int32.ofInt 3)) hP hS)
        have k : nt_rn X _ 50 (61, [(2, .int (Int32.ofInt (-1))), (1, .int (nI (lb_d f t p))), (0, .ref RR)], [.int (Int32.ofInt 0)], me_w M (nt_u (nt_u J Rd 2 (lb_c p (Int32.ofInt 3))) Rd 1 (nI t))) _ := k
        have k := ly_revb 1 (c' := (if (Int32.ofInt 0) = 0 then 108 else 64, [(2, .int (Int32.ofInt (-1))), (1, .int (nI (lb_d f t p))), (0, .ref RR)], [], me_w M (nt_u (nt_u J Rd 2 (lb_c p (Int32.ofInt 3))) Rd 1 (nI t)))) rfl k
        rw [if_pos (show (Int32.ofInt 0) = 0 from by decide)] at k
        have k := lz_rv rfl rfl k
        refine ⟨.inl (lb_c p (Int32.ofInt 3)), _, k, ?_, (lb_c_ne (by omega) (by decide) (by decide)), _, _, hS1⟩
        unfold lb_val
        dsimp only
        exact Or.inr (Or.inl ⟨by omega, h43, hm, rfl⟩)
      · exact absurd rfl hf
    · rw [if_neg (show ¬ ((nI (lb_d f t p)) ≤ (Int32.ofInt 5)) from show ¬ nI ((lb_d f t p)) ≤ nI 5 from nI_ge (Nat.not_le.mp h43) (by omega))] at k
      have k := ly_revb 1 (c' := (47, [(2, .int (Int32.ofInt (-1))), (1, .int (nI (lb_d f t p))), (0, .ref RR)], [.ref RR], me_w M J)) rfl k
      have k := lz_get (a := RR) (g := 500) (M := me_w M J) (v := .ref Rd) rfl (nt_gfR rfl hP.1.2.2.1) k
      have k := ly_revb 1 (c' := (51, [(2, .int (Int32.ofInt (-1))), (1, .int (nI (lb_d f t p))), (0, .ref RR)], [.int (Int32.ofInt 1), .ref Rd], me_w M J)) rfl k
      obtain ⟨d1, o1, ed, kc, k⟩ := lz_c (g := 31) (q := 1) (vs := [.ref Rd, .int (Int32.ofInt 1)]) (rest := []) rfl rfl (by decide) (Or.inr (Or.inl ⟨_, rfl, rfl⟩)) rfl k
      obtain ⟨hf, e1⟩ := (lc_fail hP hS hp kc).resolve_right (fun c => c.1 rfl)
      subst e1
      have hS1 := lc_Spp (q := t) hP (lc_Sf (fb := lb_c p (Int32.ofInt 1)) hP hS)
      have k : nt_rn X _ 50 (54, [(2, .int (Int32.ofInt (-1))), (1, .int (nI (lb_d f t p))), (0, .ref RR)], [], me_w M (nt_u (nt_u J Rd 2 (lb_c p (Int32.ofInt 1))) Rd 1 (nI t))) _ := k
      have k := ly_revb 1 (c' := (108, [(2, .int (Int32.ofInt (-1))), (1, .int (nI (lb_d f t p))), (0, .ref RR)], [], me_w M (nt_u (nt_u J Rd 2 (lb_c p (Int32.ofInt 1))) Rd 1 (nI t)))) rfl k
      have k := lz_rv rfl rfl k
      refine ⟨.inl (lb_c p (Int32.ofInt 1)), _, k, ?_, (lb_c_ne (by omega) (by decide) (by decide)), _, _, hS1⟩
      unfold lb_val
      dsimp only
      exact Or.inl ⟨by omega, rfl⟩
theorem lc_readValueF {X : nt_X} {d t Rd Tp By RR Sp : Nat} {f : Nat → Int32} {M : nt_M} {J0 J : Nat → Nat → Int32} {o : Option Value × nt_M} { m : Nat} {fa : Int32} {s : Nat × (Nat → Int32)}  (hP : lc_P M J0 f t Rd Tp By RR Sp) (hS : lc_S J0 Rd RR Sp t fa m s J) (hfa : ¬ fa = 0) (k : nt_ev X d 50 [.ref RR] (me_w M J) o) : ∃ m' s' J', o = (none, me_w M J') ∧ lc_S J0 Rd RR Sp t fa m' s' J' := by
  have k : nt_rn X d 50 (0, [(0, .ref RR)], [], me_w M J) o := k
  have t4 : t ≤ 400 := hP.2.2.2.2.1
  have m6 : m ≤ 60 := hS.2.2.2.2.2.2.2
  have hd : lb_d f t t = 0 := lb_d0 (by omega)
  have k := ly_revb 1 (c' := (1, [(0, .ref RR)], [.ref RR], me_w M J)) rfl k
  have k := lz_get (a := RR) (g := 500) (M := me_w M J) (v := .ref Rd) rfl (nt_gfR rfl hP.1.2.2.1) k
  obtain ⟨d1, o1, ed, kc, k⟩ := lz_c (g := 33) (q := 1) (vs := [.ref Rd]) (rest := []) rfl rfl (by decide) (Or.inr (Or.inl ⟨_, rfl, rfl⟩)) rfl k
  have e1 := lc_digits hP hS (Nat.le_refl t) kc
  subst e1
  have k : nt_rn X _ 50 (7, [(0, .ref RR)], [.int (nI (lb_d f t t))], me_w M J) _ := k
  have k := ly_revb 3 (c' := (if (nI (lb_d f t t)) = 0 then 12 else 19, [(1, .int (nI (lb_d f t t))), (0, .ref RR)], [], me_w M J)) rfl k
  rw [if_pos (show (nI (lb_d f t t)) = 0 from show nI (lb_d f t t) = nI 0 from congrArg nI hd)] at k
  have k := ly_revb 1 (c' := (13, [(1, .int (nI (lb_d f t t))), (0, .ref RR)], [.ref RR], me_w M J)) rfl k
  obtain ⟨d1, o1, ed, kc, k⟩ := lz_c (g := 51) (q := 1) (vs := [.ref RR]) (rest := []) rfl rfl (by decide) (Or.inr (Or.inl ⟨_, rfl, rfl⟩)) rfl k
  obtain ⟨r, e1, hw⟩ := lc_wordAt hP hS (Nat.le_refl t) kc
  subst e1
  obtain ⟨e1, hno⟩ := hw.resolve_left (fun ⟨w, hw, _, hat, _⟩ => absurd hat.1 (by have := lb_W_pos hw; omega))
  subst e1
  have k : nt_rn X _ 50 (16, [(1, .int (nI (lb_d f t t))), (0, .ref RR)], [.int (Int32.ofInt (-1))], me_w M J) _ := k
  have k := ly_revb 4 (c' := (if (nI (lb_d f t t)) = 0 then 25 else 41, [(2, .int (Int32.ofInt (-1))), (1, .int (nI (lb_d f t t))), (0, .ref RR)], [], me_w M J)) rfl k
  rw [if_pos (show (nI (lb_d f t t)) = 0 from show nI (lb_d f t t) = nI 0 from congrArg nI hd)] at k
  have k := ly_revb 3 (c' := (if (Int32.ofInt (-1)) = (Int32.ofInt (-1)) then 30 else 41, [(2, .int (Int32.ofInt (-1))), (1, .int (nI (lb_d f t t))), (0, .ref RR)], [], me_w M J)) rfl k
  rw [if_pos (show (Int32.ofInt (-1)) = (Int32.ofInt (-1)) from rfl)] at k
  have k := ly_revb 1 (c' := (31, [(2, .int (Int32.ofInt (-1))), (1, .int (nI (lb_d f t t))), (0, .ref RR)], [.ref RR], me_w M J)) rfl k
  have k := lz_get (a := RR) (g := 500) (M := me_w M J) (v := .ref Rd) rfl (nt_gfR rfl hP.1.2.2.1) k
  have k := ly_revb 1 (c' := (35, [(2, .int (Int32.ofInt (-1))), (1, .int (nI (lb_d f t t))), (0, .ref RR)], [.int (Int32.ofInt 0), .ref Rd], me_w M J)) rfl k
  obtain ⟨d1, o1, ed, kc, k⟩ := lz_c (g := 31) (q := 1) (vs := [.ref Rd, .int (Int32.ofInt 0)]) (rest := []) rfl rfl (by decide) (Or.inr (Or.inl ⟨_, rfl, rfl⟩)) rfl k
  obtain ⟨hf, e1⟩ := (lc_fail hP hS (Nat.le_refl t) kc).resolve_left (fun c => hfa c.1)
  subst e1
  have hS1 := lc_Spp (q := t) hP hS
  have k : nt_rn X _ 50 (38, [(2, .int (Int32.ofInt (-1))), (1, .int (nI (lb_d f t t))), (0, .ref RR)], [], me_w M (nt_u J Rd 1 (nI t))) _ := k
  have k := ly_revb 1 (c' := (108, [(2, .int (Int32.ofInt (-1))), (1, .int (nI (lb_d f t t))), (0, .ref RR)], [], me_w M (nt_u J Rd 1 (nI t)))) rfl k
  have k := lz_rv rfl rfl k
  exact ⟨_, _, _, k, hS1⟩
