/-! the other side's reader: where things lie, what it holds -/
def md_P (M : nt_M) (J0 : Nat → Nat → Int32) (f : Nat → Int32) (t x B Tb Sg Ln : Nat) : Prop := (nt_R M B 0 = some Tb ∧ nt_R M B 3 = some Sg ∧ nt_R M B 4 = some Ln) ∧ (Tb ≠ B ∧ Tb ≠ Sg ∧ Tb ≠ Ln ∧ B ≠ Sg ∧ B ≠ Ln ∧ Sg ≠ Ln) ∧ J0 B 1 = nI t ∧ J0 B 18 = nI x ∧ (∀ j, J0 Tb j = f j) ∧ t ≤ 400 ∧ x ≤ 6 ∧ nt_l M Sg = 2400 ∧ Sg ≠ nt_sp ∧ Ln ≠ nt_sp
def md_S (J0 : Nat → Nat → Int32) (B Sg Ln x q : Nat) (wr : Int32) (m : Nat) (e : Nat × (Nat → Int32)) (J : Nat → Nat → Int32) : Prop := J B 15 = nI q ∧ J B 16 = wr ∧ J B 19 = nI m ∧ J Ln x = nI e.1 ∧ (∀ j, j < e.1 → J Sg (400 * x + j) = e.2 j) ∧ (∀ i, i ≠ 15 → i ≠ 16 → i ≠ 17 → i ≠ 19 → J B i = J0 B i) ∧ (∀ a, a ≠ B → a ≠ Sg → a ≠ Ln → J a = J0 a) ∧ e.1 ≤ 2400 ∧ m ≤ 60
theorem md_t {M : nt_M} {J0 J : Nat → Nat → Int32} {f : Nat → Int32} {t x B Tb Sg Ln q m : Nat} {wr : Int32} {e : Nat × (Nat → Int32)} (hP : md_P M J0 f t x B Tb Sg Ln) (hS : md_S J0 B Sg Ln x q wr m e J) : J B 1 = nI t := (hS.2.2.2.2.2.1 1 (by decide) (by decide) (by decide) (by decide)).trans hP.2.2.1
theorem md_x {M : nt_M} {J0 J : Nat → Nat → Int32} {f : Nat → Int32} {t x B Tb Sg Ln q m : Nat} {wr : Int32} {e : Nat × (Nat → Int32)} (hP : md_P M J0 f t x B Tb Sg Ln) (hS : md_S J0 B Sg Ln x q wr m e J) : J B 18 = nI x := (hS.2.2.2.2.2.1 18 (by decide) (by decide) (by decide) (by decide)).trans hP.2.2.2.1
theorem md_f {M : nt_M} {J0 J : Nat → Nat → Int32} {f : Nat → Int32} {t x B Tb Sg Ln q m : Nat} {wr : Int32} {e : Nat × (Nat → Int32)} (hP : md_P M J0 f t x B Tb Sg Ln) (hS : md_S J0 B Sg Ln x q wr m e J) (j : Nat) : J Tb j = f j := by
  rw [hS.2.2.2.2.2.2.1 Tb hP.2.1.1 hP.2.1.2.1 hP.2.1.2.2.1]
  exact hP.2.2.2.2.1 j
theorem md_Sq {M : nt_M} {J0 J : Nat → Nat → Int32} {f : Nat → Int32} {t x B Tb Sg Ln q m : Nat} {wr : Int32} {e : Nat × (Nat → Int32)} {y : Nat} (hP : md_P M J0 f t x B Tb Sg Ln) (hS : md_S J0 B Sg Ln x q wr m e J)  : md_S J0 B Sg Ln x y wr m e (nt_u J B 15 (nI y)) := by
  obtain ⟨a1, a2, a3, a4, a5, a6, a7, a8⟩ := hS
  have n1 := hP.2.1.2.2.2.1
  have n2 := hP.2.1.2.2.2.2.1
  have n3 := hP.2.1.2.2.2.2.2
  exact ⟨me_us, (me_uk (by decide)).trans a2, (me_uk (by decide)).trans a3, (me_uj (Ne.symm n2)).trans a4, fun j hj => (me_uj (Ne.symm n1)).trans (a5 j hj), fun i q1 q2 q3 q4 => (me_uk q1).trans (a6 i q1 q2 q3 q4), fun a q1 q2 q3 => (me_uo q1).trans (a7 a q1 q2 q3), a8.1, a8.2⟩
theorem md_Sw {M : nt_M} {J0 J : Nat → Nat → Int32} {f : Nat → Int32} {t x B Tb Sg Ln q m : Nat} {wr : Int32} {e : Nat × (Nat → Int32)} {y : Int32} (hP : md_P M J0 f t x B Tb Sg Ln) (hS : md_S J0 B Sg Ln x q wr m e J)  : md_S J0 B Sg Ln x q y m e (nt_u J B 16 (y)) := by
  obtain ⟨a1, a2, a3, a4, a5, a6, a7, a8⟩ := hS
  have n1 := hP.2.1.2.2.2.1
  have n2 := hP.2.1.2.2.2.2.1
  have n3 := hP.2.1.2.2.2.2.2
  exact ⟨(me_uk (by decide)).trans a1, me_us, (me_uk (by decide)).trans a3, (me_uj (Ne.symm n2)).trans a4, fun j hj => (me_uj (Ne.symm n1)).trans (a5 j hj), fun i q1 q2 q3 q4 => (me_uk q2).trans (a6 i q1 q2 q3 q4), fun a q1 q2 q3 => (me_uo q1).trans (a7 a q1 q2 q3), a8.1, a8.2⟩
theorem md_Sn {M : nt_M} {J0 J : Nat → Nat → Int32} {f : Nat → Int32} {t x B Tb Sg Ln q m : Nat} {wr : Int32} {e : Nat × (Nat → Int32)} {y : Int32} (hP : md_P M J0 f t x B Tb Sg Ln) (hS : md_S J0 B Sg Ln x q wr m e J)  : md_S J0 B Sg Ln x q wr m e (nt_u J B 17 (y)) := by
  obtain ⟨a1, a2, a3, a4, a5, a6, a7, a8⟩ := hS
  have n1 := hP.2.1.2.2.2.1
  have n2 := hP.2.1.2.2.2.2.1
  have n3 := hP.2.1.2.2.2.2.2
  exact ⟨(me_uk (by decide)).trans a1, (me_uk (by decide)).trans a2, (me_uk (by decide)).trans a3, (me_uj (Ne.symm n2)).trans a4, fun j hj => (me_uj (Ne.symm n1)).trans (a5 j hj), fun i q1 q2 q3 q4 => (me_uk q3).trans (a6 i q1 q2 q3 q4), fun a q1 q2 q3 => (me_uo q1).trans (a7 a q1 q2 q3), a8.1, a8.2⟩
theorem md_Sm {M : nt_M} {J0 J : Nat → Nat → Int32} {f : Nat → Int32} {t x B Tb Sg Ln q m : Nat} {wr : Int32} {e : Nat × (Nat → Int32)} {y : Nat} (hP : md_P M J0 f t x B Tb Sg Ln) (hS : md_S J0 B Sg Ln x q wr m e J) (hm : y ≤ 60) : md_S J0 B Sg Ln x q wr y e (nt_u J B 19 (nI y)) := by
  obtain ⟨a1, a2, a3, a4, a5, a6, a7, a8⟩ := hS
  have n1 := hP.2.1.2.2.2.1
  have n2 := hP.2.1.2.2.2.2.1
  have n3 := hP.2.1.2.2.2.2.2
  exact ⟨(me_uk (by decide)).trans a1, (me_uk (by decide)).trans a2, me_us, (me_uj (Ne.symm n2)).trans a4, fun j hj => (me_uj (Ne.symm n1)).trans (a5 j hj), fun i q1 q2 q3 q4 => (me_uk q4).trans (a6 i q1 q2 q3 q4), fun a q1 q2 q3 => (me_uo q1).trans (a7 a q1 q2 q3), a8.1, hm⟩
theorem md_Se {M : nt_M} {J0 J : Nat → Nat → Int32} {f : Nat → Int32} {t x B Tb Sg Ln q m : Nat} {wr : Int32} {e : Nat × (Nat → Int32)} {y : Int32} (hP : md_P M J0 f t x B Tb Sg Ln) (hS : md_S J0 B Sg Ln x q wr m e J) (hb : 400 * x + e.1 < 2400) : md_S J0 B Sg Ln x q wr m (lb_a e y) (nt_u (nt_u J Sg (400 * x + e.1) y) Ln x (nI (e.1 + 1))) := by
  obtain ⟨a1, a2, a3, a4, a5, a6, a7, a8⟩ := hS
  have n1 := hP.2.1.2.2.2.1
  have n2 := hP.2.1.2.2.2.2.1
  have n3 := hP.2.1.2.2.2.2.2
  unfold lb_a
  refine ⟨(me_uj n2).trans ((me_uj n1).trans a1), (me_uj n2).trans ((me_uj n1).trans a2), (me_uj n2).trans ((me_uj n1).trans a3), me_us, fun j hj => (me_uj n3).trans ?_, fun i q1 q2 q3 q4 => (me_uj n2).trans ((me_uj n1).trans (a6 i q1 q2 q3 q4)), fun a q1 q2 q3 => (me_uo q3).trans ((me_uo q2).trans (a7 a q1 q2 q3)), by dsimp only; omega, a8.2⟩
  dsimp only at hj ⊢
  by_cases c2 : j = e.1
  · rw [if_pos c2, c2, me_us]
  · rw [if_neg c2, me_uk (by omega)]
    exact a5 j (by omega)
theorem me_iastb {X : nt_X} {d mi pc a g t q : Nat} {ls : nt_V} {st : List Value} {M : nt_M} {J : Nat → Nat → Int32} {o : Option Value × nt_M} {i x : Int32} (hat : nt_at mi pc = some (pc, .iastore, g, t)) (hi : i = nI q) (hq : q < 2 ^ 31) (k : nt_rn X d mi (pc, ls, .int x :: .int i :: .ref a :: st, me_w M J) o) : q < nt_l M a := by
  obtain ⟨c', hs, k⟩ := lz_s hat rfl k
  have hs : nt_in (me_w M J) a 13 i (some (pc + 1, ls, st, nt_sI (me_w M J) a i.toNatClampNeg x)) = some c' := hs
  unfold nt_in at hs
  obtain ⟨h, _⟩ := nt_if_some hs
  have h := h.2.2
  rw [hi, nI_clamp hq] at h
  have h2 : ¬ nt_l M a ≤ q := fun c => h (Or.inr c)
  omega
/-- a letter stands at k -/
def lb_let (f : Nat → Int32) (t k : Nat) : Prop := k < t ∧ Int32.ofInt 97 ≤ f k ∧ f k ≤ Int32.ofInt 122
theorem md_isLetter {X : nt_X} {d t x B Tb Sg Ln q m : Nat} {f : Nat → Int32} {M : nt_M} {J0 J : Nat → Nat → Int32} {o : Option Value × nt_M} {wr : Int32} {e : Nat × (Nat → Int32)} {y : Nat} (hP : md_P M J0 f t x B Tb Sg Ln) (hS : md_S J0 B Sg Ln x q wr m e J) (hp : q ≤ t) (hy : y ≤ 1000) (k : nt_ev X d 138 [.ref B, .int (nI y)] (me_w M J) o) : ∃ r, o = (some (.int r), me_w M J) ∧ (r = Int32.ofInt 1 ∧ lb_let f t y ∨ r = Int32.ofInt 0 ∧ ¬ lb_let f t y) := by
  have k : nt_rn X d 138 (0, [(0, .ref B), (1, .int (nI y))], [], me_w M J) o := k
  have t4 : t ≤ 400 := hP.2.2.2.2.2.1
  have k := ly_revb 2 (c' := (2, [(0, .ref B), (1, .int (nI y))], [.ref B, .int (nI y)], me_w M J)) rfl k
  have k := lz_get (a := B) (g := 1101) (M := me_w M J) (v := .int (nI t)) rfl (congrArg Value.int (md_t hP hS)) k
  have k := ly_revb 1 (c' := (if (nI t) ≤ (nI y) then 34 else 8, [(0, .ref B), (1, .int (nI y))], [], me_w M J)) rfl k
  by_cases h5 : t ≤ y
  · rw [if_pos (show (nI t) ≤ (nI y) from show nI t ≤ nI y from nI_le h5 (by omega))] at k
    have k := ly_revb 1 (c' := (35, [(0, .ref B), (1, .int (nI y))], [.int (Int32.ofInt 0)], me_w M J)) rfl k
    have k := lz_ri rfl (by decide) k
    exact ⟨_, k, Or.inr ⟨rfl, fun c => absurd c.1 (by omega)⟩⟩
  · rw [if_neg (show ¬ ((nI t) ≤ (nI y)) from show ¬ nI t ≤ nI y from nI_ge (Nat.not_le.mp h5) (by omega))] at k
    have k := ly_revb 1 (c' := (9, [(0, .ref B), (1, .int (nI y))], [.ref B], me_w M J)) rfl k
    have k := lz_get (a := B) (g := 1100) (M := me_w M J) (v := .ref Tb) rfl (nt_gfR rfl hP.1.1) k
    have k := ly_revb 1 (c' := (13, [(0, .ref B), (1, .int (nI y))], [.int (nI y), .ref Tb], me_w M J)) rfl k
    have k := me_bald (q := y) (v := f y) rfl (rfl) (by omega) (md_f hP hS y) k
    have k := ly_revb 2 (c' := (if (f y) < (Int32.ofInt 97) then 34 else 19, [(0, .ref B), (1, .int (nI y))], [], me_w M J)) rfl k
    by_cases h16 : (f y) < (Int32.ofInt 97)
    · rw [if_pos (show (f y) < (Int32.ofInt 97) from h16)] at k
      have k := ly_revb 1 (c' := (35, [(0, .ref B), (1, .int (nI y))], [.int (Int32.ofInt 0)], me_w M J)) rfl k
      have k := lz_ri rfl (by decide) k
      exact ⟨_, k, Or.inr ⟨rfl, fun c => absurd c.2.1 (me_nle h16)⟩⟩
    · rw [if_neg (show ¬ ((f y) < (Int32.ofInt 97)) from h16)] at k
      have k := ly_revb 1 (c' := (20, [(0, .ref B), (1, .int (nI y))], [.ref B], me_w M J)) rfl k
      have k := lz_get (a := B) (g := 1100) (M := me_w M J) (v := .ref Tb) rfl (nt_gfR rfl hP.1.1) k
      have k := ly_revb 1 (c' := (24, [(0, .ref B), (1, .int (nI y))], [.int (nI y), .ref Tb], me_w M J)) rfl k
      have k := me_bald (q := y) (v := f y) rfl (rfl) (by omega) (md_f hP hS y) k
      have k := ly_revb 2 (c' := (if (Int32.ofInt 122) < (f y) then 34 else 30, [(0, .ref B), (1, .int (nI y))], [], me_w M J)) rfl k
      by_cases h27 : (Int32.ofInt 122) < (f y)
      · rw [if_pos (show (Int32.ofInt 122) < (f y) from h27)] at k
        have k := ly_revb 1 (c' := (35, [(0, .ref B), (1, .int (nI y))], [.int (Int32.ofInt 0)], me_w M J)) rfl k
        have k := lz_ri rfl (by decide) k
        exact ⟨_, k, Or.inr ⟨rfl, fun c => absurd c.2.2 (me_nle h27)⟩⟩
      · rw [if_neg (show ¬ ((Int32.ofInt 122) < (f y)) from h27)] at k
        have k := ly_revb 2 (c' := (35, [(0, .ref B), (1, .int (nI y))], [.int (Int32.ofInt 1)], me_w M J)) rfl k
        have k := lz_ri rfl (by decide) k
        exact ⟨_, k, Or.inl ⟨rfl, by omega, me_le h16, me_le h27⟩⟩
theorem md_seel {X : nt_X} {d t x B Tb Sg Ln m : Nat} {f : Nat → Int32} {M : nt_M} {J0 : Nat → Nat → Int32} {o : Option Value × nt_M} {wr : Int32} {e : Nat × (Nat → Int32)} (hP : md_P M J0 f t x B Tb Sg Ln) : ∀ (c q : Nat) (J : Nat → Nat → Int32), q + c = t → md_S J0 B Sg Ln x q wr m e J → nt_rn X d 136 (0, [(0, .ref B)], [], me_w M J) o → o = (some (.int (lb_g f t (lb_s f t q))), me_w M (nt_u J B 15 (nI (lb_s f t q)))) := by
  have t4 : t ≤ 400 := hP.2.2.2.2.2.1
  intro c
  induction c with
  | zero =>
    intro q J hc hS k
    have k := ly_revb 1 (c' := (1, [(0, .ref B)], [.ref B], me_w M J)) rfl k
    have k := lz_get (a := B) (g := 1115) (M := me_w M J) (v := .int (nI q)) rfl (congrArg Value.int (hS.1)) k
    have k := ly_revb 1 (c' := (5, [(0, .ref B)], [.ref B, .int (nI q)], me_w M J)) rfl k
    have k := lz_get (a := B) (g := 1101) (M := me_w M J) (v := .int (nI t)) rfl (congrArg Value.int (md_t hP hS)) k
    have k := ly_revb 1 (c' := (if (nI t) ≤ (nI q) then 38 else 11, [(0, .ref B)], [], me_w M J)) rfl k
    rw [if_pos (show (nI t) ≤ (nI q) from show nI t ≤ nI q from nI_le (by omega) (by omega))] at k
    have k := ly_revb 1 (c' := (39, [(0, .ref B)], [.ref B], me_w M J)) rfl k
    have k := lz_get (a := B) (g := 1115) (M := me_w M J) (v := .int (nI q)) rfl (congrArg Value.int (hS.1)) k
    have k := ly_revb 1 (c' := (43, [(0, .ref B)], [.ref B, .int (nI q)], me_w M J)) rfl k
    have k := lz_get (a := B) (g := 1101) (M := me_w M J) (v := .int (nI t)) rfl (congrArg Value.int (md_t hP hS)) k
    have k := ly_revb 1 (c' := (if (nI t) ≤ (nI q) then 65 else 49, [(0, .ref B)], [], me_w M J)) rfl k
    rw [if_pos (show (nI t) ≤ (nI q) from show nI t ≤ nI q from nI_le (by omega) (by omega))] at k
    have k := ly_revb 1 (c' := (66, [(0, .ref B)], [.int (Int32.ofInt (-1))], me_w M J)) rfl k
    have k := lz_ri rfl (by decide) k
    rw [k, lb_s0 (by omega), me_ui hS.1]
    unfold lb_g
    rw [if_neg (by omega)]
  | succ c ih =>
    intro q J hc hS k
    have k := ly_revb 1 (c' := (1, [(0, .ref B)], [.ref B], me_w M J)) rfl k
    have k := lz_get (a := B) (g := 1115) (M := me_w M J) (v := .int (nI q)) rfl (congrArg Value.int (hS.1)) k
    have k := ly_revb 1 (c' := (5, [(0, .ref B)], [.ref B, .int (nI q)], me_w M J)) rfl k
    have k := lz_get (a := B) (g := 1101) (M := me_w M J) (v := .int (nI t)) rfl (congrArg Value.int (md_t hP hS)) k
    have k := ly_revb 1 (c' := (if (nI t) ≤ (nI q) then 38 else 11, [(0, .ref B)], [], me_w M J)) rfl k
    rw [if_neg (show ¬ ((nI t) ≤ (nI q)) from show ¬ nI t ≤ nI q from nI_ge (Nat.not_le.mp (by omega)) (by omega))] at k
    have k := ly_revb 1 (c' := (12, [(0, .ref B)], [.ref B], me_w M J)) rfl k
    have k := lz_get (a := B) (g := 1100) (M := me_w M J) (v := .ref Tb) rfl (nt_gfR rfl hP.1.1) k
    have k := ly_revb 1 (c' := (16, [(0, .ref B)], [.ref B, .ref Tb], me_w M J)) rfl k
    have k := lz_get (a := B) (g := 1115) (M := me_w M J) (v := .int (nI q)) rfl (congrArg Value.int (hS.1)) k
    have k := me_bald (q := q) (v := f q) rfl (rfl) (by omega) (md_f hP hS q) k
    have k := ly_revb 2 (c' := (if (f q) = (Int32.ofInt 32) then 25 else 38, [(0, .ref B)], [], me_w M J)) rfl k
    by_cases h22 : (f q) = (Int32.ofInt 32)
    · rw [if_pos (show (f q) = (Int32.ofInt 32) from h22)] at k
      have k := ly_revb 2 (c' := (27, [(0, .ref B)], [.ref B, .ref B], me_w M J)) rfl k
      have k := lz_get (a := B) (g := 1115) (M := me_w M J) (v := .int (nI q)) rfl (congrArg Value.int (hS.1)) k
      have k := ly_revb 2 (c' := (32, [(0, .ref B)], [.int ((nI q) + (Int32.ofInt 1)), .ref B], me_w M J)) rfl k
      rw [show ((nI q) + (Int32.ofInt 1) : Int32) = nI (q + 1) from me_add (k := 1)] at k
      have k := me_put rfl (by decide) k
      have k : nt_rn X _ 136 (35, [(0, .ref B)], [], me_w M (nt_u J B 15 (nI (q + 1)))) _ := k
      have k := ly_revb 1 (c' := (0, [(0, .ref B)], [], me_w M (nt_u J B 15 (nI (q + 1))))) rfl k
      have k := ih (q + 1) _ (by omega) (md_Sq hP hS) k
      rw [k, lb_s1 ⟨by omega, h22⟩, me_uu]
    · rw [if_neg (show ¬ ((f q) = (Int32.ofInt 32)) from h22)] at k
      have k := ly_revb 1 (c' := (39, [(0, .ref B)], [.ref B], me_w M J)) rfl k
      have k := lz_get (a := B) (g := 1115) (M := me_w M J) (v := .int (nI q)) rfl (congrArg Value.int (hS.1)) k
      have k := ly_revb 1 (c' := (43, [(0, .ref B)], [.ref B, .int (nI q)], me_w M J)) rfl k
      have k := lz_get (a := B) (g := 1101) (M := me_w M J) (v := .int (nI t)) rfl (congrArg Value.int (md_t hP hS)) k
      have k := ly_revb 1 (c' := (if (nI t) ≤ (nI q) then 65 else 49, [(0, .ref B)], [], me_w M J)) rfl k
      rw [if_neg (show ¬ ((nI t) ≤ (nI q)) from show ¬ nI t ≤ nI q from nI_ge (Nat.not_le.mp (by omega)) (by omega))] at k
      have k := ly_revb 1 (c' := (50, [(0, .ref B)], [.ref B], me_w M J)) rfl k
      have k := lz_get (a := B) (g := 1100) (M := me_w M J) (v := .ref Tb) rfl (nt_gfR rfl hP.1.1) k
      have k := ly_revb 1 (c' := (54, [(0, .ref B)], [.ref B, .ref Tb], me_w M J)) rfl k
      have k := lz_get (a := B) (g := 1115) (M := me_w M J) (v := .int (nI q)) rfl (congrArg Value.int (hS.1)) k
      have k := me_bald (q := q) (v := f q) rfl (rfl) (by omega) (md_f hP hS q) k
      have k := ly_revb 3 (c' := (66, [(0, .ref B)], [.int ((f q) &&& (Int32.ofInt 255))], me_w M J)) rfl k
      have k := lz_ri rfl (by decide) k
      rw [k, lb_s0 (by intro c; exact h22 c.2), me_ui hS.1]
      unfold lb_g
      rw [if_pos (by omega)]
theorem md_see {X : nt_X} {d t x B Tb Sg Ln q m : Nat} {f : Nat → Int32} {M : nt_M} {J0 J : Nat → Nat → Int32} {o : Option Value × nt_M} {wr : Int32} {e : Nat × (Nat → Int32)} (hP : md_P M J0 f t x B Tb Sg Ln) (hS : md_S J0 B Sg Ln x q wr m e J) (hp : q ≤ t) (k : nt_ev X d 136 [.ref B] (me_w M J) o) : o = (some (.int (lb_g f t (lb_s f t q))), me_w M (nt_u J B 15 (nI (lb_s f t q)))) := md_seel hP (t - q) q J (by omega) hS k
theorem md_fails {X : nt_X} {d t x B Tb Sg Ln q m : Nat} {f : Nat → Int32} {M : nt_M} {J0 J : Nat → Nat → Int32} {o : Option Value × nt_M} {wr : Int32} {e : Nat × (Nat → Int32)} {y : Int32} {a : Nat} (hP : md_P M J0 f t x B Tb Sg Ln) (hS : md_S J0 B Sg Ln x q wr m e J) (hp : q ≤ t) (k : nt_ev X d 139 [.ref B, .int (y), .int (nI a)] (me_w M J) o) : wr = 0 ∧ o = (some (.int (Int32.ofInt 0)), me_w M (nt_u J B 16 (lb_c a y))) ∨ ¬ wr = 0 ∧ o = (some (.int (Int32.ofInt 0)), me_w M J) := by
  have k : nt_rn X d 139 (0, [(0, .ref B), (1, .int (y)), (2, .int (nI a))], [], me_w M J) o := k
  have t4 : t ≤ 400 := hP.2.2.2.2.2.1
  have k := ly_revb 1 (c' := (1, [(0, .ref B), (1, .int (y)), (2, .int (nI a))], [.ref B], me_w M J)) rfl k
  have k := lz_get (a := B) (g := 1116) (M := me_w M J) (v := .int (wr)) rfl (congrArg Value.int (hS.2.1)) k
  have k := ly_revb 1 (c' := (if wr = 0 then 7 else 19, [(0, .ref B), (1, .int (y)), (2, .int (nI a))], [], me_w M J)) rfl k
  by_cases h4 : wr = 0
  · rw [if_pos (show wr = 0 from h4)] at k
    have k := ly_revb 8 (c' := (16, [(0, .ref B), (1, .int (y)), (2, .int (nI a))], [.int (((Int32.ofInt 1) + ((Int32.ofInt 8) * (nI a))) + y), .ref B], me_w M J)) rfl k
    have k := me_put rfl (by decide) k
    have k : nt_rn X _ 139 (19, [(0, .ref B), (1, .int (y)), (2, .int (nI a))], [], me_w M (nt_u J B 16 (((Int32.ofInt 1) + ((Int32.ofInt 8) * (nI a))) + y))) _ := k
    have k := ly_revb 1 (c' := (20, [(0, .ref B), (1, .int (y)), (2, .int (nI a))], [.int (Int32.ofInt 0)], me_w M (nt_u J B 16 (((Int32.ofInt 1) + ((Int32.ofInt 8) * (nI a))) + y)))) rfl k
    have k := lz_ri rfl (by decide) k
    exact Or.inl ⟨h4, k⟩
  · rw [if_neg (show ¬ (wr = 0) from h4)] at k
    have k := ly_revb 1 (c' := (20, [(0, .ref B), (1, .int (y)), (2, .int (nI a))], [.int (Int32.ofInt 0)], me_w M J)) rfl k
    have k := lz_ri rfl (by decide) k
    exact Or.inr ⟨h4, k⟩
theorem md_makes {X : nt_X} {d t x B Tb Sg Ln q m : Nat} {f : Nat → Int32} {M : nt_M} {J0 J : Nat → Nat → Int32} {o : Option Value × nt_M} {wr : Int32} {e : Nat × (Nat → Int32)} {a : Nat} (hP : md_P M J0 f t x B Tb Sg Ln) (hS : md_S J0 B Sg Ln x q wr m e J) (hp : q ≤ t) (hw : wr = 0) (k : nt_ev X d 154 [.ref B, .int (nI a)] (me_w M J) o) : m = 60 ∧ o = (some (.int (Int32.ofInt 0)), me_w M (nt_u J B 16 (lb_c a (Int32.ofInt 3)))) ∨ m < 60 ∧ o = (some (.int (Int32.ofInt 1)), me_w M (nt_u J B 19 (nI (m + 1)))) := by
  have k : nt_rn X d 154 (0, [(0, .ref B), (1, .int (nI a))], [], me_w M J) o := k
  have t4 : t ≤ 400 := hP.2.2.2.2.2.1
  have m6 : m ≤ 60 := hS.2.2.2.2.2.2.2.2
  have k := ly_revb 1 (c' := (1, [(0, .ref B), (1, .int (nI a))], [.ref B], me_w M J)) rfl k
  have k := lz_get (a := B) (g := 1119) (M := me_w M J) (v := .int (nI m)) rfl (congrArg Value.int (hS.2.2.1)) k
  have k := ly_revb 2 (c' := (if (nI m) = (Int32.ofInt 60) then 9 else 16, [(0, .ref B), (1, .int (nI a))], [], me_w M J)) rfl k
  by_cases h6 : m = 60
  · rw [if_pos (show (nI m) = (Int32.ofInt 60) from show nI m = nI 60 from congrArg nI h6)] at k
    have k := ly_revb 3 (c' := (12, [(0, .ref B), (1, .int (nI a))], [.int (nI a), .int (Int32.ofInt 3), .ref B], me_w M J)) rfl k
    obtain ⟨d1, o1, ed, kc, k⟩ := lz_c (g := 139) (q := 1) (vs := [.ref B, .int (Int32.ofInt 3), .int (nI a)]) (rest := []) rfl rfl (by decide) (Or.inr (Or.inl ⟨_, rfl, rfl⟩)) rfl k
    obtain ⟨hf, e1⟩ := (md_fails hP hS hp kc).resolve_right (fun c => c.1 hw)
    subst e1
    have k : nt_rn X _ 154 (15, [(0, .ref B), (1, .int (nI a))], [.int (Int32.ofInt 0)], me_w M (nt_u J B 16 (lb_c a (Int32.ofInt 3)))) _ := k
    have k := lz_ri rfl (by decide) k
    exact Or.inl ⟨h6, k⟩
  · rw [if_neg (show ¬ ((nI m) = (Int32.ofInt 60)) from show ¬ nI m = nI 60 from me_ne h6 (by omega) (by omega))] at k
    have k := ly_revb 2 (c' := (18, [(0, .ref B), (1, .int (nI a))], [.ref B, .ref B], me_w M J)) rfl k
    have k := lz_get (a := B) (g := 1119) (M := me_w M J) (v := .int (nI m)) rfl (congrArg Value.int (hS.2.2.1)) k
    have k := ly_revb 2 (c' := (23, [(0, .ref B), (1, .int (nI a))], [.int ((nI m) + (Int32.ofInt 1)), .ref B], me_w M J)) rfl k
    rw [show ((nI m) + (Int32.ofInt 1) : Int32) = nI (m + 1) from me_add (k := 1)] at k
    have k := me_put rfl (by decide) k
    have k : nt_rn X _ 154 (26, [(0, .ref B), (1, .int (nI a))], [], me_w M (nt_u J B 19 (nI (m + 1)))) _ := k
    have k := ly_revb 1 (c' := (27, [(0, .ref B), (1, .int (nI a))], [.int (Int32.ofInt 1)], me_w M (nt_u J B 19 (nI (m + 1))))) rfl k
    have k := lz_ri rfl (by decide) k
    exact Or.inr ⟨by omega, k⟩
theorem md_puts {X : nt_X} {d t x B Tb Sg Ln q m : Nat} {f : Nat → Int32} {M : nt_M} {J0 J : Nat → Nat → Int32} {o : Option Value × nt_M} {wr : Int32} {e : Nat × (Nat → Int32)} {y z : Int32} (hP : md_P M J0 f t x B Tb Sg Ln) (hS : md_S J0 B Sg Ln x q wr m e J) (hp : q ≤ t) (k : nt_ev X d 155 [.ref B, .int (y), .int (z)] (me_w M J) o) : 400 * x + e.1 < 2400 ∧ o = (none, me_w M (nt_u (nt_u J Sg (400 * x + e.1) (y + Int32.ofInt 16 * z)) Ln x (nI (e.1 + 1)))) := by
  have k : nt_rn X d 155 (0, [(0, .ref B), (1, .int (y)), (2, .int (z))], [], me_w M J) o := k
  have t4 : t ≤ 400 := hP.2.2.2.2.2.1
  have x6 : x ≤ 6 := hP.2.2.2.2.2.2.1
  have e4 : e.1 ≤ 2400 := hS.2.2.2.2.2.2.2.1
  have k := ly_revb 1 (c' := (1, [(0, .ref B), (1, .int (y)), (2, .int (z))], [.ref B], me_w M J)) rfl k
  have k := lz_get (a := B) (g := 1103) (M := me_w M J) (v := .ref Sg) rfl (nt_gfR rfl hP.1.2.1) k
  have k := ly_revb 2 (c' := (8, [(0, .ref B), (1, .int (y)), (2, .int (z))], [.ref B, .int (Int32.ofInt 400), .ref Sg], me_w M J)) rfl k
  have k := lz_get (a := B) (g := 1118) (M := me_w M J) (v := .int (nI x)) rfl (congrArg Value.int (md_x hP hS)) k
  have k := ly_revb 1 (c' := (12, [(0, .ref B), (1, .int (y)), (2, .int (z))], [.int ((Int32.ofInt 400) * (nI x)), .ref Sg], me_w M J)) rfl k
  rw [show ((Int32.ofInt 400) * (nI x) : Int32) = nI (400 * x) from (Int32.ofNat_mul 400 x).symm] at k
  have k := ly_revb 1 (c' := (13, [(0, .ref B), (1, .int (y)), (2, .int (z))], [.ref B, .int (nI (400 * x)), .ref Sg], me_w M J)) rfl k
  have k := lz_get (a := B) (g := 1104) (M := me_w M J) (v := .ref Ln) rfl (nt_gfR rfl hP.1.2.2) k
  have k := ly_revb 1 (c' := (17, [(0, .ref B), (1, .int (y)), (2, .int (z))], [.ref B, .ref Ln, .int (nI (400 * x)), .ref Sg], me_w M J)) rfl k
  have k := lz_get (a := B) (g := 1118) (M := me_w M J) (v := .int (nI x)) rfl (congrArg Value.int (md_x hP hS)) k
  have k := me_iald (q := x) (v := nI e.1) rfl (hP.2.2.2.2.2.2.2.2.2) (rfl) (by omega) (hS.2.2.2.1) k
  have k := ly_revb 1 (c' := (22, [(0, .ref B), (1, .int (y)), (2, .int (z))], [.int ((nI (400 * x)) + (nI e.1)), .ref Sg], me_w M J)) rfl k
  rw [show ((nI (400 * x)) + (nI e.1) : Int32) = nI (400 * x + e.1) from me_addn] at k
  have k := ly_revb 5 (c' := (28, [(0, .ref B), (1, .int (y)), (2, .int (z))], [.int (y + ((Int32.ofInt 16) * z)), .int (nI (400 * x + e.1)), .ref Sg], me_w M J)) rfl k
  have hb : 400 * x + e.1 < nt_l M Sg := me_iastb (q := (400 * x + e.1)) rfl rfl (by omega) k
  rw [hP.2.2.2.2.2.2.2.1] at hb
  have k := me_iast (q := (400 * x + e.1)) rfl (rfl) (by omega) k
  have k := ly_revb 1 (c' := (30, [(0, .ref B), (1, .int (y)), (2, .int (z))], [.ref B], me_w M (nt_u J Sg ((400 * x + e.1)) (y + ((Int32.ofInt 16) * z))))) rfl k
  have k := lz_get (a := B) (g := 1104) (M := me_w M (nt_u J Sg ((400 * x + e.1)) (y + ((Int32.ofInt 16) * z)))) (v := .ref Ln) rfl (nt_gfR rfl hP.1.2.2) k
  have k := ly_revb 1 (c' := (34, [(0, .ref B), (1, .int (y)), (2, .int (z))], [.ref B, .ref Ln], me_w M (nt_u J Sg ((400 * x + e.1)) (y + ((Int32.ofInt 16) * z))))) rfl k
  have k := lz_get (a := B) (g := 1118) (M := me_w M (nt_u J Sg ((400 * x + e.1)) (y + ((Int32.ofInt 16) * z)))) (v := .int (nI x)) rfl (congrArg Value.int ((me_uj (hP.2.1.2.2.2.1)).trans (md_x hP hS))) k
  have k := ly_revb 1 (c' := (38, [(0, .ref B), (1, .int (y)), (2, .int (z))], [.int (nI x), .ref Ln, .int (nI x), .ref Ln], me_w M (nt_u J Sg ((400 * x + e.1)) (y + ((Int32.ofInt 16) * z))))) rfl k
  have k := me_iald (q := x) (v := nI e.1) rfl (hP.2.2.2.2.2.2.2.2.2) (rfl) (by omega) ((me_uj (Ne.symm (hP.2.1.2.2.2.2.2))).trans (hS.2.2.2.1)) k
  have k := ly_revb 2 (c' := (41, [(0, .ref B), (1, .int (y)), (2, .int (z))], [.int ((nI e.1) + (Int32.ofInt 1)), .int (nI x), .ref Ln], me_w M (nt_u J Sg ((400 * x + e.1)) (y + ((Int32.ofInt 16) * z))))) rfl k
  rw [show ((nI e.1) + (Int32.ofInt 1) : Int32) = nI (e.1 + 1) from me_add (k := 1)] at k
  have k := me_iast (q := x) rfl (rfl) (by omega) k
  have k := lz_rv rfl rfl k
  exact ⟨hb, k⟩
/-- letters from p on -/
def lb_ln (f : Nat → Int32) (t : Nat) : Nat → Nat → Nat
  | 0, _ => 0
  | n + 1, p => @ite _ (p < t ∧ Int32.ofInt 97 ≤ f p ∧ f p ≤ Int32.ofInt 122) instDecidableAnd (lb_ln f t n (p + 1) + 1) 0
def lb_l (f : Nat → Int32) (t p : Nat) : Nat := lb_ln f t (t - p) p
theorem lb_l0 {f : Nat → Int32} {t p : Nat} (h : ¬ lb_let f t p) : lb_l f t p = 0 := by
  unfold lb_l
  cases hn : t - p with
  | zero => rfl
  | succ n =>
    unfold lb_ln
    rw [if_neg (show ¬ (p < t ∧ Int32.ofInt 97 ≤ f p ∧ f p ≤ Int32.ofInt 122) from h)]
theorem lb_l1 {f : Nat → Int32} {t p : Nat} (h : lb_let f t p) : lb_l f t p = lb_l f t (p + 1) + 1 := by
  have hp : p < t := h.1
  unfold lb_l
  rw [show t - p = t - (p + 1) + 1 from by omega]
  show (if p < t ∧ Int32.ofInt 97 ≤ f p ∧ f p ≤ Int32.ofInt 122 then lb_ln f t (t - (p + 1)) (p + 1) + 1 else 0) = _
  rw [if_pos (show (p < t ∧ Int32.ofInt 97 ≤ f p ∧ f p ≤ Int32.ofInt 122) from h)]
theorem lb_l_le {f : Nat → Int32} {t : Nat} : ∀ (n p : Nat), p + n = t → p + lb_l f t p ≤ t := by
  intro n
  induction n with
  | zero =>
    intro p h
    rw [lb_l0 (fun c => by have := c.1; omega)]
    omega
  | succ n ih =>
    intro p h
    by_cases c : lb_let f t p
    · rw [lb_l1 c]
      have := ih (p + 1) (by omega)
      omega
    · rw [lb_l0 c]
      omega
theorem md_pwl {X : nt_X} {d t x B Tb Sg Ln m : Nat} {f : Nat → Int32} {M : nt_M} {J0 : Nat → Nat → Int32} {o : Option Value × nt_M} {wr : Int32} {e : Nat × (Nat → Int32)} (hP : md_P M J0 f t x B Tb Sg Ln) : ∀ (c q : Nat) (J : Nat → Nat → Int32), q + c = t → md_S J0 B Sg Ln x q wr m e J → nt_rn X d 142 (0, [(0, .ref B)], [], me_w M J) o → o = (none, me_w M (nt_u J B 15 (nI (q + lb_l f t q)))) := by
  have t4 : t ≤ 400 := hP.2.2.2.2.2.1
  intro c
  induction c with
  | zero =>
    intro q J hc hS k
    have k := ly_revb 2 (c' := (2, [(0, .ref B)], [.ref B, .ref B], me_w M J)) rfl k
    have k := lz_get (a := B) (g := 1115) (M := me_w M J) (v := .int (nI q)) rfl (congrArg Value.int (hS.1)) k
    obtain ⟨d1, o1, ed, kc, k⟩ := lz_c (g := 138) (q := 1) (vs := [.ref B, .int (nI q)]) (rest := []) rfl rfl (by decide) (Or.inr (Or.inl ⟨_, rfl, rfl⟩)) rfl k
    obtain ⟨r, e1, hr⟩ := md_isLetter hP hS (by omega) (by omega) kc
    subst e1
    rcases hr with ⟨rfl, hr⟩ | ⟨rfl, hr⟩
    · have k : nt_rn X _ 142 (8, [(0, .ref B)], [.int (Int32.ofInt 1)], me_w M J) _ := k
      exact absurd hr.1 (by omega)
    · have k : nt_rn X _ 142 (8, [(0, .ref B)], [.int (Int32.ofInt 0)], me_w M J) _ := k
      have k := ly_revb 1 (c' := (if (Int32.ofInt 0) = 0 then 24 else 11, [(0, .ref B)], [], me_w M J)) rfl k
      rw [if_pos (show (Int32.ofInt 0) = 0 from by decide)] at k
      have k := lz_rv rfl rfl k
      rw [k, lb_l0 hr, me_ui (show J B 15 = nI (q + 0) from hS.1)]
  | succ c ih =>
    intro q J hc hS k
    have k := ly_revb 2 (c' := (2, [(0, .ref B)], [.ref B, .ref B], me_w M J)) rfl k
    have k := lz_get (a := B) (g := 1115) (M := me_w M J) (v := .int (nI q)) rfl (congrArg Value.int (hS.1)) k
    obtain ⟨d1, o1, ed, kc, k⟩ := lz_c (g := 138) (q := 1) (vs := [.ref B, .int (nI q)]) (rest := []) rfl rfl (by decide) (Or.inr (Or.inl ⟨_, rfl, rfl⟩)) rfl k
    obtain ⟨r, e1, hr⟩ := md_isLetter hP hS (by omega) (by omega) kc
    subst e1
    rcases hr with ⟨rfl, hr⟩ | ⟨rfl, hr⟩
    · have k : nt_rn X _ 142 (8, [(0, .ref B)], [.int (Int32.ofInt 1)], me_w M J) _ := k
      have k := ly_revb 1 (c' := (if (Int32.ofInt 1) = 0 then 24 else 11, [(0, .ref B)], [], me_w M J)) rfl k
      rw [if_neg (show ¬ ((Int32.ofInt 1) = 0) from by decide)] at k
      have k := ly_revb 2 (c' := (13, [(0, .ref B)], [.ref B, .ref B], me_w M J)) rfl k
      have k := lz_get (a := B) (g := 1115) (M := me_w M J) (v := .int (nI q)) rfl (congrArg Value.int (hS.1)) k
      have k := ly_revb 2 (c' := (18, [(0, .ref B)], [.int ((nI q) + (Int32.ofInt 1)), .ref B], me_w M J)) rfl k
      rw [show ((nI q) + (Int32.ofInt 1) : Int32) = nI (q + 1) from me_add (k := 1)] at k
      have k := me_put rfl (by decide) k
      have k : nt_rn X _ 142 (21, [(0, .ref B)], [], me_w M (nt_u J B 15 (nI (q + 1)))) _ := k
      have k := ly_revb 1 (c' := (0, [(0, .ref B)], [], me_w M (nt_u J B 15 (nI (q + 1))))) rfl k
      have k := ih (q + 1) _ (by omega) (md_Sq hP hS) k
      rw [k, lb_l1 hr, me_uu, show q + 1 + lb_l f t (q + 1) = q + (lb_l f t (q + 1) + 1) from by omega]
    · have k : nt_rn X _ 142 (8, [(0, .ref B)], [.int (Int32.ofInt 0)], me_w M J) _ := k
      have k := ly_revb 1 (c' := (if (Int32.ofInt 0) = 0 then 24 else 11, [(0, .ref B)], [], me_w M J)) rfl k
      rw [if_pos (show (Int32.ofInt 0) = 0 from by decide)] at k
      have k := lz_rv rfl rfl k
      rw [k, lb_l0 hr, me_ui (show J B 15 = nI (q + 0) from hS.1)]
theorem md_pass {X : nt_X} {d t x B Tb Sg Ln q m : Nat} {f : Nat → Int32} {M : nt_M} {J0 J : Nat → Nat → Int32} {o : Option Value × nt_M} {wr : Int32} {e : Nat × (Nat → Int32)} (hP : md_P M J0 f t x B Tb Sg Ln) (hS : md_S J0 B Sg Ln x q wr m e J) (hp : q ≤ t) (k : nt_ev X d 142 [.ref B] (me_w M J) o) : o = (none, me_w M (nt_u J B 15 (nI (q + lb_l f t q)))) := md_pwl hP (t - q) q J (by omega) hS k
