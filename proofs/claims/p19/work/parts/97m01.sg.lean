/-! the reference's rule reader once more, with what lay in sign before -/
def mg_p (e : Nat × (Nat → Int32)) (x j : Nat) : Prop := j < e.1 ∨ (2400 ≤ j ∧ j < 2400 + 400 * x)
def mg_a (x j : Nat) : Nat := if j < 2400 then 400 * x + j else j - 2400
def mg_e (G : Nat → Int32) (e : Nat × (Nat → Int32)) (j : Nat) : Int32 := if j < 2400 then e.2 j else G (j - 2400)
def mg_S (G : Nat → Int32) (J0 : Nat → Nat → Int32) (B Sg Ln x q : Nat) (wr : Int32) (m : Nat) (e : Nat × (Nat → Int32)) (J : Nat → Nat → Int32) : Prop := J B 15 = nI q ∧ J B 16 = wr ∧ J B 19 = nI m ∧ J Ln x = nI e.1 ∧ (∀ j, mg_p e x j → J Sg (mg_a x j) = mg_e G e j) ∧ (∀ i, i ≠ 15 → i ≠ 16 → i ≠ 17 → i ≠ 19 → J B i = J0 B i) ∧ (∀ a, a ≠ B → a ≠ Sg → a ≠ Ln → J a = J0 a) ∧ e.1 ≤ 2400 ∧ m ≤ 60
theorem mg_t {G : Nat → Int32} {M : nt_M} {J0 J : Nat → Nat → Int32} {f : Nat → Int32} {t x B Tb Sg Ln q m : Nat} {wr : Int32} {e : Nat × (Nat → Int32)} (hP : md_P M J0 f t x B Tb Sg Ln) (hS : mg_S G J0 B Sg Ln x q wr m e J) : J B 1 = nI t := (hS.2.2.2.2.2.1 1 (by decide) (by decide) (by decide) (by decide)).trans hP.2.2.1
theorem mg_x {G : Nat → Int32} {M : nt_M} {J0 J : Nat → Nat → Int32} {f : Nat → Int32} {t x B Tb Sg Ln q m : Nat} {wr : Int32} {e : Nat × (Nat → Int32)} (hP : md_P M J0 f t x B Tb Sg Ln) (hS : mg_S G J0 B Sg Ln x q wr m e J) : J B 18 = nI x := (hS.2.2.2.2.2.1 18 (by decide) (by decide) (by decide) (by decide)).trans hP.2.2.2.1
theorem mg_f {G : Nat → Int32} {M : nt_M} {J0 J : Nat → Nat → Int32} {f : Nat → Int32} {t x B Tb Sg Ln q m : Nat} {wr : Int32} {e : Nat × (Nat → Int32)} (hP : md_P M J0 f t x B Tb Sg Ln) (hS : mg_S G J0 B Sg Ln x q wr m e J) (j : Nat) : J Tb j = f j := by
  rw [hS.2.2.2.2.2.2.1 Tb hP.2.1.1 hP.2.1.2.1 hP.2.1.2.2.1]
  exact hP.2.2.2.2.1 j
theorem mg_Sq {G : Nat → Int32} {M : nt_M} {J0 J : Nat → Nat → Int32} {f : Nat → Int32} {t x B Tb Sg Ln q m : Nat} {wr : Int32} {e : Nat × (Nat → Int32)} {y : Nat} (hP : md_P M J0 f t x B Tb Sg Ln) (hS : mg_S G J0 B Sg Ln x q wr m e J)  : mg_S G J0 B Sg Ln x y wr m e (nt_u J B 15 (nI y)) := by
  obtain ⟨a1, a2, a3, a4, a5, a6, a7, a8⟩ := hS
  have n1 := hP.2.1.2.2.2.1
  have n2 := hP.2.1.2.2.2.2.1
  have n3 := hP.2.1.2.2.2.2.2
  exact ⟨me_us, (me_uk (by decide)).trans a2, (me_uk (by decide)).trans a3, (me_uj (Ne.symm n2)).trans a4, fun j hj => (me_uj (Ne.symm n1)).trans (a5 j hj), fun i q1 q2 q3 q4 => (me_uk q1).trans (a6 i q1 q2 q3 q4), fun a q1 q2 q3 => (me_uo q1).trans (a7 a q1 q2 q3), a8.1, a8.2⟩
theorem mg_Sw {G : Nat → Int32} {M : nt_M} {J0 J : Nat → Nat → Int32} {f : Nat → Int32} {t x B Tb Sg Ln q m : Nat} {wr : Int32} {e : Nat × (Nat → Int32)} {y : Int32} (hP : md_P M J0 f t x B Tb Sg Ln) (hS : mg_S G J0 B Sg Ln x q wr m e J)  : mg_S G J0 B Sg Ln x q y m e (nt_u J B 16 (y)) := by
  obtain ⟨a1, a2, a3, a4, a5, a6, a7, a8⟩ := hS
  have n1 := hP.2.1.2.2.2.1
  have n2 := hP.2.1.2.2.2.2.1
  have n3 := hP.2.1.2.2.2.2.2
  exact ⟨(me_uk (by decide)).trans a1, me_us, (me_uk (by decide)).trans a3, (me_uj (Ne.symm n2)).trans a4, fun j hj => (me_uj (Ne.symm n1)).trans (a5 j hj), fun i q1 q2 q3 q4 => (me_uk q2).trans (a6 i q1 q2 q3 q4), fun a q1 q2 q3 => (me_uo q1).trans (a7 a q1 q2 q3), a8.1, a8.2⟩
theorem mg_Sn {G : Nat → Int32} {M : nt_M} {J0 J : Nat → Nat → Int32} {f : Nat → Int32} {t x B Tb Sg Ln q m : Nat} {wr : Int32} {e : Nat × (Nat → Int32)} {y : Int32} (hP : md_P M J0 f t x B Tb Sg Ln) (hS : mg_S G J0 B Sg Ln x q wr m e J)  : mg_S G J0 B Sg Ln x q wr m e (nt_u J B 17 (y)) := by
  obtain ⟨a1, a2, a3, a4, a5, a6, a7, a8⟩ := hS
  have n1 := hP.2.1.2.2.2.1
  have n2 := hP.2.1.2.2.2.2.1
  have n3 := hP.2.1.2.2.2.2.2
  exact ⟨(me_uk (by decide)).trans a1, (me_uk (by decide)).trans a2, (me_uk (by decide)).trans a3, (me_uj (Ne.symm n2)).trans a4, fun j hj => (me_uj (Ne.symm n1)).trans (a5 j hj), fun i q1 q2 q3 q4 => (me_uk q3).trans (a6 i q1 q2 q3 q4), fun a q1 q2 q3 => (me_uo q1).trans (a7 a q1 q2 q3), a8.1, a8.2⟩
theorem mg_Sm {G : Nat → Int32} {M : nt_M} {J0 J : Nat → Nat → Int32} {f : Nat → Int32} {t x B Tb Sg Ln q m : Nat} {wr : Int32} {e : Nat × (Nat → Int32)} {y : Nat} (hP : md_P M J0 f t x B Tb Sg Ln) (hS : mg_S G J0 B Sg Ln x q wr m e J) (hm : y ≤ 60) : mg_S G J0 B Sg Ln x q wr y e (nt_u J B 19 (nI y)) := by
  obtain ⟨a1, a2, a3, a4, a5, a6, a7, a8⟩ := hS
  have n1 := hP.2.1.2.2.2.1
  have n2 := hP.2.1.2.2.2.2.1
  have n3 := hP.2.1.2.2.2.2.2
  exact ⟨(me_uk (by decide)).trans a1, (me_uk (by decide)).trans a2, me_us, (me_uj (Ne.symm n2)).trans a4, fun j hj => (me_uj (Ne.symm n1)).trans (a5 j hj), fun i q1 q2 q3 q4 => (me_uk q4).trans (a6 i q1 q2 q3 q4), fun a q1 q2 q3 => (me_uo q1).trans (a7 a q1 q2 q3), a8.1, hm⟩
theorem mg_Se {G : Nat → Int32} {M : nt_M} {J0 J : Nat → Nat → Int32} {f : Nat → Int32} {t x B Tb Sg Ln q m : Nat} {wr : Int32} {e : Nat × (Nat → Int32)} {y : Int32} (hP : md_P M J0 f t x B Tb Sg Ln) (hS : mg_S G J0 B Sg Ln x q wr m e J) (hb : 400 * x + e.1 < 2400) : mg_S G J0 B Sg Ln x q wr m (lb_a e y) (nt_u (nt_u J Sg (400 * x + e.1) y) Ln x (nI (e.1 + 1))) := by
  obtain ⟨a1, a2, a3, a4, a5, a6, a7, a8⟩ := hS
  have n1 := hP.2.1.2.2.2.1
  have n2 := hP.2.1.2.2.2.2.1
  have n3 := hP.2.1.2.2.2.2.2
  unfold lb_a
  refine ⟨(me_uj n2).trans ((me_uj n1).trans a1), (me_uj n2).trans ((me_uj n1).trans a2), (me_uj n2).trans ((me_uj n1).trans a3), me_us, fun j hj => (me_uj n3).trans ?_, fun i q1 q2 q3 q4 => (me_uj n2).trans ((me_uj n1).trans (a6 i q1 q2 q3 q4)), fun a q1 q2 q3 => (me_uo q3).trans ((me_uo q2).trans (a7 a q1 q2 q3)), by dsimp only; omega, a8.2⟩
  have h24 : e.1 < 2400 := by omega
  unfold mg_p at hj
  dsimp only at hj
  by_cases c2 : j = e.1
  · rw [c2, show mg_a x e.1 = 400 * x + e.1 from if_pos h24, me_us]
    show y = (if e.1 < 2400 then (if e.1 = e.1 then y else e.2 e.1) else G (e.1 - 2400))
    rw [if_pos h24, if_pos rfl]
  · have na : mg_a x j ≠ 400 * x + e.1 := by
      unfold mg_a
      split <;> omega
    have ee : mg_e G (e.1 + 1, fun j => if j = e.1 then y else e.2 j) j = mg_e G e j := by
      show (if j < 2400 then (if j = e.1 then y else e.2 j) else G (j - 2400)) = (if j < 2400 then e.2 j else G (j - 2400))
      rw [if_neg c2]
    rw [me_uk na, ee]
    exact a5 j (by unfold mg_p; omega)
theorem mg_isLetter {G : Nat → Int32} {X : nt_X} {d t x B Tb Sg Ln q m : Nat} {f : Nat → Int32} {M : nt_M} {J0 J : Nat → Nat → Int32} {o : Option Value × nt_M} {wr : Int32} {e : Nat × (Nat → Int32)} {y : Nat} (hP : md_P M J0 f t x B Tb Sg Ln) (hS : mg_S G J0 B Sg Ln x q wr m e J) (hp : q ≤ t) (hy : y ≤ 1000) (k : nt_ev X d 138 [.ref B, .int (nI y)] (me_w M J) o) : ∃ r, o = (some (.int r), me_w M J) ∧ (r = Int32.ofInt 1 ∧ lb_let f t y ∨ r = Int32.ofInt 0 ∧ ¬ lb_let f t y) := by
  have k : nt_rn X d 138 (0, [(0, .ref B), (1, .int (nI y))], [], me_w M J) o := k
  have t4 : t ≤ 400 := hP.2.2.2.2.2.1
  have k := ly_revb 2 (c' := (2, [(0, .ref B), (1, .int (nI y))], [.ref B, .int (nI y)], me_w M J)) rfl k
  have k := lz_get (a := B) (g := 1101) (M := me_w M J) (v := .int (nI t)) rfl (congrArg Value.int (mg_t hP hS)) k
  have k := ly_revb 1 (c' := (if (nI t) ≤ (nI y) then 34 else 8, [(0, .ref B), (1, .int (nI y))], [], me_w M J)) rfl k
  by_cases h5 : t ≤ y
  · rw [if_pos (show (nI t) ≤ (nI y) from show nI t ≤ nI y from nI_le h5 (by omega))] at k
    have k := ly_revb 1 (c' := (35, [(0, .ref B), (1, .int (nI y))], [.int (Int32.ofInt 0)], me_w M J)) rfl k
    have k := lz_ri rfl (by decide) k
    exact ⟨_, k, Or.inr ⟨rfl, fun c => absurd c.1 (by omega)⟩⟩
  · rw [if_neg (show ¬ ((nI t) ≤ (nI y)) from show ¬ nI t ≤ nI y from nI_ge (Nat.not_le.mp h5) (by omega))] at k
    have k := ly_revb 1 (c' := (9, [(0, .ref B), (1, .int (nI y))], [.ref B], me_w M J)) rfl k
    have k := lz_get (a := B) (g := 1100) (M := me_w M J) (v := .ref Tb) rfl (nt_gfR rfl hP.1.1) k
    have k := ly_revb 1 (c' := (13, [(0, .ref B), (1, .int (nI y))], [.int (nI y), .ref Tb], me_w M J)) rfl k
    have k := me_bald (q := y) (v := f y) rfl (rfl) (by omega) (mg_f hP hS y) k
    have k := ly_revb 2 (c' := (if (f y) < (Int32.ofInt 97) then 34 else 19, [(0, .ref B), (1, .int (nI y))], [], me_w M J)) rfl k
    by_cases h16 : (f y) < (Int32.ofInt 97)
    · rw [if_pos (show (f y) < (Int32.ofInt 97) from h16)] at k
      have k := ly_revb 1 (c' := (35, [(0, .ref B), (1, .int (nI y))], [.int (Int32.ofInt 0)], me_w M J)) rfl k
      have k := lz_ri rfl (by decide) k
      exact ⟨_, k, Or.inr ⟨rfl, fun c => absurd c.2.1 (me_nle h16)⟩⟩
    · rw [if_neg (show ¬ ((f y) < (Int32.ofInt 97)) from h16)] at k
      have k := ly_revb 1 (c' := (20, [(0, .ref B), (1, .int (nI y))], [.ref B], me_w M J)) rfl k
      have k := lz_get (a := B) (g := 1100) (M := me_w M J) (v := .ref Tb) rfl (nt_gfR rfl hP.1.1) k
      have k := ly_revb 1 (c' := (24, [(0, .ref B), (1, .int (nI y))], [.int (nI y), .ref Tb], me_w M J)) rfl k
      have k := me_bald (q := y) (v := f y) rfl (rfl) (by omega) (mg_f hP hS y) k
      have k := ly_revb 2 (c' := (if (Int32.ofInt 122) < (f y) then 34 else 30, [(0, .ref B), (1, .int (nI y))], [], me_w M J)) rfl k
      by_cases h27 : (Int32.ofInt 122) < (f y)
      · rw [if_pos (show (Int32.ofInt 122) < (f y) from h27)] at k
        have k := ly_revb 1 (c' := (35, [(0, .ref B), (1, .int (nI y))], [.int (Int32.ofInt 0)], me_w M J)) rfl k
        have k := lz_ri rfl (by decide) k
        exact ⟨_, k, Or.inr ⟨rfl, fun c => absurd c.2.2 (me_nle h27)⟩⟩
      · rw [if_neg (show ¬ ((Int32.ofInt 122) < (f y)) from h27)] at k
        have k := ly_revb 2 (c' := (35, [(0, .ref B), (1, .int (nI y))], [.int (Int32.ofInt 1)], me_w M J)) rfl k
        have k := lz_ri rfl (by decide) k
        exact ⟨_, k, Or.inl ⟨rfl, by omega, me_le h16, me_le h27⟩⟩
theorem mg_seel {G : Nat → Int32} {X : nt_X} {d t x B Tb Sg Ln m : Nat} {f : Nat → Int32} {M : nt_M} {J0 : Nat → Nat → Int32} {o : Option Value × nt_M} {wr : Int32} {e : Nat × (Nat → Int32)} (hP : md_P M J0 f t x B Tb Sg Ln) : ∀ (c q : Nat) (J : Nat → Nat → Int32), q + c = t → mg_S G J0 B Sg Ln x q wr m e J → nt_rn X d 136 (0, [(0, .ref B)], [], me_w M J) o → o = (some (.int (lb_g f t (lb_s f t q))), me_w M (nt_u J B 15 (nI (lb_s f t q)))) := by
  have t4 : t ≤ 400 := hP.2.2.2.2.2.1
  intro c
  induction c with
  | zero =>
    intro q J hc hS k
    have k := ly_revb 1 (c' := (1, [(0, .ref B)], [.ref B], me_w M J)) rfl k
    have k := lz_get (a := B) (g := 1115) (M := me_w M J) (v := .int (nI q)) rfl (congrArg Value.int (hS.1)) k
    have k := ly_revb 1 (c' := (5, [(0, .ref B)], [.ref B, .int (nI q)], me_w M J)) rfl k
    have k := lz_get (a := B) (g := 1101) (M := me_w M J) (v := .int (nI t)) rfl (congrArg Value.int (mg_t hP hS)) k
    have k := ly_revb 1 (c' := (if (nI t) ≤ (nI q) then 38 else 11, [(0, .ref B)], [], me_w M J)) rfl k
    rw [if_pos (show (nI t) ≤ (nI q) from show nI t ≤ nI q from nI_le (by omega) (by omega))] at k
    have k := ly_revb 1 (c' := (39, [(0, .ref B)], [.ref B], me_w M J)) rfl k
    have k := lz_get (a := B) (g := 1115) (M := me_w M J) (v := .int (nI q)) rfl (congrArg Value.int (hS.1)) k
    have k := ly_revb 1 (c' := (43, [(0, .ref B)], [.ref B, .int (nI q)], me_w M J)) rfl k
    have k := lz_get (a := B) (g := 1101) (M := me_w M J) (v := .int (nI t)) rfl (congrArg Value.int (mg_t hP hS)) k
    have k := ly_revb 1 (c' := (if (nI t) ≤ (nI q) then 65 else 49, [(0, .ref B)], [], me_w M J)) rfl k
    rw [if_pos (show (nI t) ≤ (nI q) from show nI t ≤ nI q from nI_le (by omega) (by omega))] at k
    have k := ly_revb 1 (c' := (66, [(0, .ref B)], [.int (Int32.ofInt (-1))], me_w M J)) rfl k
    have k := lz_ri rfl (by decide) k
    rw [k, lb_s0 (by omega), me_ui hS.1]
    unfold lb_g
    rw [if_neg (by omega)]
  | succ c ih =>
    intro q J hc hS k
    have k := ly_revb 1 (c' := (1, [(0, .ref B)], [.ref B], me_w M J)) rfl k
    have k := lz_get (a := B) (g := 1115) (M := me_w M J) (v := .int (nI q)) rfl (congrArg Value.int (hS.1)) k
    have k := ly_revb 1 (c' := (5, [(0, .ref B)], [.ref B, .int (nI q)], me_w M J)) rfl k
    have k := lz_get (a := B) (g := 1101) (M := me_w M J) (v := .int (nI t)) rfl (congrArg Value.int (mg_t hP hS)) k
    have k := ly_revb 1 (c' := (if (nI t) ≤ (nI q) then 38 else 11, [(0, .ref B)], [], me_w M J)) rfl k
    rw [if_neg (show ¬ ((nI t) ≤ (nI q)) from show ¬ nI t ≤ nI q from nI_ge (Nat.not_le.mp (by omega)) (by omega))] at k
    have k := ly_revb 1 (c' := (12, [(0, .ref B)], [.ref B], me_w M J)) rfl k
    have k := lz_get (a := B) (g := 1100) (M := me_w M J) (v := .ref Tb) rfl (nt_gfR rfl hP.1.1) k
    have k := ly_revb 1 (c' := (16, [(0, .ref B)], [.ref B, .ref Tb], me_w M J)) rfl k
    have k := lz_get (a := B) (g := 1115) (M := me_w M J) (v := .int (nI q)) rfl (congrArg Value.int (hS.1)) k
    have k := me_bald (q := q) (v := f q) rfl (rfl) (by omega) (mg_f hP hS q) k
    have k := ly_revb 2 (c' := (if (f q) = (Int32.ofInt 32) then 25 else 38, [(0, .ref B)], [], me_w M J)) rfl k
    by_cases h22 : (f q) = (Int32.ofInt 32)
    · rw [if_pos (show (f q) = (Int32.ofInt 32) from h22)] at k
      have k := ly_revb 2 (c' := (27, [(0, .ref B)], [.ref B, .ref B], me_w M J)) rfl k
      have k := lz_get (a := B) (g := 1115) (M := me_w M J) (v := .int (nI q)) rfl (congrArg Value.int (hS.1)) k
      have k := ly_revb 2 (c' := (32, [(0, .ref B)], [.int ((nI q) + (Int32.ofInt 1)), .ref B], me_w M J)) rfl k
      rw [show ((nI q) + (Int32.ofInt 1) : Int32) = nI (q + 1) from me_add (k := 1)] at k
      have k := me_put rfl (by decide) k
      have k : nt_rn X _ 136 (35, [(0, .ref B)], [], me_w M (nt_u J B 15 (nI (q + 1)))) _ := k
      have k := ly_revb 1 (c' := (0, [(0, .ref B)], [], me_w M (nt_u J B 15 (nI (q + 1))))) rfl k
      have k := ih (q + 1) _ (by omega) (mg_Sq hP hS) k
      rw [k, lb_s1 ⟨by omega, h22⟩, me_uu]
    · rw [if_neg (show ¬ ((f q) = (Int32.ofInt 32)) from h22)] at k
      have k := ly_revb 1 (c' := (39, [(0, .ref B)], [.ref B], me_w M J)) rfl k
      have k := lz_get (a := B) (g := 1115) (M := me_w M J) (v := .int (nI q)) rfl (congrArg Value.int (hS.1)) k
      have k := ly_revb 1 (c' := (43, [(0, .ref B)], [.ref B, .int (nI q)], me_w M J)) rfl k
      have k := lz_get (a := B) (g := 1101) (M := me_w M J) (v := .int (nI t)) rfl (congrArg Value.int (mg_t hP hS)) k
      have k := ly_revb 1 (c' := (if (nI t) ≤ (nI q) then 65 else 49, [(0, .ref B)], [], me_w M J)) rfl k
      rw [if_neg (show ¬ ((nI t) ≤ (nI q)) from show ¬ nI t ≤ nI q from nI_ge (Nat.not_le.mp (by omega)) (by omega))] at k
      have k := ly_revb 1 (c' := (50, [(0, .ref B)], [.ref B], me_w M J)) rfl k
      have k := lz_get (a := B) (g := 1100) (M := me_w M J) (v := .ref Tb) rfl (nt_gfR rfl hP.1.1) k
      have k := ly_revb 1 (c' := (54, [(0, .ref B)], [.ref B, .ref Tb], me_w M J)) rfl k
      have k := lz_get (a := B) (g := 1115) (M := me_w M J) (v := .int (nI q)) rfl (congrArg Value.int (hS.1)) k
      have k := me_bald (q := q) (v := f q) rfl (rfl) (by omega) (mg_f hP hS q) k
      have k := ly_revb 3 (c' := (66, [(0, .ref B)], [.int ((f q) &&& (Int32.ofInt 255))], me_w M J)) rfl k
      have k := lz_ri rfl (by decide) k
      rw [k, lb_s0 (by intro c; exact h22 c.2), me_ui hS.1]
      unfold lb_g
      rw [if_pos (by omega)]
theorem mg_see {G : Nat → Int32} {X : nt_X} {d t x B Tb Sg Ln q m : Nat} {f : Nat → Int32} {M : nt_M} {J0 J : Nat → Nat → Int32} {o : Option Value × nt_M} {wr : Int32} {e : Nat × (Nat → Int32)} (hP : md_P M J0 f t x B Tb Sg Ln) (hS : mg_S G J0 B Sg Ln x q wr m e J) (hp : q ≤ t) (k : nt_ev X d 136 [.ref B] (me_w M J) o) : o = (some (.int (lb_g f t (lb_s f t q))), me_w M (nt_u J B 15 (nI (lb_s f t q)))) := mg_seel hP (t - q) q J (by omega) hS k
theorem mg_fails {G : Nat → Int32} {X : nt_X} {d t x B Tb Sg Ln q m : Nat} {f : Nat → Int32} {M : nt_M} {J0 J : Nat → Nat → Int32} {o : Option Value × nt_M} {wr : Int32} {e : Nat × (Nat → Int32)} {y : Int32} {a : Nat} (hP : md_P M J0 f t x B Tb Sg Ln) (hS : mg_S G J0 B Sg Ln x q wr m e J) (hp : q ≤ t) (k : nt_ev X d 139 [.ref B, .int (y), .int (nI a)] (me_w M J) o) : wr = 0 ∧ o = (some (.int (Int32.ofInt 0)), me_w M (nt_u J B 16 (lb_c a y))) ∨ ¬ wr = 0 ∧ o = (some (.int (Int32.ofInt 0)), me_w M J) := by
  have k : nt_rn X d 139 (0, [(0, .ref B), (1, .int (y)), (2, .int (nI a))], [], me_w M J) o := k
  have t4 : t ≤ 400 := hP.2.2.2.2.2.1
  have k := ly_revb 1 (c' := (1, [(0, .ref B), (1, .int (y)), (2, .int (nI a))], [.ref B], me_w M J)) rfl k
  have k := lz_get (a := B) (g := 1116) (M := me_w M J) (v := .int (wr)) rfl (congrArg Value.int (hS.2.1)) k
  have k := ly_revb 1 (c' := (if wr = 0 then 7 else 19, [(0, .ref B), (1, .int (y)), (2, .int (nI a))], [], me_w M J)) rfl k
  by_cases h4 : wr = 0
  · rw [if_pos (show wr = 0 from h4)] at k
    have k := ly_revb 8 (c' := (16, [(0, .ref B), (1, .int (y)), (2, .int (nI a))], [.int (((Int32.ofInt 1) + ((Int32.ofInt 8) * (nI a))) + y), .ref B], me_w M J)) rfl k
    have k := me_put rfl (by decide) k
    have k : nt_rn X _ 139 (19, [(0, .ref B), (1, .int (y)), (2, .int (nI a))], [], me_w M (nt_u J B 16 (((Int32.ofInt 1) + ((Int32.ofInt 8) * (nI a))) + y))) _ := k
    have k := ly_revb 1 (c' := (20, [(0, .ref B), (1, .int (y)), (2, .int (nI a))], [.int (Int32.ofInt 0)], me_w M (nt_u J B 16 (((Int32.ofInt 1) + ((Int32.ofInt 8) * (nI a))) + y)))) rfl k
    have k := lz_ri rfl (by decide) k
    exact Or.inl ⟨h4, k⟩
  · rw [if_neg (show ¬ (wr = 0) from h4)] at k
    have k := ly_revb 1 (c' := (20, [(0, .ref B), (1, .int (y)), (2, .int (nI a))], [.int (Int32.ofInt 0)], me_w M J)) rfl k
    have k := lz_ri rfl (by decide) k
    exact Or.inr ⟨h4, k⟩
theorem mg_makes {G : Nat → Int32} {X : nt_X} {d t x B Tb Sg Ln q m : Nat} {f : Nat → Int32} {M : nt_M} {J0 J : Nat → Nat → Int32} {o : Option Value × nt_M} {wr : Int32} {e : Nat × (Nat → Int32)} {a : Nat} (hP : md_P M J0 f t x B Tb Sg Ln) (hS : mg_S G J0 B Sg Ln x q wr m e J) (hp : q ≤ t) (hw : wr = 0) (k : nt_ev X d 154 [.ref B, .int (nI a)] (me_w M J) o) : m = 60 ∧ o = (some (.int (Int32.ofInt 0)), me_w M (nt_u J B 16 (lb_c a (Int32.ofInt 3)))) ∨ m < 60 ∧ o = (some (.int (Int32.ofInt 1)), me_w M (nt_u J B 19 (nI (m + 1)))) := by
  have k : nt_rn X d 154 (0, [(0, .ref B), (1, .int (nI a))], [], me_w M J) o := k
  have t4 : t ≤ 400 := hP.2.2.2.2.2.1
  have m6 : m ≤ 60 := hS.2.2.2.2.2.2.2.2
  have k := ly_revb 1 (c' := (1, [(0, .ref B), (1, .int (nI a))], [.ref B], me_w M J)) rfl k
  have k := lz_get (a := B) (g := 1119) (M := me_w M J) (v := .int (nI m)) rfl (congrArg Value.int (hS.2.2.1)) k
  have k := ly_revb 2 (c' := (if (nI m) = (Int32.ofInt 60) then 9 else 16, [(0, .ref B), (1, .int (nI a))], [], me_w M J)) rfl k
  by_cases h6 : m = 60
  · rw [if_pos (show (nI m) = (Int32.ofInt 60) from show nI m = nI 60 from congrArg nI h6)] at k
    have k := ly_revb 3 (c' := (12, [(0, .ref B), (1, .int (nI a))], [.int (nI a), .int (Int32.ofInt 3), .ref B], me_w M J)) rfl k
    obtain ⟨d1, o1, ed, kc, k⟩ := lz_c (g := 139) (q := 1) (vs := [.ref B, .int (Int32.ofInt 3), .int (nI a)]) (rest := []) rfl rfl (by decide) (Or.inr (Or.inl ⟨_, rfl, rfl⟩)) rfl k
    obtain ⟨hf, e1⟩ := (mg_fails hP hS hp kc).resolve_right (fun c => c.1 hw)
    subst e1
    have k : nt_rn X _ 154 (15, [(0, .ref B), (1, .int (nI a))], [.int (Int32.ofInt 0)], me_w M (nt_u J B 16 (lb_c a (Int32.ofInt 3)))) _ := k
    have k := lz_ri rfl (by decide) k
    exact Or.inl ⟨h6, k⟩
  · rw [if_neg (show ¬ ((nI m) = (Int32.ofInt 60)) from show ¬ nI m = nI 60 from me_ne h6 (by omega) (by omega))] at k
    have k := ly_revb 2 (c' := (18, [(0, .ref B), (1, .int (nI a))], [.ref B, .ref B], me_w M J)) rfl k
    have k := lz_get (a := B) (g := 1119) (M := me_w M J) (v := .int (nI m)) rfl (congrArg Value.int (hS.2.2.1)) k
    have k := ly_revb 2 (c' := (23, [(0, .ref B), (1, .int (nI a))], [.int ((nI m) + (Int32.ofInt 1)), .ref B], me_w M J)) rfl k
    rw [show ((nI m) + (Int32.ofInt 1) : Int32) = nI (m + 1) from me_add (k := 1)] at k
    have k := me_put rfl (by decide) k
    have k : nt_rn X _ 154 (26, [(0, .ref B), (1, .int (nI a))], [], me_w M (nt_u J B 19 (nI (m + 1)))) _ := k
    have k := ly_revb 1 (c' := (27, [(0, .ref B), (1, .int (nI a))], [.int (Int32.ofInt 1)], me_w M (nt_u J B 19 (nI (m + 1))))) rfl k
    have k := lz_ri rfl (by decide) k
    exact Or.inr ⟨by omega, k⟩
theorem mg_puts {G : Nat → Int32} {X : nt_X} {d t x B Tb Sg Ln q m : Nat} {f : Nat → Int32} {M : nt_M} {J0 J : Nat → Nat → Int32} {o : Option Value × nt_M} {wr : Int32} {e : Nat × (Nat → Int32)} {y z : Int32} (hP : md_P M J0 f t x B Tb Sg Ln) (hS : mg_S G J0 B Sg Ln x q wr m e J) (hp : q ≤ t) (k : nt_ev X d 155 [.ref B, .int (y), .int (z)] (me_w M J) o) : 400 * x + e.1 < 2400 ∧ o = (none, me_w M (nt_u (nt_u J Sg (400 * x + e.1) (y + Int32.ofInt 16 * z)) Ln x (nI (e.1 + 1)))) := by
  have k : nt_rn X d 155 (0, [(0, .ref B), (1, .int (y)), (2, .int (z))], [], me_w M J) o := k
  have t4 : t ≤ 400 := hP.2.2.2.2.2.1
  have x6 : x ≤ 6 := hP.2.2.2.2.2.2.1
  have e4 : e.1 ≤ 2400 := hS.2.2.2.2.2.2.2.1
  have k := ly_revb 1 (c' := (1, [(0, .ref B), (1, .int (y)), (2, .int (z))], [.ref B], me_w M J)) rfl k
  have k := lz_get (a := B) (g := 1103) (M := me_w M J) (v := .ref Sg) rfl (nt_gfR rfl hP.1.2.1) k
  have k := ly_revb 2 (c' := (8, [(0, .ref B), (1, .int (y)), (2, .int (z))], [.ref B, .int (Int32.ofInt 400), .ref Sg], me_w M J)) rfl k
  have k := lz_get (a := B) (g := 1118) (M := me_w M J) (v := .int (nI x)) rfl (congrArg Value.int (mg_x hP hS)) k
  have k := ly_revb 1 (c' := (12, [(0, .ref B), (1, .int (y)), (2, .int (z))], [.int ((Int32.ofInt 400) * (nI x)), .ref Sg], me_w M J)) rfl k
  rw [show ((Int32.ofInt 400) * (nI x) : Int32) = nI (400 * x) from (Int32.ofNat_mul 400 x).symm] at k
  have k := ly_revb 1 (c' := (13, [(0, .ref B), (1, .int (y)), (2, .int (z))], [.ref B, .int (nI (400 * x)), .ref Sg], me_w M J)) rfl k
  have k := lz_get (a := B) (g := 1104) (M := me_w M J) (v := .ref Ln) rfl (nt_gfR rfl hP.1.2.2) k
  have k := ly_revb 1 (c' := (17, [(0, .ref B), (1, .int (y)), (2, .int (z))], [.ref B, .ref Ln, .int (nI (400 * x)), .ref Sg], me_w M J)) rfl k
  have k := lz_get (a := B) (g := 1118) (M := me_w M J) (v := .int (nI x)) rfl (congrArg Value.int (mg_x hP hS)) k
  have k := me_iald (q := x) (v := nI e.1) rfl (hP.2.2.2.2.2.2.2.2.2) (rfl) (by omega) (hS.2.2.2.1) k
  have k := ly_revb 1 (c' := (22, [(0, .ref B), (1, .int (y)), (2, .int (z))], [.int ((nI (400 * x)) + (nI e.1)), .ref Sg], me_w M J)) rfl k
  rw [show ((nI (400 * x)) + (nI e.1) : Int32) = nI (400 * x + e.1) from me_addn] at k
  have k := ly_revb 5 (c' := (28, [(0, .ref B), (1, .int (y)), (2, .int (z))], [.int (y + ((Int32.ofInt 16) * z)), .int (nI (400 * x + e.1)), .ref Sg], me_w M J)) rfl k
  have hb : 400 * x + e.1 < nt_l M Sg := me_iastb (q := (400 * x + e.1)) rfl rfl (by omega) k
  rw [hP.2.2.2.2.2.2.2.1] at hb
  have k := me_iast (q := (400 * x + e.1)) rfl (rfl) (by omega) k
  have k := ly_revb 1 (c' := (30, [(0, .ref B), (1, .int (y)), (2, .int (z))], [.ref B], me_w M (nt_u J Sg ((400 * x + e.1)) (y + ((Int32.ofInt 16) * z))))) rfl k
  have k := lz_get (a := B) (g := 1104) (M := me_w M (nt_u J Sg ((400 * x + e.1)) (y + ((Int32.ofInt 16) * z)))) (v := .ref Ln) rfl (nt_gfR rfl hP.1.2.2) k
  have k := ly_revb 1 (c' := (34, [(0, .ref B), (1, .int (y)), (2, .int (z))], [.ref B, .ref Ln], me_w M (nt_u J Sg ((400 * x + e.1)) (y + ((Int32.ofInt 16) * z))))) rfl k
  have k := lz_get (a := B) (g := 1118) (M := me_w M (nt_u J Sg ((400 * x + e.1)) (y + ((Int32.ofInt 16) * z)))) (v := .int (nI x)) rfl (congrArg Value.int ((me_uj (hP.2.1.2.2.2.1)).trans (mg_x hP hS))) k
  have k := ly_revb 1 (c' := (38, [(0, .ref B), (1, .int (y)), (2, .int (z))], [.int (nI x), .ref Ln, .int (nI x), .ref Ln], me_w M (nt_u J Sg ((400 * x + e.1)) (y + ((Int32.ofInt 16) * z))))) rfl k
  have k := me_iald (q := x) (v := nI e.1) rfl (hP.2.2.2.2.2.2.2.2.2) (rfl) (by omega) ((me_uj (Ne.symm (hP.2.1.2.2.2.2.2))).trans (hS.2.2.2.1)) k
  have k := ly_revb 2 (c' := (41, [(0, .ref B), (1, .int (y)), (2, .int (z))], [.int ((nI e.1) + (Int32.ofInt 1)), .int (nI x), .ref Ln], me_w M (nt_u J Sg ((400 * x + e.1)) (y + ((Int32.ofInt 16) * z))))) rfl k
  rw [show ((nI e.1) + (Int32.ofInt 1) : Int32) = nI (e.1 + 1) from me_add (k := 1)] at k
  have k := me_iast (q := x) rfl (rfl) (by omega) k
  have k := lz_rv rfl rfl k
  exact ⟨hb, k⟩
theorem mg_pwl {G : Nat → Int32} {X : nt_X} {d t x B Tb Sg Ln m : Nat} {f : Nat → Int32} {M : nt_M} {J0 : Nat → Nat → Int32} {o : Option Value × nt_M} {wr : Int32} {e : Nat × (Nat → Int32)} (hP : md_P M J0 f t x B Tb Sg Ln) : ∀ (c q : Nat) (J : Nat → Nat → Int32), q + c = t → mg_S G J0 B Sg Ln x q wr m e J → nt_rn X d 142 (0, [(0, .ref B)], [], me_w M J) o → o = (none, me_w M (nt_u J B 15 (nI (q + lb_l f t q)))) := by
  have t4 : t ≤ 400 := hP.2.2.2.2.2.1
  intro c
  induction c with
  | zero =>
    intro q J hc hS k
    have k := ly_revb 2 (c' := (2, [(0, .ref B)], [.ref B, .ref B], me_w M J)) rfl k
    have k := lz_get (a := B) (g := 1115) (M := me_w M J) (v := .int (nI q)) rfl (congrArg Value.int (hS.1)) k
    obtain ⟨d1, o1, ed, kc, k⟩ := lz_c (g := 138) (q := 1) (vs := [.ref B, .int (nI q)]) (rest := []) rfl rfl (by decide) (Or.inr (Or.inl ⟨_, rfl, rfl⟩)) rfl k
    obtain ⟨r, e1, hr⟩ := mg_isLetter hP hS (by omega) (by omega) kc
    subst e1
    rcases hr with ⟨rfl, hr⟩ | ⟨rfl, hr⟩
    · have k : nt_rn X _ 142 (8, [(0, .ref B)], [.int (Int32.ofInt 1)], me_w M J) _ := k
      exact absurd hr.1 (by omega)
    · have k : nt_rn X _ 142 (8, [(0, .ref B)], [.int (Int32.ofInt 0)], me_w M J) _ := k
      have k := ly_revb 1 (c' := (if (Int32.ofInt 0) = 0 then 24 else 11, [(0, .ref B)], [], me_w M J)) rfl k
      rw [if_pos (show (Int32.ofInt 0) = 0 from by decide)] at k
      have k := lz_rv rfl rfl k
      rw [k, lb_l0 hr, me_ui (show J B 15 = nI (q + 0) from hS.1)]
  | succ c ih =>
    intro q J hc hS k
    have k := ly_revb 2 (c' := (2, [(0, .ref B)], [.ref B, .ref B], me_w M J)) rfl k
    have k := lz_get (a := B) (g := 1115) (M := me_w M J) (v := .int (nI q)) rfl (congrArg Value.int (hS.1)) k
    obtain ⟨d1, o1, ed, kc, k⟩ := lz_c (g := 138) (q := 1) (vs := [.ref B, .int (nI q)]) (rest := []) rfl rfl (by decide) (Or.inr (Or.inl ⟨_, rfl, rfl⟩)) rfl k
    obtain ⟨r, e1, hr⟩ := mg_isLetter hP hS (by omega) (by omega) kc
    subst e1
    rcases hr with ⟨rfl, hr⟩ | ⟨rfl, hr⟩
    · have k : nt_rn X _ 142 (8, [(0, .ref B)], [.int (Int32.ofInt 1)], me_w M J) _ := k
      have k := ly_revb 1 (c' := (if (Int32.ofInt 1) = 0 then 24 else 11, [(0, .ref B)], [], me_w M J)) rfl k
      rw [if_neg (show ¬ ((Int32.ofInt 1) = 0) from by decide)] at k
      have k := ly_revb 2 (c' := (13, [(0, .ref B)], [.ref B, .ref B], me_w M J)) rfl k
      have k := lz_get (a := B) (g := 1115) (M := me_w M J) (v := .int (nI q)) rfl (congrArg Value.int (hS.1)) k
      have k := ly_revb 2 (c' := (18, [(0, .ref B)], [.int ((nI q) + (Int32.ofInt 1)), .ref B], me_w M J)) rfl k
      rw [show ((nI q) + (Int32.ofInt 1) : Int32) = nI (q + 1) from me_add (k := 1)] at k
      have k := me_put rfl (by decide) k
      have k : nt_rn X _ 142 (21, [(0, .ref B)], [], me_w M (nt_u J B 15 (nI (q + 1)))) _ := k
      have k := ly_revb 1 (c' := (0, [(0, .ref B)], [], me_w M (nt_u J B 15 (nI (q + 1))))) rfl k
      have k := ih (q + 1) _ (by omega) (mg_Sq hP hS) k
      rw [k, lb_l1 hr, me_uu, show q + 1 + lb_l f t (q + 1) = q + (lb_l f t (q + 1) + 1) from by omega]
    · have k : nt_rn X _ 142 (8, [(0, .ref B)], [.int (Int32.ofInt 0)], me_w M J) _ := k
      have k := ly_revb 1 (c' := (if (Int32.ofInt 0) = 0 then 24 else 11, [(0, .ref B)], [], me_w M J)) rfl k
      rw [if_pos (show (Int32.ofInt 0) = 0 from by decide)] at k
      have k := lz_rv rfl rfl k
      rw [k, lb_l0 hr, me_ui (show J B 15 = nI (q + 0) from hS.1)]
theorem mg_pass {G : Nat → Int32} {X : nt_X} {d t x B Tb Sg Ln q m : Nat} {f : Nat → Int32} {M : nt_M} {J0 J : Nat → Nat → Int32} {o : Option Value × nt_M} {wr : Int32} {e : Nat × (Nat → Int32)} (hP : md_P M J0 f t x B Tb Sg Ln) (hS : mg_S G J0 B Sg Ln x q wr m e J) (hp : q ≤ t) (k : nt_ev X d 142 [.ref B] (me_w M J) o) : o = (none, me_w M (nt_u J B 15 (nI (q + lb_l f t q)))) := mg_pwl hP (t - q) q J (by omega) hS k
theorem mg_iwl {G : Nat → Int32} {X : nt_X} {d t x B Tb Sg Ln q m : Nat} {f : Nat → Int32} {M : nt_M} {J0 J : Nat → Nat → Int32} {o : Option Value × nt_M} {wr : Int32} {e : Nat × (Nat → Int32)} {w : Int64} (hP : md_P M J0 f t x B Tb Sg Ln) (hS : mg_S G J0 B Sg Ln x q wr m e J) (hp : q ≤ t) : ∀ (c n : Nat), lb_l f t (q + n) = c → n + c = lb_l f t q → nt_rn X d 137 (10, [(5, .int (nI n)), (3, .long (lb_pk f q n)), (0, .ref B), (1, .long w)], [], me_w M J) o → ∃ r, o = (some (.int r), me_w M J) ∧ (r = Int32.ofInt 1 ∧ lb_iw f t q w ∨ r = Int32.ofInt 0 ∧ ¬ lb_iw f t q w) := by
  have t4 : t ≤ 400 := hP.2.2.2.2.2.1
  have hl := lb_l_le (f := f) (t := t) (t - q) q (by omega)
  intro c
  induction c with
  | zero =>
    intro n hc hn k
    have hn : n = lb_l f t q := by omega
    have k := ly_revb 2 (c' := (12, [(5, .int (nI n)), (3, .long (lb_pk f q n)), (0, .ref B), (1, .long (w))], [.ref B, .ref B], me_w M J)) rfl k
    have k := lz_get (a := B) (g := 1115) (M := me_w M J) (v := .int (nI q)) rfl (congrArg Value.int (hS.1)) k
    have k := ly_revb 2 (c' := (18, [(5, .int (nI n)), (3, .long (lb_pk f q n)), (0, .ref B), (1, .long (w))], [.int ((nI q) + (nI n)), .ref B], me_w M J)) rfl k
    rw [show ((nI q) + (nI n) : Int32) = nI (q + n) from me_addn] at k
    obtain ⟨d1, o1, ed, kc, k⟩ := lz_c (g := 138) (q := 1) (vs := [.ref B, .int (nI (q + n))]) (rest := []) rfl rfl (by decide) (Or.inr (Or.inl ⟨_, rfl, rfl⟩)) rfl k
    obtain ⟨r, e1, hr⟩ := mg_isLetter hP hS hp (by omega) kc
    subst e1
    rcases hr with ⟨rfl, hr⟩ | ⟨rfl, hr⟩
    · have k : nt_rn X _ 137 (21, [(5, .int (nI n)), (3, .long (lb_pk f q n)), (0, .ref B), (1, .long (w))], [.int (Int32.ofInt 1)], me_w M J) _ := k
      rw [lb_l1 hr] at hc
      omega
    · have k : nt_rn X _ 137 (21, [(5, .int (nI n)), (3, .long (lb_pk f q n)), (0, .ref B), (1, .long (w))], [.int (Int32.ofInt 0)], me_w M J) _ := k
      have k := ly_revb 1 (c' := (if (Int32.ofInt 0) = 0 then 56 else 24, [(5, .int (nI n)), (3, .long (lb_pk f q n)), (0, .ref B), (1, .long (w))], [], me_w M J)) rfl k
      rw [if_pos (show (Int32.ofInt 0) = 0 from by decide)] at k
      have k := ly_revb 2 (c' := (if (nI n) ≤ 0 then 78 else 61, [(5, .int (nI n)), (3, .long (lb_pk f q n)), (0, .ref B), (1, .long (w))], [], me_w M J)) rfl k
      by_cases h58 : n = 0
      · rw [if_pos (show (nI n) ≤ 0 from by rw [h58]; decide)] at k
        have k := ly_revb 1 (c' := (79, [(5, .int (nI n)), (3, .long (lb_pk f q n)), (0, .ref B), (1, .long (w))], [.int (Int32.ofInt 0)], me_w M J)) rfl k
        have k := lz_ri rfl (by decide) k
        exact ⟨_, k, Or.inr ⟨rfl, fun c => absurd c.1 (by omega)⟩⟩
      · rw [if_neg (show ¬ ((nI n) ≤ 0) from nI_nle (Nat.pos_of_ne_zero h58) (by omega))] at k
        have k := ly_revb 3 (c' := (if (Int32.ofInt 8) ≤ (nI n) then 78 else 68, [(5, .int (nI n)), (3, .long (lb_pk f q n)), (0, .ref B), (1, .long (w))], [], me_w M J)) rfl k
        by_cases h65 : 8 ≤ n
        · rw [if_pos (show (Int32.ofInt 8) ≤ (nI n) from show nI 8 ≤ nI n from nI_le h65 (by omega))] at k
          have k := ly_revb 1 (c' := (79, [(5, .int (nI n)), (3, .long (lb_pk f q n)), (0, .ref B), (1, .long (w))], [.int (Int32.ofInt 0)], me_w M J)) rfl k
          have k := lz_ri rfl (by decide) k
          exact ⟨_, k, Or.inr ⟨rfl, fun c => absurd c.2.1 (by omega)⟩⟩
        · rw [if_neg (show ¬ ((Int32.ofInt 8) ≤ (nI n)) from show ¬ nI 8 ≤ nI n from nI_ge (Nat.not_le.mp h65) (by omega))] at k
          have k := ly_revb 4 (c' := (if (lg_cmp (lb_pk f q n) w) = 0 then 74 else 78, [(5, .int (nI n)), (3, .long (lb_pk f q n)), (0, .ref B), (1, .long (w))], [], me_w M J)) rfl k
          by_cases h71 : (lg_cmp (lb_pk f q n) w) = 0
          · rw [if_pos (show (lg_cmp (lb_pk f q n) w) = 0 from h71)] at k
            have k := ly_revb 2 (c' := (79, [(5, .int (nI n)), (3, .long (lb_pk f q n)), (0, .ref B), (1, .long (w))], [.int (Int32.ofInt 1)], me_w M J)) rfl k
            have k := lz_ri rfl (by decide) k
            exact ⟨_, k, Or.inl ⟨rfl, by omega, by omega, hn ▸ h71⟩⟩
          · rw [if_neg (show ¬ ((lg_cmp (lb_pk f q n) w) = 0) from h71)] at k
            have k := ly_revb 1 (c' := (79, [(5, .int (nI n)), (3, .long (lb_pk f q n)), (0, .ref B), (1, .long (w))], [.int (Int32.ofInt 0)], me_w M J)) rfl k
            have k := lz_ri rfl (by decide) k
            exact ⟨_, k, Or.inr ⟨rfl, fun c => h71 (hn.symm ▸ c.2.2)⟩⟩
  | succ c ih =>
    intro n hc hn k
    have k := ly_revb 2 (c' := (12, [(5, .int (nI n)), (3, .long (lb_pk f q n)), (0, .ref B), (1, .long (w))], [.ref B, .ref B], me_w M J)) rfl k
    have k := lz_get (a := B) (g := 1115) (M := me_w M J) (v := .int (nI q)) rfl (congrArg Value.int (hS.1)) k
    have k := ly_revb 2 (c' := (18, [(5, .int (nI n)), (3, .long (lb_pk f q n)), (0, .ref B), (1, .long (w))], [.int ((nI q) + (nI n)), .ref B], me_w M J)) rfl k
    rw [show ((nI q) + (nI n) : Int32) = nI (q + n) from me_addn] at k
    obtain ⟨d1, o1, ed, kc, k⟩ := lz_c (g := 138) (q := 1) (vs := [.ref B, .int (nI (q + n))]) (rest := []) rfl rfl (by decide) (Or.inr (Or.inl ⟨_, rfl, rfl⟩)) rfl k
    obtain ⟨r, e1, hr⟩ := mg_isLetter hP hS hp (by omega) kc
    subst e1
    rcases hr with ⟨rfl, hr⟩ | ⟨rfl, hr⟩
    · have k : nt_rn X _ 137 (21, [(5, .int (nI n)), (3, .long (lb_pk f q n)), (0, .ref B), (1, .long (w))], [.int (Int32.ofInt 1)], me_w M J) _ := k
      have k := ly_revb 1 (c' := (if (Int32.ofInt 1) = 0 then 56 else 24, [(5, .int (nI n)), (3, .long (lb_pk f q n)), (0, .ref B), (1, .long (w))], [], me_w M J)) rfl k
      rw [if_neg (show ¬ ((Int32.ofInt 1) = 0) from by decide)] at k
      have k := ly_revb 3 (c' := (if (Int32.ofInt 8) ≤ (nI n) then 50 else 31, [(5, .int (nI n)), (3, .long (lb_pk f q n)), (0, .ref B), (1, .long (w))], [], me_w M J)) rfl k
      by_cases h28 : 8 ≤ n
      · rw [if_pos (show (Int32.ofInt 8) ≤ (nI n) from show nI 8 ≤ nI n from nI_le h28 (by omega))] at k
        have k := ly_revb 1 (c' := (53, [(5, .int ((nI n) + Int32.ofInt 1)), (3, .long (lb_pk f q n)), (0, .ref B), (1, .long (w))], [], me_w M J)) rfl k
        rw [show ((nI n) + Int32.ofInt 1 : Int32) = nI (n + 1) from me_add (k := 1)] at k
        have k := ly_revb 1 (c' := (10, [(5, .int (nI (n + 1))), (3, .long (lb_pk f q n)), (0, .ref B), (1, .long (w))], [], me_w M J)) rfl k
        have ep : lb_pk f q (n + 1) = lb_pk f q n := if_neg (by omega)
        rw [← ep] at k
        exact ih (n + 1) (by rw [lb_l1 hr] at hc; exact Nat.succ.inj hc) (by omega) k
      · rw [if_neg (show ¬ ((Int32.ofInt 8) ≤ (nI n)) from show ¬ nI 8 ≤ nI n from nI_ge (Nat.not_le.mp h28) (by omega))] at k
        have k := ly_revb 4 (c' := (36, [(5, .int (nI n)), (3, .long (lb_pk f q n)), (0, .ref B), (1, .long (w))], [.ref B, .long ((lb_pk f q n) <<< ((Int32.ofInt 8).toInt64 &&& 63))], me_w M J)) rfl k
        have k := lz_get (a := B) (g := 1100) (M := me_w M J) (v := .ref Tb) rfl (nt_gfR rfl hP.1.1) k
        have k := ly_revb 1 (c' := (40, [(5, .int (nI n)), (3, .long (lb_pk f q n)), (0, .ref B), (1, .long (w))], [.ref B, .ref Tb, .long ((lb_pk f q n) <<< ((Int32.ofInt 8).toInt64 &&& 63))], me_w M J)) rfl k
        have k := lz_get (a := B) (g := 1115) (M := me_w M J) (v := .int (nI q)) rfl (congrArg Value.int (hS.1)) k
        have k := ly_revb 2 (c' := (46, [(5, .int (nI n)), (3, .long (lb_pk f q n)), (0, .ref B), (1, .long (w))], [.int ((nI q) + (nI n)), .ref Tb, .long ((lb_pk f q n) <<< ((Int32.ofInt 8).toInt64 &&& 63))], me_w M J)) rfl k
        rw [show ((nI q) + (nI n) : Int32) = nI (q + n) from me_addn] at k
        have k := me_bald (q := (q + n)) (v := f ((q + n))) rfl (rfl) (by omega) (mg_f hP hS ((q + n))) k
        have k := ly_revb 4 (c' := (53, [(5, .int ((nI n) + Int32.ofInt 1)), (3, .long (((lb_pk f q n) <<< ((Int32.ofInt 8).toInt64 &&& 63)) ||| ((f ((q + n))).toInt64))), (0, .ref B), (1, .long (w))], [], me_w M J)) rfl k
        rw [show ((nI n) + Int32.ofInt 1 : Int32) = nI (n + 1) from me_add (k := 1)] at k
        have k := ly_revb 1 (c' := (10, [(5, .int (nI (n + 1))), (3, .long (((lb_pk f q n) <<< ((Int32.ofInt 8).toInt64 &&& 63)) ||| ((f ((q + n))).toInt64))), (0, .ref B), (1, .long (w))], [], me_w M J)) rfl k
        have ep : lb_pk f q (n + 1) = ((lb_pk f q n) <<< ((Int32.ofInt 8).toInt64 &&& 63)) ||| ((f ((q + n))).toInt64) := if_pos (by omega)
        rw [← ep] at k
        exact ih (n + 1) (by rw [lb_l1 hr] at hc; exact Nat.succ.inj hc) (by omega) k
    · have k : nt_rn X _ 137 (21, [(5, .int (nI n)), (3, .long (lb_pk f q n)), (0, .ref B), (1, .long (w))], [.int (Int32.ofInt 0)], me_w M J) _ := k
      rw [lb_l0 hr] at hc
      omega
theorem mg_isWord {G : Nat → Int32} {X : nt_X} {d t x B Tb Sg Ln q m : Nat} {f : Nat → Int32} {M : nt_M} {J0 J : Nat → Nat → Int32} {o : Option Value × nt_M} {wr : Int32} {e : Nat × (Nat → Int32)} {w : Int64} (hP : md_P M J0 f t x B Tb Sg Ln) (hS : mg_S G J0 B Sg Ln x q wr m e J) (hp : q ≤ t) (k : nt_ev X d 137 [.ref B, .long (w)] (me_w M J) o) : ∃ r, o = (some (.int r), me_w M (nt_u J B 15 (nI (lb_s f t q)))) ∧ (r = Int32.ofInt 1 ∧ lb_iw f t (lb_s f t q) w ∨ r = Int32.ofInt 0 ∧ ¬ lb_iw f t (lb_s f t q) w) := by
  have k : nt_rn X d 137 (0, [(0, .ref B), (1, .long (w))], [], me_w M J) o := k
  have t4 : t ≤ 400 := hP.2.2.2.2.2.1
  have k := ly_revb 1 (c' := (1, [(0, .ref B), (1, .long (w))], [.ref B], me_w M J)) rfl k
  obtain ⟨d1, o1, ed, kc, k⟩ := lz_c (g := 136) (q := 1) (vs := [.ref B]) (rest := []) rfl rfl (by decide) (Or.inr (Or.inl ⟨_, rfl, rfl⟩)) rfl k
  have e1 := mg_see hP hS hp kc
  subst e1
  have hS1 := mg_Sq (y := lb_s f t q) hP hS
  have hp1 : lb_s f t q ≤ t := (lb_s_le (t - q) q (by omega)).2
  have k : nt_rn X _ 137 (4, [(0, .ref B), (1, .long (w))], [.int (lb_g f t (lb_s f t q))], me_w M (nt_u J B 15 (nI (lb_s f t q)))) _ := k
  have k := ly_revb 5 (c' := (10, [(5, .int (Int32.ofInt 0)), (3, .long (Int64.ofNat 0)), (0, .ref B), (1, .long (w))], [], me_w M (nt_u J B 15 (nI (lb_s f t q))))) rfl k
  exact mg_iwl hP hS1 hp1 _ 0 rfl (by rw [Nat.add_zero]; omega) k
theorem mg_isDigit {G : Nat → Int32} {X : nt_X} {d t x B Tb Sg Ln q m : Nat} {f : Nat → Int32} {M : nt_M} {J0 J : Nat → Nat → Int32} {o : Option Value × nt_M} {wr : Int32} {e : Nat × (Nat → Int32)} {y : Nat} (hP : md_P M J0 f t x B Tb Sg Ln) (hS : mg_S G J0 B Sg Ln x q wr m e J) (hp : q ≤ t) (hy : y ≤ 1000) (k : nt_ev X d 144 [.ref B, .int (nI y)] (me_w M J) o) : ∃ r, o = (some (.int r), me_w M J) ∧ (r = Int32.ofInt 1 ∧ lb_dig f t y ∨ r = Int32.ofInt 0 ∧ ¬ lb_dig f t y) := by
  have k : nt_rn X d 144 (0, [(0, .ref B), (1, .int (nI y))], [], me_w M J) o := k
  have t4 : t ≤ 400 := hP.2.2.2.2.2.1
  have k := ly_revb 2 (c' := (2, [(0, .ref B), (1, .int (nI y))], [.ref B, .int (nI y)], me_w M J)) rfl k
  have k := lz_get (a := B) (g := 1101) (M := me_w M J) (v := .int (nI t)) rfl (congrArg Value.int (mg_t hP hS)) k
  have k := ly_revb 1 (c' := (if (nI t) ≤ (nI y) then 34 else 8, [(0, .ref B), (1, .int (nI y))], [], me_w M J)) rfl k
  by_cases h5 : t ≤ y
  · rw [if_pos (show (nI t) ≤ (nI y) from show nI t ≤ nI y from nI_le h5 (by omega))] at k
    have k := ly_revb 1 (c' := (35, [(0, .ref B), (1, .int (nI y))], [.int (Int32.ofInt 0)], me_w M J)) rfl k
    have k := lz_ri rfl (by decide) k
    exact ⟨_, k, Or.inr ⟨rfl, fun c => absurd c.1 (by omega)⟩⟩
  · rw [if_neg (show ¬ ((nI t) ≤ (nI y)) from show ¬ nI t ≤ nI y from nI_ge (Nat.not_le.mp h5) (by omega))] at k
    have k := ly_revb 1 (c' := (9, [(0, .ref B), (1, .int (nI y))], [.ref B], me_w M J)) rfl k
    have k := lz_get (a := B) (g := 1100) (M := me_w M J) (v := .ref Tb) rfl (nt_gfR rfl hP.1.1) k
    have k := ly_revb 1 (c' := (13, [(0, .ref B), (1, .int (nI y))], [.int (nI y), .ref Tb], me_w M J)) rfl k
    have k := me_bald (q := y) (v := f y) rfl (rfl) (by omega) (mg_f hP hS y) k
    have k := ly_revb 2 (c' := (if (f y) < (Int32.ofInt 48) then 34 else 19, [(0, .ref B), (1, .int (nI y))], [], me_w M J)) rfl k
    by_cases h16 : (f y) < (Int32.ofInt 48)
    · rw [if_pos (show (f y) < (Int32.ofInt 48) from h16)] at k
      have k := ly_revb 1 (c' := (35, [(0, .ref B), (1, .int (nI y))], [.int (Int32.ofInt 0)], me_w M J)) rfl k
      have k := lz_ri rfl (by decide) k
      exact ⟨_, k, Or.inr ⟨rfl, fun c => absurd c.2.1 (me_nle h16)⟩⟩
    · rw [if_neg (show ¬ ((f y) < (Int32.ofInt 48)) from h16)] at k
      have k := ly_revb 1 (c' := (20, [(0, .ref B), (1, .int (nI y))], [.ref B], me_w M J)) rfl k
      have k := lz_get (a := B) (g := 1100) (M := me_w M J) (v := .ref Tb) rfl (nt_gfR rfl hP.1.1) k
      have k := ly_revb 1 (c' := (24, [(0, .ref B), (1, .int (nI y))], [.int (nI y), .ref Tb], me_w M J)) rfl k
      have k := me_bald (q := y) (v := f y) rfl (rfl) (by omega) (mg_f hP hS y) k
      have k := ly_revb 2 (c' := (if (Int32.ofInt 57) < (f y) then 34 else 30, [(0, .ref B), (1, .int (nI y))], [], me_w M J)) rfl k
      by_cases h27 : (Int32.ofInt 57) < (f y)
      · rw [if_pos (show (Int32.ofInt 57) < (f y) from h27)] at k
        have k := ly_revb 1 (c' := (35, [(0, .ref B), (1, .int (nI y))], [.int (Int32.ofInt 0)], me_w M J)) rfl k
        have k := lz_ri rfl (by decide) k
        exact ⟨_, k, Or.inr ⟨rfl, fun c => absurd c.2.2 (me_nle h27)⟩⟩
      · rw [if_neg (show ¬ ((Int32.ofInt 57) < (f y)) from h27)] at k
        have k := ly_revb 2 (c' := (35, [(0, .ref B), (1, .int (nI y))], [.int (Int32.ofInt 1)], me_w M J)) rfl k
        have k := lz_ri rfl (by decide) k
        exact ⟨_, k, Or.inl ⟨rfl, by omega, me_le h16, me_le h27⟩⟩
theorem mg_wordHere {G : Nat → Int32} {X : nt_X} {d t x B Tb Sg Ln q m : Nat} {f : Nat → Int32} {M : nt_M} {J0 J : Nat → Nat → Int32} {o : Option Value × nt_M} {wr : Int32} {e : Nat × (Nat → Int32)} (hP : md_P M J0 f t x B Tb Sg Ln) (hS : mg_S G J0 B Sg Ln x q wr m e J) (hp : q ≤ t) (k : nt_ev X d 156 [.ref B] (me_w M J) o) : ∃ r, o = (some (.int r), me_w M (nt_u J B 15 (nI (lb_s f t q)))) ∧ ((∃ w, w < 10 ∧ r = nI w ∧ lb_ws f t (lb_s f t q) w ∧ ∀ v, v < w → ¬ lb_ws f t (lb_s f t q) v) ∨ r = Int32.ofInt (-1) ∧ ∀ v, v < 10 → ¬ lb_ws f t (lb_s f t q) v) := by
  have k : nt_rn X d 156 (0, [(0, .ref B)], [], me_w M J) o := k
  have t4 : t ≤ 400 := hP.2.2.2.2.2.1
  have hp1 : lb_s f t q ≤ t := (lb_s_le (t - q) q (by omega)).2
  have hss : lb_s f t (lb_s f t q) = lb_s f t q := lb_ss hp
  have k := ly_revb 2 (c' := (4, [(0, .ref B)], [.long (482854661739), .ref B], me_w M J)) rfl k
  obtain ⟨d1, o1, ed, kc, k⟩ := lz_c (g := 137) (q := 1) (vs := [.ref B, .long (482854661739)]) (rest := []) rfl rfl (by decide) (Or.inr (Or.inl ⟨_, rfl, rfl⟩)) rfl k
  obtain ⟨r, e1, hr⟩ := mg_isWord hP hS hp kc
  subst e1
  rw [lb_w_plank] at hr
  rcases hr with ⟨rfl, g0⟩ | ⟨rfl, g0⟩
  · have hS1 := mg_Sq (y := lb_s f t q) hP hS
    have k : nt_rn X _ 156 (7, [(0, .ref B)], [.int (Int32.ofInt 1)], me_w M (nt_u J B 15 (nI (lb_s f t q)))) _ := k
    have k := ly_revb 1 (c' := (if (Int32.ofInt 1) = 0 then 12 else 10, [(0, .ref B)], [], me_w M (nt_u J B 15 (nI (lb_s f t q))))) rfl k
    rw [if_neg (show ¬ ((Int32.ofInt 1) = 0) from by decide)] at k
    have k := ly_revb 1 (c' := (11, [(0, .ref B)], [.int (Int32.ofInt 0)], me_w M (nt_u J B 15 (nI (lb_s f t q))))) rfl k
    have k := lz_ri rfl (by decide) k
    refine ⟨_, k, Or.inl ⟨0, by decide, rfl, g0, fun v hv => ?_⟩⟩
    omega
  · have hS1 := mg_Sq (y := lb_s f t q) hP hS
    have k : nt_rn X _ 156 (7, [(0, .ref B)], [.int (Int32.ofInt 0)], me_w M (nt_u J B 15 (nI (lb_s f t q)))) _ := k
    have k := ly_revb 1 (c' := (if (Int32.ofInt 0) = 0 then 12 else 10, [(0, .ref B)], [], me_w M (nt_u J B 15 (nI (lb_s f t q))))) rfl k
    rw [if_pos (show (Int32.ofInt 0) = 0 from by decide)] at k
    have k := ly_revb 2 (c' := (16, [(0, .ref B)], [.long (1802071652), .ref B], me_w M (nt_u J B 15 (nI (lb_s f t q))))) rfl k
    obtain ⟨d1, o1, ed, kc, k⟩ := lz_c (g := 137) (q := 1) (vs := [.ref B, .long (1802071652)]) (rest := []) rfl rfl (by decide) (Or.inr (Or.inl ⟨_, rfl, rfl⟩)) rfl k
    obtain ⟨r, e1, hr⟩ := mg_isWord hP hS1 hp1 kc
    rw [hss, me_uu] at e1
    rw [hss] at hr
    subst e1
    rw [lb_w_kind] at hr
    rcases hr with ⟨rfl, g1⟩ | ⟨rfl, g1⟩
    · have k : nt_rn X _ 156 (19, [(0, .ref B)], [.int (Int32.ofInt 1)], me_w M (nt_u J B 15 (nI (lb_s f t q)))) _ := k
      have k := ly_revb 1 (c' := (if (Int32.ofInt 1) = 0 then 24 else 22, [(0, .ref B)], [], me_w M (nt_u J B 15 (nI (lb_s f t q))))) rfl k
      rw [if_neg (show ¬ ((Int32.ofInt 1) = 0) from by decide)] at k
      have k := ly_revb 1 (c' := (23, [(0, .ref B)], [.int (Int32.ofInt 1)], me_w M (nt_u J B 15 (nI (lb_s f t q))))) rfl k
      have k := lz_ri rfl (by decide) k
      refine ⟨_, k, Or.inl ⟨1, by decide, rfl, g1, fun v hv => ?_⟩⟩
      rcases (by omega : v = 0) with rfl
      · exact g0
    · have k : nt_rn X _ 156 (19, [(0, .ref B)], [.int (Int32.ofInt 0)], me_w M (nt_u J B 15 (nI (lb_s f t q)))) _ := k
      have k := ly_revb 1 (c' := (if (Int32.ofInt 0) = 0 then 24 else 22, [(0, .ref B)], [], me_w M (nt_u J B 15 (nI (lb_s f t q))))) rfl k
      rw [if_pos (show (Int32.ofInt 0) = 0 from by decide)] at k
      have k := ly_revb 2 (c' := (28, [(0, .ref B)], [.long (7499636), .ref B], me_w M (nt_u J B 15 (nI (lb_s f t q))))) rfl k
      obtain ⟨d1, o1, ed, kc, k⟩ := lz_c (g := 137) (q := 1) (vs := [.ref B, .long (7499636)]) (rest := []) rfl rfl (by decide) (Or.inr (Or.inl ⟨_, rfl, rfl⟩)) rfl k
      obtain ⟨r, e1, hr⟩ := mg_isWord hP hS1 hp1 kc
      rw [hss, me_uu] at e1
      rw [hss] at hr
      subst e1
      rw [lb_w_rot] at hr
      rcases hr with ⟨rfl, g2⟩ | ⟨rfl, g2⟩
      · have k : nt_rn X _ 156 (31, [(0, .ref B)], [.int (Int32.ofInt 1)], me_w M (nt_u J B 15 (nI (lb_s f t q)))) _ := k
        have k := ly_revb 1 (c' := (if (Int32.ofInt 1) = 0 then 36 else 34, [(0, .ref B)], [], me_w M (nt_u J B 15 (nI (lb_s f t q))))) rfl k
        rw [if_neg (show ¬ ((Int32.ofInt 1) = 0) from by decide)] at k
        have k := ly_revb 1 (c' := (35, [(0, .ref B)], [.int (Int32.ofInt 2)], me_w M (nt_u J B 15 (nI (lb_s f t q))))) rfl k
        have k := lz_ri rfl (by decide) k
        refine ⟨_, k, Or.inl ⟨2, by decide, rfl, g2, fun v hv => ?_⟩⟩
        rcases (by omega : v = 0 ∨ v = 1) with rfl | rfl
        · exact g0
        · exact g1
      · have k : nt_rn X _ 156 (31, [(0, .ref B)], [.int (Int32.ofInt 0)], me_w M (nt_u J B 15 (nI (lb_s f t q)))) _ := k
        have k := ly_revb 1 (c' := (if (Int32.ofInt 0) = 0 then 36 else 34, [(0, .ref B)], [], me_w M (nt_u J B 15 (nI (lb_s f t q))))) rfl k
        rw [if_pos (show (Int32.ofInt 0) = 0 from by decide)] at k
        have k := ly_revb 2 (c' := (40, [(0, .ref B)], [.long (478745093490), .ref B], me_w M (nt_u J B 15 (nI (lb_s f t q))))) rfl k
        obtain ⟨d1, o1, ed, kc, k⟩ := lz_c (g := 137) (q := 1) (vs := [.ref B, .long (478745093490)]) (rest := []) rfl rfl (by decide) (Or.inr (Or.inl ⟨_, rfl, rfl⟩)) rfl k
        obtain ⟨r, e1, hr⟩ := mg_isWord hP hS1 hp1 kc
        rw [hss, me_uu] at e1
        rw [hss] at hr
        subst e1
        rw [lb_w_owner] at hr
        rcases hr with ⟨rfl, g3⟩ | ⟨rfl, g3⟩
        · have k : nt_rn X _ 156 (43, [(0, .ref B)], [.int (Int32.ofInt 1)], me_w M (nt_u J B 15 (nI (lb_s f t q)))) _ := k
          have k := ly_revb 1 (c' := (if (Int32.ofInt 1) = 0 then 48 else 46, [(0, .ref B)], [], me_w M (nt_u J B 15 (nI (lb_s f t q))))) rfl k
          rw [if_neg (show ¬ ((Int32.ofInt 1) = 0) from by decide)] at k
          have k := ly_revb 1 (c' := (47, [(0, .ref B)], [.int (Int32.ofInt 3)], me_w M (nt_u J B 15 (nI (lb_s f t q))))) rfl k
          have k := lz_ri rfl (by decide) k
          refine ⟨_, k, Or.inl ⟨3, by decide, rfl, g3, fun v hv => ?_⟩⟩
          rcases (by omega : v = 0 ∨ v = 1 ∨ v = 2) with rfl | rfl | rfl
          · exact g0
          · exact g1
          · exact g2
        · have k : nt_rn X _ 156 (43, [(0, .ref B)], [.int (Int32.ofInt 0)], me_w M (nt_u J B 15 (nI (lb_s f t q)))) _ := k
          have k := ly_revb 1 (c' := (if (Int32.ofInt 0) = 0 then 48 else 46, [(0, .ref B)], [], me_w M (nt_u J B 15 (nI (lb_s f t q))))) rfl k
          rw [if_pos (show (Int32.ofInt 0) = 0 from by decide)] at k
          have k := ly_revb 2 (c' := (52, [(0, .ref B)], [.long (1936222576), .ref B], me_w M (nt_u J B 15 (nI (lb_s f t q))))) rfl k
          obtain ⟨d1, o1, ed, kc, k⟩ := lz_c (g := 137) (q := 1) (vs := [.ref B, .long (1936222576)]) (rest := []) rfl rfl (by decide) (Or.inr (Or.inl ⟨_, rfl, rfl⟩)) rfl k
          obtain ⟨r, e1, hr⟩ := mg_isWord hP hS1 hp1 kc
          rw [hss, me_uu] at e1
          rw [hss] at hr
          subst e1
          rw [lb_w_ship] at hr
          rcases hr with ⟨rfl, g4⟩ | ⟨rfl, g4⟩
          · have k : nt_rn X _ 156 (55, [(0, .ref B)], [.int (Int32.ofInt 1)], me_w M (nt_u J B 15 (nI (lb_s f t q)))) _ := k
            have k := ly_revb 1 (c' := (if (Int32.ofInt 1) = 0 then 60 else 58, [(0, .ref B)], [], me_w M (nt_u J B 15 (nI (lb_s f t q))))) rfl k
            rw [if_neg (show ¬ ((Int32.ofInt 1) = 0) from by decide)] at k
            have k := ly_revb 1 (c' := (59, [(0, .ref B)], [.int (Int32.ofInt 4)], me_w M (nt_u J B 15 (nI (lb_s f t q))))) rfl k
            have k := lz_ri rfl (by decide) k
            refine ⟨_, k, Or.inl ⟨4, by decide, rfl, g4, fun v hv => ?_⟩⟩
            rcases (by omega : v = 0 ∨ v = 1 ∨ v = 2 ∨ v = 3) with rfl | rfl | rfl | rfl
            · exact g0
            · exact g1
            · exact g2
            · exact g3
          · have k : nt_rn X _ 156 (55, [(0, .ref B)], [.int (Int32.ofInt 0)], me_w M (nt_u J B 15 (nI (lb_s f t q)))) _ := k
            have k := ly_revb 1 (c' := (if (Int32.ofInt 0) = 0 then 60 else 58, [(0, .ref B)], [], me_w M (nt_u J B 15 (nI (lb_s f t q))))) rfl k
            rw [if_pos (show (Int32.ofInt 0) = 0 from by decide)] at k
            have k := ly_revb 2 (c' := (64, [(0, .ref B)], [.long (1718775661), .ref B], me_w M (nt_u J B 15 (nI (lb_s f t q))))) rfl k
            obtain ⟨d1, o1, ed, kc, k⟩ := lz_c (g := 137) (q := 1) (vs := [.ref B, .long (1718775661)]) (rest := []) rfl rfl (by decide) (Or.inr (Or.inl ⟨_, rfl, rfl⟩)) rfl k
            obtain ⟨r, e1, hr⟩ := mg_isWord hP hS1 hp1 kc
            rw [hss, me_uu] at e1
            rw [hss] at hr
            subst e1
            rw [lb_w_from] at hr
            rcases hr with ⟨rfl, g5⟩ | ⟨rfl, g5⟩
            · have k : nt_rn X _ 156 (67, [(0, .ref B)], [.int (Int32.ofInt 1)], me_w M (nt_u J B 15 (nI (lb_s f t q)))) _ := k
              have k := ly_revb 1 (c' := (if (Int32.ofInt 1) = 0 then 72 else 70, [(0, .ref B)], [], me_w M (nt_u J B 15 (nI (lb_s f t q))))) rfl k
              rw [if_neg (show ¬ ((Int32.ofInt 1) = 0) from by decide)] at k
              have k := ly_revb 1 (c' := (71, [(0, .ref B)], [.int (Int32.ofInt 5)], me_w M (nt_u J B 15 (nI (lb_s f t q))))) rfl k
              have k := lz_ri rfl (by decide) k
              refine ⟨_, k, Or.inl ⟨5, by decide, rfl, g5, fun v hv => ?_⟩⟩
              rcases (by omega : v = 0 ∨ v = 1 ∨ v = 2 ∨ v = 3 ∨ v = 4) with rfl | rfl | rfl | rfl | rfl
              · exact g0
              · exact g1
              · exact g2
              · exact g3
              · exact g4
            · have k : nt_rn X _ 156 (67, [(0, .ref B)], [.int (Int32.ofInt 0)], me_w M (nt_u J B 15 (nI (lb_s f t q)))) _ := k
              have k := ly_revb 1 (c' := (if (Int32.ofInt 0) = 0 then 72 else 70, [(0, .ref B)], [], me_w M (nt_u J B 15 (nI (lb_s f t q))))) rfl k
              rw [if_pos (show (Int32.ofInt 0) = 0 from by decide)] at k
              have k := ly_revb 2 (c' := (76, [(0, .ref B)], [.long (7305070), .ref B], me_w M (nt_u J B 15 (nI (lb_s f t q))))) rfl k
              obtain ⟨d1, o1, ed, kc, k⟩ := lz_c (g := 137) (q := 1) (vs := [.ref B, .long (7305070)]) (rest := []) rfl rfl (by decide) (Or.inr (Or.inl ⟨_, rfl, rfl⟩)) rfl k
              obtain ⟨r, e1, hr⟩ := mg_isWord hP hS1 hp1 kc
              rw [hss, me_uu] at e1
              rw [hss] at hr
              subst e1
              rw [lb_w_own] at hr
              rcases hr with ⟨rfl, g6⟩ | ⟨rfl, g6⟩
              · have k : nt_rn X _ 156 (79, [(0, .ref B)], [.int (Int32.ofInt 1)], me_w M (nt_u J B 15 (nI (lb_s f t q)))) _ := k
                have k := ly_revb 1 (c' := (if (Int32.ofInt 1) = 0 then 85 else 82, [(0, .ref B)], [], me_w M (nt_u J B 15 (nI (lb_s f t q))))) rfl k
                rw [if_neg (show ¬ ((Int32.ofInt 1) = 0) from by decide)] at k
                have k := ly_revb 1 (c' := (84, [(0, .ref B)], [.int (Int32.ofInt 6)], me_w M (nt_u J B 15 (nI (lb_s f t q))))) rfl k
                have k := lz_ri rfl (by decide) k
                refine ⟨_, k, Or.inl ⟨6, by decide, rfl, g6, fun v hv => ?_⟩⟩
                rcases (by omega : v = 0 ∨ v = 1 ∨ v = 2 ∨ v = 3 ∨ v = 4 ∨ v = 5) with rfl | rfl | rfl | rfl | rfl | rfl
                · exact g0
                · exact g1
                · exact g2
                · exact g3
                · exact g4
                · exact g5
              · have k : nt_rn X _ 156 (79, [(0, .ref B)], [.int (Int32.ofInt 0)], me_w M (nt_u J B 15 (nI (lb_s f t q)))) _ := k
                have k := ly_revb 1 (c' := (if (Int32.ofInt 0) = 0 then 85 else 82, [(0, .ref B)], [], me_w M (nt_u J B 15 (nI (lb_s f t q))))) rfl k
                rw [if_pos (show (Int32.ofInt 0) = 0 from by decide)] at k
                have k := ly_revb 2 (c' := (89, [(0, .ref B)], [.long (6578553), .ref B], me_w M (nt_u J B 15 (nI (lb_s f t q))))) rfl k
                obtain ⟨d1, o1, ed, kc, k⟩ := lz_c (g := 137) (q := 1) (vs := [.ref B, .long (6578553)]) (rest := []) rfl rfl (by decide) (Or.inr (Or.inl ⟨_, rfl, rfl⟩)) rfl k
                obtain ⟨r, e1, hr⟩ := mg_isWord hP hS1 hp1 kc
                rw [hss, me_uu] at e1
                rw [hss] at hr
                subst e1
                rw [lb_w_day] at hr
                rcases hr with ⟨rfl, g7⟩ | ⟨rfl, g7⟩
                · have k : nt_rn X _ 156 (92, [(0, .ref B)], [.int (Int32.ofInt 1)], me_w M (nt_u J B 15 (nI (lb_s f t q)))) _ := k
                  have k := ly_revb 1 (c' := (if (Int32.ofInt 1) = 0 then 98 else 95, [(0, .ref B)], [], me_w M (nt_u J B 15 (nI (lb_s f t q))))) rfl k
                  rw [if_neg (show ¬ ((Int32.ofInt 1) = 0) from by decide)] at k
                  have k := ly_revb 1 (c' := (97, [(0, .ref B)], [.int (Int32.ofInt 7)], me_w M (nt_u J B 15 (nI (lb_s f t q))))) rfl k
                  have k := lz_ri rfl (by decide) k
                  refine ⟨_, k, Or.inl ⟨7, by decide, rfl, g7, fun v hv => ?_⟩⟩
                  rcases (by omega : v = 0 ∨ v = 1 ∨ v = 2 ∨ v = 3 ∨ v = 4 ∨ v = 5 ∨ v = 6) with rfl | rfl | rfl | rfl | rfl | rfl | rfl
                  · exact g0
                  · exact g1
                  · exact g2
                  · exact g3
                  · exact g4
                  · exact g5
                  · exact g6
                · have k : nt_rn X _ 156 (92, [(0, .ref B)], [.int (Int32.ofInt 0)], me_w M (nt_u J B 15 (nI (lb_s f t q)))) _ := k
                  have k := ly_revb 1 (c' := (if (Int32.ofInt 0) = 0 then 98 else 95, [(0, .ref B)], [], me_w M (nt_u J B 15 (nI (lb_s f t q))))) rfl k
                  rw [if_pos (show (Int32.ofInt 0) = 0 from by decide)] at k
                  have k := ly_revb 2 (c' := (102, [(0, .ref B)], [.long (470021465459), .ref B], me_w M (nt_u J B 15 (nI (lb_s f t q))))) rfl k
                  obtain ⟨d1, o1, ed, kc, k⟩ := lz_c (g := 137) (q := 1) (vs := [.ref B, .long (470021465459)]) (rest := []) rfl rfl (by decide) (Or.inr (Or.inl ⟨_, rfl, rfl⟩)) rfl k
                  obtain ⟨r, e1, hr⟩ := mg_isWord hP hS1 hp1 kc
                  rw [hss, me_uu] at e1
                  rw [hss] at hr
                  subst e1
                  rw [lb_w_moves] at hr
                  rcases hr with ⟨rfl, g8⟩ | ⟨rfl, g8⟩
                  · have k : nt_rn X _ 156 (105, [(0, .ref B)], [.int (Int32.ofInt 1)], me_w M (nt_u J B 15 (nI (lb_s f t q)))) _ := k
                    have k := ly_revb 1 (c' := (if (Int32.ofInt 1) = 0 then 113 else 108, [(0, .ref B)], [], me_w M (nt_u J B 15 (nI (lb_s f t q))))) rfl k
                    rw [if_neg (show ¬ ((Int32.ofInt 1) = 0) from by decide)] at k
                    have k := ly_revb 2 (c' := (129, [(0, .ref B)], [.int (Int32.ofInt 8)], me_w M (nt_u J B 15 (nI (lb_s f t q))))) rfl k
                    have k := lz_ri rfl (by decide) k
                    refine ⟨_, k, Or.inl ⟨8, by decide, rfl, g8, fun v hv => ?_⟩⟩
                    rcases (by omega : v = 0 ∨ v = 1 ∨ v = 2 ∨ v = 3 ∨ v = 4 ∨ v = 5 ∨ v = 6 ∨ v = 7) with rfl | rfl | rfl | rfl | rfl | rfl | rfl | rfl
                    · exact g0
                    · exact g1
                    · exact g2
                    · exact g3
                    · exact g4
                    · exact g5
                    · exact g6
                    · exact g7
                  · have k : nt_rn X _ 156 (105, [(0, .ref B)], [.int (Int32.ofInt 0)], me_w M (nt_u J B 15 (nI (lb_s f t q)))) _ := k
                    have k := ly_revb 1 (c' := (if (Int32.ofInt 0) = 0 then 113 else 108, [(0, .ref B)], [], me_w M (nt_u J B 15 (nI (lb_s f t q))))) rfl k
                    rw [if_pos (show (Int32.ofInt 0) = 0 from by decide)] at k
                    have k := ly_revb 2 (c' := (117, [(0, .ref B)], [.long (119182899770472), .ref B], me_w M (nt_u J B 15 (nI (lb_s f t q))))) rfl k
                    obtain ⟨d1, o1, ed, kc, k⟩ := lz_c (g := 137) (q := 1) (vs := [.ref B, .long (119182899770472)]) (rest := []) rfl rfl (by decide) (Or.inr (Or.inl ⟨_, rfl, rfl⟩)) rfl k
                    obtain ⟨r, e1, hr⟩ := mg_isWord hP hS1 hp1 kc
                    rw [hss, me_uu] at e1
                    rw [hss] at hr
                    subst e1
                    rw [lb_w_length] at hr
                    rcases hr with ⟨rfl, g9⟩ | ⟨rfl, g9⟩
                    · have k : nt_rn X _ 156 (120, [(0, .ref B)], [.int (Int32.ofInt 1)], me_w M (nt_u J B 15 (nI (lb_s f t q)))) _ := k
                      have k := ly_revb 1 (c' := (if (Int32.ofInt 1) = 0 then 128 else 123, [(0, .ref B)], [], me_w M (nt_u J B 15 (nI (lb_s f t q))))) rfl k
                      rw [if_neg (show ¬ ((Int32.ofInt 1) = 0) from by decide)] at k
                      have k := ly_revb 2 (c' := (129, [(0, .ref B)], [.int (Int32.ofInt 9)], me_w M (nt_u J B 15 (nI (lb_s f t q))))) rfl k
                      have k := lz_ri rfl (by decide) k
                      refine ⟨_, k, Or.inl ⟨9, by decide, rfl, g9, fun v hv => ?_⟩⟩
                      rcases (by omega : v = 0 ∨ v = 1 ∨ v = 2 ∨ v = 3 ∨ v = 4 ∨ v = 5 ∨ v = 6 ∨ v = 7 ∨ v = 8) with rfl | rfl | rfl | rfl | rfl | rfl | rfl | rfl | rfl
                      · exact g0
                      · exact g1
                      · exact g2
                      · exact g3
                      · exact g4
                      · exact g5
                      · exact g6
                      · exact g7
                      · exact g8
                    · have k : nt_rn X _ 156 (120, [(0, .ref B)], [.int (Int32.ofInt 0)], me_w M (nt_u J B 15 (nI (lb_s f t q)))) _ := k
                      have k := ly_revb 1 (c' := (if (Int32.ofInt 0) = 0 then 128 else 123, [(0, .ref B)], [], me_w M (nt_u J B 15 (nI (lb_s f t q))))) rfl k
                      rw [if_pos (show (Int32.ofInt 0) = 0 from by decide)] at k
                      have k := ly_revb 1 (c' := (129, [(0, .ref B)], [.int (Int32.ofInt (-1))], me_w M (nt_u J B 15 (nI (lb_s f t q))))) rfl k
                      have k := lz_ri rfl (by decide) k
                      refine ⟨_, k, Or.inr ⟨rfl, fun v hv => ?_⟩⟩
                      rcases (by omega : v = 0 ∨ v = 1 ∨ v = 2 ∨ v = 3 ∨ v = 4 ∨ v = 5 ∨ v = 6 ∨ v = 7 ∨ v = 8 ∨ v = 9) with rfl | rfl | rfl | rfl | rfl | rfl | rfl | rfl | rfl | rfl
                      · exact g0
                      · exact g1
                      · exact g2
                      · exact g3
                      · exact g4
                      · exact g5
                      · exact g6
                      · exact g7
                      · exact g8
                      · exact g9
theorem mg_nhl {G : Nat → Int32} {X : nt_X} {d t x B Tb Sg Ln m p D : Nat} {f : Nat → Int32} {M : nt_M} {J0 : Nat → Nat → Int32} {o : Option Value × nt_M} {wr lo hi : Int32} {e : Nat × (Nat → Int32)} (hP : md_P M J0 f t x B Tb Sg Ln) (hD : p + D ≤ t) : ∀ (c n : Nat) (J : Nat → Nat → Int32), lb_d f t (p + n) = c → n + c = D → mg_S G J0 B Sg Ln x (p + n) wr m e J → nt_rn X d 143 (34, [(4, .int (lb_v f p (min n 5))), (3, .int (nI p)), (0, .ref B), (1, .int lo), (2, .int hi)], [], me_w M J) o → nt_rn X d 143 (88, [(4, .int (lb_v f p (min D 5))), (3, .int (nI p)), (0, .ref B), (1, .int lo), (2, .int hi)], [], me_w M (nt_u J B 15 (nI (p + D)))) o := by
  have t4 : t ≤ 400 := hP.2.2.2.2.2.1
  intro c
  induction c with
  | zero =>
    intro n J hc hn hS k
    have hn : n = D := by omega
    subst hn
    have k := ly_revb 2 (c' := (36, [(4, .int (lb_v f p (min n 5))), (3, .int (nI p)), (0, .ref B), (1, .int (lo)), (2, .int (hi))], [.ref B, .ref B], me_w M J)) rfl k
    have k := lz_get (a := B) (g := 1115) (M := me_w M J) (v := .int (nI (p + n))) rfl (congrArg Value.int (hS.1)) k
    obtain ⟨d1, o1, ed, kc, k⟩ := lz_c (g := 144) (q := 1) (vs := [.ref B, .int (nI (p + n))]) (rest := []) rfl rfl (by decide) (Or.inr (Or.inl ⟨_, rfl, rfl⟩)) rfl k
    obtain ⟨r, e1, hr⟩ := mg_isDigit hP hS (by omega) (by omega) kc
    subst e1
    rcases hr with ⟨rfl, hr⟩ | ⟨rfl, hr⟩
    · have k : nt_rn X _ 143 (42, [(4, .int (lb_v f p (min n 5))), (3, .int (nI p)), (0, .ref B), (1, .int (lo)), (2, .int (hi))], [.int (Int32.ofInt 1)], me_w M J) _ := k
      rw [lb_d1 hr] at hc
      omega
    · have k : nt_rn X _ 143 (42, [(4, .int (lb_v f p (min n 5))), (3, .int (nI p)), (0, .ref B), (1, .int (lo)), (2, .int (hi))], [.int (Int32.ofInt 0)], me_w M J) _ := k
      have k := ly_revb 1 (c' := (if (Int32.ofInt 0) = 0 then 88 else 45, [(4, .int (lb_v f p (min n 5))), (3, .int (nI p)), (0, .ref B), (1, .int (lo)), (2, .int (hi))], [], me_w M J)) rfl k
      rw [if_pos (show (Int32.ofInt 0) = 0 from by decide)] at k
      rw [me_ui hS.1]
      exact k
  | succ c ih =>
    intro n J hc hn hS k
    obtain ⟨hdg, hc1⟩ := lb_d_dig hc
    have k := ly_revb 2 (c' := (36, [(4, .int (lb_v f p (min n 5))), (3, .int (nI p)), (0, .ref B), (1, .int (lo)), (2, .int (hi))], [.ref B, .ref B], me_w M J)) rfl k
    have k := lz_get (a := B) (g := 1115) (M := me_w M J) (v := .int (nI (p + n))) rfl (congrArg Value.int (hS.1)) k
    obtain ⟨d1, o1, ed, kc, k⟩ := lz_c (g := 144) (q := 1) (vs := [.ref B, .int (nI (p + n))]) (rest := []) rfl rfl (by decide) (Or.inr (Or.inl ⟨_, rfl, rfl⟩)) rfl k
    obtain ⟨r, e1, hr⟩ := mg_isDigit hP hS (by omega) (by omega) kc
    subst e1
    rcases hr with ⟨rfl, hr⟩ | ⟨rfl, hr⟩
    · have k : nt_rn X _ 143 (42, [(4, .int (lb_v f p (min n 5))), (3, .int (nI p)), (0, .ref B), (1, .int (lo)), (2, .int (hi))], [.int (Int32.ofInt 1)], me_w M J) _ := k
      have k := ly_revb 1 (c' := (if (Int32.ofInt 1) = 0 then 88 else 45, [(4, .int (lb_v f p (min n 5))), (3, .int (nI p)), (0, .ref B), (1, .int (lo)), (2, .int (hi))], [], me_w M J)) rfl k
      rw [if_neg (show ¬ ((Int32.ofInt 1) = 0) from by decide)] at k
      have k := ly_revb 1 (c' := (46, [(4, .int (lb_v f p (min n 5))), (3, .int (nI p)), (0, .ref B), (1, .int (lo)), (2, .int (hi))], [.ref B], me_w M J)) rfl k
      have k := lz_get (a := B) (g := 1115) (M := me_w M J) (v := .int (nI (p + n))) rfl (congrArg Value.int (hS.1)) k
      have k := ly_revb 2 (c' := (51, [(4, .int (lb_v f p (min n 5))), (3, .int (nI p)), (0, .ref B), (1, .int (lo)), (2, .int (hi))], [.int ((nI (p + n)) - (nI p))], me_w M J)) rfl k
      rw [show ((nI (p + n)) - (nI p) : Int32) = nI n from (me_subn (by omega)).trans (congrArg nI (by omega))] at k
      have k := ly_revb 2 (c' := (if (Int32.ofInt 5) ≤ (nI n) then 75 else 55, [(4, .int (lb_v f p (min n 5))), (3, .int (nI p)), (0, .ref B), (1, .int (lo)), (2, .int (hi))], [], me_w M J)) rfl k
      by_cases h52 : 5 ≤ n
      · rw [if_pos (show (Int32.ofInt 5) ≤ (nI n) from show nI 5 ≤ nI n from nI_le h52 (by omega))] at k
        have k := ly_revb 2 (c' := (77, [(4, .int (lb_v f p (min n 5))), (3, .int (nI p)), (0, .ref B), (1, .int (lo)), (2, .int (hi))], [.ref B, .ref B], me_w M J)) rfl k
        have k := lz_get (a := B) (g := 1115) (M := me_w M J) (v := .int (nI (p + n))) rfl (congrArg Value.int (hS.1)) k
        have k := ly_revb 2 (c' := (82, [(4, .int (lb_v f p (min n 5))), (3, .int (nI p)), (0, .ref B), (1, .int (lo)), (2, .int (hi))], [.int ((nI (p + n)) + (Int32.ofInt 1)), .ref B], me_w M J)) rfl k
        rw [show ((nI (p + n)) + (Int32.ofInt 1) : Int32) = nI (p + (n + 1)) from me_add (k := 1)] at k
        have k := me_put rfl (by decide) k
        have k : nt_rn X _ 143 (85, [(4, .int (lb_v f p (min n 5))), (3, .int (nI p)), (0, .ref B), (1, .int (lo)), (2, .int (hi))], [], me_w M (nt_u J B 15 (nI (p + (n + 1))))) _ := k
        have k := ly_revb 1 (c' := (34, [(4, .int (lb_v f p (min n 5))), (3, .int (nI p)), (0, .ref B), (1, .int (lo)), (2, .int (hi))], [], me_w M (nt_u J B 15 (nI (p + (n + 1)))))) rfl k
        have ev : lb_v f p (min n 5) = lb_v f p (min (n + 1) 5) := by rw [show min n 5 = 5 from by omega, show min (n + 1) 5 = 5 from by omega]
        rw [ev] at k
        have k := ih (n + 1) _ hc1 (by omega) (mg_Sq (y := p + (n + 1)) hP hS) k
        rw [me_uu] at k
        exact k
      · rw [if_neg (show ¬ ((Int32.ofInt 5) ≤ (nI n)) from show ¬ nI 5 ≤ nI n from nI_ge (Nat.not_le.mp h52) (by omega))] at k
        have k := ly_revb 4 (c' := (61, [(4, .int (lb_v f p (min n 5))), (3, .int (nI p)), (0, .ref B), (1, .int (lo)), (2, .int (hi))], [.ref B, .int ((Int32.ofInt 10) * (lb_v f p (min n 5)))], me_w M J)) rfl k
        have k := lz_get (a := B) (g := 1100) (M := me_w M J) (v := .ref Tb) rfl (nt_gfR rfl hP.1.1) k
        have k := ly_revb 1 (c' := (65, [(4, .int (lb_v f p (min n 5))), (3, .int (nI p)), (0, .ref B), (1, .int (lo)), (2, .int (hi))], [.ref B, .ref Tb, .int ((Int32.ofInt 10) * (lb_v f p (min n 5)))], me_w M J)) rfl k
        have k := lz_get (a := B) (g := 1115) (M := me_w M J) (v := .int (nI (p + n))) rfl (congrArg Value.int (hS.1)) k
        have k := me_bald (q := (p + n)) (v := f ((p + n))) rfl (rfl) (by omega) (mg_f hP hS ((p + n))) k
        have k := ly_revb 6 (c' := (77, [(4, .int ((((Int32.ofInt 10) * (lb_v f p (min n 5))) + (f ((p + n)))) - (Int32.ofInt 48))), (3, .int (nI p)), (0, .ref B), (1, .int (lo)), (2, .int (hi))], [.ref B, .ref B], me_w M J)) rfl k
        have k := lz_get (a := B) (g := 1115) (M := me_w M J) (v := .int (nI (p + n))) rfl (congrArg Value.int (hS.1)) k
        have k := ly_revb 2 (c' := (82, [(4, .int ((((Int32.ofInt 10) * (lb_v f p (min n 5))) + (f ((p + n)))) - (Int32.ofInt 48))), (3, .int (nI p)), (0, .ref B), (1, .int (lo)), (2, .int (hi))], [.int ((nI (p + n)) + (Int32.ofInt 1)), .ref B], me_w M J)) rfl k
        rw [show ((nI (p + n)) + (Int32.ofInt 1) : Int32) = nI (p + (n + 1)) from me_add (k := 1)] at k
        have k := me_put rfl (by decide) k
        have k : nt_rn X _ 143 (85, [(4, .int ((((Int32.ofInt 10) * (lb_v f p (min n 5))) + (f ((p + n)))) - (Int32.ofInt 48))), (3, .int (nI p)), (0, .ref B), (1, .int (lo)), (2, .int (hi))], [], me_w M (nt_u J B 15 (nI (p + (n + 1))))) _ := k
        have k := ly_revb 1 (c' := (34, [(4, .int ((((Int32.ofInt 10) * (lb_v f p (min n 5))) + (f ((p + n)))) - (Int32.ofInt 48))), (3, .int (nI p)), (0, .ref B), (1, .int (lo)), (2, .int (hi))], [], me_w M (nt_u J B 15 (nI (p + (n + 1)))))) rfl k
        have ev : (((Int32.ofInt 10) * (lb_v f p (min n 5))) + (f ((p + n)))) - (Int32.ofInt 48) = lb_v f p (min (n + 1) 5) := by
          rw [show min n 5 = n from by omega, show min (n + 1) 5 = n + 1 from by omega, Int32.mul_comm]
          rfl
        rw [ev] at k
        have k := ih (n + 1) _ hc1 (by omega) (mg_Sq (y := p + (n + 1)) hP hS) k
        rw [me_uu] at k
        exact k
    · have k : nt_rn X _ 143 (42, [(4, .int (lb_v f p (min n 5))), (3, .int (nI p)), (0, .ref B), (1, .int (lo)), (2, .int (hi))], [.int (Int32.ofInt 0)], me_w M J) _ := k
      exact absurd hdg hr
theorem mg_num {G : Nat → Int32} {X : nt_X} {d t x B Tb Sg Ln q m : Nat} {f : Nat → Int32} {M : nt_M} {J0 J : Nat → Nat → Int32} {o : Option Value × nt_M} {e : Nat × (Nat → Int32)} {lo hi : Int32} (hP : md_P M J0 f t x B Tb Sg Ln) (hS : mg_S G J0 B Sg Ln x q 0 m e J) (hp : q ≤ t) (k : nt_ev X d 143 [.ref B, .int (lo), .int (hi)] (me_w M J) o) : ∃ r J', o = (some (.int r), me_w M J') ∧ ((lb_d f t (lb_s f t q) = 0 ∧ r = Int32.ofInt 0 ∧ mg_S G J0 B Sg Ln x (lb_s f t q) (lb_c (lb_s f t q) (Int32.ofInt 0)) m e J') ∨ (0 < lb_d f t (lb_s f t q) ∧ (5 < lb_d f t (lb_s f t q) ∨ ¬ (lo.toInt ≤ (lb_v f (lb_s f t q) (lb_d f t (lb_s f t q))).toInt ∧ (lb_v f (lb_s f t q) (lb_d f t (lb_s f t q))).toInt ≤ hi.toInt)) ∧ r = Int32.ofInt 0 ∧ mg_S G J0 B Sg Ln x (lb_s f t q + lb_d f t (lb_s f t q)) (lb_c (lb_s f t q) (Int32.ofInt 1)) m e J') ∨ (0 < lb_d f t (lb_s f t q) ∧ lb_d f t (lb_s f t q) ≤ 5 ∧ (lo.toInt ≤ (lb_v f (lb_s f t q) (lb_d f t (lb_s f t q))).toInt ∧ (lb_v f (lb_s f t q) (lb_d f t (lb_s f t q))).toInt ≤ hi.toInt) ∧ r = Int32.ofInt 1 ∧ mg_S G J0 B Sg Ln x (lb_s f t q + lb_d f t (lb_s f t q)) 0 m e J' ∧ J' B 17 = lb_v f (lb_s f t q) (lb_d f t (lb_s f t q)))) := by
  have k : nt_rn X d 143 (0, [(0, .ref B), (1, .int (lo)), (2, .int (hi))], [], me_w M J) o := k
  have t4 : t ≤ 400 := hP.2.2.2.2.2.1
  have hp1 : lb_s f t q ≤ t := (lb_s_le (t - q) q (by omega)).2
  have hD : lb_s f t q + lb_d f t (lb_s f t q) ≤ t := lb_d_le (t - lb_s f t q) (lb_s f t q) (by omega)
  have k := ly_revb 1 (c' := (1, [(0, .ref B), (1, .int (lo)), (2, .int (hi))], [.ref B], me_w M J)) rfl k
  obtain ⟨d1, o1, ed, kc, k⟩ := lz_c (g := 136) (q := 1) (vs := [.ref B]) (rest := []) rfl rfl (by decide) (Or.inr (Or.inl ⟨_, rfl, rfl⟩)) rfl k
  have e1 := mg_see hP hS hp kc
  subst e1
  have hS1 := mg_Sq (y := lb_s f t q) hP hS
  have hp1 : lb_s f t q ≤ t := (lb_s_le (t - q) q (by omega)).2
  have k : nt_rn X _ 143 (4, [(0, .ref B), (1, .int (lo)), (2, .int (hi))], [.int (lb_g f t (lb_s f t q))], me_w M (nt_u J B 15 (nI (lb_s f t q)))) _ := k
  have k := ly_revb 3 (c' := (7, [(0, .ref B), (1, .int (lo)), (2, .int (hi))], [.ref B, .ref B], me_w M (nt_u J B 15 (nI (lb_s f t q))))) rfl k
  have k := lz_get (a := B) (g := 1115) (M := me_w M (nt_u J B 15 (nI (lb_s f t q)))) (v := .int (nI (lb_s f t q))) rfl (congrArg Value.int (hS1.1)) k
  obtain ⟨d1, o1, ed, kc, k⟩ := lz_c (g := 144) (q := 1) (vs := [.ref B, .int (nI (lb_s f t q))]) (rest := []) rfl rfl (by decide) (Or.inr (Or.inl ⟨_, rfl, rfl⟩)) rfl k
  obtain ⟨r, e1, hr⟩ := mg_isDigit hP hS1 hp1 (by omega) kc
  subst e1
  rcases hr with ⟨rfl, hr⟩ | ⟨rfl, hr⟩
  · have k : nt_rn X _ 143 (13, [(0, .ref B), (1, .int (lo)), (2, .int (hi))], [.int (Int32.ofInt 1)], me_w M (nt_u J B 15 (nI (lb_s f t q)))) _ := k
    have k := ly_revb 1 (c' := (if (Int32.ofInt 1) = 0 then 16 else 26, [(0, .ref B), (1, .int (lo)), (2, .int (hi))], [], me_w M (nt_u J B 15 (nI (lb_s f t q))))) rfl k
    rw [if_neg (show ¬ ((Int32.ofInt 1) = 0) from by decide)] at k
    have k := ly_revb 1 (c' := (27, [(0, .ref B), (1, .int (lo)), (2, .int (hi))], [.ref B], me_w M (nt_u J B 15 (nI (lb_s f t q))))) rfl k
    have k := lz_get (a := B) (g := 1115) (M := me_w M (nt_u J B 15 (nI (lb_s f t q)))) (v := .int (nI (lb_s f t q))) rfl (congrArg Value.int (hS1.1)) k
    have k := ly_revb 3 (c' := (34, [(4, .int (Int32.ofInt 0)), (3, .int (nI (lb_s f t q))), (0, .ref B), (1, .int (lo)), (2, .int (hi))], [], me_w M (nt_u J B 15 (nI (lb_s f t q))))) rfl k
    have hd0 : 0 < lb_d f t (lb_s f t q) := by rw [lb_d1 hr]; omega
    have k := mg_nhl (p := lb_s f t q) (D := lb_d f t (lb_s f t q)) hP hD (lb_d f t (lb_s f t q)) 0 _ rfl (by omega) hS1 k
    rw [me_uu] at k
    have hS2 := mg_Sq (y := lb_s f t q + lb_d f t (lb_s f t q)) hP hS
    have k : nt_rn X _ 143 (88, [(4, .int (lb_v f (lb_s f t q) (min (lb_d f t (lb_s f t q)) 5))), (3, .int (nI (lb_s f t q))), (0, .ref B), (1, .int (lo)), (2, .int (hi))], [], me_w M (nt_u J B 15 (nI (lb_s f t q + lb_d f t (lb_s f t q))))) _ := k
    have hS3 := mg_Sn (y := lb_v f (lb_s f t q) (min (lb_d f t (lb_s f t q)) 5)) hP hS2
    have k := ly_revb 2 (c' := (91, [(4, .int (lb_v f (lb_s f t q) (min (lb_d f t (lb_s f t q)) 5))), (3, .int (nI (lb_s f t q))), (0, .ref B), (1, .int (lo)), (2, .int (hi))], [.int (lb_v f (lb_s f t q) (min (lb_d f t (lb_s f t q)) 5)), .ref B], me_w M (nt_u J B 15 (nI (lb_s f t q + lb_d f t (lb_s f t q)))))) rfl k
    have k := me_put rfl (by decide) k
    have k : nt_rn X _ 143 (94, [(4, .int (lb_v f (lb_s f t q) (min (lb_d f t (lb_s f t q)) 5))), (3, .int (nI (lb_s f t q))), (0, .ref B), (1, .int (lo)), (2, .int (hi))], [], me_w M (nt_u (nt_u J B 15 (nI (lb_s f t q + lb_d f t (lb_s f t q)))) B 17 (lb_v f (lb_s f t q) (min (lb_d f t (lb_s f t q)) 5)))) _ := k
    have k := ly_revb 1 (c' := (95, [(4, .int (lb_v f (lb_s f t q) (min (lb_d f t (lb_s f t q)) 5))), (3, .int (nI (lb_s f t q))), (0, .ref B), (1, .int (lo)), (2, .int (hi))], [.ref B], me_w M (nt_u (nt_u J B 15 (nI (lb_s f t q + lb_d f t (lb_s f t q)))) B 17 (lb_v f (lb_s f t q) (min (lb_d f t (lb_s f t q)) 5))))) rfl k
    have k := lz_get (a := B) (g := 1115) (M := me_w M (nt_u (nt_u J B 15 (nI (lb_s f t q + lb_d f t (lb_s f t q)))) B 17 (lb_v f (lb_s f t q) (min (lb_d f t (lb_s f t q)) 5)))) (v := .int (nI (lb_s f t q + lb_d f t (lb_s f t q)))) rfl (congrArg Value.int ((me_uk (by decide)).trans (hS2.1))) k
    have k := ly_revb 2 (c' := (100, [(4, .int (lb_v f (lb_s f t q) (min (lb_d f t (lb_s f t q)) 5))), (3, .int (nI (lb_s f t q))), (0, .ref B), (1, .int (lo)), (2, .int (hi))], [.int ((nI (lb_s f t q + lb_d f t (lb_s f t q))) - (nI (lb_s f t q)))], me_w M (nt_u (nt_u J B 15 (nI (lb_s f t q + lb_d f t (lb_s f t q)))) B 17 (lb_v f (lb_s f t q) (min (lb_d f t (lb_s f t q)) 5))))) rfl k
    rw [show ((nI (lb_s f t q + lb_d f t (lb_s f t q))) - (nI (lb_s f t q)) : Int32) = nI (lb_d f t (lb_s f t q)) from (me_subn (by omega)).trans (congrArg nI (by omega))] at k
    have k := ly_revb 2 (c' := (if (Int32.ofInt 5) < (nI (lb_d f t (lb_s f t q))) then 117 else 104, [(4, .int (lb_v f (lb_s f t q) (min (lb_d f t (lb_s f t q)) 5))), (3, .int (nI (lb_s f t q))), (0, .ref B), (1, .int (lo)), (2, .int (hi))], [], me_w M (nt_u (nt_u J B 15 (nI (lb_s f t q + lb_d f t (lb_s f t q)))) B 17 (lb_v f (lb_s f t q) (min (lb_d f t (lb_s f t q)) 5))))) rfl k
    by_cases h101 : 5 < lb_d f t (lb_s f t q)
    · rw [if_pos (show (Int32.ofInt 5) < (nI (lb_d f t (lb_s f t q))) from show nI 5 < nI (lb_d f t (lb_s f t q)) from nI_lt h101 (by omega))] at k
      have k := ly_revb 3 (c' := (120, [(4, .int (lb_v f (lb_s f t q) (min (lb_d f t (lb_s f t q)) 5))), (3, .int (nI (lb_s f t q))), (0, .ref B), (1, .int (lo)), (2, .int (hi))], [.int (nI (lb_s f t q)), .int (Int32.ofInt 1), .ref B], me_w M (nt_u (nt_u J B 15 (nI (lb_s f t q + lb_d f t (lb_s f t q)))) B 17 (lb_v f (lb_s f t q) (min (lb_d f t (lb_s f t q)) 5))))) rfl k
      obtain ⟨d1, o1, ed, kc, k⟩ := lz_c (g := 139) (q := 1) (vs := [.ref B, .int (Int32.ofInt 1), .int (nI (lb_s f t q))]) (rest := []) rfl rfl (by decide) (Or.inr (Or.inl ⟨_, rfl, rfl⟩)) rfl k
      obtain ⟨hf, e1⟩ := (mg_fails (a := lb_s f t q) hP hS3 hD kc).resolve_right (fun c => c.1 rfl)
      subst e1
      have hS9 := mg_Sw (y := lb_c (lb_s f t q) (Int32.ofInt 1)) hP hS3
      have k : nt_rn X _ 143 (123, [(4, .int (lb_v f (lb_s f t q) (min (lb_d f t (lb_s f t q)) 5))), (3, .int (nI (lb_s f t q))), (0, .ref B), (1, .int (lo)), (2, .int (hi))], [.int (Int32.ofInt 0)], me_w M (nt_u (nt_u (nt_u J B 15 (nI (lb_s f t q + lb_d f t (lb_s f t q)))) B 17 (lb_v f (lb_s f t q) (min (lb_d f t (lb_s f t q)) 5))) B 16 (lb_c (lb_s f t q) (Int32.ofInt 1)))) _ := k
      have k := ly_revb 1 (c' := (if (Int32.ofInt 0) = 0 then 130 else 126, [(4, .int (lb_v f (lb_s f t q) (min (lb_d f t (lb_s f t q)) 5))), (3, .int (nI (lb_s f t q))), (0, .ref B), (1, .int (lo)), (2, .int (hi))], [], me_w M (nt_u (nt_u (nt_u J B 15 (nI (lb_s f t q + lb_d f t (lb_s f t q)))) B 17 (lb_v f (lb_s f t q) (min (lb_d f t (lb_s f t q)) 5))) B 16 (lb_c (lb_s f t q) (Int32.ofInt 1))))) rfl k
      rw [if_pos (show (Int32.ofInt 0) = 0 from by decide)] at k
      have k := ly_revb 1 (c' := (131, [(4, .int (lb_v f (lb_s f t q) (min (lb_d f t (lb_s f t q)) 5))), (3, .int (nI (lb_s f t q))), (0, .ref B), (1, .int (lo)), (2, .int (hi))], [.int (Int32.ofInt 0)], me_w M (nt_u (nt_u (nt_u J B 15 (nI (lb_s f t q + lb_d f t (lb_s f t q)))) B 17 (lb_v f (lb_s f t q) (min (lb_d f t (lb_s f t q)) 5))) B 16 (lb_c (lb_s f t q) (Int32.ofInt 1))))) rfl k
      have k := lz_ri rfl (by decide) k
      exact ⟨_, _, k, Or.inr (Or.inl ⟨hd0, Or.inl h101, rfl, hS9⟩)⟩
    · rw [if_neg (show ¬ ((Int32.ofInt 5) < (nI (lb_d f t (lb_s f t q)))) from show ¬ nI 5 < nI (lb_d f t (lb_s f t q)) from nI_nlt (Nat.not_lt.mp h101) (by omega))] at k
      have k := ly_revb 6 (c' := (111, [(4, .int (lb_v f (lb_s f t q) (min (lb_d f t (lb_s f t q)) 5))), (3, .int (nI (lb_s f t q))), (0, .ref B), (1, .int (lo)), (2, .int (hi))], [.long (hi.toInt64), .long (lo.toInt64), .long ((lb_v f (lb_s f t q) (min (lb_d f t (lb_s f t q)) 5)).toInt64)], me_w M (nt_u (nt_u J B 15 (nI (lb_s f t q + lb_d f t (lb_s f t q)))) B 17 (lb_v f (lb_s f t q) (min (lb_d f t (lb_s f t q)) 5))))) rfl k
      obtain ⟨d1, o1, ed, kc, k⟩ := lz_c (g := 145) (q := 0) (vs := [.long ((lb_v f (lb_s f t q) (min (lb_d f t (lb_s f t q)) 5)).toInt64), .long (lo.toInt64), .long (hi.toInt64)]) (rest := []) rfl rfl (by decide) (Or.inl ⟨_, rfl, rfl⟩) rfl k
      obtain ⟨r, e1, hi9⟩ := md_in kc
      subst e1
      rcases hi9 with ⟨rfl, hi9⟩ | ⟨rfl, hi9⟩
      · have k : nt_rn X _ 143 (114, [(4, .int (lb_v f (lb_s f t q) (min (lb_d f t (lb_s f t q)) 5))), (3, .int (nI (lb_s f t q))), (0, .ref B), (1, .int (lo)), (2, .int (hi))], [.int (Int32.ofInt 1)], me_w M (nt_u (nt_u J B 15 (nI (lb_s f t q + lb_d f t (lb_s f t q)))) B 17 (lb_v f (lb_s f t q) (min (lb_d f t (lb_s f t q)) 5)))) _ := k
        have k := ly_revb 1 (c' := (if (Int32.ofInt 1) = 0 then 117 else 126, [(4, .int (lb_v f (lb_s f t q) (min (lb_d f t (lb_s f t q)) 5))), (3, .int (nI (lb_s f t q))), (0, .ref B), (1, .int (lo)), (2, .int (hi))], [], me_w M (nt_u (nt_u J B 15 (nI (lb_s f t q + lb_d f t (lb_s f t q)))) B 17 (lb_v f (lb_s f t q) (min (lb_d f t (lb_s f t q)) 5))))) rfl k
        rw [if_neg (show ¬ ((Int32.ofInt 1) = 0) from by decide)] at k
        have k := ly_revb 2 (c' := (131, [(4, .int (lb_v f (lb_s f t q) (min (lb_d f t (lb_s f t q)) 5))), (3, .int (nI (lb_s f t q))), (0, .ref B), (1, .int (lo)), (2, .int (hi))], [.int (Int32.ofInt 1)], me_w M (nt_u (nt_u J B 15 (nI (lb_s f t q + lb_d f t (lb_s f t q)))) B 17 (lb_v f (lb_s f t q) (min (lb_d f t (lb_s f t q)) 5))))) rfl k
        have k := lz_ri rfl (by decide) k
        rw [show min (lb_d f t (lb_s f t q)) 5 = lb_d f t (lb_s f t q) from by omega] at hi9
        refine ⟨_, _, k, Or.inr (Or.inr ⟨hd0, by omega, hi9, rfl, hS3, ?_⟩)⟩
        rw [me_us, show min (lb_d f t (lb_s f t q)) 5 = lb_d f t (lb_s f t q) from by omega]
      · have k : nt_rn X _ 143 (114, [(4, .int (lb_v f (lb_s f t q) (min (lb_d f t (lb_s f t q)) 5))), (3, .int (nI (lb_s f t q))), (0, .ref B), (1, .int (lo)), (2, .int (hi))], [.int (Int32.ofInt 0)], me_w M (nt_u (nt_u J B 15 (nI (lb_s f t q + lb_d f t (lb_s f t q)))) B 17 (lb_v f (lb_s f t q) (min (lb_d f t (lb_s f t q)) 5)))) _ := k
        have k := ly_revb 1 (c' := (if (Int32.ofInt 0) = 0 then 117 else 126, [(4, .int (lb_v f (lb_s f t q) (min (lb_d f t (lb_s f t q)) 5))), (3, .int (nI (lb_s f t q))), (0, .ref B), (1, .int (lo)), (2, .int (hi))], [], me_w M (nt_u (nt_u J B 15 (nI (lb_s f t q + lb_d f t (lb_s f t q)))) B 17 (lb_v f (lb_s f t q) (min (lb_d f t (lb_s f t q)) 5))))) rfl k
        rw [if_pos (show (Int32.ofInt 0) = 0 from by decide)] at k
        have k := ly_revb 3 (c' := (120, [(4, .int (lb_v f (lb_s f t q) (min (lb_d f t (lb_s f t q)) 5))), (3, .int (nI (lb_s f t q))), (0, .ref B), (1, .int (lo)), (2, .int (hi))], [.int (nI (lb_s f t q)), .int (Int32.ofInt 1), .ref B], me_w M (nt_u (nt_u J B 15 (nI (lb_s f t q + lb_d f t (lb_s f t q)))) B 17 (lb_v f (lb_s f t q) (min (lb_d f t (lb_s f t q)) 5))))) rfl k
        obtain ⟨d1, o1, ed, kc, k⟩ := lz_c (g := 139) (q := 1) (vs := [.ref B, .int (Int32.ofInt 1), .int (nI (lb_s f t q))]) (rest := []) rfl rfl (by decide) (Or.inr (Or.inl ⟨_, rfl, rfl⟩)) rfl k
        obtain ⟨hf, e1⟩ := (mg_fails (a := lb_s f t q) hP hS3 hD kc).resolve_right (fun c => c.1 rfl)
        subst e1
        have hS9 := mg_Sw (y := lb_c (lb_s f t q) (Int32.ofInt 1)) hP hS3
        have k : nt_rn X _ 143 (123, [(4, .int (lb_v f (lb_s f t q) (min (lb_d f t (lb_s f t q)) 5))), (3, .int (nI (lb_s f t q))), (0, .ref B), (1, .int (lo)), (2, .int (hi))], [.int (Int32.ofInt 0)], me_w M (nt_u (nt_u (nt_u J B 15 (nI (lb_s f t q + lb_d f t (lb_s f t q)))) B 17 (lb_v f (lb_s f t q) (min (lb_d f t (lb_s f t q)) 5))) B 16 (lb_c (lb_s f t q) (Int32.ofInt 1)))) _ := k
        have k := ly_revb 1 (c' := (if (Int32.ofInt 0) = 0 then 130 else 126, [(4, .int (lb_v f (lb_s f t q) (min (lb_d f t (lb_s f t q)) 5))), (3, .int (nI (lb_s f t q))), (0, .ref B), (1, .int (lo)), (2, .int (hi))], [], me_w M (nt_u (nt_u (nt_u J B 15 (nI (lb_s f t q + lb_d f t (lb_s f t q)))) B 17 (lb_v f (lb_s f t q) (min (lb_d f t (lb_s f t q)) 5))) B 16 (lb_c (lb_s f t q) (Int32.ofInt 1))))) rfl k
        rw [if_pos (show (Int32.ofInt 0) = 0 from by decide)] at k
        have k := ly_revb 1 (c' := (131, [(4, .int (lb_v f (lb_s f t q) (min (lb_d f t (lb_s f t q)) 5))), (3, .int (nI (lb_s f t q))), (0, .ref B), (1, .int (lo)), (2, .int (hi))], [.int (Int32.ofInt 0)], me_w M (nt_u (nt_u (nt_u J B 15 (nI (lb_s f t q + lb_d f t (lb_s f t q)))) B 17 (lb_v f (lb_s f t q) (min (lb_d f t (lb_s f t q)) 5))) B 16 (lb_c (lb_s f t q) (Int32.ofInt 1))))) rfl k
        have k := lz_ri rfl (by decide) k
        rw [show min (lb_d f t (lb_s f t q)) 5 = lb_d f t (lb_s f t q) from by omega] at hi9
        exact ⟨_, _, k, Or.inr (Or.inl ⟨hd0, Or.inr hi9, rfl, hS9⟩)⟩
  · have k : nt_rn X _ 143 (13, [(0, .ref B), (1, .int (lo)), (2, .int (hi))], [.int (Int32.ofInt 0)], me_w M (nt_u J B 15 (nI (lb_s f t q)))) _ := k
    have k := ly_revb 1 (c' := (if (Int32.ofInt 0) = 0 then 16 else 26, [(0, .ref B), (1, .int (lo)), (2, .int (hi))], [], me_w M (nt_u J B 15 (nI (lb_s f t q))))) rfl k
    rw [if_pos (show (Int32.ofInt 0) = 0 from by decide)] at k
    have k := ly_revb 3 (c' := (19, [(0, .ref B), (1, .int (lo)), (2, .int (hi))], [.ref B, .int (Int32.ofInt 0), .ref B], me_w M (nt_u J B 15 (nI (lb_s f t q))))) rfl k
    have k := lz_get (a := B) (g := 1115) (M := me_w M (nt_u J B 15 (nI (lb_s f t q)))) (v := .int (nI (lb_s f t q))) rfl (congrArg Value.int (hS1.1)) k
    obtain ⟨d1, o1, ed, kc, k⟩ := lz_c (g := 139) (q := 1) (vs := [.ref B, .int (Int32.ofInt 0), .int (nI (lb_s f t q))]) (rest := []) rfl rfl (by decide) (Or.inr (Or.inl ⟨_, rfl, rfl⟩)) rfl k
    obtain ⟨hf, e1⟩ := (mg_fails (a := lb_s f t q) hP hS1 hp1 kc).resolve_right (fun c => c.1 rfl)
    subst e1
    have hS9 := mg_Sw (y := lb_c (lb_s f t q) (Int32.ofInt 0)) hP hS1
    have k : nt_rn X _ 143 (25, [(0, .ref B), (1, .int (lo)), (2, .int (hi))], [.int (Int32.ofInt 0)], me_w M (nt_u (nt_u J B 15 (nI (lb_s f t q))) B 16 (lb_c (lb_s f t q) (Int32.ofInt 0)))) _ := k
    have k := lz_ri rfl (by decide) k
    exact ⟨_, _, k, Or.inl ⟨lb_d0 hr, rfl, hS9⟩⟩
def mg_Q (G : Nat → Int32) (J0 : Nat → Nat → Int32) (B Sg Ln x t : Nat) (f : Nat → Int32) (r : lb_Y) (a : Int32) (J : Nat → Nat → Int32) : Prop := match r with
  | .inl c => c ≠ 0 ∧ a = Int32.ofInt 0 ∧ ∃ q m e, mg_S G J0 B Sg Ln x q c m e J ∧ q ≤ t
  | .inr z => a = Int32.ofInt 1 ∧ ∃ q, lb_s f t q = z.1 ∧ q ≤ t ∧ mg_S G J0 B Sg Ln x q 0 z.2.1 z.2.2.2 J
theorem mg_value {G : Nat → Int32} {X : nt_X} {d t x B Tb Sg Ln q m : Nat} {f : Nat → Int32} {M : nt_M} {J0 J : Nat → Nat → Int32} {o : Option Value × nt_M} {e : Nat × (Nat → Int32)} {s0 : Nat × (Nat → Int32)} (hP : md_P M J0 f t x B Tb Sg Ln) (hS : mg_S G J0 B Sg Ln x q 0 m e J) (hp : q ≤ t) (k : nt_ev X d 153 [.ref B] (me_w M J) o) : ∃ r a J', o = (some (.int a), me_w M J') ∧ lb_val f t (lb_s f t q, m, (s0, e)) r ∧ mg_Q G J0 B Sg Ln x t f r a J' := by
  have k : nt_rn X d 153 (0, [(0, .ref B)], [], me_w M J) o := k
  have t4 : t ≤ 400 := hP.2.2.2.2.2.1
  have hD : lb_s f t q + lb_d f t (lb_s f t q) ≤ t := by
    have := (lb_s_le (f := f) (t := t) (t - q) q (by omega)).2
    exact lb_d_le (t - lb_s f t q) (lb_s f t q) (by omega)
  have hss : lb_s f t (lb_s f t q) = lb_s f t q := lb_ss hp
  have m6 : m ≤ 60 := hS.2.2.2.2.2.2.2.2
  have k := ly_revb 1 (c' := (1, [(0, .ref B)], [.ref B], me_w M J)) rfl k
  obtain ⟨d1, o1, ed, kc, k⟩ := lz_c (g := 136) (q := 1) (vs := [.ref B]) (rest := []) rfl rfl (by decide) (Or.inr (Or.inl ⟨_, rfl, rfl⟩)) rfl k
  have e1 := mg_see hP hS hp kc
  subst e1
  have hS1 := mg_Sq (y := lb_s f t q) hP hS
  have hp1 : lb_s f t q ≤ t := (lb_s_le (t - q) q (by omega)).2
  have k : nt_rn X _ 153 (4, [(0, .ref B)], [.int (lb_g f t (lb_s f t q))], me_w M (nt_u J B 15 (nI (lb_s f t q)))) _ := k
  have k := ly_revb 2 (c' := (6, [(0, .ref B)], [.ref B], me_w M (nt_u J B 15 (nI (lb_s f t q))))) rfl k
  have k := lz_get (a := B) (g := 1115) (M := me_w M (nt_u J B 15 (nI (lb_s f t q)))) (v := .int (nI (lb_s f t q))) rfl (congrArg Value.int (hS1.1)) k
  have k := ly_revb 3 (c' := (12, [(1, .int (nI (lb_s f t q))), (0, .ref B)], [.ref B, .ref B], me_w M (nt_u J B 15 (nI (lb_s f t q))))) rfl k
  have k := lz_get (a := B) (g := 1115) (M := me_w M (nt_u J B 15 (nI (lb_s f t q)))) (v := .int (nI (lb_s f t q))) rfl (congrArg Value.int (hS1.1)) k
  obtain ⟨d1, o1, ed, kc, k⟩ := lz_c (g := 144) (q := 1) (vs := [.ref B, .int (nI (lb_s f t q))]) (rest := []) rfl rfl (by decide) (Or.inr (Or.inl ⟨_, rfl, rfl⟩)) rfl k
  obtain ⟨r, e1, hr⟩ := mg_isDigit hP hS1 hp1 (by omega) kc
  subst e1
  rcases hr with ⟨rfl, hr⟩ | ⟨rfl, hr⟩
  · have k : nt_rn X _ 153 (18, [(1, .int (nI (lb_s f t q))), (0, .ref B)], [.int (Int32.ofInt 1)], me_w M (nt_u J B 15 (nI (lb_s f t q)))) _ := k
    have k := ly_revb 1 (c' := (if (Int32.ofInt 1) = 0 then 52 else 21, [(1, .int (nI (lb_s f t q))), (0, .ref B)], [], me_w M (nt_u J B 15 (nI (lb_s f t q))))) rfl k
    rw [if_neg (show ¬ ((Int32.ofInt 1) = 0) from by decide)] at k
    have k := ly_revb 3 (c' := (25, [(1, .int (nI (lb_s f t q))), (0, .ref B)], [.int (Int32.ofInt 99999), .int (Int32.ofInt 0), .ref B], me_w M (nt_u J B 15 (nI (lb_s f t q))))) rfl k
    obtain ⟨d1, o1, ed, kc, k⟩ := lz_c (g := 143) (q := 1) (vs := [.ref B, .int (Int32.ofInt 0), .int (Int32.ofInt 99999)]) (rest := []) rfl rfl (by decide) (Or.inr (Or.inl ⟨_, rfl, rfl⟩)) rfl k
    obtain ⟨r, J5, e1, hn⟩ := mg_num hP hS1 hp1 kc
    rw [hss] at hn
    subst e1
    rcases hn with ⟨h0, _⟩ | ⟨hd0, hbad, rfl, hS5⟩ | ⟨hd0, hd5, hin, rfl, hS5, h17⟩
    · rw [lb_d1 hr] at h0
      omega
    · have k : nt_rn X _ 153 (28, [(1, .int (nI (lb_s f t q))), (0, .ref B)], [.int (Int32.ofInt 0)], me_w M J5) _ := k
      have k := ly_revb 1 (c' := (if (Int32.ofInt 0) = 0 then 39 else 31, [(1, .int (nI (lb_s f t q))), (0, .ref B)], [], me_w M J5)) rfl k
      rw [if_pos (show (Int32.ofInt 0) = 0 from by decide)] at k
      have k := ly_revb 1 (c' := (40, [(1, .int (nI (lb_s f t q))), (0, .ref B)], [.int (Int32.ofInt 0)], me_w M J5)) rfl k
      have k := lz_ri rfl (by decide) k
      refine ⟨.inl (lb_c (lb_s f t q) (Int32.ofInt 1)), _, _, k, ?_, (lb_c_ne (by omega) (by decide) (by decide)), rfl, _, _, _, hS5, hD⟩
      unfold lb_val
      dsimp only
      exact Or.inl ⟨Classical.byContradiction (fun c => hbad.elim c (fun c2 => c2 (lb_v_in (by omega)))), rfl⟩
    · have k : nt_rn X _ 153 (28, [(1, .int (nI (lb_s f t q))), (0, .ref B)], [.int (Int32.ofInt 1)], me_w M J5) _ := k
      have k := ly_revb 1 (c' := (if (Int32.ofInt 1) = 0 then 39 else 31, [(1, .int (nI (lb_s f t q))), (0, .ref B)], [], me_w M J5)) rfl k
      rw [if_neg (show ¬ ((Int32.ofInt 1) = 0) from by decide)] at k
      have k := ly_revb 2 (c' := (33, [(1, .int (nI (lb_s f t q))), (0, .ref B)], [.int (nI (lb_s f t q)), .ref B], me_w M J5)) rfl k
      obtain ⟨d1, o1, ed, kc, k⟩ := lz_c (g := 154) (q := 1) (vs := [.ref B, .int (nI (lb_s f t q))]) (rest := []) rfl rfl (by decide) (Or.inr (Or.inl ⟨_, rfl, rfl⟩)) rfl k
      rcases mg_makes (a := lb_s f t q) hP hS5 hD rfl kc with ⟨hm, e1⟩ | ⟨hm, e1⟩
      · subst e1
        have hS6 := mg_Sw (y := lb_c (lb_s f t q) (Int32.ofInt 3)) hP hS5
        have k : nt_rn X _ 153 (36, [(1, .int (nI (lb_s f t q))), (0, .ref B)], [.int (Int32.ofInt 0)], me_w M (nt_u J5 B 16 (lb_c (lb_s f t q) (Int32.ofInt 3)))) _ := k
        have k := ly_revb 1 (c' := (if (Int32.ofInt 0) = 0 then 39 else 41, [(1, .int (nI (lb_s f t q))), (0, .ref B)], [], me_w M (nt_u J5 B 16 (lb_c (lb_s f t q) (Int32.ofInt 3))))) rfl k
        rw [if_pos (show (Int32.ofInt 0) = 0 from by decide)] at k
        have k := ly_revb 1 (c' := (40, [(1, .int (nI (lb_s f t q))), (0, .ref B)], [.int (Int32.ofInt 0)], me_w M (nt_u J5 B 16 (lb_c (lb_s f t q) (Int32.ofInt 3))))) rfl k
        have k := lz_ri rfl (by decide) k
        refine ⟨.inl (lb_c (lb_s f t q) (Int32.ofInt 3)), _, _, k, ?_, (lb_c_ne (by omega) (by decide) (by decide)), rfl, _, _, _, hS6, hD⟩
        unfold lb_val
        dsimp only
        exact Or.inr (Or.inl ⟨hd0, hd5, hm, rfl⟩)
      · subst e1
        have hS6 := mg_Sm (y := m + 1) hP hS5 (by omega)
        have k : nt_rn X _ 153 (36, [(1, .int (nI (lb_s f t q))), (0, .ref B)], [.int (Int32.ofInt 1)], me_w M (nt_u J5 B 19 (nI (m + 1)))) _ := k
        have k := ly_revb 1 (c' := (if (Int32.ofInt 1) = 0 then 39 else 41, [(1, .int (nI (lb_s f t q))), (0, .ref B)], [], me_w M (nt_u J5 B 19 (nI (m + 1))))) rfl k
        rw [if_neg (show ¬ ((Int32.ofInt 1) = 0) from by decide)] at k
        have k := ly_revb 3 (c' := (44, [(1, .int (nI (lb_s f t q))), (0, .ref B)], [.ref B, .int (Int32.ofInt 0), .ref B], me_w M (nt_u J5 B 19 (nI (m + 1))))) rfl k
        have k := lz_get (a := B) (g := 1117) (M := me_w M (nt_u J5 B 19 (nI (m + 1)))) (v := .int (lb_v f (lb_s f t q) (lb_d f t (lb_s f t q)))) rfl (congrArg Value.int ((me_uk (by decide)).trans h17)) k
        obtain ⟨d1, o1, ed, kc, k⟩ := lz_c (g := 155) (q := 1) (vs := [.ref B, .int (Int32.ofInt 0), .int (lb_v f (lb_s f t q) (lb_d f t (lb_s f t q)))]) (rest := []) rfl rfl (by decide) (Or.inr (Or.inl ⟨_, rfl, rfl⟩)) rfl k
        obtain ⟨hb, e1⟩ := mg_puts hP hS6 hD kc
        subst e1
        have hS8 := mg_Se (y := (Int32.ofInt 0) + Int32.ofInt 16 * (lb_v f (lb_s f t q) (lb_d f t (lb_s f t q)))) hP hS6 hb
        have k : nt_rn X _ 153 (50, [(1, .int (nI (lb_s f t q))), (0, .ref B)], [], me_w M (nt_u (nt_u (nt_u J5 B 19 (nI (m + 1))) Sg (400 * x + e.1) ((Int32.ofInt 0) + Int32.ofInt 16 * (lb_v f (lb_s f t q) (lb_d f t (lb_s f t q))))) Ln x (nI (e.1 + 1)))) _ := k
        have k := ly_revb 1 (c' := (51, [(1, .int (nI (lb_s f t q))), (0, .ref B)], [.int (Int32.ofInt 1)], me_w M (nt_u (nt_u (nt_u J5 B 19 (nI (m + 1))) Sg (400 * x + e.1) ((Int32.ofInt 0) + Int32.ofInt 16 * (lb_v f (lb_s f t q) (lb_d f t (lb_s f t q))))) Ln x (nI (e.1 + 1))))) rfl k
        have k := lz_ri rfl (by decide) k
        refine ⟨.inr (lb_s f t (lb_s f t q + lb_d f t (lb_s f t q)), m + 1, lb_em (s0, e) (Int32.ofInt 100 + lb_v f (lb_s f t q) (lb_d f t (lb_s f t q))) (Int32.ofInt 0 + Int32.ofInt 16 * lb_v f (lb_s f t q) (lb_d f t (lb_s f t q)))), _, _, k, ?_, ?_⟩
        · unfold lb_val
          dsimp only
          exact Or.inr (Or.inr (Or.inl ⟨hd0, hd5, hm, rfl⟩))
        · unfold mg_Q lb_em
          dsimp only
          exact ⟨rfl, lb_s f t q + lb_d f t (lb_s f t q), rfl, hD, hS8⟩
  · have k : nt_rn X _ 153 (18, [(1, .int (nI (lb_s f t q))), (0, .ref B)], [.int (Int32.ofInt 0)], me_w M (nt_u J B 15 (nI (lb_s f t q)))) _ := k
    have k := ly_revb 1 (c' := (if (Int32.ofInt 0) = 0 then 52 else 21, [(1, .int (nI (lb_s f t q))), (0, .ref B)], [], me_w M (nt_u J B 15 (nI (lb_s f t q))))) rfl k
    rw [if_pos (show (Int32.ofInt 0) = 0 from by decide)] at k
    have k := ly_revb 1 (c' := (53, [(1, .int (nI (lb_s f t q))), (0, .ref B)], [.ref B], me_w M (nt_u J B 15 (nI (lb_s f t q))))) rfl k
    obtain ⟨d1, o1, ed, kc, k⟩ := lz_c (g := 156) (q := 1) (vs := [.ref B]) (rest := []) rfl rfl (by decide) (Or.inr (Or.inl ⟨_, rfl, rfl⟩)) rfl k
    obtain ⟨r, e1, hw⟩ := mg_wordHere hP hS1 hp1 kc
    rw [hss] at hw
    rw [hss, me_uu] at e1
    subst e1
    rcases hw with ⟨w, hw, e1, hat, hbe⟩ | ⟨e1, hno⟩
    · subst e1
      have k : nt_rn X _ 153 (56, [(1, .int (nI (lb_s f t q))), (0, .ref B)], [.int (nI w)], me_w M (nt_u J B 15 (nI (lb_s f t q)))) _ := k
      have k := ly_revb 3 (c' := (if 0 ≤ (nI w) then 68 else 61, [(2, .int (nI w)), (1, .int (nI (lb_s f t q))), (0, .ref B)], [], me_w M (nt_u J B 15 (nI (lb_s f t q))))) rfl k
      rw [if_pos (show 0 ≤ (nI w) from nI_pos' (by omega))] at k
      have k := ly_revb 2 (c' := (70, [(2, .int (nI w)), (1, .int (nI (lb_s f t q))), (0, .ref B)], [.int (nI (lb_s f t q)), .ref B], me_w M (nt_u J B 15 (nI (lb_s f t q))))) rfl k
      obtain ⟨d1, o1, ed, kc, k⟩ := lz_c (g := 154) (q := 1) (vs := [.ref B, .int (nI (lb_s f t q))]) (rest := []) rfl rfl (by decide) (Or.inr (Or.inl ⟨_, rfl, rfl⟩)) rfl k
      rcases mg_makes (a := lb_s f t q) hP hS1 hp1 rfl kc with ⟨hm, e1⟩ | ⟨hm, e1⟩
      · subst e1
        have hS6 := mg_Sw (y := lb_c (lb_s f t q) (Int32.ofInt 3)) hP hS1
        have k : nt_rn X _ 153 (73, [(2, .int (nI w)), (1, .int (nI (lb_s f t q))), (0, .ref B)], [.int (Int32.ofInt 0)], me_w M (nt_u (nt_u J B 15 (nI (lb_s f t q))) B 16 (lb_c (lb_s f t q) (Int32.ofInt 3)))) _ := k
        have k := ly_revb 1 (c' := (if (Int32.ofInt 0) = 0 then 76 else 78, [(2, .int (nI w)), (1, .int (nI (lb_s f t q))), (0, .ref B)], [], me_w M (nt_u (nt_u J B 15 (nI (lb_s f t q))) B 16 (lb_c (lb_s f t q) (Int32.ofInt 3))))) rfl k
        rw [if_pos (show (Int32.ofInt 0) = 0 from by decide)] at k
        have k := ly_revb 1 (c' := (77, [(2, .int (nI w)), (1, .int (nI (lb_s f t q))), (0, .ref B)], [.int (Int32.ofInt 0)], me_w M (nt_u (nt_u J B 15 (nI (lb_s f t q))) B 16 (lb_c (lb_s f t q) (Int32.ofInt 3))))) rfl k
        have k := lz_ri rfl (by decide) k
        refine ⟨.inl (lb_c (lb_s f t q) (Int32.ofInt 3)), _, _, k, ?_, (lb_c_ne (by omega) (by decide) (by decide)), rfl, _, _, _, hS6, hp1⟩
        unfold lb_val
        dsimp only
        exact Or.inr (Or.inr (Or.inr (Or.inr ⟨lb_d0 hr, w, hw, hat, hbe, Or.inl ⟨hm, rfl⟩⟩)))
      · subst e1
        have hS6 := mg_Sm (y := m + 1) hP hS1 (by omega)
        have k : nt_rn X _ 153 (73, [(2, .int (nI w)), (1, .int (nI (lb_s f t q))), (0, .ref B)], [.int (Int32.ofInt 1)], me_w M (nt_u (nt_u J B 15 (nI (lb_s f t q))) B 19 (nI (m + 1)))) _ := k
        have k := ly_revb 1 (c' := (if (Int32.ofInt 1) = 0 then 76 else 78, [(2, .int (nI w)), (1, .int (nI (lb_s f t q))), (0, .ref B)], [], me_w M (nt_u (nt_u J B 15 (nI (lb_s f t q))) B 19 (nI (m + 1))))) rfl k
        rw [if_neg (show ¬ ((Int32.ofInt 1) = 0) from by decide)] at k
        have k := ly_revb 1 (c' := (79, [(2, .int (nI w)), (1, .int (nI (lb_s f t q))), (0, .ref B)], [.ref B], me_w M (nt_u (nt_u J B 15 (nI (lb_s f t q))) B 19 (nI (m + 1))))) rfl k
        obtain ⟨d1, o1, ed, kc, k⟩ := lz_c (g := 142) (q := 1) (vs := [.ref B]) (rest := []) rfl rfl (by decide) (Or.inr (Or.inl ⟨_, rfl, rfl⟩)) rfl k
        have e1 := mg_pass hP hS6 hp1 kc
        rw [lb_at_l hat] at e1
        subst e1
        have hS7 := mg_Sq (y := lb_s f t q + (lb_W (lb_wd w)).length) hP hS6
        have hpw : lb_s f t q + (lb_W (lb_wd w)).length ≤ t := hat.1
        have k : nt_rn X _ 153 (82, [(2, .int (nI w)), (1, .int (nI (lb_s f t q))), (0, .ref B)], [], me_w M (nt_u (nt_u (nt_u J B 15 (nI (lb_s f t q))) B 19 (nI (m + 1))) B 15 (nI (lb_s f t q + (lb_W (lb_wd w)).length)))) _ := k
        have k := ly_revb 3 (c' := (85, [(2, .int (nI w)), (1, .int (nI (lb_s f t q))), (0, .ref B)], [.int (nI w), .int (Int32.ofInt 1), .ref B], me_w M (nt_u (nt_u (nt_u J B 15 (nI (lb_s f t q))) B 19 (nI (m + 1))) B 15 (nI (lb_s f t q + (lb_W (lb_wd w)).length))))) rfl k
        obtain ⟨d1, o1, ed, kc, k⟩ := lz_c (g := 155) (q := 1) (vs := [.ref B, .int (Int32.ofInt 1), .int (nI w)]) (rest := []) rfl rfl (by decide) (Or.inr (Or.inl ⟨_, rfl, rfl⟩)) rfl k
        obtain ⟨hb, e1⟩ := mg_puts hP hS7 hpw kc
        subst e1
        have hS8 := mg_Se (y := (Int32.ofInt 1) + Int32.ofInt 16 * (nI w)) hP hS7 hb
        have k : nt_rn X _ 153 (88, [(2, .int (nI w)), (1, .int (nI (lb_s f t q))), (0, .ref B)], [], me_w M (nt_u (nt_u (nt_u (nt_u (nt_u J B 15 (nI (lb_s f t q))) B 19 (nI (m + 1))) B 15 (nI (lb_s f t q + (lb_W (lb_wd w)).length))) Sg (400 * x + e.1) ((Int32.ofInt 1) + Int32.ofInt 16 * (nI w))) Ln x (nI (e.1 + 1)))) _ := k
        have k := ly_revb 1 (c' := (89, [(2, .int (nI w)), (1, .int (nI (lb_s f t q))), (0, .ref B)], [.int (Int32.ofInt 1)], me_w M (nt_u (nt_u (nt_u (nt_u (nt_u J B 15 (nI (lb_s f t q))) B 19 (nI (m + 1))) B 15 (nI (lb_s f t q + (lb_W (lb_wd w)).length))) Sg (400 * x + e.1) ((Int32.ofInt 1) + Int32.ofInt 16 * (nI w))) Ln x (nI (e.1 + 1))))) rfl k
        have k := lz_ri rfl (by decide) k
        refine ⟨.inr (lb_s f t (lb_s f t q + (lb_W (lb_wd w)).length), m + 1, lb_em (s0, e) (nI w) (Int32.ofInt 1 + Int32.ofInt 16 * nI w)), _, _, k, ?_, ?_⟩
        · unfold lb_val
          dsimp only
          exact Or.inr (Or.inr (Or.inr (Or.inr ⟨lb_d0 hr, w, hw, hat, hbe, Or.inr ⟨hm, rfl⟩⟩)))
        · unfold mg_Q lb_em
          dsimp only
          exact ⟨rfl, lb_s f t q + (lb_W (lb_wd w)).length, rfl, hpw, hS8⟩
    · subst e1
      have k : nt_rn X _ 153 (56, [(1, .int (nI (lb_s f t q))), (0, .ref B)], [.int (Int32.ofInt (-1))], me_w M (nt_u J B 15 (nI (lb_s f t q)))) _ := k
      have k := ly_revb 3 (c' := (if 0 ≤ (Int32.ofInt (-1)) then 68 else 61, [(2, .int (Int32.ofInt (-1))), (1, .int (nI (lb_s f t q))), (0, .ref B)], [], me_w M (nt_u J B 15 (nI (lb_s f t q))))) rfl k
      rw [if_neg (show ¬ (0 ≤ (Int32.ofInt (-1))) from by decide)] at k
      have k := ly_revb 3 (c' := (64, [(2, .int (Int32.ofInt (-1))), (1, .int (nI (lb_s f t q))), (0, .ref B)], [.int (nI (lb_s f t q)), .int (Int32.ofInt 0), .ref B], me_w M (nt_u J B 15 (nI (lb_s f t q))))) rfl k
      obtain ⟨d1, o1, ed, kc, k⟩ := lz_c (g := 139) (q := 1) (vs := [.ref B, .int (Int32.ofInt 0), .int (nI (lb_s f t q))]) (rest := []) rfl rfl (by decide) (Or.inr (Or.inl ⟨_, rfl, rfl⟩)) rfl k
      obtain ⟨hf, e1⟩ := (mg_fails (a := lb_s f t q) hP hS1 hp1 kc).resolve_right (fun c => c.1 rfl)
      subst e1
      have hS9 := mg_Sw (y := lb_c (lb_s f t q) (Int32.ofInt 0)) hP hS1
      have k : nt_rn X _ 153 (67, [(2, .int (Int32.ofInt (-1))), (1, .int (nI (lb_s f t q))), (0, .ref B)], [.int (Int32.ofInt 0)], me_w M (nt_u (nt_u J B 15 (nI (lb_s f t q))) B 16 (lb_c (lb_s f t q) (Int32.ofInt 0)))) _ := k
      have k := lz_ri rfl (by decide) k
      refine ⟨.inl (lb_c (lb_s f t q) (Int32.ofInt 0)), _, _, k, ?_, (lb_c_ne (by omega) (by decide) (by decide)), rfl, _, _, _, hS9, hp1⟩
      unfold lb_val
      dsimp only
      exact Or.inr (Or.inr (Or.inr (Or.inl ⟨lb_d0 hr, hno, rfl⟩)))
theorem mg_terml {G : Nat → Int32} {X : nt_X} {d t x B Tb Sg Ln : Nat} {f : Nat → Int32} {M : nt_M} {J0 : Nat → Nat → Int32} {o : Option Value × nt_M} (hP : md_P M J0 f t x B Tb Sg Ln) (hB : lb_by f t) : ∀ (c q m : Nat) (e : Nat × (Nat → Int32)) (J : Nat → Nat → Int32) (s0 : Nat × (Nat → Int32)) (s9 : Int32), t - lb_s f t q < c → mg_S G J0 B Sg Ln x q 0 m e J → q ≤ t → nt_rn X d 152 (9, [(1, .int s9), (0, .ref B)], [], me_w M J) o → ∃ r a J', o = (some (.int a), me_w M J') ∧ (∃ k, lb_lp f t (lb_val f t) (Int32.ofInt 12) (Int32.ofInt 13) k (lb_s f t q, m, (s0, e)) r) ∧ mg_Q G J0 B Sg Ln x t f r a J' := by
  have t4 : t ≤ 400 := hP.2.2.2.2.2.1
  intro cc
  induction cc with
  | zero => intro q m e J s0 s9 hc; omega
  | succ cc ih =>
    intro q m e J s0 s9 hcc hS hp k
    have k := ly_revb 1 (c' := (10, [(1, .int (s9)), (0, .ref B)], [.ref B], me_w M J)) rfl k
    obtain ⟨d1, o1, ed, kc, k⟩ := lz_c (g := 136) (q := 1) (vs := [.ref B]) (rest := []) rfl rfl (by decide) (Or.inr (Or.inl ⟨_, rfl, rfl⟩)) rfl k
    have e1 := mg_see hP hS hp kc
    subst e1
    have hS10 := mg_Sq (y := lb_s f t q) hP hS
    have hp10 : lb_s f t q ≤ t := (lb_s_le (t - q) q (by omega)).2
    have k : nt_rn X _ 152 (13, [(1, .int (s9)), (0, .ref B)], [.int (lb_g f t (lb_s f t q))], me_w M (nt_u J B 15 (nI (lb_s f t q)))) _ := k
    have k := ly_revb 2 (c' := (if (lb_g f t (lb_s f t q)) = (Int32.ofInt 42) then 27 else 18, [(1, .int (s9)), (0, .ref B)], [], me_w M (nt_u J B 15 (nI (lb_s f t q))))) rfl k
    by_cases h15 : lb_g f t (lb_s f t q) = Int32.ofInt 42
    · rw [if_pos (show (lb_g f t (lb_s f t q)) = (Int32.ofInt 42) from h15)] at k
      have k := ly_revb 1 (c' := (28, [(1, .int (s9)), (0, .ref B)], [.ref B], me_w M (nt_u J B 15 (nI (lb_s f t q))))) rfl k
      have k := lz_get (a := B) (g := 1100) (M := me_w M (nt_u J B 15 (nI (lb_s f t q)))) (v := .ref Tb) rfl (nt_gfR rfl hP.1.1) k
      have k := ly_revb 1 (c' := (32, [(1, .int (s9)), (0, .ref B)], [.ref B, .ref Tb], me_w M (nt_u J B 15 (nI (lb_s f t q))))) rfl k
      have k := lz_get (a := B) (g := 1115) (M := me_w M (nt_u J B 15 (nI (lb_s f t q)))) (v := .int (nI (lb_s f t q))) rfl (congrArg Value.int (hS10.1)) k
      have k := me_bald (q := (lb_s f t q)) (v := f ((lb_s f t q))) rfl (rfl) (by omega) (mg_f hP hS10 ((lb_s f t q))) k
      have k := ly_revb 2 (c' := (if (f ((lb_s f t q))) = (Int32.ofInt 42) then 41 else 45, [(1, .int (s9)), (0, .ref B)], [], me_w M (nt_u J B 15 (nI (lb_s f t q))))) rfl k
      have hlt : lb_s f t q < t := lb_g_lt (by rw [h15]; decide)
      rw [if_pos (show (f ((lb_s f t q))) = (Int32.ofInt 42) from lb_g1 hB hlt (by decide) (by decide) h15)] at k
      have k := ly_revb 5 (c' := (49, [(1, .int (Int32.ofInt 4)), (0, .ref B)], [.ref B, .ref B], me_w M (nt_u J B 15 (nI (lb_s f t q))))) rfl k
      have k := lz_get (a := B) (g := 1115) (M := me_w M (nt_u J B 15 (nI (lb_s f t q)))) (v := .int (nI (lb_s f t q))) rfl (congrArg Value.int (hS10.1)) k
      have k := ly_revb 2 (c' := (54, [(1, .int (Int32.ofInt 4)), (0, .ref B)], [.int ((nI (lb_s f t q)) + (Int32.ofInt 1)), .ref B], me_w M (nt_u J B 15 (nI (lb_s f t q))))) rfl k
      rw [show ((nI (lb_s f t q)) + (Int32.ofInt 1) : Int32) = nI ((lb_s f t q) + 1) from me_add (k := 1)] at k
      have k := me_put rfl (by decide) k
      have k : nt_rn X _ 152 (57, [(1, .int (Int32.ofInt 4)), (0, .ref B)], [], me_w M (nt_u (nt_u J B 15 (nI (lb_s f t q))) B 15 (nI ((lb_s f t q) + 1)))) _ := k
      have hV0 := mg_Sq (y := lb_s f t q + 1) hP hS10
      have k := ly_revb 1 (c' := (58, [(1, .int (Int32.ofInt 4)), (0, .ref B)], [.ref B], me_w M (nt_u (nt_u J B 15 (nI (lb_s f t q))) B 15 (nI ((lb_s f t q) + 1))))) rfl k
      obtain ⟨d1, o1, ed, kc, k⟩ := lz_c (g := 153) (q := 1) (vs := [.ref B]) (rest := []) rfl rfl (by decide) (Or.inr (Or.inl ⟨_, rfl, rfl⟩)) rfl k
      obtain ⟨r1, a1, J1, e1, hv1, hQ1⟩ := mg_value (s0 := s0) hP hV0 (show lb_s f t q + 1 ≤ t from hlt) kc
      subst e1
      rcases r1 with c | z1
      · obtain ⟨hc, rfl, q1, m1, e1, hT1, hq1⟩ := hQ1
        have k : nt_rn X _ 152 (61, [(1, .int (Int32.ofInt 4)), (0, .ref B)], [.int (Int32.ofInt 0)], me_w M J1) _ := k
        have k := ly_revb 1 (c' := (if (Int32.ofInt 0) = 0 then 64 else 66, [(1, .int (Int32.ofInt 4)), (0, .ref B)], [], me_w M J1)) rfl k
        rw [if_pos (show (Int32.ofInt 0) = 0 from by decide)] at k
        have k := ly_revb 1 (c' := (65, [(1, .int (Int32.ofInt 4)), (0, .ref B)], [.int (Int32.ofInt 0)], me_w M J1)) rfl k
        have k := lz_ri rfl (by decide) k
        have ho : lb_op (lb_g f t (lb_s f t q)) = Int32.ofInt 12 := by rw [h15]; decide
        have hl2 : lb_lp f t (lb_val f t) (Int32.ofInt 12) (Int32.ofInt 13) 1 (lb_s f t q, m, (s0, e)) (.inl c) := Or.inr ⟨Or.inl ho, _, hv1, Or.inl ⟨c, rfl, rfl⟩⟩
        exact ⟨_, _, _, k, ⟨_, hl2⟩, ⟨hc, rfl, _, _, _, hT1, hq1⟩⟩
      · obtain ⟨rfl, q1, hz1, hq1, hT1⟩ := hQ1
        have k : nt_rn X _ 152 (61, [(1, .int (Int32.ofInt 4)), (0, .ref B)], [.int (Int32.ofInt 1)], me_w M J1) _ := k
        have k := ly_revb 1 (c' := (if (Int32.ofInt 1) = 0 then 64 else 66, [(1, .int (Int32.ofInt 4)), (0, .ref B)], [], me_w M J1)) rfl k
        rw [if_neg (show ¬ ((Int32.ofInt 1) = 0) from by decide)] at k
        have k := ly_revb 3 (c' := (69, [(1, .int (Int32.ofInt 4)), (0, .ref B)], [.int (Int32.ofInt 0), .int (Int32.ofInt 4), .ref B], me_w M J1)) rfl k
        obtain ⟨d1, o1, ed, kc, k⟩ := lz_c (g := 155) (q := 1) (vs := [.ref B, .int (Int32.ofInt 4), .int (Int32.ofInt 0)]) (rest := []) rfl rfl (by decide) (Or.inr (Or.inl ⟨_, rfl, rfl⟩)) rfl k
        obtain ⟨hb, e1⟩ := mg_puts hP hT1 hq1 kc
        subst e1
        have hU1 := mg_Se (y := (Int32.ofInt 4) + Int32.ofInt 16 * (Int32.ofInt 0)) hP hT1 hb
        have k : nt_rn X _ 152 (72, [(1, .int (Int32.ofInt 4)), (0, .ref B)], [], me_w M (nt_u (nt_u J1 Sg (400 * x + z1.2.2.2.1) ((Int32.ofInt 4) + Int32.ofInt 16 * (Int32.ofInt 0))) Ln x (nI (z1.2.2.2.1 + 1)))) _ := k
        have k := ly_revb 1 (c' := (9, [(1, .int (Int32.ofInt 4)), (0, .ref B)], [], me_w M (nt_u (nt_u J1 Sg (400 * x + z1.2.2.2.1) ((Int32.ofInt 4) + Int32.ofInt 16 * (Int32.ofInt 0))) Ln x (nI (z1.2.2.2.1 + 1))))) rfl k
        have hup := lb_val_up ((lb_s_le (f := f) (t := t) (t - (lb_s f t q + 1)) (lb_s f t q + 1) (by omega)).2) hv1
        have hsl := lb_s_le (f := f) (t := t) (t - (lb_s f t q + 1)) (lb_s f t q + 1) (by omega)
        dsimp only at hup
        obtain ⟨r, a, J9, e9, ⟨kk, hl⟩, hQ⟩ := ih q1 _ _ _ (lb_e z1.2.2.1 (Int32.ofInt 12)) _ (by rw [hz1]; omega) hU1 hq1 k
        rw [hz1, ← lb_ew_c (e := z1.2.2) (w := Int32.ofInt 12) (by decide) (by decide)] at hl
        have ho : lb_op (lb_g f t (lb_s f t q)) = Int32.ofInt 12 := by rw [h15]; decide
        have hl2 : lb_lp f t (lb_val f t) (Int32.ofInt 12) (Int32.ofInt 13) (kk + 1) (lb_s f t q, m, (s0, e)) r := Or.inr ⟨Or.inl ho, _, hv1, Or.inr ⟨_, rfl, by dsimp only; rw [ho]; exact hl⟩⟩
        exact ⟨_, _, _, e9, ⟨_, hl2⟩, hQ⟩
    · rw [if_neg (show ¬ ((lb_g f t (lb_s f t q)) = (Int32.ofInt 42)) from h15)] at k
      have k := ly_revb 1 (c' := (19, [(1, .int (s9)), (0, .ref B)], [.ref B], me_w M (nt_u J B 15 (nI (lb_s f t q))))) rfl k
      obtain ⟨d1, o1, ed, kc, k⟩ := lz_c (g := 136) (q := 1) (vs := [.ref B]) (rest := []) rfl rfl (by decide) (Or.inr (Or.inl ⟨_, rfl, rfl⟩)) rfl k
      have e1 := mg_see hP hS10 hp10 kc
      rw [lb_ss hp, me_uu] at e1
      subst e1
      have k : nt_rn X _ 152 (22, [(1, .int (s9)), (0, .ref B)], [.int (lb_g f t (lb_s f t q))], me_w M (nt_u J B 15 (nI (lb_s f t q)))) _ := k
      have k := ly_revb 2 (c' := (if (lb_g f t (lb_s f t q)) = (Int32.ofInt 47) then 27 else 75, [(1, .int (s9)), (0, .ref B)], [], me_w M (nt_u J B 15 (nI (lb_s f t q))))) rfl k
      by_cases h24 : lb_g f t (lb_s f t q) = Int32.ofInt 47
      · rw [if_pos (show (lb_g f t (lb_s f t q)) = (Int32.ofInt 47) from h24)] at k
        have k := ly_revb 1 (c' := (28, [(1, .int (s9)), (0, .ref B)], [.ref B], me_w M (nt_u J B 15 (nI (lb_s f t q))))) rfl k
        have k := lz_get (a := B) (g := 1100) (M := me_w M (nt_u J B 15 (nI (lb_s f t q)))) (v := .ref Tb) rfl (nt_gfR rfl hP.1.1) k
        have k := ly_revb 1 (c' := (32, [(1, .int (s9)), (0, .ref B)], [.ref B, .ref Tb], me_w M (nt_u J B 15 (nI (lb_s f t q))))) rfl k
        have k := lz_get (a := B) (g := 1115) (M := me_w M (nt_u J B 15 (nI (lb_s f t q)))) (v := .int (nI (lb_s f t q))) rfl (congrArg Value.int (hS10.1)) k
        have k := me_bald (q := (lb_s f t q)) (v := f ((lb_s f t q))) rfl (rfl) (by omega) (mg_f hP hS10 ((lb_s f t q))) k
        have k := ly_revb 2 (c' := (if (f ((lb_s f t q))) = (Int32.ofInt 42) then 41 else 45, [(1, .int (s9)), (0, .ref B)], [], me_w M (nt_u J B 15 (nI (lb_s f t q))))) rfl k
        have hlt : lb_s f t q < t := lb_g_lt (by rw [h24]; decide)
        rw [if_neg (show ¬ ((f ((lb_s f t q))) = (Int32.ofInt 42)) from fun c => h15 (lb_g2 hB hlt (by decide) c))] at k
        have k := ly_revb 4 (c' := (49, [(1, .int (Int32.ofInt 5)), (0, .ref B)], [.ref B, .ref B], me_w M (nt_u J B 15 (nI (lb_s f t q))))) rfl k
        have k := lz_get (a := B) (g := 1115) (M := me_w M (nt_u J B 15 (nI (lb_s f t q)))) (v := .int (nI (lb_s f t q))) rfl (congrArg Value.int (hS10.1)) k
        have k := ly_revb 2 (c' := (54, [(1, .int (Int32.ofInt 5)), (0, .ref B)], [.int ((nI (lb_s f t q)) + (Int32.ofInt 1)), .ref B], me_w M (nt_u J B 15 (nI (lb_s f t q))))) rfl k
        rw [show ((nI (lb_s f t q)) + (Int32.ofInt 1) : Int32) = nI ((lb_s f t q) + 1) from me_add (k := 1)] at k
        have k := me_put rfl (by decide) k
        have k : nt_rn X _ 152 (57, [(1, .int (Int32.ofInt 5)), (0, .ref B)], [], me_w M (nt_u (nt_u J B 15 (nI (lb_s f t q))) B 15 (nI ((lb_s f t q) + 1)))) _ := k
        have hV0 := mg_Sq (y := lb_s f t q + 1) hP hS10
        have k := ly_revb 1 (c' := (58, [(1, .int (Int32.ofInt 5)), (0, .ref B)], [.ref B], me_w M (nt_u (nt_u J B 15 (nI (lb_s f t q))) B 15 (nI ((lb_s f t q) + 1))))) rfl k
        obtain ⟨d1, o1, ed, kc, k⟩ := lz_c (g := 153) (q := 1) (vs := [.ref B]) (rest := []) rfl rfl (by decide) (Or.inr (Or.inl ⟨_, rfl, rfl⟩)) rfl k
        obtain ⟨r1, a1, J1, e1, hv1, hQ1⟩ := mg_value (s0 := s0) hP hV0 (show lb_s f t q + 1 ≤ t from hlt) kc
        subst e1
        rcases r1 with c | z1
        · obtain ⟨hc, rfl, q1, m1, e1, hT1, hq1⟩ := hQ1
          have k : nt_rn X _ 152 (61, [(1, .int (Int32.ofInt 5)), (0, .ref B)], [.int (Int32.ofInt 0)], me_w M J1) _ := k
          have k := ly_revb 1 (c' := (if (Int32.ofInt 0) = 0 then 64 else 66, [(1, .int (Int32.ofInt 5)), (0, .ref B)], [], me_w M J1)) rfl k
          rw [if_pos (show (Int32.ofInt 0) = 0 from by decide)] at k
          have k := ly_revb 1 (c' := (65, [(1, .int (Int32.ofInt 5)), (0, .ref B)], [.int (Int32.ofInt 0)], me_w M J1)) rfl k
          have k := lz_ri rfl (by decide) k
          have ho : lb_op (lb_g f t (lb_s f t q)) = Int32.ofInt 13 := by rw [h24]; decide
          have hl2 : lb_lp f t (lb_val f t) (Int32.ofInt 12) (Int32.ofInt 13) 1 (lb_s f t q, m, (s0, e)) (.inl c) := Or.inr ⟨Or.inr ho, _, hv1, Or.inl ⟨c, rfl, rfl⟩⟩
          exact ⟨_, _, _, k, ⟨_, hl2⟩, ⟨hc, rfl, _, _, _, hT1, hq1⟩⟩
        · obtain ⟨rfl, q1, hz1, hq1, hT1⟩ := hQ1
          have k : nt_rn X _ 152 (61, [(1, .int (Int32.ofInt 5)), (0, .ref B)], [.int (Int32.ofInt 1)], me_w M J1) _ := k
          have k := ly_revb 1 (c' := (if (Int32.ofInt 1) = 0 then 64 else 66, [(1, .int (Int32.ofInt 5)), (0, .ref B)], [], me_w M J1)) rfl k
          rw [if_neg (show ¬ ((Int32.ofInt 1) = 0) from by decide)] at k
          have k := ly_revb 3 (c' := (69, [(1, .int (Int32.ofInt 5)), (0, .ref B)], [.int (Int32.ofInt 0), .int (Int32.ofInt 5), .ref B], me_w M J1)) rfl k
          obtain ⟨d1, o1, ed, kc, k⟩ := lz_c (g := 155) (q := 1) (vs := [.ref B, .int (Int32.ofInt 5), .int (Int32.ofInt 0)]) (rest := []) rfl rfl (by decide) (Or.inr (Or.inl ⟨_, rfl, rfl⟩)) rfl k
          obtain ⟨hb, e1⟩ := mg_puts hP hT1 hq1 kc
          subst e1
          have hU1 := mg_Se (y := (Int32.ofInt 5) + Int32.ofInt 16 * (Int32.ofInt 0)) hP hT1 hb
          have k : nt_rn X _ 152 (72, [(1, .int (Int32.ofInt 5)), (0, .ref B)], [], me_w M (nt_u (nt_u J1 Sg (400 * x + z1.2.2.2.1) ((Int32.ofInt 5) + Int32.ofInt 16 * (Int32.ofInt 0))) Ln x (nI (z1.2.2.2.1 + 1)))) _ := k
          have k := ly_revb 1 (c' := (9, [(1, .int (Int32.ofInt 5)), (0, .ref B)], [], me_w M (nt_u (nt_u J1 Sg (400 * x + z1.2.2.2.1) ((Int32.ofInt 5) + Int32.ofInt 16 * (Int32.ofInt 0))) Ln x (nI (z1.2.2.2.1 + 1))))) rfl k
          have hup := lb_val_up ((lb_s_le (f := f) (t := t) (t - (lb_s f t q + 1)) (lb_s f t q + 1) (by omega)).2) hv1
          have hsl := lb_s_le (f := f) (t := t) (t - (lb_s f t q + 1)) (lb_s f t q + 1) (by omega)
          dsimp only at hup
          obtain ⟨r, a, J9, e9, ⟨kk, hl⟩, hQ⟩ := ih q1 _ _ _ (lb_e z1.2.2.1 (Int32.ofInt 13)) _ (by rw [hz1]; omega) hU1 hq1 k
          rw [hz1, ← lb_ew_c (e := z1.2.2) (w := Int32.ofInt 13) (by decide) (by decide)] at hl
          have ho : lb_op (lb_g f t (lb_s f t q)) = Int32.ofInt 13 := by rw [h24]; decide
          have hl2 : lb_lp f t (lb_val f t) (Int32.ofInt 12) (Int32.ofInt 13) (kk + 1) (lb_s f t q, m, (s0, e)) r := Or.inr ⟨Or.inr ho, _, hv1, Or.inr ⟨_, rfl, by dsimp only; rw [ho]; exact hl⟩⟩
          exact ⟨_, _, _, e9, ⟨_, hl2⟩, hQ⟩
      · rw [if_neg (show ¬ ((lb_g f t (lb_s f t q)) = (Int32.ofInt 47)) from h24)] at k
        have k := ly_revb 1 (c' := (76, [(1, .int (s9)), (0, .ref B)], [.int (Int32.ofInt 1)], me_w M (nt_u J B 15 (nI (lb_s f t q))))) rfl k
        have k := lz_ri rfl (by decide) k
        have hno : ¬ (lb_op (lb_g f t (lb_s f t q)) = Int32.ofInt 12 ∨ lb_op (lb_g f t (lb_s f t q)) = Int32.ofInt 13) := fun hh => hh.elim (fun c => h15 (lb_op_i.2.2.1 c)) (fun c => h24 (lb_op_i.2.2.2 c))
        have hl2 : lb_lp f t (lb_val f t) (Int32.ofInt 12) (Int32.ofInt 13) 1 (lb_s f t q, m, (s0, e)) (.inr (lb_s f t q, m, (s0, e))) := Or.inl ⟨hno, rfl⟩
        exact ⟨_, _, _, k, ⟨_, hl2⟩, ⟨rfl, _, lb_ss hp, hp10, hS10⟩⟩
theorem mg_term {G : Nat → Int32} {X : nt_X} {d t x B Tb Sg Ln q m : Nat} {f : Nat → Int32} {M : nt_M} {J0 J : Nat → Nat → Int32} {o : Option Value × nt_M} {e : Nat × (Nat → Int32)} {s0 : Nat × (Nat → Int32)} (hP : md_P M J0 f t x B Tb Sg Ln) (hB : lb_by f t) (hS : mg_S G J0 B Sg Ln x q 0 m e J) (hp : q ≤ t) (k : nt_ev X d 152 [.ref B] (me_w M J) o) : ∃ r a J', o = (some (.int a), me_w M J') ∧ lb_te f t (lb_s f t q, m, (s0, e)) r ∧ mg_Q G J0 B Sg Ln x t f r a J' := by
  have k : nt_rn X d 152 (0, [(0, .ref B)], [], me_w M J) o := k
  have t4 : t ≤ 400 := hP.2.2.2.2.2.1
  have k := ly_revb 1 (c' := (1, [(0, .ref B)], [.ref B], me_w M J)) rfl k
  obtain ⟨d1, o1, ed, kc, k⟩ := lz_c (g := 153) (q := 1) (vs := [.ref B]) (rest := []) rfl rfl (by decide) (Or.inr (Or.inl ⟨_, rfl, rfl⟩)) rfl k
  obtain ⟨r1, a1, J1, e1, hv1, hQ1⟩ := mg_value (s0 := s0) hP hS hp kc
  subst e1
  rcases r1 with c | z1
  · obtain ⟨hc, rfl, q1, m1, e1, hT1, hq1⟩ := hQ1
    have k : nt_rn X _ 152 (4, [(0, .ref B)], [.int (Int32.ofInt 0)], me_w M J1) _ := k
    have k := ly_revb 1 (c' := (if (Int32.ofInt 0) = 0 then 7 else 9, [(0, .ref B)], [], me_w M J1)) rfl k
    rw [if_pos (show (Int32.ofInt 0) = 0 from by decide)] at k
    have k := ly_revb 1 (c' := (8, [(0, .ref B)], [.int (Int32.ofInt 0)], me_w M J1)) rfl k
    have k := lz_ri rfl (by decide) k
    exact ⟨.inl c, _, _, k, ⟨_, hv1, Or.inl ⟨c, rfl, rfl⟩⟩, hc, rfl, _, _, _, hT1, hq1⟩
  · obtain ⟨rfl, q1, hz1, hq1, hT1⟩ := hQ1
    have k : nt_rn X _ 152 (4, [(0, .ref B)], [.int (Int32.ofInt 1)], me_w M J1) _ := k
    have k := ly_revb 1 (c' := (if (Int32.ofInt 1) = 0 then 7 else 9, [(0, .ref B)], [], me_w M J1)) rfl k
    rw [if_neg (show ¬ ((Int32.ofInt 1) = 0) from by decide)] at k
    have k := ly_revb 1 (c' := (10, [(0, .ref B)], [.ref B], me_w M J1)) rfl k
    obtain ⟨d1, o1, ed, kc, k⟩ := lz_c (g := 136) (q := 1) (vs := [.ref B]) (rest := []) rfl rfl (by decide) (Or.inr (Or.inl ⟨_, rfl, rfl⟩)) rfl k
    have e1 := mg_see hP hT1 hq1 kc
    subst e1
    have hS11 := mg_Sq (y := lb_s f t q1) hP hT1
    have hp11 : lb_s f t q1 ≤ t := (lb_s_le (t - q1) q1 (by omega)).2
    have k : nt_rn X _ 152 (13, [(0, .ref B)], [.int (lb_g f t (lb_s f t q1))], me_w M (nt_u J1 B 15 (nI (lb_s f t q1)))) _ := k
    have k := ly_revb 2 (c' := (if (lb_g f t (lb_s f t q1)) = (Int32.ofInt 42) then 27 else 18, [(0, .ref B)], [], me_w M (nt_u J1 B 15 (nI (lb_s f t q1))))) rfl k
    by_cases h15 : lb_g f t (lb_s f t q1) = Int32.ofInt 42
    · rw [if_pos (show (lb_g f t (lb_s f t q1)) = (Int32.ofInt 42) from h15)] at k
      have k := ly_revb 1 (c' := (28, [(0, .ref B)], [.ref B], me_w M (nt_u J1 B 15 (nI (lb_s f t q1))))) rfl k
      have k := lz_get (a := B) (g := 1100) (M := me_w M (nt_u J1 B 15 (nI (lb_s f t q1)))) (v := .ref Tb) rfl (nt_gfR rfl hP.1.1) k
      have k := ly_revb 1 (c' := (32, [(0, .ref B)], [.ref B, .ref Tb], me_w M (nt_u J1 B 15 (nI (lb_s f t q1))))) rfl k
      have k := lz_get (a := B) (g := 1115) (M := me_w M (nt_u J1 B 15 (nI (lb_s f t q1)))) (v := .int (nI (lb_s f t q1))) rfl (congrArg Value.int (hS11.1)) k
      have k := me_bald (q := (lb_s f t q1)) (v := f ((lb_s f t q1))) rfl (rfl) (by omega) (mg_f hP hS11 ((lb_s f t q1))) k
      have k := ly_revb 2 (c' := (if (f ((lb_s f t q1))) = (Int32.ofInt 42) then 41 else 45, [(0, .ref B)], [], me_w M (nt_u J1 B 15 (nI (lb_s f t q1))))) rfl k
      have hlt : lb_s f t q1 < t := lb_g_lt (by rw [h15]; decide)
      rw [if_pos (show (f ((lb_s f t q1))) = (Int32.ofInt 42) from lb_g1 hB hlt (by decide) (by decide) h15)] at k
      have k := ly_revb 5 (c' := (49, [(1, .int (Int32.ofInt 4)), (0, .ref B)], [.ref B, .ref B], me_w M (nt_u J1 B 15 (nI (lb_s f t q1))))) rfl k
      have k := lz_get (a := B) (g := 1115) (M := me_w M (nt_u J1 B 15 (nI (lb_s f t q1)))) (v := .int (nI (lb_s f t q1))) rfl (congrArg Value.int (hS11.1)) k
      have k := ly_revb 2 (c' := (54, [(1, .int (Int32.ofInt 4)), (0, .ref B)], [.int ((nI (lb_s f t q1)) + (Int32.ofInt 1)), .ref B], me_w M (nt_u J1 B 15 (nI (lb_s f t q1))))) rfl k
      rw [show ((nI (lb_s f t q1)) + (Int32.ofInt 1) : Int32) = nI ((lb_s f t q1) + 1) from me_add (k := 1)] at k
      have k := me_put rfl (by decide) k
      have k : nt_rn X _ 152 (57, [(1, .int (Int32.ofInt 4)), (0, .ref B)], [], me_w M (nt_u (nt_u J1 B 15 (nI (lb_s f t q1))) B 15 (nI ((lb_s f t q1) + 1)))) _ := k
      have hV1 := mg_Sq (y := lb_s f t q1 + 1) hP hS11
      have k := ly_revb 1 (c' := (58, [(1, .int (Int32.ofInt 4)), (0, .ref B)], [.ref B], me_w M (nt_u (nt_u J1 B 15 (nI (lb_s f t q1))) B 15 (nI ((lb_s f t q1) + 1))))) rfl k
      obtain ⟨d1, o1, ed, kc, k⟩ := lz_c (g := 153) (q := 1) (vs := [.ref B]) (rest := []) rfl rfl (by decide) (Or.inr (Or.inl ⟨_, rfl, rfl⟩)) rfl k
      obtain ⟨r2, a2, J2, e1, hv2, hQ2⟩ := mg_value (s0 := z1.2.2.1) hP hV1 (show lb_s f t q1 + 1 ≤ t from hlt) kc
      subst e1
      rcases r2 with c | z2
      · obtain ⟨hc, rfl, q2, m2, e2, hT2, hq2⟩ := hQ2
        have k : nt_rn X _ 152 (61, [(1, .int (Int32.ofInt 4)), (0, .ref B)], [.int (Int32.ofInt 0)], me_w M J2) _ := k
        have k := ly_revb 1 (c' := (if (Int32.ofInt 0) = 0 then 64 else 66, [(1, .int (Int32.ofInt 4)), (0, .ref B)], [], me_w M J2)) rfl k
        rw [if_pos (show (Int32.ofInt 0) = 0 from by decide)] at k
        have k := ly_revb 1 (c' := (65, [(1, .int (Int32.ofInt 4)), (0, .ref B)], [.int (Int32.ofInt 0)], me_w M J2)) rfl k
        have k := lz_ri rfl (by decide) k
        have ho : lb_op (lb_g f t (lb_s f t q1)) = Int32.ofInt 12 := by rw [h15]; decide
        have hl2 : lb_lp f t (lb_val f t) (Int32.ofInt 12) (Int32.ofInt 13) 1 (lb_s f t q1, z1.2.1, z1.2.2) (.inl c) := Or.inr ⟨Or.inl ho, _, hv2, Or.inl ⟨c, rfl, rfl⟩⟩
        have hzz : (lb_s f t q1, z1.2.1, z1.2.2) = z1 := by rw [hz1]
        rw [hzz] at hl2
        exact ⟨_, _, _, k, ⟨_, hv1, Or.inr ⟨_, rfl, _, hl2⟩⟩, ⟨hc, rfl, _, _, _, hT2, hq2⟩⟩
      · obtain ⟨rfl, q2, hz2, hq2, hT2⟩ := hQ2
        have k : nt_rn X _ 152 (61, [(1, .int (Int32.ofInt 4)), (0, .ref B)], [.int (Int32.ofInt 1)], me_w M J2) _ := k
        have k := ly_revb 1 (c' := (if (Int32.ofInt 1) = 0 then 64 else 66, [(1, .int (Int32.ofInt 4)), (0, .ref B)], [], me_w M J2)) rfl k
        rw [if_neg (show ¬ ((Int32.ofInt 1) = 0) from by decide)] at k
        have k := ly_revb 3 (c' := (69, [(1, .int (Int32.ofInt 4)), (0, .ref B)], [.int (Int32.ofInt 0), .int (Int32.ofInt 4), .ref B], me_w M J2)) rfl k
        obtain ⟨d1, o1, ed, kc, k⟩ := lz_c (g := 155) (q := 1) (vs := [.ref B, .int (Int32.ofInt 4), .int (Int32.ofInt 0)]) (rest := []) rfl rfl (by decide) (Or.inr (Or.inl ⟨_, rfl, rfl⟩)) rfl k
        obtain ⟨hb, e1⟩ := mg_puts hP hT2 hq2 kc
        subst e1
        have hU2 := mg_Se (y := (Int32.ofInt 4) + Int32.ofInt 16 * (Int32.ofInt 0)) hP hT2 hb
        have k : nt_rn X _ 152 (72, [(1, .int (Int32.ofInt 4)), (0, .ref B)], [], me_w M (nt_u (nt_u J2 Sg (400 * x + z2.2.2.2.1) ((Int32.ofInt 4) + Int32.ofInt 16 * (Int32.ofInt 0))) Ln x (nI (z2.2.2.2.1 + 1)))) _ := k
        have k := ly_revb 1 (c' := (9, [(1, .int (Int32.ofInt 4)), (0, .ref B)], [], me_w M (nt_u (nt_u J2 Sg (400 * x + z2.2.2.2.1) ((Int32.ofInt 4) + Int32.ofInt 16 * (Int32.ofInt 0))) Ln x (nI (z2.2.2.2.1 + 1))))) rfl k
        have hup := lb_val_up ((lb_s_le (f := f) (t := t) (t - (lb_s f t q1 + 1)) (lb_s f t q1 + 1) (by omega)).2) hv2
        have hsl := lb_s_le (f := f) (t := t) (t - (lb_s f t q1 + 1)) (lb_s f t q1 + 1) (by omega)
        dsimp only at hup
        obtain ⟨r, a, J9, e9, ⟨kk, hl⟩, hQ⟩ := mg_terml hP hB (t + 1 - 0 * z2.1) q2 _ _ _ (lb_e z2.2.2.1 (Int32.ofInt 12)) _ (by rw [hz2]; omega) hU2 hq2 k
        rw [hz2, ← lb_ew_c (e := z2.2.2) (w := Int32.ofInt 12) (by decide) (by decide)] at hl
        have ho : lb_op (lb_g f t (lb_s f t q1)) = Int32.ofInt 12 := by rw [h15]; decide
        have hl2 : lb_lp f t (lb_val f t) (Int32.ofInt 12) (Int32.ofInt 13) (kk + 1) (lb_s f t q1, z1.2.1, z1.2.2) r := Or.inr ⟨Or.inl ho, _, hv2, Or.inr ⟨_, rfl, by dsimp only; rw [ho]; exact hl⟩⟩
        have hzz : (lb_s f t q1, z1.2.1, z1.2.2) = z1 := by rw [hz1]
        rw [hzz] at hl2
        exact ⟨_, _, _, e9, ⟨_, hv1, Or.inr ⟨_, rfl, _, hl2⟩⟩, hQ⟩
    · rw [if_neg (show ¬ ((lb_g f t (lb_s f t q1)) = (Int32.ofInt 42)) from h15)] at k
      have k := ly_revb 1 (c' := (19, [(0, .ref B)], [.ref B], me_w M (nt_u J1 B 15 (nI (lb_s f t q1))))) rfl k
      obtain ⟨d1, o1, ed, kc, k⟩ := lz_c (g := 136) (q := 1) (vs := [.ref B]) (rest := []) rfl rfl (by decide) (Or.inr (Or.inl ⟨_, rfl, rfl⟩)) rfl k
      have e1 := mg_see hP hS11 hp11 kc
      rw [lb_ss hq1, me_uu] at e1
      subst e1
      have k : nt_rn X _ 152 (22, [(0, .ref B)], [.int (lb_g f t (lb_s f t q1))], me_w M (nt_u J1 B 15 (nI (lb_s f t q1)))) _ := k
      have k := ly_revb 2 (c' := (if (lb_g f t (lb_s f t q1)) = (Int32.ofInt 47) then 27 else 75, [(0, .ref B)], [], me_w M (nt_u J1 B 15 (nI (lb_s f t q1))))) rfl k
      by_cases h24 : lb_g f t (lb_s f t q1) = Int32.ofInt 47
      · rw [if_pos (show (lb_g f t (lb_s f t q1)) = (Int32.ofInt 47) from h24)] at k
        have k := ly_revb 1 (c' := (28, [(0, .ref B)], [.ref B], me_w M (nt_u J1 B 15 (nI (lb_s f t q1))))) rfl k
        have k := lz_get (a := B) (g := 1100) (M := me_w M (nt_u J1 B 15 (nI (lb_s f t q1)))) (v := .ref Tb) rfl (nt_gfR rfl hP.1.1) k
        have k := ly_revb 1 (c' := (32, [(0, .ref B)], [.ref B, .ref Tb], me_w M (nt_u J1 B 15 (nI (lb_s f t q1))))) rfl k
        have k := lz_get (a := B) (g := 1115) (M := me_w M (nt_u J1 B 15 (nI (lb_s f t q1)))) (v := .int (nI (lb_s f t q1))) rfl (congrArg Value.int (hS11.1)) k
        have k := me_bald (q := (lb_s f t q1)) (v := f ((lb_s f t q1))) rfl (rfl) (by omega) (mg_f hP hS11 ((lb_s f t q1))) k
        have k := ly_revb 2 (c' := (if (f ((lb_s f t q1))) = (Int32.ofInt 42) then 41 else 45, [(0, .ref B)], [], me_w M (nt_u J1 B 15 (nI (lb_s f t q1))))) rfl k
        have hlt : lb_s f t q1 < t := lb_g_lt (by rw [h24]; decide)
        rw [if_neg (show ¬ ((f ((lb_s f t q1))) = (Int32.ofInt 42)) from fun c => h15 (lb_g2 hB hlt (by decide) c))] at k
        have k := ly_revb 4 (c' := (49, [(1, .int (Int32.ofInt 5)), (0, .ref B)], [.ref B, .ref B], me_w M (nt_u J1 B 15 (nI (lb_s f t q1))))) rfl k
        have k := lz_get (a := B) (g := 1115) (M := me_w M (nt_u J1 B 15 (nI (lb_s f t q1)))) (v := .int (nI (lb_s f t q1))) rfl (congrArg Value.int (hS11.1)) k
        have k := ly_revb 2 (c' := (54, [(1, .int (Int32.ofInt 5)), (0, .ref B)], [.int ((nI (lb_s f t q1)) + (Int32.ofInt 1)), .ref B], me_w M (nt_u J1 B 15 (nI (lb_s f t q1))))) rfl k
        rw [show ((nI (lb_s f t q1)) + (Int32.ofInt 1) : Int32) = nI ((lb_s f t q1) + 1) from me_add (k := 1)] at k
        have k := me_put rfl (by decide) k
        have k : nt_rn X _ 152 (57, [(1, .int (Int32.ofInt 5)), (0, .ref B)], [], me_w M (nt_u (nt_u J1 B 15 (nI (lb_s f t q1))) B 15 (nI ((lb_s f t q1) + 1)))) _ := k
        have hV1 := mg_Sq (y := lb_s f t q1 + 1) hP hS11
        have k := ly_revb 1 (c' := (58, [(1, .int (Int32.ofInt 5)), (0, .ref B)], [.ref B], me_w M (nt_u (nt_u J1 B 15 (nI (lb_s f t q1))) B 15 (nI ((lb_s f t q1) + 1))))) rfl k
        obtain ⟨d1, o1, ed, kc, k⟩ := lz_c (g := 153) (q := 1) (vs := [.ref B]) (rest := []) rfl rfl (by decide) (Or.inr (Or.inl ⟨_, rfl, rfl⟩)) rfl k
        obtain ⟨r2, a2, J2, e1, hv2, hQ2⟩ := mg_value (s0 := z1.2.2.1) hP hV1 (show lb_s f t q1 + 1 ≤ t from hlt) kc
        subst e1
        rcases r2 with c | z2
        · obtain ⟨hc, rfl, q2, m2, e2, hT2, hq2⟩ := hQ2
          have k : nt_rn X _ 152 (61, [(1, .int (Int32.ofInt 5)), (0, .ref B)], [.int (Int32.ofInt 0)], me_w M J2) _ := k
          have k := ly_revb 1 (c' := (if (Int32.ofInt 0) = 0 then 64 else 66, [(1, .int (Int32.ofInt 5)), (0, .ref B)], [], me_w M J2)) rfl k
          rw [if_pos (show (Int32.ofInt 0) = 0 from by decide)] at k
          have k := ly_revb 1 (c' := (65, [(1, .int (Int32.ofInt 5)), (0, .ref B)], [.int (Int32.ofInt 0)], me_w M J2)) rfl k
          have k := lz_ri rfl (by decide) k
          have ho : lb_op (lb_g f t (lb_s f t q1)) = Int32.ofInt 13 := by rw [h24]; decide
          have hl2 : lb_lp f t (lb_val f t) (Int32.ofInt 12) (Int32.ofInt 13) 1 (lb_s f t q1, z1.2.1, z1.2.2) (.inl c) := Or.inr ⟨Or.inr ho, _, hv2, Or.inl ⟨c, rfl, rfl⟩⟩
          have hzz : (lb_s f t q1, z1.2.1, z1.2.2) = z1 := by rw [hz1]
          rw [hzz] at hl2
          exact ⟨_, _, _, k, ⟨_, hv1, Or.inr ⟨_, rfl, _, hl2⟩⟩, ⟨hc, rfl, _, _, _, hT2, hq2⟩⟩
        · obtain ⟨rfl, q2, hz2, hq2, hT2⟩ := hQ2
          have k : nt_rn X _ 152 (61, [(1, .int (Int32.ofInt 5)), (0, .ref B)], [.int (Int32.ofInt 1)], me_w M J2) _ := k
          have k := ly_revb 1 (c' := (if (Int32.ofInt 1) = 0 then 64 else 66, [(1, .int (Int32.ofInt 5)), (0, .ref B)], [], me_w M J2)) rfl k
          rw [if_neg (show ¬ ((Int32.ofInt 1) = 0) from by decide)] at k
          have k := ly_revb 3 (c' := (69, [(1, .int (Int32.ofInt 5)), (0, .ref B)], [.int (Int32.ofInt 0), .int (Int32.ofInt 5), .ref B], me_w M J2)) rfl k
          obtain ⟨d1, o1, ed, kc, k⟩ := lz_c (g := 155) (q := 1) (vs := [.ref B, .int (Int32.ofInt 5), .int (Int32.ofInt 0)]) (rest := []) rfl rfl (by decide) (Or.inr (Or.inl ⟨_, rfl, rfl⟩)) rfl k
          obtain ⟨hb, e1⟩ := mg_puts hP hT2 hq2 kc
          subst e1
          have hU2 := mg_Se (y := (Int32.ofInt 5) + Int32.ofInt 16 * (Int32.ofInt 0)) hP hT2 hb
          have k : nt_rn X _ 152 (72, [(1, .int (Int32.ofInt 5)), (0, .ref B)], [], me_w M (nt_u (nt_u J2 Sg (400 * x + z2.2.2.2.1) ((Int32.ofInt 5) + Int32.ofInt 16 * (Int32.ofInt 0))) Ln x (nI (z2.2.2.2.1 + 1)))) _ := k
          have k := ly_revb 1 (c' := (9, [(1, .int (Int32.ofInt 5)), (0, .ref B)], [], me_w M (nt_u (nt_u J2 Sg (400 * x + z2.2.2.2.1) ((Int32.ofInt 5) + Int32.ofInt 16 * (Int32.ofInt 0))) Ln x (nI (z2.2.2.2.1 + 1))))) rfl k
          have hup := lb_val_up ((lb_s_le (f := f) (t := t) (t - (lb_s f t q1 + 1)) (lb_s f t q1 + 1) (by omega)).2) hv2
          have hsl := lb_s_le (f := f) (t := t) (t - (lb_s f t q1 + 1)) (lb_s f t q1 + 1) (by omega)
          dsimp only at hup
          obtain ⟨r, a, J9, e9, ⟨kk, hl⟩, hQ⟩ := mg_terml hP hB (t + 1 - 0 * z2.1) q2 _ _ _ (lb_e z2.2.2.1 (Int32.ofInt 13)) _ (by rw [hz2]; omega) hU2 hq2 k
          rw [hz2, ← lb_ew_c (e := z2.2.2) (w := Int32.ofInt 13) (by decide) (by decide)] at hl
          have ho : lb_op (lb_g f t (lb_s f t q1)) = Int32.ofInt 13 := by rw [h24]; decide
          have hl2 : lb_lp f t (lb_val f t) (Int32.ofInt 12) (Int32.ofInt 13) (kk + 1) (lb_s f t q1, z1.2.1, z1.2.2) r := Or.inr ⟨Or.inr ho, _, hv2, Or.inr ⟨_, rfl, by dsimp only; rw [ho]; exact hl⟩⟩
          have hzz : (lb_s f t q1, z1.2.1, z1.2.2) = z1 := by rw [hz1]
          rw [hzz] at hl2
          exact ⟨_, _, _, e9, ⟨_, hv1, Or.inr ⟨_, rfl, _, hl2⟩⟩, hQ⟩
      · rw [if_neg (show ¬ ((lb_g f t (lb_s f t q1)) = (Int32.ofInt 47)) from h24)] at k
        have k := ly_revb 1 (c' := (76, [(0, .ref B)], [.int (Int32.ofInt 1)], me_w M (nt_u J1 B 15 (nI (lb_s f t q1))))) rfl k
        have k := lz_ri rfl (by decide) k
        have hno : ¬ (lb_op (lb_g f t (lb_s f t q1)) = Int32.ofInt 12 ∨ lb_op (lb_g f t (lb_s f t q1)) = Int32.ofInt 13) := fun hh => hh.elim (fun c => h15 (lb_op_i.2.2.1 c)) (fun c => h24 (lb_op_i.2.2.2 c))
        have hl2 : lb_lp f t (lb_val f t) (Int32.ofInt 12) (Int32.ofInt 13) 1 (lb_s f t q1, z1.2.1, z1.2.2) (.inr (lb_s f t q1, z1.2.1, z1.2.2)) := Or.inl ⟨hno, rfl⟩
        have hzz : (lb_s f t q1, z1.2.1, z1.2.2) = z1 := by rw [hz1]
        rw [hzz] at hl2
        exact ⟨_, _, _, k, ⟨_, hv1, Or.inr ⟨_, rfl, _, hl2⟩⟩, ⟨rfl, _, (lb_ss hq1).trans hz1, hp11, hS11⟩⟩
theorem mg_suml {G : Nat → Int32} {X : nt_X} {d t x B Tb Sg Ln : Nat} {f : Nat → Int32} {M : nt_M} {J0 : Nat → Nat → Int32} {o : Option Value × nt_M} (hP : md_P M J0 f t x B Tb Sg Ln) (hB : lb_by f t) : ∀ (c q m : Nat) (e : Nat × (Nat → Int32)) (J : Nat → Nat → Int32) (s0 : Nat × (Nat → Int32)) (s9 : Int32), t - lb_s f t q < c → mg_S G J0 B Sg Ln x q 0 m e J → q ≤ t → nt_rn X d 151 (9, [(1, .int s9), (0, .ref B)], [], me_w M J) o → ∃ r a J', o = (some (.int a), me_w M J') ∧ (∃ k, lb_lp f t (lb_te f t) (Int32.ofInt 10) (Int32.ofInt 11) k (lb_s f t q, m, (s0, e)) r) ∧ mg_Q G J0 B Sg Ln x t f r a J' := by
  have t4 : t ≤ 400 := hP.2.2.2.2.2.1
  intro cc
  induction cc with
  | zero => intro q m e J s0 s9 hc; omega
  | succ cc ih =>
    intro q m e J s0 s9 hcc hS hp k
    have k := ly_revb 1 (c' := (10, [(1, .int (s9)), (0, .ref B)], [.ref B], me_w M J)) rfl k
    obtain ⟨d1, o1, ed, kc, k⟩ := lz_c (g := 136) (q := 1) (vs := [.ref B]) (rest := []) rfl rfl (by decide) (Or.inr (Or.inl ⟨_, rfl, rfl⟩)) rfl k
    have e1 := mg_see hP hS hp kc
    subst e1
    have hS10 := mg_Sq (y := lb_s f t q) hP hS
    have hp10 : lb_s f t q ≤ t := (lb_s_le (t - q) q (by omega)).2
    have k : nt_rn X _ 151 (13, [(1, .int (s9)), (0, .ref B)], [.int (lb_g f t (lb_s f t q))], me_w M (nt_u J B 15 (nI (lb_s f t q)))) _ := k
    have k := ly_revb 2 (c' := (if (lb_g f t (lb_s f t q)) = (Int32.ofInt 43) then 27 else 18, [(1, .int (s9)), (0, .ref B)], [], me_w M (nt_u J B 15 (nI (lb_s f t q))))) rfl k
    by_cases h15 : lb_g f t (lb_s f t q) = Int32.ofInt 43
    · rw [if_pos (show (lb_g f t (lb_s f t q)) = (Int32.ofInt 43) from h15)] at k
      have k := ly_revb 1 (c' := (28, [(1, .int (s9)), (0, .ref B)], [.ref B], me_w M (nt_u J B 15 (nI (lb_s f t q))))) rfl k
      have k := lz_get (a := B) (g := 1100) (M := me_w M (nt_u J B 15 (nI (lb_s f t q)))) (v := .ref Tb) rfl (nt_gfR rfl hP.1.1) k
      have k := ly_revb 1 (c' := (32, [(1, .int (s9)), (0, .ref B)], [.ref B, .ref Tb], me_w M (nt_u J B 15 (nI (lb_s f t q))))) rfl k
      have k := lz_get (a := B) (g := 1115) (M := me_w M (nt_u J B 15 (nI (lb_s f t q)))) (v := .int (nI (lb_s f t q))) rfl (congrArg Value.int (hS10.1)) k
      have k := me_bald (q := (lb_s f t q)) (v := f ((lb_s f t q))) rfl (rfl) (by omega) (mg_f hP hS10 ((lb_s f t q))) k
      have k := ly_revb 2 (c' := (if (f ((lb_s f t q))) = (Int32.ofInt 43) then 41 else 45, [(1, .int (s9)), (0, .ref B)], [], me_w M (nt_u J B 15 (nI (lb_s f t q))))) rfl k
      have hlt : lb_s f t q < t := lb_g_lt (by rw [h15]; decide)
      rw [if_pos (show (f ((lb_s f t q))) = (Int32.ofInt 43) from lb_g1 hB hlt (by decide) (by decide) h15)] at k
      have k := ly_revb 5 (c' := (49, [(1, .int (Int32.ofInt 2)), (0, .ref B)], [.ref B, .ref B], me_w M (nt_u J B 15 (nI (lb_s f t q))))) rfl k
      have k := lz_get (a := B) (g := 1115) (M := me_w M (nt_u J B 15 (nI (lb_s f t q)))) (v := .int (nI (lb_s f t q))) rfl (congrArg Value.int (hS10.1)) k
      have k := ly_revb 2 (c' := (54, [(1, .int (Int32.ofInt 2)), (0, .ref B)], [.int ((nI (lb_s f t q)) + (Int32.ofInt 1)), .ref B], me_w M (nt_u J B 15 (nI (lb_s f t q))))) rfl k
      rw [show ((nI (lb_s f t q)) + (Int32.ofInt 1) : Int32) = nI ((lb_s f t q) + 1) from me_add (k := 1)] at k
      have k := me_put rfl (by decide) k
      have k : nt_rn X _ 151 (57, [(1, .int (Int32.ofInt 2)), (0, .ref B)], [], me_w M (nt_u (nt_u J B 15 (nI (lb_s f t q))) B 15 (nI ((lb_s f t q) + 1)))) _ := k
      have hV0 := mg_Sq (y := lb_s f t q + 1) hP hS10
      have k := ly_revb 1 (c' := (58, [(1, .int (Int32.ofInt 2)), (0, .ref B)], [.ref B], me_w M (nt_u (nt_u J B 15 (nI (lb_s f t q))) B 15 (nI ((lb_s f t q) + 1))))) rfl k
      obtain ⟨d1, o1, ed, kc, k⟩ := lz_c (g := 152) (q := 1) (vs := [.ref B]) (rest := []) rfl rfl (by decide) (Or.inr (Or.inl ⟨_, rfl, rfl⟩)) rfl k
      obtain ⟨r1, a1, J1, e1, hv1, hQ1⟩ := mg_term (s0 := s0) hP hB hV0 (show lb_s f t q + 1 ≤ t from hlt) kc
      subst e1
      rcases r1 with c | z1
      · obtain ⟨hc, rfl, q1, m1, e1, hT1, hq1⟩ := hQ1
        have k : nt_rn X _ 151 (61, [(1, .int (Int32.ofInt 2)), (0, .ref B)], [.int (Int32.ofInt 0)], me_w M J1) _ := k
        have k := ly_revb 1 (c' := (if (Int32.ofInt 0) = 0 then 64 else 66, [(1, .int (Int32.ofInt 2)), (0, .ref B)], [], me_w M J1)) rfl k
        rw [if_pos (show (Int32.ofInt 0) = 0 from by decide)] at k
        have k := ly_revb 1 (c' := (65, [(1, .int (Int32.ofInt 2)), (0, .ref B)], [.int (Int32.ofInt 0)], me_w M J1)) rfl k
        have k := lz_ri rfl (by decide) k
        have ho : lb_op (lb_g f t (lb_s f t q)) = Int32.ofInt 10 := by rw [h15]; decide
        have hl2 : lb_lp f t (lb_te f t) (Int32.ofInt 10) (Int32.ofInt 11) 1 (lb_s f t q, m, (s0, e)) (.inl c) := Or.inr ⟨Or.inl ho, _, hv1, Or.inl ⟨c, rfl, rfl⟩⟩
        exact ⟨_, _, _, k, ⟨_, hl2⟩, ⟨hc, rfl, _, _, _, hT1, hq1⟩⟩
      · obtain ⟨rfl, q1, hz1, hq1, hT1⟩ := hQ1
        have k : nt_rn X _ 151 (61, [(1, .int (Int32.ofInt 2)), (0, .ref B)], [.int (Int32.ofInt 1)], me_w M J1) _ := k
        have k := ly_revb 1 (c' := (if (Int32.ofInt 1) = 0 then 64 else 66, [(1, .int (Int32.ofInt 2)), (0, .ref B)], [], me_w M J1)) rfl k
        rw [if_neg (show ¬ ((Int32.ofInt 1) = 0) from by decide)] at k
        have k := ly_revb 3 (c' := (69, [(1, .int (Int32.ofInt 2)), (0, .ref B)], [.int (Int32.ofInt 0), .int (Int32.ofInt 2), .ref B], me_w M J1)) rfl k
        obtain ⟨d1, o1, ed, kc, k⟩ := lz_c (g := 155) (q := 1) (vs := [.ref B, .int (Int32.ofInt 2), .int (Int32.ofInt 0)]) (rest := []) rfl rfl (by decide) (Or.inr (Or.inl ⟨_, rfl, rfl⟩)) rfl k
        obtain ⟨hb, e1⟩ := mg_puts hP hT1 hq1 kc
        subst e1
        have hU1 := mg_Se (y := (Int32.ofInt 2) + Int32.ofInt 16 * (Int32.ofInt 0)) hP hT1 hb
        have k : nt_rn X _ 151 (72, [(1, .int (Int32.ofInt 2)), (0, .ref B)], [], me_w M (nt_u (nt_u J1 Sg (400 * x + z1.2.2.2.1) ((Int32.ofInt 2) + Int32.ofInt 16 * (Int32.ofInt 0))) Ln x (nI (z1.2.2.2.1 + 1)))) _ := k
        have k := ly_revb 1 (c' := (9, [(1, .int (Int32.ofInt 2)), (0, .ref B)], [], me_w M (nt_u (nt_u J1 Sg (400 * x + z1.2.2.2.1) ((Int32.ofInt 2) + Int32.ofInt 16 * (Int32.ofInt 0))) Ln x (nI (z1.2.2.2.1 + 1))))) rfl k
        have hup := lb_te_up ((lb_s_le (f := f) (t := t) (t - (lb_s f t q + 1)) (lb_s f t q + 1) (by omega)).2) hv1
        have hsl := lb_s_le (f := f) (t := t) (t - (lb_s f t q + 1)) (lb_s f t q + 1) (by omega)
        dsimp only at hup
        obtain ⟨r, a, J9, e9, ⟨kk, hl⟩, hQ⟩ := ih q1 _ _ _ (lb_e z1.2.2.1 (Int32.ofInt 10)) _ (by rw [hz1]; omega) hU1 hq1 k
        rw [hz1, ← lb_ew_c (e := z1.2.2) (w := Int32.ofInt 10) (by decide) (by decide)] at hl
        have ho : lb_op (lb_g f t (lb_s f t q)) = Int32.ofInt 10 := by rw [h15]; decide
        have hl2 : lb_lp f t (lb_te f t) (Int32.ofInt 10) (Int32.ofInt 11) (kk + 1) (lb_s f t q, m, (s0, e)) r := Or.inr ⟨Or.inl ho, _, hv1, Or.inr ⟨_, rfl, by dsimp only; rw [ho]; exact hl⟩⟩
        exact ⟨_, _, _, e9, ⟨_, hl2⟩, hQ⟩
    · rw [if_neg (show ¬ ((lb_g f t (lb_s f t q)) = (Int32.ofInt 43)) from h15)] at k
      have k := ly_revb 1 (c' := (19, [(1, .int (s9)), (0, .ref B)], [.ref B], me_w M (nt_u J B 15 (nI (lb_s f t q))))) rfl k
      obtain ⟨d1, o1, ed, kc, k⟩ := lz_c (g := 136) (q := 1) (vs := [.ref B]) (rest := []) rfl rfl (by decide) (Or.inr (Or.inl ⟨_, rfl, rfl⟩)) rfl k
      have e1 := mg_see hP hS10 hp10 kc
      rw [lb_ss hp, me_uu] at e1
      subst e1
      have k : nt_rn X _ 151 (22, [(1, .int (s9)), (0, .ref B)], [.int (lb_g f t (lb_s f t q))], me_w M (nt_u J B 15 (nI (lb_s f t q)))) _ := k
      have k := ly_revb 2 (c' := (if (lb_g f t (lb_s f t q)) = (Int32.ofInt 45) then 27 else 75, [(1, .int (s9)), (0, .ref B)], [], me_w M (nt_u J B 15 (nI (lb_s f t q))))) rfl k
      by_cases h24 : lb_g f t (lb_s f t q) = Int32.ofInt 45
      · rw [if_pos (show (lb_g f t (lb_s f t q)) = (Int32.ofInt 45) from h24)] at k
        have k := ly_revb 1 (c' := (28, [(1, .int (s9)), (0, .ref B)], [.ref B], me_w M (nt_u J B 15 (nI (lb_s f t q))))) rfl k
        have k := lz_get (a := B) (g := 1100) (M := me_w M (nt_u J B 15 (nI (lb_s f t q)))) (v := .ref Tb) rfl (nt_gfR rfl hP.1.1) k
        have k := ly_revb 1 (c' := (32, [(1, .int (s9)), (0, .ref B)], [.ref B, .ref Tb], me_w M (nt_u J B 15 (nI (lb_s f t q))))) rfl k
        have k := lz_get (a := B) (g := 1115) (M := me_w M (nt_u J B 15 (nI (lb_s f t q)))) (v := .int (nI (lb_s f t q))) rfl (congrArg Value.int (hS10.1)) k
        have k := me_bald (q := (lb_s f t q)) (v := f ((lb_s f t q))) rfl (rfl) (by omega) (mg_f hP hS10 ((lb_s f t q))) k
        have k := ly_revb 2 (c' := (if (f ((lb_s f t q))) = (Int32.ofInt 43) then 41 else 45, [(1, .int (s9)), (0, .ref B)], [], me_w M (nt_u J B 15 (nI (lb_s f t q))))) rfl k
        have hlt : lb_s f t q < t := lb_g_lt (by rw [h24]; decide)
        rw [if_neg (show ¬ ((f ((lb_s f t q))) = (Int32.ofInt 43)) from fun c => h15 (lb_g2 hB hlt (by decide) c))] at k
        have k := ly_revb 4 (c' := (49, [(1, .int (Int32.ofInt 3)), (0, .ref B)], [.ref B, .ref B], me_w M (nt_u J B 15 (nI (lb_s f t q))))) rfl k
        have k := lz_get (a := B) (g := 1115) (M := me_w M (nt_u J B 15 (nI (lb_s f t q)))) (v := .int (nI (lb_s f t q))) rfl (congrArg Value.int (hS10.1)) k
        have k := ly_revb 2 (c' := (54, [(1, .int (Int32.ofInt 3)), (0, .ref B)], [.int ((nI (lb_s f t q)) + (Int32.ofInt 1)), .ref B], me_w M (nt_u J B 15 (nI (lb_s f t q))))) rfl k
        rw [show ((nI (lb_s f t q)) + (Int32.ofInt 1) : Int32) = nI ((lb_s f t q) + 1) from me_add (k := 1)] at k
        have k := me_put rfl (by decide) k
        have k : nt_rn X _ 151 (57, [(1, .int (Int32.ofInt 3)), (0, .ref B)], [], me_w M (nt_u (nt_u J B 15 (nI (lb_s f t q))) B 15 (nI ((lb_s f t q) + 1)))) _ := k
        have hV0 := mg_Sq (y := lb_s f t q + 1) hP hS10
        have k := ly_revb 1 (c' := (58, [(1, .int (Int32.ofInt 3)), (0, .ref B)], [.ref B], me_w M (nt_u (nt_u J B 15 (nI (lb_s f t q))) B 15 (nI ((lb_s f t q) + 1))))) rfl k
        obtain ⟨d1, o1, ed, kc, k⟩ := lz_c (g := 152) (q := 1) (vs := [.ref B]) (rest := []) rfl rfl (by decide) (Or.inr (Or.inl ⟨_, rfl, rfl⟩)) rfl k
        obtain ⟨r1, a1, J1, e1, hv1, hQ1⟩ := mg_term (s0 := s0) hP hB hV0 (show lb_s f t q + 1 ≤ t from hlt) kc
        subst e1
        rcases r1 with c | z1
        · obtain ⟨hc, rfl, q1, m1, e1, hT1, hq1⟩ := hQ1
          have k : nt_rn X _ 151 (61, [(1, .int (Int32.ofInt 3)), (0, .ref B)], [.int (Int32.ofInt 0)], me_w M J1) _ := k
          have k := ly_revb 1 (c' := (if (Int32.ofInt 0) = 0 then 64 else 66, [(1, .int (Int32.ofInt 3)), (0, .ref B)], [], me_w M J1)) rfl k
          rw [if_pos (show (Int32.ofInt 0) = 0 from by decide)] at k
          have k := ly_revb 1 (c' := (65, [(1, .int (Int32.ofInt 3)), (0, .ref B)], [.int (Int32.ofInt 0)], me_w M J1)) rfl k
          have k := lz_ri rfl (by decide) k
          have ho : lb_op (lb_g f t (lb_s f t q)) = Int32.ofInt 11 := by rw [h24]; decide
          have hl2 : lb_lp f t (lb_te f t) (Int32.ofInt 10) (Int32.ofInt 11) 1 (lb_s f t q, m, (s0, e)) (.inl c) := Or.inr ⟨Or.inr ho, _, hv1, Or.inl ⟨c, rfl, rfl⟩⟩
          exact ⟨_, _, _, k, ⟨_, hl2⟩, ⟨hc, rfl, _, _, _, hT1, hq1⟩⟩
        · obtain ⟨rfl, q1, hz1, hq1, hT1⟩ := hQ1
          have k : nt_rn X _ 151 (61, [(1, .int (Int32.ofInt 3)), (0, .ref B)], [.int (Int32.ofInt 1)], me_w M J1) _ := k
          have k := ly_revb 1 (c' := (if (Int32.ofInt 1) = 0 then 64 else 66, [(1, .int (Int32.ofInt 3)), (0, .ref B)], [], me_w M J1)) rfl k
          rw [if_neg (show ¬ ((Int32.ofInt 1) = 0) from by decide)] at k
          have k := ly_revb 3 (c' := (69, [(1, .int (Int32.ofInt 3)), (0, .ref B)], [.int (Int32.ofInt 0), .int (Int32.ofInt 3), .ref B], me_w M J1)) rfl k
          obtain ⟨d1, o1, ed, kc, k⟩ := lz_c (g := 155) (q := 1) (vs := [.ref B, .int (Int32.ofInt 3), .int (Int32.ofInt 0)]) (rest := []) rfl rfl (by decide) (Or.inr (Or.inl ⟨_, rfl, rfl⟩)) rfl k
          obtain ⟨hb, e1⟩ := mg_puts hP hT1 hq1 kc
          subst e1
          have hU1 := mg_Se (y := (Int32.ofInt 3) + Int32.ofInt 16 * (Int32.ofInt 0)) hP hT1 hb
          have k : nt_rn X _ 151 (72, [(1, .int (Int32.ofInt 3)), (0, .ref B)], [], me_w M (nt_u (nt_u J1 Sg (400 * x + z1.2.2.2.1) ((Int32.ofInt 3) + Int32.ofInt 16 * (Int32.ofInt 0))) Ln x (nI (z1.2.2.2.1 + 1)))) _ := k
          have k := ly_revb 1 (c' := (9, [(1, .int (Int32.ofInt 3)), (0, .ref B)], [], me_w M (nt_u (nt_u J1 Sg (400 * x + z1.2.2.2.1) ((Int32.ofInt 3) + Int32.ofInt 16 * (Int32.ofInt 0))) Ln x (nI (z1.2.2.2.1 + 1))))) rfl k
          have hup := lb_te_up ((lb_s_le (f := f) (t := t) (t - (lb_s f t q + 1)) (lb_s f t q + 1) (by omega)).2) hv1
          have hsl := lb_s_le (f := f) (t := t) (t - (lb_s f t q + 1)) (lb_s f t q + 1) (by omega)
          dsimp only at hup
          obtain ⟨r, a, J9, e9, ⟨kk, hl⟩, hQ⟩ := ih q1 _ _ _ (lb_e z1.2.2.1 (Int32.ofInt 11)) _ (by rw [hz1]; omega) hU1 hq1 k
          rw [hz1, ← lb_ew_c (e := z1.2.2) (w := Int32.ofInt 11) (by decide) (by decide)] at hl
          have ho : lb_op (lb_g f t (lb_s f t q)) = Int32.ofInt 11 := by rw [h24]; decide
          have hl2 : lb_lp f t (lb_te f t) (Int32.ofInt 10) (Int32.ofInt 11) (kk + 1) (lb_s f t q, m, (s0, e)) r := Or.inr ⟨Or.inr ho, _, hv1, Or.inr ⟨_, rfl, by dsimp only; rw [ho]; exact hl⟩⟩
          exact ⟨_, _, _, e9, ⟨_, hl2⟩, hQ⟩
      · rw [if_neg (show ¬ ((lb_g f t (lb_s f t q)) = (Int32.ofInt 45)) from h24)] at k
        have k := ly_revb 1 (c' := (76, [(1, .int (s9)), (0, .ref B)], [.int (Int32.ofInt 1)], me_w M (nt_u J B 15 (nI (lb_s f t q))))) rfl k
        have k := lz_ri rfl (by decide) k
        have hno : ¬ (lb_op (lb_g f t (lb_s f t q)) = Int32.ofInt 10 ∨ lb_op (lb_g f t (lb_s f t q)) = Int32.ofInt 11) := fun hh => hh.elim (fun c => h15 (lb_op_i.1 c)) (fun c => h24 (lb_op_i.2.1 c))
        have hl2 : lb_lp f t (lb_te f t) (Int32.ofInt 10) (Int32.ofInt 11) 1 (lb_s f t q, m, (s0, e)) (.inr (lb_s f t q, m, (s0, e))) := Or.inl ⟨hno, rfl⟩
        exact ⟨_, _, _, k, ⟨_, hl2⟩, ⟨rfl, _, lb_ss hp, hp10, hS10⟩⟩
theorem mg_sum0 {G : Nat → Int32} {X : nt_X} {d t x B Tb Sg Ln q m : Nat} {f : Nat → Int32} {M : nt_M} {J0 J : Nat → Nat → Int32} {o : Option Value × nt_M} {e : Nat × (Nat → Int32)} {s0 : Nat × (Nat → Int32)} (hP : md_P M J0 f t x B Tb Sg Ln) (hB : lb_by f t) (hS : mg_S G J0 B Sg Ln x q 0 m e J) (hp : q ≤ t) (k : nt_ev X d 151 [.ref B] (me_w M J) o) : ∃ r a J', o = (some (.int a), me_w M J') ∧ lb_su f t (lb_s f t q, m, (s0, e)) r ∧ mg_Q G J0 B Sg Ln x t f r a J' := by
  have k : nt_rn X d 151 (0, [(0, .ref B)], [], me_w M J) o := k
  have t4 : t ≤ 400 := hP.2.2.2.2.2.1
  have k := ly_revb 1 (c' := (1, [(0, .ref B)], [.ref B], me_w M J)) rfl k
  obtain ⟨d1, o1, ed, kc, k⟩ := lz_c (g := 152) (q := 1) (vs := [.ref B]) (rest := []) rfl rfl (by decide) (Or.inr (Or.inl ⟨_, rfl, rfl⟩)) rfl k
  obtain ⟨r1, a1, J1, e1, hv1, hQ1⟩ := mg_term (s0 := s0) hP hB hS hp kc
  subst e1
  rcases r1 with c | z1
  · obtain ⟨hc, rfl, q1, m1, e1, hT1, hq1⟩ := hQ1
    have k : nt_rn X _ 151 (4, [(0, .ref B)], [.int (Int32.ofInt 0)], me_w M J1) _ := k
    have k := ly_revb 1 (c' := (if (Int32.ofInt 0) = 0 then 7 else 9, [(0, .ref B)], [], me_w M J1)) rfl k
    rw [if_pos (show (Int32.ofInt 0) = 0 from by decide)] at k
    have k := ly_revb 1 (c' := (8, [(0, .ref B)], [.int (Int32.ofInt 0)], me_w M J1)) rfl k
    have k := lz_ri rfl (by decide) k
    exact ⟨.inl c, _, _, k, ⟨_, hv1, Or.inl ⟨c, rfl, rfl⟩⟩, hc, rfl, _, _, _, hT1, hq1⟩
  · obtain ⟨rfl, q1, hz1, hq1, hT1⟩ := hQ1
    have k : nt_rn X _ 151 (4, [(0, .ref B)], [.int (Int32.ofInt 1)], me_w M J1) _ := k
    have k := ly_revb 1 (c' := (if (Int32.ofInt 1) = 0 then 7 else 9, [(0, .ref B)], [], me_w M J1)) rfl k
    rw [if_neg (show ¬ ((Int32.ofInt 1) = 0) from by decide)] at k
    have k := ly_revb 1 (c' := (10, [(0, .ref B)], [.ref B], me_w M J1)) rfl k
    obtain ⟨d1, o1, ed, kc, k⟩ := lz_c (g := 136) (q := 1) (vs := [.ref B]) (rest := []) rfl rfl (by decide) (Or.inr (Or.inl ⟨_, rfl, rfl⟩)) rfl k
    have e1 := mg_see hP hT1 hq1 kc
    subst e1
    have hS11 := mg_Sq (y := lb_s f t q1) hP hT1
    have hp11 : lb_s f t q1 ≤ t := (lb_s_le (t - q1) q1 (by omega)).2
    have k : nt_rn X _ 151 (13, [(0, .ref B)], [.int (lb_g f t (lb_s f t q1))], me_w M (nt_u J1 B 15 (nI (lb_s f t q1)))) _ := k
    have k := ly_revb 2 (c' := (if (lb_g f t (lb_s f t q1)) = (Int32.ofInt 43) then 27 else 18, [(0, .ref B)], [], me_w M (nt_u J1 B 15 (nI (lb_s f t q1))))) rfl k
    by_cases h15 : lb_g f t (lb_s f t q1) = Int32.ofInt 43
    · rw [if_pos (show (lb_g f t (lb_s f t q1)) = (Int32.ofInt 43) from h15)] at k
      have k := ly_revb 1 (c' := (28, [(0, .ref B)], [.ref B], me_w M (nt_u J1 B 15 (nI (lb_s f t q1))))) rfl k
      have k := lz_get (a := B) (g := 1100) (M := me_w M (nt_u J1 B 15 (nI (lb_s f t q1)))) (v := .ref Tb) rfl (nt_gfR rfl hP.1.1) k
      have k := ly_revb 1 (c' := (32, [(0, .ref B)], [.ref B, .ref Tb], me_w M (nt_u J1 B 15 (nI (lb_s f t q1))))) rfl k
      have k := lz_get (a := B) (g := 1115) (M := me_w M (nt_u J1 B 15 (nI (lb_s f t q1)))) (v := .int (nI (lb_s f t q1))) rfl (congrArg Value.int (hS11.1)) k
      have k := me_bald (q := (lb_s f t q1)) (v := f ((lb_s f t q1))) rfl (rfl) (by omega) (mg_f hP hS11 ((lb_s f t q1))) k
      have k := ly_revb 2 (c' := (if (f ((lb_s f t q1))) = (Int32.ofInt 43) then 41 else 45, [(0, .ref B)], [], me_w M (nt_u J1 B 15 (nI (lb_s f t q1))))) rfl k
      have hlt : lb_s f t q1 < t := lb_g_lt (by rw [h15]; decide)
      rw [if_pos (show (f ((lb_s f t q1))) = (Int32.ofInt 43) from lb_g1 hB hlt (by decide) (by decide) h15)] at k
      have k := ly_revb 5 (c' := (49, [(1, .int (Int32.ofInt 2)), (0, .ref B)], [.ref B, .ref B], me_w M (nt_u J1 B 15 (nI (lb_s f t q1))))) rfl k
      have k := lz_get (a := B) (g := 1115) (M := me_w M (nt_u J1 B 15 (nI (lb_s f t q1)))) (v := .int (nI (lb_s f t q1))) rfl (congrArg Value.int (hS11.1)) k
      have k := ly_revb 2 (c' := (54, [(1, .int (Int32.ofInt 2)), (0, .ref B)], [.int ((nI (lb_s f t q1)) + (Int32.ofInt 1)), .ref B], me_w M (nt_u J1 B 15 (nI (lb_s f t q1))))) rfl k
      rw [show ((nI (lb_s f t q1)) + (Int32.ofInt 1) : Int32) = nI ((lb_s f t q1) + 1) from me_add (k := 1)] at k
      have k := me_put rfl (by decide) k
      have k : nt_rn X _ 151 (57, [(1, .int (Int32.ofInt 2)), (0, .ref B)], [], me_w M (nt_u (nt_u J1 B 15 (nI (lb_s f t q1))) B 15 (nI ((lb_s f t q1) + 1)))) _ := k
      have hV1 := mg_Sq (y := lb_s f t q1 + 1) hP hS11
      have k := ly_revb 1 (c' := (58, [(1, .int (Int32.ofInt 2)), (0, .ref B)], [.ref B], me_w M (nt_u (nt_u J1 B 15 (nI (lb_s f t q1))) B 15 (nI ((lb_s f t q1) + 1))))) rfl k
      obtain ⟨d1, o1, ed, kc, k⟩ := lz_c (g := 152) (q := 1) (vs := [.ref B]) (rest := []) rfl rfl (by decide) (Or.inr (Or.inl ⟨_, rfl, rfl⟩)) rfl k
      obtain ⟨r2, a2, J2, e1, hv2, hQ2⟩ := mg_term (s0 := z1.2.2.1) hP hB hV1 (show lb_s f t q1 + 1 ≤ t from hlt) kc
      subst e1
      rcases r2 with c | z2
      · obtain ⟨hc, rfl, q2, m2, e2, hT2, hq2⟩ := hQ2
        have k : nt_rn X _ 151 (61, [(1, .int (Int32.ofInt 2)), (0, .ref B)], [.int (Int32.ofInt 0)], me_w M J2) _ := k
        have k := ly_revb 1 (c' := (if (Int32.ofInt 0) = 0 then 64 else 66, [(1, .int (Int32.ofInt 2)), (0, .ref B)], [], me_w M J2)) rfl k
        rw [if_pos (show (Int32.ofInt 0) = 0 from by decide)] at k
        have k := ly_revb 1 (c' := (65, [(1, .int (Int32.ofInt 2)), (0, .ref B)], [.int (Int32.ofInt 0)], me_w M J2)) rfl k
        have k := lz_ri rfl (by decide) k
        have ho : lb_op (lb_g f t (lb_s f t q1)) = Int32.ofInt 10 := by rw [h15]; decide
        have hl2 : lb_lp f t (lb_te f t) (Int32.ofInt 10) (Int32.ofInt 11) 1 (lb_s f t q1, z1.2.1, z1.2.2) (.inl c) := Or.inr ⟨Or.inl ho, _, hv2, Or.inl ⟨c, rfl, rfl⟩⟩
        have hzz : (lb_s f t q1, z1.2.1, z1.2.2) = z1 := by rw [hz1]
        rw [hzz] at hl2
        exact ⟨_, _, _, k, ⟨_, hv1, Or.inr ⟨_, rfl, _, hl2⟩⟩, ⟨hc, rfl, _, _, _, hT2, hq2⟩⟩
      · obtain ⟨rfl, q2, hz2, hq2, hT2⟩ := hQ2
        have k : nt_rn X _ 151 (61, [(1, .int (Int32.ofInt 2)), (0, .ref B)], [.int (Int32.ofInt 1)], me_w M J2) _ := k
        have k := ly_revb 1 (c' := (if (Int32.ofInt 1) = 0 then 64 else 66, [(1, .int (Int32.ofInt 2)), (0, .ref B)], [], me_w M J2)) rfl k
        rw [if_neg (show ¬ ((Int32.ofInt 1) = 0) from by decide)] at k
        have k := ly_revb 3 (c' := (69, [(1, .int (Int32.ofInt 2)), (0, .ref B)], [.int (Int32.ofInt 0), .int (Int32.ofInt 2), .ref B], me_w M J2)) rfl k
        obtain ⟨d1, o1, ed, kc, k⟩ := lz_c (g := 155) (q := 1) (vs := [.ref B, .int (Int32.ofInt 2), .int (Int32.ofInt 0)]) (rest := []) rfl rfl (by decide) (Or.inr (Or.inl ⟨_, rfl, rfl⟩)) rfl k
        obtain ⟨hb, e1⟩ := mg_puts hP hT2 hq2 kc
        subst e1
        have hU2 := mg_Se (y := (Int32.ofInt 2) + Int32.ofInt 16 * (Int32.ofInt 0)) hP hT2 hb
        have k : nt_rn X _ 151 (72, [(1, .int (Int32.ofInt 2)), (0, .ref B)], [], me_w M (nt_u (nt_u J2 Sg (400 * x + z2.2.2.2.1) ((Int32.ofInt 2) + Int32.ofInt 16 * (Int32.ofInt 0))) Ln x (nI (z2.2.2.2.1 + 1)))) _ := k
        have k := ly_revb 1 (c' := (9, [(1, .int (Int32.ofInt 2)), (0, .ref B)], [], me_w M (nt_u (nt_u J2 Sg (400 * x + z2.2.2.2.1) ((Int32.ofInt 2) + Int32.ofInt 16 * (Int32.ofInt 0))) Ln x (nI (z2.2.2.2.1 + 1))))) rfl k
        have hup := lb_te_up ((lb_s_le (f := f) (t := t) (t - (lb_s f t q1 + 1)) (lb_s f t q1 + 1) (by omega)).2) hv2
        have hsl := lb_s_le (f := f) (t := t) (t - (lb_s f t q1 + 1)) (lb_s f t q1 + 1) (by omega)
        dsimp only at hup
        obtain ⟨r, a, J9, e9, ⟨kk, hl⟩, hQ⟩ := mg_suml hP hB (t + 1 - 0 * z2.1) q2 _ _ _ (lb_e z2.2.2.1 (Int32.ofInt 10)) _ (by rw [hz2]; omega) hU2 hq2 k
        rw [hz2, ← lb_ew_c (e := z2.2.2) (w := Int32.ofInt 10) (by decide) (by decide)] at hl
        have ho : lb_op (lb_g f t (lb_s f t q1)) = Int32.ofInt 10 := by rw [h15]; decide
        have hl2 : lb_lp f t (lb_te f t) (Int32.ofInt 10) (Int32.ofInt 11) (kk + 1) (lb_s f t q1, z1.2.1, z1.2.2) r := Or.inr ⟨Or.inl ho, _, hv2, Or.inr ⟨_, rfl, by dsimp only; rw [ho]; exact hl⟩⟩
        have hzz : (lb_s f t q1, z1.2.1, z1.2.2) = z1 := by rw [hz1]
        rw [hzz] at hl2
        exact ⟨_, _, _, e9, ⟨_, hv1, Or.inr ⟨_, rfl, _, hl2⟩⟩, hQ⟩
    · rw [if_neg (show ¬ ((lb_g f t (lb_s f t q1)) = (Int32.ofInt 43)) from h15)] at k
      have k := ly_revb 1 (c' := (19, [(0, .ref B)], [.ref B], me_w M (nt_u J1 B 15 (nI (lb_s f t q1))))) rfl k
      obtain ⟨d1, o1, ed, kc, k⟩ := lz_c (g := 136) (q := 1) (vs := [.ref B]) (rest := []) rfl rfl (by decide) (Or.inr (Or.inl ⟨_, rfl, rfl⟩)) rfl k
      have e1 := mg_see hP hS11 hp11 kc
      rw [lb_ss hq1, me_uu] at e1
      subst e1
      have k : nt_rn X _ 151 (22, [(0, .ref B)], [.int (lb_g f t (lb_s f t q1))], me_w M (nt_u J1 B 15 (nI (lb_s f t q1)))) _ := k
      have k := ly_revb 2 (c' := (if (lb_g f t (lb_s f t q1)) = (Int32.ofInt 45) then 27 else 75, [(0, .ref B)], [], me_w M (nt_u J1 B 15 (nI (lb_s f t q1))))) rfl k
      by_cases h24 : lb_g f t (lb_s f t q1) = Int32.ofInt 45
      · rw [if_pos (show (lb_g f t (lb_s f t q1)) = (Int32.ofInt 45) from h24)] at k
        have k := ly_revb 1 (c' := (28, [(0, .ref B)], [.ref B], me_w M (nt_u J1 B 15 (nI (lb_s f t q1))))) rfl k
        have k := lz_get (a := B) (g := 1100) (M := me_w M (nt_u J1 B 15 (nI (lb_s f t q1)))) (v := .ref Tb) rfl (nt_gfR rfl hP.1.1) k
        have k := ly_revb 1 (c' := (32, [(0, .ref B)], [.ref B, .ref Tb], me_w M (nt_u J1 B 15 (nI (lb_s f t q1))))) rfl k
        have k := lz_get (a := B) (g := 1115) (M := me_w M (nt_u J1 B 15 (nI (lb_s f t q1)))) (v := .int (nI (lb_s f t q1))) rfl (congrArg Value.int (hS11.1)) k
        have k := me_bald (q := (lb_s f t q1)) (v := f ((lb_s f t q1))) rfl (rfl) (by omega) (mg_f hP hS11 ((lb_s f t q1))) k
        have k := ly_revb 2 (c' := (if (f ((lb_s f t q1))) = (Int32.ofInt 43) then 41 else 45, [(0, .ref B)], [], me_w M (nt_u J1 B 15 (nI (lb_s f t q1))))) rfl k
        have hlt : lb_s f t q1 < t := lb_g_lt (by rw [h24]; decide)
        rw [if_neg (show ¬ ((f ((lb_s f t q1))) = (Int32.ofInt 43)) from fun c => h15 (lb_g2 hB hlt (by decide) c))] at k
        have k := ly_revb 4 (c' := (49, [(1, .int (Int32.ofInt 3)), (0, .ref B)], [.ref B, .ref B], me_w M (nt_u J1 B 15 (nI (lb_s f t q1))))) rfl k
        have k := lz_get (a := B) (g := 1115) (M := me_w M (nt_u J1 B 15 (nI (lb_s f t q1)))) (v := .int (nI (lb_s f t q1))) rfl (congrArg Value.int (hS11.1)) k
        have k := ly_revb 2 (c' := (54, [(1, .int (Int32.ofInt 3)), (0, .ref B)], [.int ((nI (lb_s f t q1)) + (Int32.ofInt 1)), .ref B], me_w M (nt_u J1 B 15 (nI (lb_s f t q1))))) rfl k
        rw [show ((nI (lb_s f t q1)) + (Int32.ofInt 1) : Int32) = nI ((lb_s f t q1) + 1) from me_add (k := 1)] at k
        have k := me_put rfl (by decide) k
        have k : nt_rn X _ 151 (57, [(1, .int (Int32.ofInt 3)), (0, .ref B)], [], me_w M (nt_u (nt_u J1 B 15 (nI (lb_s f t q1))) B 15 (nI ((lb_s f t q1) + 1)))) _ := k
        have hV1 := mg_Sq (y := lb_s f t q1 + 1) hP hS11
        have k := ly_revb 1 (c' := (58, [(1, .int (Int32.ofInt 3)), (0, .ref B)], [.ref B], me_w M (nt_u (nt_u J1 B 15 (nI (lb_s f t q1))) B 15 (nI ((lb_s f t q1) + 1))))) rfl k
        obtain ⟨d1, o1, ed, kc, k⟩ := lz_c (g := 152) (q := 1) (vs := [.ref B]) (rest := []) rfl rfl (by decide) (Or.inr (Or.inl ⟨_, rfl, rfl⟩)) rfl k
        obtain ⟨r2, a2, J2, e1, hv2, hQ2⟩ := mg_term (s0 := z1.2.2.1) hP hB hV1 (show lb_s f t q1 + 1 ≤ t from hlt) kc
        subst e1
        rcases r2 with c | z2
        · obtain ⟨hc, rfl, q2, m2, e2, hT2, hq2⟩ := hQ2
          have k : nt_rn X _ 151 (61, [(1, .int (Int32.ofInt 3)), (0, .ref B)], [.int (Int32.ofInt 0)], me_w M J2) _ := k
          have k := ly_revb 1 (c' := (if (Int32.ofInt 0) = 0 then 64 else 66, [(1, .int (Int32.ofInt 3)), (0, .ref B)], [], me_w M J2)) rfl k
          rw [if_pos (show (Int32.ofInt 0) = 0 from by decide)] at k
          have k := ly_revb 1 (c' := (65, [(1, .int (Int32.ofInt 3)), (0, .ref B)], [.int (Int32.ofInt 0)], me_w M J2)) rfl k
          have k := lz_ri rfl (by decide) k
          have ho : lb_op (lb_g f t (lb_s f t q1)) = Int32.ofInt 11 := by rw [h24]; decide
          have hl2 : lb_lp f t (lb_te f t) (Int32.ofInt 10) (Int32.ofInt 11) 1 (lb_s f t q1, z1.2.1, z1.2.2) (.inl c) := Or.inr ⟨Or.inr ho, _, hv2, Or.inl ⟨c, rfl, rfl⟩⟩
          have hzz : (lb_s f t q1, z1.2.1, z1.2.2) = z1 := by rw [hz1]
          rw [hzz] at hl2
          exact ⟨_, _, _, k, ⟨_, hv1, Or.inr ⟨_, rfl, _, hl2⟩⟩, ⟨hc, rfl, _, _, _, hT2, hq2⟩⟩
        · obtain ⟨rfl, q2, hz2, hq2, hT2⟩ := hQ2
          have k : nt_rn X _ 151 (61, [(1, .int (Int32.ofInt 3)), (0, .ref B)], [.int (Int32.ofInt 1)], me_w M J2) _ := k
          have k := ly_revb 1 (c' := (if (Int32.ofInt 1) = 0 then 64 else 66, [(1, .int (Int32.ofInt 3)), (0, .ref B)], [], me_w M J2)) rfl k
          rw [if_neg (show ¬ ((Int32.ofInt 1) = 0) from by decide)] at k
          have k := ly_revb 3 (c' := (69, [(1, .int (Int32.ofInt 3)), (0, .ref B)], [.int (Int32.ofInt 0), .int (Int32.ofInt 3), .ref B], me_w M J2)) rfl k
          obtain ⟨d1, o1, ed, kc, k⟩ := lz_c (g := 155) (q := 1) (vs := [.ref B, .int (Int32.ofInt 3), .int (Int32.ofInt 0)]) (rest := []) rfl rfl (by decide) (Or.inr (Or.inl ⟨_, rfl, rfl⟩)) rfl k
          obtain ⟨hb, e1⟩ := mg_puts hP hT2 hq2 kc
          subst e1
          have hU2 := mg_Se (y := (Int32.ofInt 3) + Int32.ofInt 16 * (Int32.ofInt 0)) hP hT2 hb
          have k : nt_rn X _ 151 (72, [(1, .int (Int32.ofInt 3)), (0, .ref B)], [], me_w M (nt_u (nt_u J2 Sg (400 * x + z2.2.2.2.1) ((Int32.ofInt 3) + Int32.ofInt 16 * (Int32.ofInt 0))) Ln x (nI (z2.2.2.2.1 + 1)))) _ := k
          have k := ly_revb 1 (c' := (9, [(1, .int (Int32.ofInt 3)), (0, .ref B)], [], me_w M (nt_u (nt_u J2 Sg (400 * x + z2.2.2.2.1) ((Int32.ofInt 3) + Int32.ofInt 16 * (Int32.ofInt 0))) Ln x (nI (z2.2.2.2.1 + 1))))) rfl k
          have hup := lb_te_up ((lb_s_le (f := f) (t := t) (t - (lb_s f t q1 + 1)) (lb_s f t q1 + 1) (by omega)).2) hv2
          have hsl := lb_s_le (f := f) (t := t) (t - (lb_s f t q1 + 1)) (lb_s f t q1 + 1) (by omega)
          dsimp only at hup
          obtain ⟨r, a, J9, e9, ⟨kk, hl⟩, hQ⟩ := mg_suml hP hB (t + 1 - 0 * z2.1) q2 _ _ _ (lb_e z2.2.2.1 (Int32.ofInt 11)) _ (by rw [hz2]; omega) hU2 hq2 k
          rw [hz2, ← lb_ew_c (e := z2.2.2) (w := Int32.ofInt 11) (by decide) (by decide)] at hl
          have ho : lb_op (lb_g f t (lb_s f t q1)) = Int32.ofInt 11 := by rw [h24]; decide
          have hl2 : lb_lp f t (lb_te f t) (Int32.ofInt 10) (Int32.ofInt 11) (kk + 1) (lb_s f t q1, z1.2.1, z1.2.2) r := Or.inr ⟨Or.inr ho, _, hv2, Or.inr ⟨_, rfl, by dsimp only; rw [ho]; exact hl⟩⟩
          have hzz : (lb_s f t q1, z1.2.1, z1.2.2) = z1 := by rw [hz1]
          rw [hzz] at hl2
          exact ⟨_, _, _, e9, ⟨_, hv1, Or.inr ⟨_, rfl, _, hl2⟩⟩, hQ⟩
      · rw [if_neg (show ¬ ((lb_g f t (lb_s f t q1)) = (Int32.ofInt 45)) from h24)] at k
        have k := ly_revb 1 (c' := (76, [(0, .ref B)], [.int (Int32.ofInt 1)], me_w M (nt_u J1 B 15 (nI (lb_s f t q1))))) rfl k
        have k := lz_ri rfl (by decide) k
        have hno : ¬ (lb_op (lb_g f t (lb_s f t q1)) = Int32.ofInt 10 ∨ lb_op (lb_g f t (lb_s f t q1)) = Int32.ofInt 11) := fun hh => hh.elim (fun c => h15 (lb_op_i.1 c)) (fun c => h24 (lb_op_i.2.1 c))
        have hl2 : lb_lp f t (lb_te f t) (Int32.ofInt 10) (Int32.ofInt 11) 1 (lb_s f t q1, z1.2.1, z1.2.2) (.inr (lb_s f t q1, z1.2.1, z1.2.2)) := Or.inl ⟨hno, rfl⟩
        have hzz : (lb_s f t q1, z1.2.1, z1.2.2) = z1 := by rw [hz1]
        rw [hzz] at hl2
        exact ⟨_, _, _, k, ⟨_, hv1, Or.inr ⟨_, rfl, _, hl2⟩⟩, ⟨rfl, _, (lb_ss hq1).trans hz1, hp11, hS11⟩⟩
theorem mg_sum {G : Nat → Int32} {X : nt_X} {d t x B Tb Sg Ln q m : Nat} {f : Nat → Int32} {M : nt_M} {J0 J : Nat → Nat → Int32} {o : Option Value × nt_M} {e : Nat × (Nat → Int32)} {s0 : Nat × (Nat → Int32)} (hP : md_P M J0 f t x B Tb Sg Ln) (hB : lb_by f t) (hS : mg_S G J0 B Sg Ln x q 0 m e J) (hp : q ≤ t) (k : nt_ev X d 151 [.ref B] (me_w M J) o) : ∃ r a J', o = (some (.int a), me_w M J') ∧ lb_sum f t (lb_s f t q, m, (s0, e)) r ∧ mg_Q G J0 B Sg Ln x t f r a J' := by
  obtain ⟨r, a, J', h1, h2, h3⟩ := mg_sum0 (s0 := s0) hP hB hS hp k
  exact ⟨r, a, J', h1, lb_su_sum (lb_s_le (t - q) q (by omega)).2 h2, h3⟩
theorem mg_cmp {G : Nat → Int32} {X : nt_X} {d t x B Tb Sg Ln q m : Nat} {f : Nat → Int32} {M : nt_M} {J0 J : Nat → Nat → Int32} {o : Option Value × nt_M} {e : Nat × (Nat → Int32)} {s0 : Nat × (Nat → Int32)} (hP : md_P M J0 f t x B Tb Sg Ln) (hB : lb_by f t) (hS : mg_S G J0 B Sg Ln x q 0 m e J) (hp : q ≤ t) (k : nt_ev X d 161 [.ref B] (me_w M J) o) : ∃ r a J', o = (some (.int a), me_w M J') ∧ lb_fa f t (lb_s f t q, m, (s0, e)) r ∧ mg_Q G J0 B Sg Ln x t f r a J' := by
  have k : nt_rn X d 161 (0, [(0, .ref B)], [], me_w M J) o := k
  have t4 : t ≤ 400 := hP.2.2.2.2.2.1
  have k := ly_revb 1 (c' := (1, [(0, .ref B)], [.ref B], me_w M J)) rfl k
  obtain ⟨d1, o1, ed, kc, k⟩ := lz_c (g := 151) (q := 1) (vs := [.ref B]) (rest := []) rfl rfl (by decide) (Or.inr (Or.inl ⟨_, rfl, rfl⟩)) rfl k
  obtain ⟨r1, a1, J1, e1, hv1, hQ1⟩ := mg_sum (s0 := s0) hP hB hS hp kc
  subst e1
  rcases r1 with c | z1
  · obtain ⟨hc, rfl, q1, m1, e1, hT1, hq1⟩ := hQ1
    have k : nt_rn X _ 161 (4, [(0, .ref B)], [.int (Int32.ofInt 0)], me_w M J1) _ := k
    have k := ly_revb 1 (c' := (if (Int32.ofInt 0) = 0 then 7 else 9, [(0, .ref B)], [], me_w M J1)) rfl k
    rw [if_pos (show (Int32.ofInt 0) = 0 from by decide)] at k
    have k := ly_revb 1 (c' := (8, [(0, .ref B)], [.int (Int32.ofInt 0)], me_w M J1)) rfl k
    have k := lz_ri rfl (by decide) k
    exact ⟨.inl c, _, _, k, ⟨_, hv1, Or.inl ⟨c, rfl, rfl⟩⟩, hc, rfl, _, _, _, hT1, hq1⟩
  · obtain ⟨rfl, q1, hz1, hq1, hT1⟩ := hQ1
    have k : nt_rn X _ 161 (4, [(0, .ref B)], [.int (Int32.ofInt 1)], me_w M J1) _ := k
    have k := ly_revb 1 (c' := (if (Int32.ofInt 1) = 0 then 7 else 9, [(0, .ref B)], [], me_w M J1)) rfl k
    rw [if_neg (show ¬ ((Int32.ofInt 1) = 0) from by decide)] at k
    have k := ly_revb 1 (c' := (10, [(0, .ref B)], [.ref B], me_w M J1)) rfl k
    obtain ⟨d1, o1, ed, kc, k⟩ := lz_c (g := 136) (q := 1) (vs := [.ref B]) (rest := []) rfl rfl (by decide) (Or.inr (Or.inl ⟨_, rfl, rfl⟩)) rfl k
    have e1 := mg_see hP hT1 hq1 kc
    rw [hz1] at e1
    subst e1
    have hS2 := mg_Sq (y := z1.1) hP hT1
    have hp2 : z1.1 ≤ t := by rw [← hz1]; exact (lb_s_le (t - q1) q1 (by omega)).2
    have k : nt_rn X _ 161 (13, [(0, .ref B)], [.int (lb_g f t z1.1)], me_w M (nt_u J1 B 15 (nI z1.1))) _ := k
    have k := ly_revb 2 (c' := (15, [(1, .int (lb_g f t z1.1)), (0, .ref B)], [.ref B], me_w M (nt_u J1 B 15 (nI z1.1)))) rfl k
    have k := lz_get (a := B) (g := 1115) (M := me_w M (nt_u J1 B 15 (nI z1.1))) (v := .int (nI z1.1)) rfl (congrArg Value.int (hS2.1)) k
    have k := ly_revb 4 (c' := (if (lb_g f t z1.1) = (Int32.ofInt 60) then 44 else 25, [(2, .int (nI z1.1)), (1, .int (lb_g f t z1.1)), (0, .ref B)], [], me_w M (nt_u J1 B 15 (nI z1.1)))) rfl k
    by_cases h22 : lb_g f t z1.1 = Int32.ofInt 60
    · rw [if_pos (show (lb_g f t z1.1) = (Int32.ofInt 60) from h22)] at k
      have k := ly_revb 2 (c' := (46, [(2, .int (nI z1.1)), (1, .int (lb_g f t z1.1)), (0, .ref B)], [.ref B, .ref B], me_w M (nt_u J1 B 15 (nI z1.1)))) rfl k
      have k := lz_get (a := B) (g := 1115) (M := me_w M (nt_u J1 B 15 (nI z1.1))) (v := .int (nI z1.1)) rfl (congrArg Value.int (hS2.1)) k
      have k := ly_revb 2 (c' := (51, [(2, .int (nI z1.1)), (1, .int (lb_g f t z1.1)), (0, .ref B)], [.int ((nI z1.1) + (Int32.ofInt 1)), .ref B], me_w M (nt_u J1 B 15 (nI z1.1)))) rfl k
      rw [show ((nI z1.1) + (Int32.ofInt 1) : Int32) = nI (z1.1 + 1) from me_add (k := 1)] at k
      have k := me_put rfl (by decide) k
      have k : nt_rn X _ 161 (54, [(2, .int (nI z1.1)), (1, .int (lb_g f t z1.1)), (0, .ref B)], [], me_w M (nt_u (nt_u J1 B 15 (nI z1.1)) B 15 (nI (z1.1 + 1)))) _ := k
      have hN1 := mg_Sq (y := z1.1 + 1) hP hS2
      have hlt : z1.1 < t := lb_g_lt (by rw [h22]; decide)
      have k := ly_revb 3 (c' := (if (lb_g f t z1.1) = (Int32.ofInt 61) then 89 else 60, [(2, .int (nI z1.1)), (1, .int (lb_g f t z1.1)), (0, .ref B)], [], me_w M (nt_u (nt_u J1 B 15 (nI z1.1)) B 15 (nI (z1.1 + 1))))) rfl k
      rw [if_neg (show ¬ ((lb_g f t z1.1) = (Int32.ofInt 61)) from by rw [h22]; decide)] at k
      have k := ly_revb 1 (c' := (61, [(2, .int (nI z1.1)), (1, .int (lb_g f t z1.1)), (0, .ref B)], [.ref B], me_w M (nt_u (nt_u J1 B 15 (nI z1.1)) B 15 (nI (z1.1 + 1))))) rfl k
      have k := lz_get (a := B) (g := 1115) (M := me_w M (nt_u (nt_u J1 B 15 (nI z1.1)) B 15 (nI (z1.1 + 1)))) (v := .int (nI (z1.1 + 1))) rfl (congrArg Value.int (hN1.1)) k
      have k := ly_revb 1 (c' := (65, [(2, .int (nI z1.1)), (1, .int (lb_g f t z1.1)), (0, .ref B)], [.ref B, .int (nI (z1.1 + 1))], me_w M (nt_u (nt_u J1 B 15 (nI z1.1)) B 15 (nI (z1.1 + 1))))) rfl k
      have k := lz_get (a := B) (g := 1101) (M := me_w M (nt_u (nt_u J1 B 15 (nI z1.1)) B 15 (nI (z1.1 + 1)))) (v := .int (nI t)) rfl (congrArg Value.int (mg_t hP hN1)) k
      have k := ly_revb 1 (c' := (if (nI t) ≤ (nI (z1.1 + 1)) then 89 else 71, [(2, .int (nI z1.1)), (1, .int (lb_g f t z1.1)), (0, .ref B)], [], me_w M (nt_u (nt_u J1 B 15 (nI z1.1)) B 15 (nI (z1.1 + 1))))) rfl k
      by_cases h68 : t ≤ (z1.1 + 1)
      · rw [if_pos (show (nI t) ≤ (nI (z1.1 + 1)) from show nI t ≤ nI ((z1.1 + 1)) from nI_le h68 (by omega))] at k
        have k := ly_revb 4 (c' := (if (Int32.ofInt 0) = 0 then 105 else 95, [(3, .int (Int32.ofInt 0)), (2, .int (nI z1.1)), (1, .int (lb_g f t z1.1)), (0, .ref B)], [], me_w M (nt_u (nt_u J1 B 15 (nI z1.1)) B 15 (nI (z1.1 + 1))))) rfl k
        rw [if_pos (show (Int32.ofInt 0) = 0 from by decide)] at k
        have k := ly_revb 2 (c' := (107, [(3, .int (Int32.ofInt 0)), (2, .int (nI z1.1)), (1, .int (lb_g f t z1.1)), (0, .ref B)], [.int (nI z1.1), .ref B], me_w M (nt_u (nt_u J1 B 15 (nI z1.1)) B 15 (nI (z1.1 + 1))))) rfl k
        obtain ⟨d1, o1, ed, kc, k⟩ := lz_c (g := 154) (q := 1) (vs := [.ref B, .int (nI z1.1)]) (rest := []) rfl rfl (by decide) (Or.inr (Or.inl ⟨_, rfl, rfl⟩)) rfl k
        rcases mg_makes (a := z1.1) hP hN1 (show z1.1 + 1 ≤ t from hlt) rfl kc with ⟨hm, e1⟩ | ⟨hm, e1⟩
        · subst e1
          have hS6 := mg_Sw (y := lb_c z1.1 (Int32.ofInt 3)) hP hN1
          have k : nt_rn X _ 161 (110, [(3, .int (Int32.ofInt 0)), (2, .int (nI z1.1)), (1, .int (lb_g f t z1.1)), (0, .ref B)], [.int (Int32.ofInt 0)], me_w M (nt_u (nt_u (nt_u J1 B 15 (nI z1.1)) B 15 (nI (z1.1 + 1))) B 16 (lb_c z1.1 (Int32.ofInt 3)))) _ := k
          have k := ly_revb 1 (c' := (if (Int32.ofInt 0) = 0 then 113 else 115, [(3, .int (Int32.ofInt 0)), (2, .int (nI z1.1)), (1, .int (lb_g f t z1.1)), (0, .ref B)], [], me_w M (nt_u (nt_u (nt_u J1 B 15 (nI z1.1)) B 15 (nI (z1.1 + 1))) B 16 (lb_c z1.1 (Int32.ofInt 3))))) rfl k
          rw [if_pos (show (Int32.ofInt 0) = 0 from by decide)] at k
          have k := ly_revb 1 (c' := (114, [(3, .int (Int32.ofInt 0)), (2, .int (nI z1.1)), (1, .int (lb_g f t z1.1)), (0, .ref B)], [.int (Int32.ofInt 0)], me_w M (nt_u (nt_u (nt_u J1 B 15 (nI z1.1)) B 15 (nI (z1.1 + 1))) B 16 (lb_c z1.1 (Int32.ofInt 3))))) rfl k
          have k := lz_ri rfl (by decide) k
          have hcm : lb_cm f t z1.1 (Int32.ofInt 14) := Or.inr (Or.inl ⟨h22, fun c => absurd c.1 (by omega), rfl⟩)
          exact ⟨.inl (lb_c z1.1 (Int32.ofInt 3)), _, _, k, ⟨_, hv1, Or.inr ⟨z1, rfl, _, _, ⟨hcm, Or.inr (Or.inl ⟨by decide, hm, rfl⟩)⟩, Or.inl ⟨_, rfl, rfl⟩⟩⟩, (lb_c_ne (by omega) (by decide) (by decide)), rfl, _, _, _, hS6, (show z1.1 + 1 ≤ t from hlt)⟩
        · subst e1
          have hS6 := mg_Sm (y := z1.2.1 + 1) hP hN1 (by omega)
          have k : nt_rn X _ 161 (110, [(3, .int (Int32.ofInt 0)), (2, .int (nI z1.1)), (1, .int (lb_g f t z1.1)), (0, .ref B)], [.int (Int32.ofInt 1)], me_w M (nt_u (nt_u (nt_u J1 B 15 (nI z1.1)) B 15 (nI (z1.1 + 1))) B 19 (nI (z1.2.1 + 1)))) _ := k
          have k := ly_revb 1 (c' := (if (Int32.ofInt 1) = 0 then 113 else 115, [(3, .int (Int32.ofInt 0)), (2, .int (nI z1.1)), (1, .int (lb_g f t z1.1)), (0, .ref B)], [], me_w M (nt_u (nt_u (nt_u J1 B 15 (nI z1.1)) B 15 (nI (z1.1 + 1))) B 19 (nI (z1.2.1 + 1))))) rfl k
          rw [if_neg (show ¬ ((Int32.ofInt 1) = 0) from by decide)] at k
          have k := ly_revb 3 (c' := (if (lb_g f t z1.1) = (Int32.ofInt 60) then 121 else 133, [(3, .int (Int32.ofInt 0)), (2, .int (nI z1.1)), (1, .int (lb_g f t z1.1)), (0, .ref B)], [], me_w M (nt_u (nt_u (nt_u J1 B 15 (nI z1.1)) B 15 (nI (z1.1 + 1))) B 19 (nI (z1.2.1 + 1))))) rfl k
          rw [if_pos (show (lb_g f t z1.1) = (Int32.ofInt 60) from h22)] at k
          have k := ly_revb 2 (c' := (if (Int32.ofInt 0) = 0 then 129 else 125, [(3, .int (Int32.ofInt 0)), (2, .int (nI z1.1)), (1, .int (lb_g f t z1.1)), (0, .ref B)], [], me_w M (nt_u (nt_u (nt_u J1 B 15 (nI z1.1)) B 15 (nI (z1.1 + 1))) B 19 (nI (z1.2.1 + 1))))) rfl k
          rw [if_pos (show (Int32.ofInt 0) = 0 from by decide)] at k
          have k := ly_revb 4 (c' := (155, [(4, .int (Int32.ofInt 0)), (3, .int (Int32.ofInt 0)), (2, .int (nI z1.1)), (1, .int (lb_g f t z1.1)), (0, .ref B)], [.ref B], me_w M (nt_u (nt_u (nt_u J1 B 15 (nI z1.1)) B 15 (nI (z1.1 + 1))) B 19 (nI (z1.2.1 + 1))))) rfl k
          obtain ⟨d1, o1, ed, kc, k⟩ := lz_c (g := 151) (q := 1) (vs := [.ref B]) (rest := []) rfl rfl (by decide) (Or.inr (Or.inl ⟨_, rfl, rfl⟩)) rfl k
          obtain ⟨r2, a2, J2, e1, hv2, hQ2⟩ := mg_sum (s0 := z1.2.2.1) hP hB hS6 (show z1.1 + 1 ≤ t from hlt) kc
          subst e1
          rcases r2 with c | z2
          · obtain ⟨hc, rfl, q2, m2, e2, hT2, hq2⟩ := hQ2
            have k : nt_rn X _ 161 (158, [(4, .int (Int32.ofInt 0)), (3, .int (Int32.ofInt 0)), (2, .int (nI z1.1)), (1, .int (lb_g f t z1.1)), (0, .ref B)], [.int (Int32.ofInt 0)], me_w M J2) _ := k
            have k := ly_revb 1 (c' := (if (Int32.ofInt 0) = 0 then 161 else 163, [(4, .int (Int32.ofInt 0)), (3, .int (Int32.ofInt 0)), (2, .int (nI z1.1)), (1, .int (lb_g f t z1.1)), (0, .ref B)], [], me_w M J2)) rfl k
            rw [if_pos (show (Int32.ofInt 0) = 0 from by decide)] at k
            have k := ly_revb 1 (c' := (162, [(4, .int (Int32.ofInt 0)), (3, .int (Int32.ofInt 0)), (2, .int (nI z1.1)), (1, .int (lb_g f t z1.1)), (0, .ref B)], [.int (Int32.ofInt 0)], me_w M J2)) rfl k
            have k := lz_ri rfl (by decide) k
            have hcm : lb_cm f t z1.1 (Int32.ofInt 14) := Or.inr (Or.inl ⟨h22, fun c => absurd c.1 (by omega), rfl⟩)
            have hcl : lb_cl (Int32.ofInt 14) = 1 := by decide
            have hv3 : lb_sum f t (lb_s f t (z1.1 + lb_cl (Int32.ofInt 14)), z1.2.1 + 1, z1.2.2) (.inl c) := by rw [hcl]; exact hv2
            exact ⟨.inl c, _, _, k, ⟨_, hv1, Or.inr ⟨z1, rfl, _, _, ⟨hcm, Or.inr (Or.inr ⟨by decide, hm, rfl⟩)⟩, Or.inr ⟨_, rfl, _, hv3, Or.inl ⟨c, rfl, rfl⟩⟩⟩⟩, hc, rfl, _, _, _, hT2, hq2⟩
          · obtain ⟨rfl, q2, hz2, hq2, hT2⟩ := hQ2
            have k : nt_rn X _ 161 (158, [(4, .int (Int32.ofInt 0)), (3, .int (Int32.ofInt 0)), (2, .int (nI z1.1)), (1, .int (lb_g f t z1.1)), (0, .ref B)], [.int (Int32.ofInt 1)], me_w M J2) _ := k
            have k := ly_revb 1 (c' := (if (Int32.ofInt 1) = 0 then 161 else 163, [(4, .int (Int32.ofInt 0)), (3, .int (Int32.ofInt 0)), (2, .int (nI z1.1)), (1, .int (lb_g f t z1.1)), (0, .ref B)], [], me_w M J2)) rfl k
            rw [if_neg (show ¬ ((Int32.ofInt 1) = 0) from by decide)] at k
            have k := ly_revb 5 (c' := (170, [(4, .int (Int32.ofInt 0)), (3, .int (Int32.ofInt 0)), (2, .int (nI z1.1)), (1, .int (lb_g f t z1.1)), (0, .ref B)], [.int (Int32.ofInt 0), .int ((Int32.ofInt 6) + (Int32.ofInt 0)), .ref B], me_w M J2)) rfl k
            obtain ⟨d1, o1, ed, kc, k⟩ := lz_c (g := 155) (q := 1) (vs := [.ref B, .int ((Int32.ofInt 6) + (Int32.ofInt 0)), .int (Int32.ofInt 0)]) (rest := []) rfl rfl (by decide) (Or.inr (Or.inl ⟨_, rfl, rfl⟩)) rfl k
            obtain ⟨hb, e1⟩ := mg_puts hP hT2 hq2 kc
            subst e1
            have hU2 := mg_Se (y := ((Int32.ofInt 6) + (Int32.ofInt 0)) + Int32.ofInt 16 * (Int32.ofInt 0)) hP hT2 hb
            have k : nt_rn X _ 161 (173, [(4, .int (Int32.ofInt 0)), (3, .int (Int32.ofInt 0)), (2, .int (nI z1.1)), (1, .int (lb_g f t z1.1)), (0, .ref B)], [], me_w M (nt_u (nt_u J2 Sg (400 * x + z2.2.2.2.1) (((Int32.ofInt 6) + (Int32.ofInt 0)) + Int32.ofInt 16 * (Int32.ofInt 0))) Ln x (nI (z2.2.2.2.1 + 1)))) _ := k
            have k := ly_revb 1 (c' := (174, [(4, .int (Int32.ofInt 0)), (3, .int (Int32.ofInt 0)), (2, .int (nI z1.1)), (1, .int (lb_g f t z1.1)), (0, .ref B)], [.int (Int32.ofInt 1)], me_w M (nt_u (nt_u J2 Sg (400 * x + z2.2.2.2.1) (((Int32.ofInt 6) + (Int32.ofInt 0)) + Int32.ofInt 16 * (Int32.ofInt 0))) Ln x (nI (z2.2.2.2.1 + 1))))) rfl k
            have k := lz_ri rfl (by decide) k
            have hcm : lb_cm f t z1.1 (Int32.ofInt 14) := Or.inr (Or.inl ⟨h22, fun c => absurd c.1 (by omega), rfl⟩)
            have hcl : lb_cl (Int32.ofInt 14) = 1 := by decide
            have hv3 : lb_sum f t (lb_s f t (z1.1 + lb_cl (Int32.ofInt 14)), z1.2.1 + 1, z1.2.2) (.inr z2) := by rw [hcl]; exact hv2
            rw [show ((Int32.ofInt 6) + (Int32.ofInt 0)) + Int32.ofInt 16 * (Int32.ofInt 0) = Int32.ofInt 14 - Int32.ofInt 8 from by decide] at hU2
            rw [show ((Int32.ofInt 6) + (Int32.ofInt 0)) + Int32.ofInt 16 * (Int32.ofInt 0) = Int32.ofInt 14 - Int32.ofInt 8 from by decide] at k
            exact ⟨.inr (z2.1, z2.2.1, lb_em z2.2.2 (Int32.ofInt 14) (Int32.ofInt 14 - Int32.ofInt 8)), _, _, k, ⟨_, hv1, Or.inr ⟨z1, rfl, _, _, ⟨hcm, Or.inr (Or.inr ⟨by decide, hm, rfl⟩)⟩, Or.inr ⟨_, rfl, _, hv3, Or.inr ⟨z2, rfl, rfl⟩⟩⟩⟩, rfl, _, hz2, hq2, hU2⟩
      · rw [if_neg (show ¬ ((nI t) ≤ (nI (z1.1 + 1))) from show ¬ nI t ≤ nI ((z1.1 + 1)) from nI_ge (Nat.not_le.mp h68) (by omega))] at k
        have k := ly_revb 1 (c' := (72, [(2, .int (nI z1.1)), (1, .int (lb_g f t z1.1)), (0, .ref B)], [.ref B], me_w M (nt_u (nt_u J1 B 15 (nI z1.1)) B 15 (nI (z1.1 + 1))))) rfl k
        have k := lz_get (a := B) (g := 1100) (M := me_w M (nt_u (nt_u J1 B 15 (nI z1.1)) B 15 (nI (z1.1 + 1)))) (v := .ref Tb) rfl (nt_gfR rfl hP.1.1) k
        have k := ly_revb 1 (c' := (76, [(2, .int (nI z1.1)), (1, .int (lb_g f t z1.1)), (0, .ref B)], [.ref B, .ref Tb], me_w M (nt_u (nt_u J1 B 15 (nI z1.1)) B 15 (nI (z1.1 + 1))))) rfl k
        have k := lz_get (a := B) (g := 1115) (M := me_w M (nt_u (nt_u J1 B 15 (nI z1.1)) B 15 (nI (z1.1 + 1)))) (v := .int (nI (z1.1 + 1))) rfl (congrArg Value.int (hN1.1)) k
        have k := me_bald (q := (z1.1 + 1)) (v := f ((z1.1 + 1))) rfl (rfl) (by omega) (mg_f hP hN1 ((z1.1 + 1))) k
        have k := ly_revb 2 (c' := (if (f ((z1.1 + 1))) = (Int32.ofInt 61) then 85 else 89, [(2, .int (nI z1.1)), (1, .int (lb_g f t z1.1)), (0, .ref B)], [], me_w M (nt_u (nt_u J1 B 15 (nI z1.1)) B 15 (nI (z1.1 + 1))))) rfl k
        by_cases h82 : f (z1.1 + 1) = Int32.ofInt 61
        · rw [if_pos (show (f ((z1.1 + 1))) = (Int32.ofInt 61) from h82)] at k
          have k := ly_revb 5 (c' := (if (Int32.ofInt 1) = 0 then 105 else 95, [(3, .int (Int32.ofInt 1)), (2, .int (nI z1.1)), (1, .int (lb_g f t z1.1)), (0, .ref B)], [], me_w M (nt_u (nt_u J1 B 15 (nI z1.1)) B 15 (nI (z1.1 + 1))))) rfl k
          rw [if_neg (show ¬ ((Int32.ofInt 1) = 0) from by decide)] at k
          have k := ly_revb 2 (c' := (97, [(3, .int (Int32.ofInt 1)), (2, .int (nI z1.1)), (1, .int (lb_g f t z1.1)), (0, .ref B)], [.ref B, .ref B], me_w M (nt_u (nt_u J1 B 15 (nI z1.1)) B 15 (nI (z1.1 + 1))))) rfl k
          have k := lz_get (a := B) (g := 1115) (M := me_w M (nt_u (nt_u J1 B 15 (nI z1.1)) B 15 (nI (z1.1 + 1)))) (v := .int (nI (z1.1 + 1))) rfl (congrArg Value.int (hN1.1)) k
          have k := ly_revb 2 (c' := (102, [(3, .int (Int32.ofInt 1)), (2, .int (nI z1.1)), (1, .int (lb_g f t z1.1)), (0, .ref B)], [.int ((nI (z1.1 + 1)) + (Int32.ofInt 1)), .ref B], me_w M (nt_u (nt_u J1 B 15 (nI z1.1)) B 15 (nI (z1.1 + 1))))) rfl k
          rw [show ((nI (z1.1 + 1)) + (Int32.ofInt 1) : Int32) = nI ((z1.1 + 1) + 1) from me_add (k := 1)] at k
          have k := me_put rfl (by decide) k
          have k : nt_rn X _ 161 (105, [(3, .int (Int32.ofInt 1)), (2, .int (nI z1.1)), (1, .int (lb_g f t z1.1)), (0, .ref B)], [], me_w M (nt_u (nt_u (nt_u J1 B 15 (nI z1.1)) B 15 (nI (z1.1 + 1))) B 15 (nI ((z1.1 + 1) + 1)))) _ := k
          have hN2 := mg_Sq (y := z1.1 + 2) hP hN1
          have k := ly_revb 2 (c' := (107, [(3, .int (Int32.ofInt 1)), (2, .int (nI z1.1)), (1, .int (lb_g f t z1.1)), (0, .ref B)], [.int (nI z1.1), .ref B], me_w M (nt_u (nt_u (nt_u J1 B 15 (nI z1.1)) B 15 (nI (z1.1 + 1))) B 15 (nI ((z1.1 + 1) + 1))))) rfl k
          obtain ⟨d1, o1, ed, kc, k⟩ := lz_c (g := 154) (q := 1) (vs := [.ref B, .int (nI z1.1)]) (rest := []) rfl rfl (by decide) (Or.inr (Or.inl ⟨_, rfl, rfl⟩)) rfl k
          rcases mg_makes (a := z1.1) hP hN2 (show z1.1 + 2 ≤ t by omega) rfl kc with ⟨hm, e1⟩ | ⟨hm, e1⟩
          · subst e1
            have hS6 := mg_Sw (y := lb_c z1.1 (Int32.ofInt 3)) hP hN2
            have k : nt_rn X _ 161 (110, [(3, .int (Int32.ofInt 1)), (2, .int (nI z1.1)), (1, .int (lb_g f t z1.1)), (0, .ref B)], [.int (Int32.ofInt 0)], me_w M (nt_u (nt_u (nt_u (nt_u J1 B 15 (nI z1.1)) B 15 (nI (z1.1 + 1))) B 15 (nI ((z1.1 + 1) + 1))) B 16 (lb_c z1.1 (Int32.ofInt 3)))) _ := k
            have k := ly_revb 1 (c' := (if (Int32.ofInt 0) = 0 then 113 else 115, [(3, .int (Int32.ofInt 1)), (2, .int (nI z1.1)), (1, .int (lb_g f t z1.1)), (0, .ref B)], [], me_w M (nt_u (nt_u (nt_u (nt_u J1 B 15 (nI z1.1)) B 15 (nI (z1.1 + 1))) B 15 (nI ((z1.1 + 1) + 1))) B 16 (lb_c z1.1 (Int32.ofInt 3))))) rfl k
            rw [if_pos (show (Int32.ofInt 0) = 0 from by decide)] at k
            have k := ly_revb 1 (c' := (114, [(3, .int (Int32.ofInt 1)), (2, .int (nI z1.1)), (1, .int (lb_g f t z1.1)), (0, .ref B)], [.int (Int32.ofInt 0)], me_w M (nt_u (nt_u (nt_u (nt_u J1 B 15 (nI z1.1)) B 15 (nI (z1.1 + 1))) B 15 (nI ((z1.1 + 1) + 1))) B 16 (lb_c z1.1 (Int32.ofInt 3))))) rfl k
            have k := lz_ri rfl (by decide) k
            have hcm : lb_cm f t z1.1 (Int32.ofInt 15) := Or.inl ⟨h22, ⟨by omega, h82⟩, rfl⟩
            exact ⟨.inl (lb_c z1.1 (Int32.ofInt 3)), _, _, k, ⟨_, hv1, Or.inr ⟨z1, rfl, _, _, ⟨hcm, Or.inr (Or.inl ⟨by decide, hm, rfl⟩)⟩, Or.inl ⟨_, rfl, rfl⟩⟩⟩, (lb_c_ne (by omega) (by decide) (by decide)), rfl, _, _, _, hS6, (show z1.1 + 2 ≤ t by omega)⟩
          · subst e1
            have hS6 := mg_Sm (y := z1.2.1 + 1) hP hN2 (by omega)
            have k : nt_rn X _ 161 (110, [(3, .int (Int32.ofInt 1)), (2, .int (nI z1.1)), (1, .int (lb_g f t z1.1)), (0, .ref B)], [.int (Int32.ofInt 1)], me_w M (nt_u (nt_u (nt_u (nt_u J1 B 15 (nI z1.1)) B 15 (nI (z1.1 + 1))) B 15 (nI ((z1.1 + 1) + 1))) B 19 (nI (z1.2.1 + 1)))) _ := k
            have k := ly_revb 1 (c' := (if (Int32.ofInt 1) = 0 then 113 else 115, [(3, .int (Int32.ofInt 1)), (2, .int (nI z1.1)), (1, .int (lb_g f t z1.1)), (0, .ref B)], [], me_w M (nt_u (nt_u (nt_u (nt_u J1 B 15 (nI z1.1)) B 15 (nI (z1.1 + 1))) B 15 (nI ((z1.1 + 1) + 1))) B 19 (nI (z1.2.1 + 1))))) rfl k
            rw [if_neg (show ¬ ((Int32.ofInt 1) = 0) from by decide)] at k
            have k := ly_revb 3 (c' := (if (lb_g f t z1.1) = (Int32.ofInt 60) then 121 else 133, [(3, .int (Int32.ofInt 1)), (2, .int (nI z1.1)), (1, .int (lb_g f t z1.1)), (0, .ref B)], [], me_w M (nt_u (nt_u (nt_u (nt_u J1 B 15 (nI z1.1)) B 15 (nI (z1.1 + 1))) B 15 (nI ((z1.1 + 1) + 1))) B 19 (nI (z1.2.1 + 1))))) rfl k
            rw [if_pos (show (lb_g f t z1.1) = (Int32.ofInt 60) from h22)] at k
            have k := ly_revb 2 (c' := (if (Int32.ofInt 1) = 0 then 129 else 125, [(3, .int (Int32.ofInt 1)), (2, .int (nI z1.1)), (1, .int (lb_g f t z1.1)), (0, .ref B)], [], me_w M (nt_u (nt_u (nt_u (nt_u J1 B 15 (nI z1.1)) B 15 (nI (z1.1 + 1))) B 15 (nI ((z1.1 + 1) + 1))) B 19 (nI (z1.2.1 + 1))))) rfl k
            rw [if_neg (show ¬ ((Int32.ofInt 1) = 0) from by decide)] at k
            have k := ly_revb 4 (c' := (155, [(4, .int (Int32.ofInt 1)), (3, .int (Int32.ofInt 1)), (2, .int (nI z1.1)), (1, .int (lb_g f t z1.1)), (0, .ref B)], [.ref B], me_w M (nt_u (nt_u (nt_u (nt_u J1 B 15 (nI z1.1)) B 15 (nI (z1.1 + 1))) B 15 (nI ((z1.1 + 1) + 1))) B 19 (nI (z1.2.1 + 1))))) rfl k
            obtain ⟨d1, o1, ed, kc, k⟩ := lz_c (g := 151) (q := 1) (vs := [.ref B]) (rest := []) rfl rfl (by decide) (Or.inr (Or.inl ⟨_, rfl, rfl⟩)) rfl k
            obtain ⟨r2, a2, J2, e1, hv2, hQ2⟩ := mg_sum (s0 := z1.2.2.1) hP hB hS6 (show z1.1 + 2 ≤ t by omega) kc
            subst e1
            rcases r2 with c | z2
            · obtain ⟨hc, rfl, q2, m2, e2, hT2, hq2⟩ := hQ2
              have k : nt_rn X _ 161 (158, [(4, .int (Int32.ofInt 1)), (3, .int (Int32.ofInt 1)), (2, .int (nI z1.1)), (1, .int (lb_g f t z1.1)), (0, .ref B)], [.int (Int32.ofInt 0)], me_w M J2) _ := k
              have k := ly_revb 1 (c' := (if (Int32.ofInt 0) = 0 then 161 else 163, [(4, .int (Int32.ofInt 1)), (3, .int (Int32.ofInt 1)), (2, .int (nI z1.1)), (1, .int (lb_g f t z1.1)), (0, .ref B)], [], me_w M J2)) rfl k
              rw [if_pos (show (Int32.ofInt 0) = 0 from by decide)] at k
              have k := ly_revb 1 (c' := (162, [(4, .int (Int32.ofInt 1)), (3, .int (Int32.ofInt 1)), (2, .int (nI z1.1)), (1, .int (lb_g f t z1.1)), (0, .ref B)], [.int (Int32.ofInt 0)], me_w M J2)) rfl k
              have k := lz_ri rfl (by decide) k
              have hcm : lb_cm f t z1.1 (Int32.ofInt 15) := Or.inl ⟨h22, ⟨by omega, h82⟩, rfl⟩
              have hcl : lb_cl (Int32.ofInt 15) = 2 := by decide
              have hv3 : lb_sum f t (lb_s f t (z1.1 + lb_cl (Int32.ofInt 15)), z1.2.1 + 1, z1.2.2) (.inl c) := by rw [hcl]; exact hv2
              exact ⟨.inl c, _, _, k, ⟨_, hv1, Or.inr ⟨z1, rfl, _, _, ⟨hcm, Or.inr (Or.inr ⟨by decide, hm, rfl⟩)⟩, Or.inr ⟨_, rfl, _, hv3, Or.inl ⟨c, rfl, rfl⟩⟩⟩⟩, hc, rfl, _, _, _, hT2, hq2⟩
            · obtain ⟨rfl, q2, hz2, hq2, hT2⟩ := hQ2
              have k : nt_rn X _ 161 (158, [(4, .int (Int32.ofInt 1)), (3, .int (Int32.ofInt 1)), (2, .int (nI z1.1)), (1, .int (lb_g f t z1.1)), (0, .ref B)], [.int (Int32.ofInt 1)], me_w M J2) _ := k
              have k := ly_revb 1 (c' := (if (Int32.ofInt 1) = 0 then 161 else 163, [(4, .int (Int32.ofInt 1)), (3, .int (Int32.ofInt 1)), (2, .int (nI z1.1)), (1, .int (lb_g f t z1.1)), (0, .ref B)], [], me_w M J2)) rfl k
              rw [if_neg (show ¬ ((Int32.ofInt 1) = 0) from by decide)] at k
              have k := ly_revb 5 (c' := (170, [(4, .int (Int32.ofInt 1)), (3, .int (Int32.ofInt 1)), (2, .int (nI z1.1)), (1, .int (lb_g f t z1.1)), (0, .ref B)], [.int (Int32.ofInt 0), .int ((Int32.ofInt 6) + (Int32.ofInt 1)), .ref B], me_w M J2)) rfl k
              obtain ⟨d1, o1, ed, kc, k⟩ := lz_c (g := 155) (q := 1) (vs := [.ref B, .int ((Int32.ofInt 6) + (Int32.ofInt 1)), .int (Int32.ofInt 0)]) (rest := []) rfl rfl (by decide) (Or.inr (Or.inl ⟨_, rfl, rfl⟩)) rfl k
              obtain ⟨hb, e1⟩ := mg_puts hP hT2 hq2 kc
              subst e1
              have hU2 := mg_Se (y := ((Int32.ofInt 6) + (Int32.ofInt 1)) + Int32.ofInt 16 * (Int32.ofInt 0)) hP hT2 hb
              have k : nt_rn X _ 161 (173, [(4, .int (Int32.ofInt 1)), (3, .int (Int32.ofInt 1)), (2, .int (nI z1.1)), (1, .int (lb_g f t z1.1)), (0, .ref B)], [], me_w M (nt_u (nt_u J2 Sg (400 * x + z2.2.2.2.1) (((Int32.ofInt 6) + (Int32.ofInt 1)) + Int32.ofInt 16 * (Int32.ofInt 0))) Ln x (nI (z2.2.2.2.1 + 1)))) _ := k
              have k := ly_revb 1 (c' := (174, [(4, .int (Int32.ofInt 1)), (3, .int (Int32.ofInt 1)), (2, .int (nI z1.1)), (1, .int (lb_g f t z1.1)), (0, .ref B)], [.int (Int32.ofInt 1)], me_w M (nt_u (nt_u J2 Sg (400 * x + z2.2.2.2.1) (((Int32.ofInt 6) + (Int32.ofInt 1)) + Int32.ofInt 16 * (Int32.ofInt 0))) Ln x (nI (z2.2.2.2.1 + 1))))) rfl k
              have k := lz_ri rfl (by decide) k
              have hcm : lb_cm f t z1.1 (Int32.ofInt 15) := Or.inl ⟨h22, ⟨by omega, h82⟩, rfl⟩
              have hcl : lb_cl (Int32.ofInt 15) = 2 := by decide
              have hv3 : lb_sum f t (lb_s f t (z1.1 + lb_cl (Int32.ofInt 15)), z1.2.1 + 1, z1.2.2) (.inr z2) := by rw [hcl]; exact hv2
              rw [show ((Int32.ofInt 6) + (Int32.ofInt 1)) + Int32.ofInt 16 * (Int32.ofInt 0) = Int32.ofInt 15 - Int32.ofInt 8 from by decide] at hU2
              rw [show ((Int32.ofInt 6) + (Int32.ofInt 1)) + Int32.ofInt 16 * (Int32.ofInt 0) = Int32.ofInt 15 - Int32.ofInt 8 from by decide] at k
              exact ⟨.inr (z2.1, z2.2.1, lb_em z2.2.2 (Int32.ofInt 15) (Int32.ofInt 15 - Int32.ofInt 8)), _, _, k, ⟨_, hv1, Or.inr ⟨z1, rfl, _, _, ⟨hcm, Or.inr (Or.inr ⟨by decide, hm, rfl⟩)⟩, Or.inr ⟨_, rfl, _, hv3, Or.inr ⟨z2, rfl, rfl⟩⟩⟩⟩, rfl, _, hz2, hq2, hU2⟩
        · rw [if_neg (show ¬ ((f ((z1.1 + 1))) = (Int32.ofInt 61)) from h82)] at k
          have k := ly_revb 4 (c' := (if (Int32.ofInt 0) = 0 then 105 else 95, [(3, .int (Int32.ofInt 0)), (2, .int (nI z1.1)), (1, .int (lb_g f t z1.1)), (0, .ref B)], [], me_w M (nt_u (nt_u J1 B 15 (nI z1.1)) B 15 (nI (z1.1 + 1))))) rfl k
          rw [if_pos (show (Int32.ofInt 0) = 0 from by decide)] at k
          have k := ly_revb 2 (c' := (107, [(3, .int (Int32.ofInt 0)), (2, .int (nI z1.1)), (1, .int (lb_g f t z1.1)), (0, .ref B)], [.int (nI z1.1), .ref B], me_w M (nt_u (nt_u J1 B 15 (nI z1.1)) B 15 (nI (z1.1 + 1))))) rfl k
          obtain ⟨d1, o1, ed, kc, k⟩ := lz_c (g := 154) (q := 1) (vs := [.ref B, .int (nI z1.1)]) (rest := []) rfl rfl (by decide) (Or.inr (Or.inl ⟨_, rfl, rfl⟩)) rfl k
          rcases mg_makes (a := z1.1) hP hN1 (show z1.1 + 1 ≤ t from hlt) rfl kc with ⟨hm, e1⟩ | ⟨hm, e1⟩
          · subst e1
            have hS6 := mg_Sw (y := lb_c z1.1 (Int32.ofInt 3)) hP hN1
            have k : nt_rn X _ 161 (110, [(3, .int (Int32.ofInt 0)), (2, .int (nI z1.1)), (1, .int (lb_g f t z1.1)), (0, .ref B)], [.int (Int32.ofInt 0)], me_w M (nt_u (nt_u (nt_u J1 B 15 (nI z1.1)) B 15 (nI (z1.1 + 1))) B 16 (lb_c z1.1 (Int32.ofInt 3)))) _ := k
            have k := ly_revb 1 (c' := (if (Int32.ofInt 0) = 0 then 113 else 115, [(3, .int (Int32.ofInt 0)), (2, .int (nI z1.1)), (1, .int (lb_g f t z1.1)), (0, .ref B)], [], me_w M (nt_u (nt_u (nt_u J1 B 15 (nI z1.1)) B 15 (nI (z1.1 + 1))) B 16 (lb_c z1.1 (Int32.ofInt 3))))) rfl k
            rw [if_pos (show (Int32.ofInt 0) = 0 from by decide)] at k
            have k := ly_revb 1 (c' := (114, [(3, .int (Int32.ofInt 0)), (2, .int (nI z1.1)), (1, .int (lb_g f t z1.1)), (0, .ref B)], [.int (Int32.ofInt 0)], me_w M (nt_u (nt_u (nt_u J1 B 15 (nI z1.1)) B 15 (nI (z1.1 + 1))) B 16 (lb_c z1.1 (Int32.ofInt 3))))) rfl k
            have k := lz_ri rfl (by decide) k
            have hcm : lb_cm f t z1.1 (Int32.ofInt 14) := Or.inr (Or.inl ⟨h22, fun c => h82 c.2, rfl⟩)
            exact ⟨.inl (lb_c z1.1 (Int32.ofInt 3)), _, _, k, ⟨_, hv1, Or.inr ⟨z1, rfl, _, _, ⟨hcm, Or.inr (Or.inl ⟨by decide, hm, rfl⟩)⟩, Or.inl ⟨_, rfl, rfl⟩⟩⟩, (lb_c_ne (by omega) (by decide) (by decide)), rfl, _, _, _, hS6, (show z1.1 + 1 ≤ t from hlt)⟩
          · subst e1
            have hS6 := mg_Sm (y := z1.2.1 + 1) hP hN1 (by omega)
            have k : nt_rn X _ 161 (110, [(3, .int (Int32.ofInt 0)), (2, .int (nI z1.1)), (1, .int (lb_g f t z1.1)), (0, .ref B)], [.int (Int32.ofInt 1)], me_w M (nt_u (nt_u (nt_u J1 B 15 (nI z1.1)) B 15 (nI (z1.1 + 1))) B 19 (nI (z1.2.1 + 1)))) _ := k
            have k := ly_revb 1 (c' := (if (Int32.ofInt 1) = 0 then 113 else 115, [(3, .int (Int32.ofInt 0)), (2, .int (nI z1.1)), (1, .int (lb_g f t z1.1)), (0, .ref B)], [], me_w M (nt_u (nt_u (nt_u J1 B 15 (nI z1.1)) B 15 (nI (z1.1 + 1))) B 19 (nI (z1.2.1 + 1))))) rfl k
            rw [if_neg (show ¬ ((Int32.ofInt 1) = 0) from by decide)] at k
            have k := ly_revb 3 (c' := (if (lb_g f t z1.1) = (Int32.ofInt 60) then 121 else 133, [(3, .int (Int32.ofInt 0)), (2, .int (nI z1.1)), (1, .int (lb_g f t z1.1)), (0, .ref B)], [], me_w M (nt_u (nt_u (nt_u J1 B 15 (nI z1.1)) B 15 (nI (z1.1 + 1))) B 19 (nI (z1.2.1 + 1))))) rfl k
            rw [if_pos (show (lb_g f t z1.1) = (Int32.ofInt 60) from h22)] at k
            have k := ly_revb 2 (c' := (if (Int32.ofInt 0) = 0 then 129 else 125, [(3, .int (Int32.ofInt 0)), (2, .int (nI z1.1)), (1, .int (lb_g f t z1.1)), (0, .ref B)], [], me_w M (nt_u (nt_u (nt_u J1 B 15 (nI z1.1)) B 15 (nI (z1.1 + 1))) B 19 (nI (z1.2.1 + 1))))) rfl k
            rw [if_pos (show (Int32.ofInt 0) = 0 from by decide)] at k
            have k := ly_revb 4 (c' := (155, [(4, .int (Int32.ofInt 0)), (3, .int (Int32.ofInt 0)), (2, .int (nI z1.1)), (1, .int (lb_g f t z1.1)), (0, .ref B)], [.ref B], me_w M (nt_u (nt_u (nt_u J1 B 15 (nI z1.1)) B 15 (nI (z1.1 + 1))) B 19 (nI (z1.2.1 + 1))))) rfl k
            obtain ⟨d1, o1, ed, kc, k⟩ := lz_c (g := 151) (q := 1) (vs := [.ref B]) (rest := []) rfl rfl (by decide) (Or.inr (Or.inl ⟨_, rfl, rfl⟩)) rfl k
            obtain ⟨r2, a2, J2, e1, hv2, hQ2⟩ := mg_sum (s0 := z1.2.2.1) hP hB hS6 (show z1.1 + 1 ≤ t from hlt) kc
            subst e1
            rcases r2 with c | z2
            · obtain ⟨hc, rfl, q2, m2, e2, hT2, hq2⟩ := hQ2
              have k : nt_rn X _ 161 (158, [(4, .int (Int32.ofInt 0)), (3, .int (Int32.ofInt 0)), (2, .int (nI z1.1)), (1, .int (lb_g f t z1.1)), (0, .ref B)], [.int (Int32.ofInt 0)], me_w M J2) _ := k
              have k := ly_revb 1 (c' := (if (Int32.ofInt 0) = 0 then 161 else 163, [(4, .int (Int32.ofInt 0)), (3, .int (Int32.ofInt 0)), (2, .int (nI z1.1)), (1, .int (lb_g f t z1.1)), (0, .ref B)], [], me_w M J2)) rfl k
              rw [if_pos (show (Int32.ofInt 0) = 0 from by decide)] at k
              have k := ly_revb 1 (c' := (162, [(4, .int (Int32.ofInt 0)), (3, .int (Int32.ofInt 0)), (2, .int (nI z1.1)), (1, .int (lb_g f t z1.1)), (0, .ref B)], [.int (Int32.ofInt 0)], me_w M J2)) rfl k
              have k := lz_ri rfl (by decide) k
              have hcm : lb_cm f t z1.1 (Int32.ofInt 14) := Or.inr (Or.inl ⟨h22, fun c => h82 c.2, rfl⟩)
              have hcl : lb_cl (Int32.ofInt 14) = 1 := by decide
              have hv3 : lb_sum f t (lb_s f t (z1.1 + lb_cl (Int32.ofInt 14)), z1.2.1 + 1, z1.2.2) (.inl c) := by rw [hcl]; exact hv2
              exact ⟨.inl c, _, _, k, ⟨_, hv1, Or.inr ⟨z1, rfl, _, _, ⟨hcm, Or.inr (Or.inr ⟨by decide, hm, rfl⟩)⟩, Or.inr ⟨_, rfl, _, hv3, Or.inl ⟨c, rfl, rfl⟩⟩⟩⟩, hc, rfl, _, _, _, hT2, hq2⟩
            · obtain ⟨rfl, q2, hz2, hq2, hT2⟩ := hQ2
              have k : nt_rn X _ 161 (158, [(4, .int (Int32.ofInt 0)), (3, .int (Int32.ofInt 0)), (2, .int (nI z1.1)), (1, .int (lb_g f t z1.1)), (0, .ref B)], [.int (Int32.ofInt 1)], me_w M J2) _ := k
              have k := ly_revb 1 (c' := (if (Int32.ofInt 1) = 0 then 161 else 163, [(4, .int (Int32.ofInt 0)), (3, .int (Int32.ofInt 0)), (2, .int (nI z1.1)), (1, .int (lb_g f t z1.1)), (0, .ref B)], [], me_w M J2)) rfl k
              rw [if_neg (show ¬ ((Int32.ofInt 1) = 0) from by decide)] at k
              have k := ly_revb 5 (c' := (170, [(4, .int (Int32.ofInt 0)), (3, .int (Int32.ofInt 0)), (2, .int (nI z1.1)), (1, .int (lb_g f t z1.1)), (0, .ref B)], [.int (Int32.ofInt 0), .int ((Int32.ofInt 6) + (Int32.ofInt 0)), .ref B], me_w M J2)) rfl k
              obtain ⟨d1, o1, ed, kc, k⟩ := lz_c (g := 155) (q := 1) (vs := [.ref B, .int ((Int32.ofInt 6) + (Int32.ofInt 0)), .int (Int32.ofInt 0)]) (rest := []) rfl rfl (by decide) (Or.inr (Or.inl ⟨_, rfl, rfl⟩)) rfl k
              obtain ⟨hb, e1⟩ := mg_puts hP hT2 hq2 kc
              subst e1
              have hU2 := mg_Se (y := ((Int32.ofInt 6) + (Int32.ofInt 0)) + Int32.ofInt 16 * (Int32.ofInt 0)) hP hT2 hb
              have k : nt_rn X _ 161 (173, [(4, .int (Int32.ofInt 0)), (3, .int (Int32.ofInt 0)), (2, .int (nI z1.1)), (1, .int (lb_g f t z1.1)), (0, .ref B)], [], me_w M (nt_u (nt_u J2 Sg (400 * x + z2.2.2.2.1) (((Int32.ofInt 6) + (Int32.ofInt 0)) + Int32.ofInt 16 * (Int32.ofInt 0))) Ln x (nI (z2.2.2.2.1 + 1)))) _ := k
              have k := ly_revb 1 (c' := (174, [(4, .int (Int32.ofInt 0)), (3, .int (Int32.ofInt 0)), (2, .int (nI z1.1)), (1, .int (lb_g f t z1.1)), (0, .ref B)], [.int (Int32.ofInt 1)], me_w M (nt_u (nt_u J2 Sg (400 * x + z2.2.2.2.1) (((Int32.ofInt 6) + (Int32.ofInt 0)) + Int32.ofInt 16 * (Int32.ofInt 0))) Ln x (nI (z2.2.2.2.1 + 1))))) rfl k
              have k := lz_ri rfl (by decide) k
              have hcm : lb_cm f t z1.1 (Int32.ofInt 14) := Or.inr (Or.inl ⟨h22, fun c => h82 c.2, rfl⟩)
              have hcl : lb_cl (Int32.ofInt 14) = 1 := by decide
              have hv3 : lb_sum f t (lb_s f t (z1.1 + lb_cl (Int32.ofInt 14)), z1.2.1 + 1, z1.2.2) (.inr z2) := by rw [hcl]; exact hv2
              rw [show ((Int32.ofInt 6) + (Int32.ofInt 0)) + Int32.ofInt 16 * (Int32.ofInt 0) = Int32.ofInt 14 - Int32.ofInt 8 from by decide] at hU2
              rw [show ((Int32.ofInt 6) + (Int32.ofInt 0)) + Int32.ofInt 16 * (Int32.ofInt 0) = Int32.ofInt 14 - Int32.ofInt 8 from by decide] at k
              exact ⟨.inr (z2.1, z2.2.1, lb_em z2.2.2 (Int32.ofInt 14) (Int32.ofInt 14 - Int32.ofInt 8)), _, _, k, ⟨_, hv1, Or.inr ⟨z1, rfl, _, _, ⟨hcm, Or.inr (Or.inr ⟨by decide, hm, rfl⟩)⟩, Or.inr ⟨_, rfl, _, hv3, Or.inr ⟨z2, rfl, rfl⟩⟩⟩⟩, rfl, _, hz2, hq2, hU2⟩
    · rw [if_neg (show ¬ ((lb_g f t z1.1) = (Int32.ofInt 60)) from h22)] at k
      have k := ly_revb 3 (c' := (if (lb_g f t z1.1) = (Int32.ofInt 61) then 44 else 31, [(2, .int (nI z1.1)), (1, .int (lb_g f t z1.1)), (0, .ref B)], [], me_w M (nt_u J1 B 15 (nI z1.1)))) rfl k
      by_cases h28 : lb_g f t z1.1 = Int32.ofInt 61
      · rw [if_pos (show (lb_g f t z1.1) = (Int32.ofInt 61) from h28)] at k
        have k := ly_revb 2 (c' := (46, [(2, .int (nI z1.1)), (1, .int (lb_g f t z1.1)), (0, .ref B)], [.ref B, .ref B], me_w M (nt_u J1 B 15 (nI z1.1)))) rfl k
        have k := lz_get (a := B) (g := 1115) (M := me_w M (nt_u J1 B 15 (nI z1.1))) (v := .int (nI z1.1)) rfl (congrArg Value.int (hS2.1)) k
        have k := ly_revb 2 (c' := (51, [(2, .int (nI z1.1)), (1, .int (lb_g f t z1.1)), (0, .ref B)], [.int ((nI z1.1) + (Int32.ofInt 1)), .ref B], me_w M (nt_u J1 B 15 (nI z1.1)))) rfl k
        rw [show ((nI z1.1) + (Int32.ofInt 1) : Int32) = nI (z1.1 + 1) from me_add (k := 1)] at k
        have k := me_put rfl (by decide) k
        have k : nt_rn X _ 161 (54, [(2, .int (nI z1.1)), (1, .int (lb_g f t z1.1)), (0, .ref B)], [], me_w M (nt_u (nt_u J1 B 15 (nI z1.1)) B 15 (nI (z1.1 + 1)))) _ := k
        have hN1 := mg_Sq (y := z1.1 + 1) hP hS2
        have hlt : z1.1 < t := lb_g_lt (by rw [h28]; decide)
        have k := ly_revb 3 (c' := (if (lb_g f t z1.1) = (Int32.ofInt 61) then 89 else 60, [(2, .int (nI z1.1)), (1, .int (lb_g f t z1.1)), (0, .ref B)], [], me_w M (nt_u (nt_u J1 B 15 (nI z1.1)) B 15 (nI (z1.1 + 1))))) rfl k
        rw [if_pos (show (lb_g f t z1.1) = (Int32.ofInt 61) from h28)] at k
        have k := ly_revb 4 (c' := (if (Int32.ofInt 0) = 0 then 105 else 95, [(3, .int (Int32.ofInt 0)), (2, .int (nI z1.1)), (1, .int (lb_g f t z1.1)), (0, .ref B)], [], me_w M (nt_u (nt_u J1 B 15 (nI z1.1)) B 15 (nI (z1.1 + 1))))) rfl k
        rw [if_pos (show (Int32.ofInt 0) = 0 from by decide)] at k
        have k := ly_revb 2 (c' := (107, [(3, .int (Int32.ofInt 0)), (2, .int (nI z1.1)), (1, .int (lb_g f t z1.1)), (0, .ref B)], [.int (nI z1.1), .ref B], me_w M (nt_u (nt_u J1 B 15 (nI z1.1)) B 15 (nI (z1.1 + 1))))) rfl k
        obtain ⟨d1, o1, ed, kc, k⟩ := lz_c (g := 154) (q := 1) (vs := [.ref B, .int (nI z1.1)]) (rest := []) rfl rfl (by decide) (Or.inr (Or.inl ⟨_, rfl, rfl⟩)) rfl k
        rcases mg_makes (a := z1.1) hP hN1 (show z1.1 + 1 ≤ t from hlt) rfl kc with ⟨hm, e1⟩ | ⟨hm, e1⟩
        · subst e1
          have hS6 := mg_Sw (y := lb_c z1.1 (Int32.ofInt 3)) hP hN1
          have k : nt_rn X _ 161 (110, [(3, .int (Int32.ofInt 0)), (2, .int (nI z1.1)), (1, .int (lb_g f t z1.1)), (0, .ref B)], [.int (Int32.ofInt 0)], me_w M (nt_u (nt_u (nt_u J1 B 15 (nI z1.1)) B 15 (nI (z1.1 + 1))) B 16 (lb_c z1.1 (Int32.ofInt 3)))) _ := k
          have k := ly_revb 1 (c' := (if (Int32.ofInt 0) = 0 then 113 else 115, [(3, .int (Int32.ofInt 0)), (2, .int (nI z1.1)), (1, .int (lb_g f t z1.1)), (0, .ref B)], [], me_w M (nt_u (nt_u (nt_u J1 B 15 (nI z1.1)) B 15 (nI (z1.1 + 1))) B 16 (lb_c z1.1 (Int32.ofInt 3))))) rfl k
          rw [if_pos (show (Int32.ofInt 0) = 0 from by decide)] at k
          have k := ly_revb 1 (c' := (114, [(3, .int (Int32.ofInt 0)), (2, .int (nI z1.1)), (1, .int (lb_g f t z1.1)), (0, .ref B)], [.int (Int32.ofInt 0)], me_w M (nt_u (nt_u (nt_u J1 B 15 (nI z1.1)) B 15 (nI (z1.1 + 1))) B 16 (lb_c z1.1 (Int32.ofInt 3))))) rfl k
          have k := lz_ri rfl (by decide) k
          have hcm : lb_cm f t z1.1 (Int32.ofInt 16) := Or.inr (Or.inr (Or.inl ⟨h28, rfl⟩))
          exact ⟨.inl (lb_c z1.1 (Int32.ofInt 3)), _, _, k, ⟨_, hv1, Or.inr ⟨z1, rfl, _, _, ⟨hcm, Or.inr (Or.inl ⟨by decide, hm, rfl⟩)⟩, Or.inl ⟨_, rfl, rfl⟩⟩⟩, (lb_c_ne (by omega) (by decide) (by decide)), rfl, _, _, _, hS6, (show z1.1 + 1 ≤ t from hlt)⟩
        · subst e1
          have hS6 := mg_Sm (y := z1.2.1 + 1) hP hN1 (by omega)
          have k : nt_rn X _ 161 (110, [(3, .int (Int32.ofInt 0)), (2, .int (nI z1.1)), (1, .int (lb_g f t z1.1)), (0, .ref B)], [.int (Int32.ofInt 1)], me_w M (nt_u (nt_u (nt_u J1 B 15 (nI z1.1)) B 15 (nI (z1.1 + 1))) B 19 (nI (z1.2.1 + 1)))) _ := k
          have k := ly_revb 1 (c' := (if (Int32.ofInt 1) = 0 then 113 else 115, [(3, .int (Int32.ofInt 0)), (2, .int (nI z1.1)), (1, .int (lb_g f t z1.1)), (0, .ref B)], [], me_w M (nt_u (nt_u (nt_u J1 B 15 (nI z1.1)) B 15 (nI (z1.1 + 1))) B 19 (nI (z1.2.1 + 1))))) rfl k
          rw [if_neg (show ¬ ((Int32.ofInt 1) = 0) from by decide)] at k
          have k := ly_revb 3 (c' := (if (lb_g f t z1.1) = (Int32.ofInt 60) then 121 else 133, [(3, .int (Int32.ofInt 0)), (2, .int (nI z1.1)), (1, .int (lb_g f t z1.1)), (0, .ref B)], [], me_w M (nt_u (nt_u (nt_u J1 B 15 (nI z1.1)) B 15 (nI (z1.1 + 1))) B 19 (nI (z1.2.1 + 1))))) rfl k
          rw [if_neg (show ¬ ((lb_g f t z1.1) = (Int32.ofInt 60)) from h22)] at k
          have k := ly_revb 3 (c' := (if (lb_g f t z1.1) = (Int32.ofInt 61) then 139 else 143, [(3, .int (Int32.ofInt 0)), (2, .int (nI z1.1)), (1, .int (lb_g f t z1.1)), (0, .ref B)], [], me_w M (nt_u (nt_u (nt_u J1 B 15 (nI z1.1)) B 15 (nI (z1.1 + 1))) B 19 (nI (z1.2.1 + 1))))) rfl k
          rw [if_pos (show (lb_g f t z1.1) = (Int32.ofInt 61) from h28)] at k
          have k := ly_revb 4 (c' := (155, [(4, .int (Int32.ofInt 2)), (3, .int (Int32.ofInt 0)), (2, .int (nI z1.1)), (1, .int (lb_g f t z1.1)), (0, .ref B)], [.ref B], me_w M (nt_u (nt_u (nt_u J1 B 15 (nI z1.1)) B 15 (nI (z1.1 + 1))) B 19 (nI (z1.2.1 + 1))))) rfl k
          obtain ⟨d1, o1, ed, kc, k⟩ := lz_c (g := 151) (q := 1) (vs := [.ref B]) (rest := []) rfl rfl (by decide) (Or.inr (Or.inl ⟨_, rfl, rfl⟩)) rfl k
          obtain ⟨r2, a2, J2, e1, hv2, hQ2⟩ := mg_sum (s0 := z1.2.2.1) hP hB hS6 (show z1.1 + 1 ≤ t from hlt) kc
          subst e1
          rcases r2 with c | z2
          · obtain ⟨hc, rfl, q2, m2, e2, hT2, hq2⟩ := hQ2
            have k : nt_rn X _ 161 (158, [(4, .int (Int32.ofInt 2)), (3, .int (Int32.ofInt 0)), (2, .int (nI z1.1)), (1, .int (lb_g f t z1.1)), (0, .ref B)], [.int (Int32.ofInt 0)], me_w M J2) _ := k
            have k := ly_revb 1 (c' := (if (Int32.ofInt 0) = 0 then 161 else 163, [(4, .int (Int32.ofInt 2)), (3, .int (Int32.ofInt 0)), (2, .int (nI z1.1)), (1, .int (lb_g f t z1.1)), (0, .ref B)], [], me_w M J2)) rfl k
            rw [if_pos (show (Int32.ofInt 0) = 0 from by decide)] at k
            have k := ly_revb 1 (c' := (162, [(4, .int (Int32.ofInt 2)), (3, .int (Int32.ofInt 0)), (2, .int (nI z1.1)), (1, .int (lb_g f t z1.1)), (0, .ref B)], [.int (Int32.ofInt 0)], me_w M J2)) rfl k
            have k := lz_ri rfl (by decide) k
            have hcm : lb_cm f t z1.1 (Int32.ofInt 16) := Or.inr (Or.inr (Or.inl ⟨h28, rfl⟩))
            have hcl : lb_cl (Int32.ofInt 16) = 1 := by decide
            have hv3 : lb_sum f t (lb_s f t (z1.1 + lb_cl (Int32.ofInt 16)), z1.2.1 + 1, z1.2.2) (.inl c) := by rw [hcl]; exact hv2
            exact ⟨.inl c, _, _, k, ⟨_, hv1, Or.inr ⟨z1, rfl, _, _, ⟨hcm, Or.inr (Or.inr ⟨by decide, hm, rfl⟩)⟩, Or.inr ⟨_, rfl, _, hv3, Or.inl ⟨c, rfl, rfl⟩⟩⟩⟩, hc, rfl, _, _, _, hT2, hq2⟩
          · obtain ⟨rfl, q2, hz2, hq2, hT2⟩ := hQ2
            have k : nt_rn X _ 161 (158, [(4, .int (Int32.ofInt 2)), (3, .int (Int32.ofInt 0)), (2, .int (nI z1.1)), (1, .int (lb_g f t z1.1)), (0, .ref B)], [.int (Int32.ofInt 1)], me_w M J2) _ := k
            have k := ly_revb 1 (c' := (if (Int32.ofInt 1) = 0 then 161 else 163, [(4, .int (Int32.ofInt 2)), (3, .int (Int32.ofInt 0)), (2, .int (nI z1.1)), (1, .int (lb_g f t z1.1)), (0, .ref B)], [], me_w M J2)) rfl k
            rw [if_neg (show ¬ ((Int32.ofInt 1) = 0) from by decide)] at k
            have k := ly_revb 5 (c' := (170, [(4, .int (Int32.ofInt 2)), (3, .int (Int32.ofInt 0)), (2, .int (nI z1.1)), (1, .int (lb_g f t z1.1)), (0, .ref B)], [.int (Int32.ofInt 0), .int ((Int32.ofInt 6) + (Int32.ofInt 2)), .ref B], me_w M J2)) rfl k
            obtain ⟨d1, o1, ed, kc, k⟩ := lz_c (g := 155) (q := 1) (vs := [.ref B, .int ((Int32.ofInt 6) + (Int32.ofInt 2)), .int (Int32.ofInt 0)]) (rest := []) rfl rfl (by decide) (Or.inr (Or.inl ⟨_, rfl, rfl⟩)) rfl k
            obtain ⟨hb, e1⟩ := mg_puts hP hT2 hq2 kc
            subst e1
            have hU2 := mg_Se (y := ((Int32.ofInt 6) + (Int32.ofInt 2)) + Int32.ofInt 16 * (Int32.ofInt 0)) hP hT2 hb
            have k : nt_rn X _ 161 (173, [(4, .int (Int32.ofInt 2)), (3, .int (Int32.ofInt 0)), (2, .int (nI z1.1)), (1, .int (lb_g f t z1.1)), (0, .ref B)], [], me_w M (nt_u (nt_u J2 Sg (400 * x + z2.2.2.2.1) (((Int32.ofInt 6) + (Int32.ofInt 2)) + Int32.ofInt 16 * (Int32.ofInt 0))) Ln x (nI (z2.2.2.2.1 + 1)))) _ := k
            have k := ly_revb 1 (c' := (174, [(4, .int (Int32.ofInt 2)), (3, .int (Int32.ofInt 0)), (2, .int (nI z1.1)), (1, .int (lb_g f t z1.1)), (0, .ref B)], [.int (Int32.ofInt 1)], me_w M (nt_u (nt_u J2 Sg (400 * x + z2.2.2.2.1) (((Int32.ofInt 6) + (Int32.ofInt 2)) + Int32.ofInt 16 * (Int32.ofInt 0))) Ln x (nI (z2.2.2.2.1 + 1))))) rfl k
            have k := lz_ri rfl (by decide) k
            have hcm : lb_cm f t z1.1 (Int32.ofInt 16) := Or.inr (Or.inr (Or.inl ⟨h28, rfl⟩))
            have hcl : lb_cl (Int32.ofInt 16) = 1 := by decide
            have hv3 : lb_sum f t (lb_s f t (z1.1 + lb_cl (Int32.ofInt 16)), z1.2.1 + 1, z1.2.2) (.inr z2) := by rw [hcl]; exact hv2
            rw [show ((Int32.ofInt 6) + (Int32.ofInt 2)) + Int32.ofInt 16 * (Int32.ofInt 0) = Int32.ofInt 16 - Int32.ofInt 8 from by decide] at hU2
            rw [show ((Int32.ofInt 6) + (Int32.ofInt 2)) + Int32.ofInt 16 * (Int32.ofInt 0) = Int32.ofInt 16 - Int32.ofInt 8 from by decide] at k
            exact ⟨.inr (z2.1, z2.2.1, lb_em z2.2.2 (Int32.ofInt 16) (Int32.ofInt 16 - Int32.ofInt 8)), _, _, k, ⟨_, hv1, Or.inr ⟨z1, rfl, _, _, ⟨hcm, Or.inr (Or.inr ⟨by decide, hm, rfl⟩)⟩, Or.inr ⟨_, rfl, _, hv3, Or.inr ⟨z2, rfl, rfl⟩⟩⟩⟩, rfl, _, hz2, hq2, hU2⟩
      · rw [if_neg (show ¬ ((lb_g f t z1.1) = (Int32.ofInt 61)) from h28)] at k
        have k := ly_revb 3 (c' := (if (lb_g f t z1.1) = (Int32.ofInt 62) then 44 else 37, [(2, .int (nI z1.1)), (1, .int (lb_g f t z1.1)), (0, .ref B)], [], me_w M (nt_u J1 B 15 (nI z1.1)))) rfl k
        by_cases h34 : lb_g f t z1.1 = Int32.ofInt 62
        · rw [if_pos (show (lb_g f t z1.1) = (Int32.ofInt 62) from h34)] at k
          have k := ly_revb 2 (c' := (46, [(2, .int (nI z1.1)), (1, .int (lb_g f t z1.1)), (0, .ref B)], [.ref B, .ref B], me_w M (nt_u J1 B 15 (nI z1.1)))) rfl k
          have k := lz_get (a := B) (g := 1115) (M := me_w M (nt_u J1 B 15 (nI z1.1))) (v := .int (nI z1.1)) rfl (congrArg Value.int (hS2.1)) k
          have k := ly_revb 2 (c' := (51, [(2, .int (nI z1.1)), (1, .int (lb_g f t z1.1)), (0, .ref B)], [.int ((nI z1.1) + (Int32.ofInt 1)), .ref B], me_w M (nt_u J1 B 15 (nI z1.1)))) rfl k
          rw [show ((nI z1.1) + (Int32.ofInt 1) : Int32) = nI (z1.1 + 1) from me_add (k := 1)] at k
          have k := me_put rfl (by decide) k
          have k : nt_rn X _ 161 (54, [(2, .int (nI z1.1)), (1, .int (lb_g f t z1.1)), (0, .ref B)], [], me_w M (nt_u (nt_u J1 B 15 (nI z1.1)) B 15 (nI (z1.1 + 1)))) _ := k
          have hN1 := mg_Sq (y := z1.1 + 1) hP hS2
          have hlt : z1.1 < t := lb_g_lt (by rw [h34]; decide)
          have k := ly_revb 3 (c' := (if (lb_g f t z1.1) = (Int32.ofInt 61) then 89 else 60, [(2, .int (nI z1.1)), (1, .int (lb_g f t z1.1)), (0, .ref B)], [], me_w M (nt_u (nt_u J1 B 15 (nI z1.1)) B 15 (nI (z1.1 + 1))))) rfl k
          rw [if_neg (show ¬ ((lb_g f t z1.1) = (Int32.ofInt 61)) from by rw [h34]; decide)] at k
          have k := ly_revb 1 (c' := (61, [(2, .int (nI z1.1)), (1, .int (lb_g f t z1.1)), (0, .ref B)], [.ref B], me_w M (nt_u (nt_u J1 B 15 (nI z1.1)) B 15 (nI (z1.1 + 1))))) rfl k
          have k := lz_get (a := B) (g := 1115) (M := me_w M (nt_u (nt_u J1 B 15 (nI z1.1)) B 15 (nI (z1.1 + 1)))) (v := .int (nI (z1.1 + 1))) rfl (congrArg Value.int (hN1.1)) k
          have k := ly_revb 1 (c' := (65, [(2, .int (nI z1.1)), (1, .int (lb_g f t z1.1)), (0, .ref B)], [.ref B, .int (nI (z1.1 + 1))], me_w M (nt_u (nt_u J1 B 15 (nI z1.1)) B 15 (nI (z1.1 + 1))))) rfl k
          have k := lz_get (a := B) (g := 1101) (M := me_w M (nt_u (nt_u J1 B 15 (nI z1.1)) B 15 (nI (z1.1 + 1)))) (v := .int (nI t)) rfl (congrArg Value.int (mg_t hP hN1)) k
          have k := ly_revb 1 (c' := (if (nI t) ≤ (nI (z1.1 + 1)) then 89 else 71, [(2, .int (nI z1.1)), (1, .int (lb_g f t z1.1)), (0, .ref B)], [], me_w M (nt_u (nt_u J1 B 15 (nI z1.1)) B 15 (nI (z1.1 + 1))))) rfl k
          by_cases h68 : t ≤ (z1.1 + 1)
          · rw [if_pos (show (nI t) ≤ (nI (z1.1 + 1)) from show nI t ≤ nI ((z1.1 + 1)) from nI_le h68 (by omega))] at k
            have k := ly_revb 4 (c' := (if (Int32.ofInt 0) = 0 then 105 else 95, [(3, .int (Int32.ofInt 0)), (2, .int (nI z1.1)), (1, .int (lb_g f t z1.1)), (0, .ref B)], [], me_w M (nt_u (nt_u J1 B 15 (nI z1.1)) B 15 (nI (z1.1 + 1))))) rfl k
            rw [if_pos (show (Int32.ofInt 0) = 0 from by decide)] at k
            have k := ly_revb 2 (c' := (107, [(3, .int (Int32.ofInt 0)), (2, .int (nI z1.1)), (1, .int (lb_g f t z1.1)), (0, .ref B)], [.int (nI z1.1), .ref B], me_w M (nt_u (nt_u J1 B 15 (nI z1.1)) B 15 (nI (z1.1 + 1))))) rfl k
            obtain ⟨d1, o1, ed, kc, k⟩ := lz_c (g := 154) (q := 1) (vs := [.ref B, .int (nI z1.1)]) (rest := []) rfl rfl (by decide) (Or.inr (Or.inl ⟨_, rfl, rfl⟩)) rfl k
            rcases mg_makes (a := z1.1) hP hN1 (show z1.1 + 1 ≤ t from hlt) rfl kc with ⟨hm, e1⟩ | ⟨hm, e1⟩
            · subst e1
              have hS6 := mg_Sw (y := lb_c z1.1 (Int32.ofInt 3)) hP hN1
              have k : nt_rn X _ 161 (110, [(3, .int (Int32.ofInt 0)), (2, .int (nI z1.1)), (1, .int (lb_g f t z1.1)), (0, .ref B)], [.int (Int32.ofInt 0)], me_w M (nt_u (nt_u (nt_u J1 B 15 (nI z1.1)) B 15 (nI (z1.1 + 1))) B 16 (lb_c z1.1 (Int32.ofInt 3)))) _ := k
              have k := ly_revb 1 (c' := (if (Int32.ofInt 0) = 0 then 113 else 115, [(3, .int (Int32.ofInt 0)), (2, .int (nI z1.1)), (1, .int (lb_g f t z1.1)), (0, .ref B)], [], me_w M (nt_u (nt_u (nt_u J1 B 15 (nI z1.1)) B 15 (nI (z1.1 + 1))) B 16 (lb_c z1.1 (Int32.ofInt 3))))) rfl k
              rw [if_pos (show (Int32.ofInt 0) = 0 from by decide)] at k
              have k := ly_revb 1 (c' := (114, [(3, .int (Int32.ofInt 0)), (2, .int (nI z1.1)), (1, .int (lb_g f t z1.1)), (0, .ref B)], [.int (Int32.ofInt 0)], me_w M (nt_u (nt_u (nt_u J1 B 15 (nI z1.1)) B 15 (nI (z1.1 + 1))) B 16 (lb_c z1.1 (Int32.ofInt 3))))) rfl k
              have k := lz_ri rfl (by decide) k
              have hcm : lb_cm f t z1.1 (Int32.ofInt 18) := Or.inr (Or.inr (Or.inr (Or.inr (Or.inl ⟨h34, fun c => absurd c.1 (by omega), rfl⟩))))
              exact ⟨.inl (lb_c z1.1 (Int32.ofInt 3)), _, _, k, ⟨_, hv1, Or.inr ⟨z1, rfl, _, _, ⟨hcm, Or.inr (Or.inl ⟨by decide, hm, rfl⟩)⟩, Or.inl ⟨_, rfl, rfl⟩⟩⟩, (lb_c_ne (by omega) (by decide) (by decide)), rfl, _, _, _, hS6, (show z1.1 + 1 ≤ t from hlt)⟩
            · subst e1
              have hS6 := mg_Sm (y := z1.2.1 + 1) hP hN1 (by omega)
              have k : nt_rn X _ 161 (110, [(3, .int (Int32.ofInt 0)), (2, .int (nI z1.1)), (1, .int (lb_g f t z1.1)), (0, .ref B)], [.int (Int32.ofInt 1)], me_w M (nt_u (nt_u (nt_u J1 B 15 (nI z1.1)) B 15 (nI (z1.1 + 1))) B 19 (nI (z1.2.1 + 1)))) _ := k
              have k := ly_revb 1 (c' := (if (Int32.ofInt 1) = 0 then 113 else 115, [(3, .int (Int32.ofInt 0)), (2, .int (nI z1.1)), (1, .int (lb_g f t z1.1)), (0, .ref B)], [], me_w M (nt_u (nt_u (nt_u J1 B 15 (nI z1.1)) B 15 (nI (z1.1 + 1))) B 19 (nI (z1.2.1 + 1))))) rfl k
              rw [if_neg (show ¬ ((Int32.ofInt 1) = 0) from by decide)] at k
              have k := ly_revb 3 (c' := (if (lb_g f t z1.1) = (Int32.ofInt 60) then 121 else 133, [(3, .int (Int32.ofInt 0)), (2, .int (nI z1.1)), (1, .int (lb_g f t z1.1)), (0, .ref B)], [], me_w M (nt_u (nt_u (nt_u J1 B 15 (nI z1.1)) B 15 (nI (z1.1 + 1))) B 19 (nI (z1.2.1 + 1))))) rfl k
              rw [if_neg (show ¬ ((lb_g f t z1.1) = (Int32.ofInt 60)) from h22)] at k
              have k := ly_revb 3 (c' := (if (lb_g f t z1.1) = (Int32.ofInt 61) then 139 else 143, [(3, .int (Int32.ofInt 0)), (2, .int (nI z1.1)), (1, .int (lb_g f t z1.1)), (0, .ref B)], [], me_w M (nt_u (nt_u (nt_u J1 B 15 (nI z1.1)) B 15 (nI (z1.1 + 1))) B 19 (nI (z1.2.1 + 1))))) rfl k
              rw [if_neg (show ¬ ((lb_g f t z1.1) = (Int32.ofInt 61)) from h28)] at k
              have k := ly_revb 2 (c' := (if (Int32.ofInt 0) = 0 then 151 else 147, [(3, .int (Int32.ofInt 0)), (2, .int (nI z1.1)), (1, .int (lb_g f t z1.1)), (0, .ref B)], [], me_w M (nt_u (nt_u (nt_u J1 B 15 (nI z1.1)) B 15 (nI (z1.1 + 1))) B 19 (nI (z1.2.1 + 1))))) rfl k
              rw [if_pos (show (Int32.ofInt 0) = 0 from by decide)] at k
              have k := ly_revb 3 (c' := (155, [(4, .int (Int32.ofInt 4)), (3, .int (Int32.ofInt 0)), (2, .int (nI z1.1)), (1, .int (lb_g f t z1.1)), (0, .ref B)], [.ref B], me_w M (nt_u (nt_u (nt_u J1 B 15 (nI z1.1)) B 15 (nI (z1.1 + 1))) B 19 (nI (z1.2.1 + 1))))) rfl k
              obtain ⟨d1, o1, ed, kc, k⟩ := lz_c (g := 151) (q := 1) (vs := [.ref B]) (rest := []) rfl rfl (by decide) (Or.inr (Or.inl ⟨_, rfl, rfl⟩)) rfl k
              obtain ⟨r2, a2, J2, e1, hv2, hQ2⟩ := mg_sum (s0 := z1.2.2.1) hP hB hS6 (show z1.1 + 1 ≤ t from hlt) kc
              subst e1
              rcases r2 with c | z2
              · obtain ⟨hc, rfl, q2, m2, e2, hT2, hq2⟩ := hQ2
                have k : nt_rn X _ 161 (158, [(4, .int (Int32.ofInt 4)), (3, .int (Int32.ofInt 0)), (2, .int (nI z1.1)), (1, .int (lb_g f t z1.1)), (0, .ref B)], [.int (Int32.ofInt 0)], me_w M J2) _ := k
                have k := ly_revb 1 (c' := (if (Int32.ofInt 0) = 0 then 161 else 163, [(4, .int (Int32.ofInt 4)), (3, .int (Int32.ofInt 0)), (2, .int (nI z1.1)), (1, .int (lb_g f t z1.1)), (0, .ref B)], [], me_w M J2)) rfl k
                rw [if_pos (show (Int32.ofInt 0) = 0 from by decide)] at k
                have k := ly_revb 1 (c' := (162, [(4, .int (Int32.ofInt 4)), (3, .int (Int32.ofInt 0)), (2, .int (nI z1.1)), (1, .int (lb_g f t z1.1)), (0, .ref B)], [.int (Int32.ofInt 0)], me_w M J2)) rfl k
                have k := lz_ri rfl (by decide) k
                have hcm : lb_cm f t z1.1 (Int32.ofInt 18) := Or.inr (Or.inr (Or.inr (Or.inr (Or.inl ⟨h34, fun c => absurd c.1 (by omega), rfl⟩))))
                have hcl : lb_cl (Int32.ofInt 18) = 1 := by decide
                have hv3 : lb_sum f t (lb_s f t (z1.1 + lb_cl (Int32.ofInt 18)), z1.2.1 + 1, z1.2.2) (.inl c) := by rw [hcl]; exact hv2
                exact ⟨.inl c, _, _, k, ⟨_, hv1, Or.inr ⟨z1, rfl, _, _, ⟨hcm, Or.inr (Or.inr ⟨by decide, hm, rfl⟩)⟩, Or.inr ⟨_, rfl, _, hv3, Or.inl ⟨c, rfl, rfl⟩⟩⟩⟩, hc, rfl, _, _, _, hT2, hq2⟩
              · obtain ⟨rfl, q2, hz2, hq2, hT2⟩ := hQ2
                have k : nt_rn X _ 161 (158, [(4, .int (Int32.ofInt 4)), (3, .int (Int32.ofInt 0)), (2, .int (nI z1.1)), (1, .int (lb_g f t z1.1)), (0, .ref B)], [.int (Int32.ofInt 1)], me_w M J2) _ := k
                have k := ly_revb 1 (c' := (if (Int32.ofInt 1) = 0 then 161 else 163, [(4, .int (Int32.ofInt 4)), (3, .int (Int32.ofInt 0)), (2, .int (nI z1.1)), (1, .int (lb_g f t z1.1)), (0, .ref B)], [], me_w M J2)) rfl k
                rw [if_neg (show ¬ ((Int32.ofInt 1) = 0) from by decide)] at k
                have k := ly_revb 5 (c' := (170, [(4, .int (Int32.ofInt 4)), (3, .int (Int32.ofInt 0)), (2, .int (nI z1.1)), (1, .int (lb_g f t z1.1)), (0, .ref B)], [.int (Int32.ofInt 0), .int ((Int32.ofInt 6) + (Int32.ofInt 4)), .ref B], me_w M J2)) rfl k
                obtain ⟨d1, o1, ed, kc, k⟩ := lz_c (g := 155) (q := 1) (vs := [.ref B, .int ((Int32.ofInt 6) + (Int32.ofInt 4)), .int (Int32.ofInt 0)]) (rest := []) rfl rfl (by decide) (Or.inr (Or.inl ⟨_, rfl, rfl⟩)) rfl k
                obtain ⟨hb, e1⟩ := mg_puts hP hT2 hq2 kc
                subst e1
                have hU2 := mg_Se (y := ((Int32.ofInt 6) + (Int32.ofInt 4)) + Int32.ofInt 16 * (Int32.ofInt 0)) hP hT2 hb
                have k : nt_rn X _ 161 (173, [(4, .int (Int32.ofInt 4)), (3, .int (Int32.ofInt 0)), (2, .int (nI z1.1)), (1, .int (lb_g f t z1.1)), (0, .ref B)], [], me_w M (nt_u (nt_u J2 Sg (400 * x + z2.2.2.2.1) (((Int32.ofInt 6) + (Int32.ofInt 4)) + Int32.ofInt 16 * (Int32.ofInt 0))) Ln x (nI (z2.2.2.2.1 + 1)))) _ := k
                have k := ly_revb 1 (c' := (174, [(4, .int (Int32.ofInt 4)), (3, .int (Int32.ofInt 0)), (2, .int (nI z1.1)), (1, .int (lb_g f t z1.1)), (0, .ref B)], [.int (Int32.ofInt 1)], me_w M (nt_u (nt_u J2 Sg (400 * x + z2.2.2.2.1) (((Int32.ofInt 6) + (Int32.ofInt 4)) + Int32.ofInt 16 * (Int32.ofInt 0))) Ln x (nI (z2.2.2.2.1 + 1))))) rfl k
                have k := lz_ri rfl (by decide) k
                have hcm : lb_cm f t z1.1 (Int32.ofInt 18) := Or.inr (Or.inr (Or.inr (Or.inr (Or.inl ⟨h34, fun c => absurd c.1 (by omega), rfl⟩))))
                have hcl : lb_cl (Int32.ofInt 18) = 1 := by decide
                have hv3 : lb_sum f t (lb_s f t (z1.1 + lb_cl (Int32.ofInt 18)), z1.2.1 + 1, z1.2.2) (.inr z2) := by rw [hcl]; exact hv2
                rw [show ((Int32.ofInt 6) + (Int32.ofInt 4)) + Int32.ofInt 16 * (Int32.ofInt 0) = Int32.ofInt 18 - Int32.ofInt 8 from by decide] at hU2
                rw [show ((Int32.ofInt 6) + (Int32.ofInt 4)) + Int32.ofInt 16 * (Int32.ofInt 0) = Int32.ofInt 18 - Int32.ofInt 8 from by decide] at k
                exact ⟨.inr (z2.1, z2.2.1, lb_em z2.2.2 (Int32.ofInt 18) (Int32.ofInt 18 - Int32.ofInt 8)), _, _, k, ⟨_, hv1, Or.inr ⟨z1, rfl, _, _, ⟨hcm, Or.inr (Or.inr ⟨by decide, hm, rfl⟩)⟩, Or.inr ⟨_, rfl, _, hv3, Or.inr ⟨z2, rfl, rfl⟩⟩⟩⟩, rfl, _, hz2, hq2, hU2⟩
          · rw [if_neg (show ¬ ((nI t) ≤ (nI (z1.1 + 1))) from show ¬ nI t ≤ nI ((z1.1 + 1)) from nI_ge (Nat.not_le.mp h68) (by omega))] at k
            have k := ly_revb 1 (c' := (72, [(2, .int (nI z1.1)), (1, .int (lb_g f t z1.1)), (0, .ref B)], [.ref B], me_w M (nt_u (nt_u J1 B 15 (nI z1.1)) B 15 (nI (z1.1 + 1))))) rfl k
            have k := lz_get (a := B) (g := 1100) (M := me_w M (nt_u (nt_u J1 B 15 (nI z1.1)) B 15 (nI (z1.1 + 1)))) (v := .ref Tb) rfl (nt_gfR rfl hP.1.1) k
            have k := ly_revb 1 (c' := (76, [(2, .int (nI z1.1)), (1, .int (lb_g f t z1.1)), (0, .ref B)], [.ref B, .ref Tb], me_w M (nt_u (nt_u J1 B 15 (nI z1.1)) B 15 (nI (z1.1 + 1))))) rfl k
            have k := lz_get (a := B) (g := 1115) (M := me_w M (nt_u (nt_u J1 B 15 (nI z1.1)) B 15 (nI (z1.1 + 1)))) (v := .int (nI (z1.1 + 1))) rfl (congrArg Value.int (hN1.1)) k
            have k := me_bald (q := (z1.1 + 1)) (v := f ((z1.1 + 1))) rfl (rfl) (by omega) (mg_f hP hN1 ((z1.1 + 1))) k
            have k := ly_revb 2 (c' := (if (f ((z1.1 + 1))) = (Int32.ofInt 61) then 85 else 89, [(2, .int (nI z1.1)), (1, .int (lb_g f t z1.1)), (0, .ref B)], [], me_w M (nt_u (nt_u J1 B 15 (nI z1.1)) B 15 (nI (z1.1 + 1))))) rfl k
            by_cases h82 : f (z1.1 + 1) = Int32.ofInt 61
            · rw [if_pos (show (f ((z1.1 + 1))) = (Int32.ofInt 61) from h82)] at k
              have k := ly_revb 5 (c' := (if (Int32.ofInt 1) = 0 then 105 else 95, [(3, .int (Int32.ofInt 1)), (2, .int (nI z1.1)), (1, .int (lb_g f t z1.1)), (0, .ref B)], [], me_w M (nt_u (nt_u J1 B 15 (nI z1.1)) B 15 (nI (z1.1 + 1))))) rfl k
              rw [if_neg (show ¬ ((Int32.ofInt 1) = 0) from by decide)] at k
              have k := ly_revb 2 (c' := (97, [(3, .int (Int32.ofInt 1)), (2, .int (nI z1.1)), (1, .int (lb_g f t z1.1)), (0, .ref B)], [.ref B, .ref B], me_w M (nt_u (nt_u J1 B 15 (nI z1.1)) B 15 (nI (z1.1 + 1))))) rfl k
              have k := lz_get (a := B) (g := 1115) (M := me_w M (nt_u (nt_u J1 B 15 (nI z1.1)) B 15 (nI (z1.1 + 1)))) (v := .int (nI (z1.1 + 1))) rfl (congrArg Value.int (hN1.1)) k
              have k := ly_revb 2 (c' := (102, [(3, .int (Int32.ofInt 1)), (2, .int (nI z1.1)), (1, .int (lb_g f t z1.1)), (0, .ref B)], [.int ((nI (z1.1 + 1)) + (Int32.ofInt 1)), .ref B], me_w M (nt_u (nt_u J1 B 15 (nI z1.1)) B 15 (nI (z1.1 + 1))))) rfl k
              rw [show ((nI (z1.1 + 1)) + (Int32.ofInt 1) : Int32) = nI ((z1.1 + 1) + 1) from me_add (k := 1)] at k
              have k := me_put rfl (by decide) k
              have k : nt_rn X _ 161 (105, [(3, .int (Int32.ofInt 1)), (2, .int (nI z1.1)), (1, .int (lb_g f t z1.1)), (0, .ref B)], [], me_w M (nt_u (nt_u (nt_u J1 B 15 (nI z1.1)) B 15 (nI (z1.1 + 1))) B 15 (nI ((z1.1 + 1) + 1)))) _ := k
              have hN2 := mg_Sq (y := z1.1 + 2) hP hN1
              have k := ly_revb 2 (c' := (107, [(3, .int (Int32.ofInt 1)), (2, .int (nI z1.1)), (1, .int (lb_g f t z1.1)), (0, .ref B)], [.int (nI z1.1), .ref B], me_w M (nt_u (nt_u (nt_u J1 B 15 (nI z1.1)) B 15 (nI (z1.1 + 1))) B 15 (nI ((z1.1 + 1) + 1))))) rfl k
              obtain ⟨d1, o1, ed, kc, k⟩ := lz_c (g := 154) (q := 1) (vs := [.ref B, .int (nI z1.1)]) (rest := []) rfl rfl (by decide) (Or.inr (Or.inl ⟨_, rfl, rfl⟩)) rfl k
              rcases mg_makes (a := z1.1) hP hN2 (show z1.1 + 2 ≤ t by omega) rfl kc with ⟨hm, e1⟩ | ⟨hm, e1⟩
              · subst e1
                have hS6 := mg_Sw (y := lb_c z1.1 (Int32.ofInt 3)) hP hN2
                have k : nt_rn X _ 161 (110, [(3, .int (Int32.ofInt 1)), (2, .int (nI z1.1)), (1, .int (lb_g f t z1.1)), (0, .ref B)], [.int (Int32.ofInt 0)], me_w M (nt_u (nt_u (nt_u (nt_u J1 B 15 (nI z1.1)) B 15 (nI (z1.1 + 1))) B 15 (nI ((z1.1 + 1) + 1))) B 16 (lb_c z1.1 (Int32.ofInt 3)))) _ := k
                have k := ly_revb 1 (c' := (if (Int32.ofInt 0) = 0 then 113 else 115, [(3, .int (Int32.ofInt 1)), (2, .int (nI z1.1)), (1, .int (lb_g f t z1.1)), (0, .ref B)], [], me_w M (nt_u (nt_u (nt_u (nt_u J1 B 15 (nI z1.1)) B 15 (nI (z1.1 + 1))) B 15 (nI ((z1.1 + 1) + 1))) B 16 (lb_c z1.1 (Int32.ofInt 3))))) rfl k
                rw [if_pos (show (Int32.ofInt 0) = 0 from by decide)] at k
                have k := ly_revb 1 (c' := (114, [(3, .int (Int32.ofInt 1)), (2, .int (nI z1.1)), (1, .int (lb_g f t z1.1)), (0, .ref B)], [.int (Int32.ofInt 0)], me_w M (nt_u (nt_u (nt_u (nt_u J1 B 15 (nI z1.1)) B 15 (nI (z1.1 + 1))) B 15 (nI ((z1.1 + 1) + 1))) B 16 (lb_c z1.1 (Int32.ofInt 3))))) rfl k
                have k := lz_ri rfl (by decide) k
                have hcm : lb_cm f t z1.1 (Int32.ofInt 17) := Or.inr (Or.inr (Or.inr (Or.inl ⟨h34, ⟨by omega, h82⟩, rfl⟩)))
                exact ⟨.inl (lb_c z1.1 (Int32.ofInt 3)), _, _, k, ⟨_, hv1, Or.inr ⟨z1, rfl, _, _, ⟨hcm, Or.inr (Or.inl ⟨by decide, hm, rfl⟩)⟩, Or.inl ⟨_, rfl, rfl⟩⟩⟩, (lb_c_ne (by omega) (by decide) (by decide)), rfl, _, _, _, hS6, (show z1.1 + 2 ≤ t by omega)⟩
              · subst e1
                have hS6 := mg_Sm (y := z1.2.1 + 1) hP hN2 (by omega)
                have k : nt_rn X _ 161 (110, [(3, .int (Int32.ofInt 1)), (2, .int (nI z1.1)), (1, .int (lb_g f t z1.1)), (0, .ref B)], [.int (Int32.ofInt 1)], me_w M (nt_u (nt_u (nt_u (nt_u J1 B 15 (nI z1.1)) B 15 (nI (z1.1 + 1))) B 15 (nI ((z1.1 + 1) + 1))) B 19 (nI (z1.2.1 + 1)))) _ := k
                have k := ly_revb 1 (c' := (if (Int32.ofInt 1) = 0 then 113 else 115, [(3, .int (Int32.ofInt 1)), (2, .int (nI z1.1)), (1, .int (lb_g f t z1.1)), (0, .ref B)], [], me_w M (nt_u (nt_u (nt_u (nt_u J1 B 15 (nI z1.1)) B 15 (nI (z1.1 + 1))) B 15 (nI ((z1.1 + 1) + 1))) B 19 (nI (z1.2.1 + 1))))) rfl k
                rw [if_neg (show ¬ ((Int32.ofInt 1) = 0) from by decide)] at k
                have k := ly_revb 3 (c' := (if (lb_g f t z1.1) = (Int32.ofInt 60) then 121 else 133, [(3, .int (Int32.ofInt 1)), (2, .int (nI z1.1)), (1, .int (lb_g f t z1.1)), (0, .ref B)], [], me_w M (nt_u (nt_u (nt_u (nt_u J1 B 15 (nI z1.1)) B 15 (nI (z1.1 + 1))) B 15 (nI ((z1.1 + 1) + 1))) B 19 (nI (z1.2.1 + 1))))) rfl k
                rw [if_neg (show ¬ ((lb_g f t z1.1) = (Int32.ofInt 60)) from h22)] at k
                have k := ly_revb 3 (c' := (if (lb_g f t z1.1) = (Int32.ofInt 61) then 139 else 143, [(3, .int (Int32.ofInt 1)), (2, .int (nI z1.1)), (1, .int (lb_g f t z1.1)), (0, .ref B)], [], me_w M (nt_u (nt_u (nt_u (nt_u J1 B 15 (nI z1.1)) B 15 (nI (z1.1 + 1))) B 15 (nI ((z1.1 + 1) + 1))) B 19 (nI (z1.2.1 + 1))))) rfl k
                rw [if_neg (show ¬ ((lb_g f t z1.1) = (Int32.ofInt 61)) from h28)] at k
                have k := ly_revb 2 (c' := (if (Int32.ofInt 1) = 0 then 151 else 147, [(3, .int (Int32.ofInt 1)), (2, .int (nI z1.1)), (1, .int (lb_g f t z1.1)), (0, .ref B)], [], me_w M (nt_u (nt_u (nt_u (nt_u J1 B 15 (nI z1.1)) B 15 (nI (z1.1 + 1))) B 15 (nI ((z1.1 + 1) + 1))) B 19 (nI (z1.2.1 + 1))))) rfl k
                rw [if_neg (show ¬ ((Int32.ofInt 1) = 0) from by decide)] at k
                have k := ly_revb 4 (c' := (155, [(4, .int (Int32.ofInt 3)), (3, .int (Int32.ofInt 1)), (2, .int (nI z1.1)), (1, .int (lb_g f t z1.1)), (0, .ref B)], [.ref B], me_w M (nt_u (nt_u (nt_u (nt_u J1 B 15 (nI z1.1)) B 15 (nI (z1.1 + 1))) B 15 (nI ((z1.1 + 1) + 1))) B 19 (nI (z1.2.1 + 1))))) rfl k
                obtain ⟨d1, o1, ed, kc, k⟩ := lz_c (g := 151) (q := 1) (vs := [.ref B]) (rest := []) rfl rfl (by decide) (Or.inr (Or.inl ⟨_, rfl, rfl⟩)) rfl k
                obtain ⟨r2, a2, J2, e1, hv2, hQ2⟩ := mg_sum (s0 := z1.2.2.1) hP hB hS6 (show z1.1 + 2 ≤ t by omega) kc
                subst e1
                rcases r2 with c | z2
                · obtain ⟨hc, rfl, q2, m2, e2, hT2, hq2⟩ := hQ2
                  have k : nt_rn X _ 161 (158, [(4, .int (Int32.ofInt 3)), (3, .int (Int32.ofInt 1)), (2, .int (nI z1.1)), (1, .int (lb_g f t z1.1)), (0, .ref B)], [.int (Int32.ofInt 0)], me_w M J2) _ := k
                  have k := ly_revb 1 (c' := (if (Int32.ofInt 0) = 0 then 161 else 163, [(4, .int (Int32.ofInt 3)), (3, .int (Int32.ofInt 1)), (2, .int (nI z1.1)), (1, .int (lb_g f t z1.1)), (0, .ref B)], [], me_w M J2)) rfl k
                  rw [if_pos (show (Int32.ofInt 0) = 0 from by decide)] at k
                  have k := ly_revb 1 (c' := (162, [(4, .int (Int32.ofInt 3)), (3, .int (Int32.ofInt 1)), (2, .int (nI z1.1)), (1, .int (lb_g f t z1.1)), (0, .ref B)], [.int (Int32.ofInt 0)], me_w M J2)) rfl k
                  have k := lz_ri rfl (by decide) k
                  have hcm : lb_cm f t z1.1 (Int32.ofInt 17) := Or.inr (Or.inr (Or.inr (Or.inl ⟨h34, ⟨by omega, h82⟩, rfl⟩)))
                  have hcl : lb_cl (Int32.ofInt 17) = 2 := by decide
                  have hv3 : lb_sum f t (lb_s f t (z1.1 + lb_cl (Int32.ofInt 17)), z1.2.1 + 1, z1.2.2) (.inl c) := by rw [hcl]; exact hv2
                  exact ⟨.inl c, _, _, k, ⟨_, hv1, Or.inr ⟨z1, rfl, _, _, ⟨hcm, Or.inr (Or.inr ⟨by decide, hm, rfl⟩)⟩, Or.inr ⟨_, rfl, _, hv3, Or.inl ⟨c, rfl, rfl⟩⟩⟩⟩, hc, rfl, _, _, _, hT2, hq2⟩
                · obtain ⟨rfl, q2, hz2, hq2, hT2⟩ := hQ2
                  have k : nt_rn X _ 161 (158, [(4, .int (Int32.ofInt 3)), (3, .int (Int32.ofInt 1)), (2, .int (nI z1.1)), (1, .int (lb_g f t z1.1)), (0, .ref B)], [.int (Int32.ofInt 1)], me_w M J2) _ := k
                  have k := ly_revb 1 (c' := (if (Int32.ofInt 1) = 0 then 161 else 163, [(4, .int (Int32.ofInt 3)), (3, .int (Int32.ofInt 1)), (2, .int (nI z1.1)), (1, .int (lb_g f t z1.1)), (0, .ref B)], [], me_w M J2)) rfl k
                  rw [if_neg (show ¬ ((Int32.ofInt 1) = 0) from by decide)] at k
                  have k := ly_revb 5 (c' := (170, [(4, .int (Int32.ofInt 3)), (3, .int (Int32.ofInt 1)), (2, .int (nI z1.1)), (1, .int (lb_g f t z1.1)), (0, .ref B)], [.int (Int32.ofInt 0), .int ((Int32.ofInt 6) + (Int32.ofInt 3)), .ref B], me_w M J2)) rfl k
                  obtain ⟨d1, o1, ed, kc, k⟩ := lz_c (g := 155) (q := 1) (vs := [.ref B, .int ((Int32.ofInt 6) + (Int32.ofInt 3)), .int (Int32.ofInt 0)]) (rest := []) rfl rfl (by decide) (Or.inr (Or.inl ⟨_, rfl, rfl⟩)) rfl k
                  obtain ⟨hb, e1⟩ := mg_puts hP hT2 hq2 kc
                  subst e1
                  have hU2 := mg_Se (y := ((Int32.ofInt 6) + (Int32.ofInt 3)) + Int32.ofInt 16 * (Int32.ofInt 0)) hP hT2 hb
                  have k : nt_rn X _ 161 (173, [(4, .int (Int32.ofInt 3)), (3, .int (Int32.ofInt 1)), (2, .int (nI z1.1)), (1, .int (lb_g f t z1.1)), (0, .ref B)], [], me_w M (nt_u (nt_u J2 Sg (400 * x + z2.2.2.2.1) (((Int32.ofInt 6) + (Int32.ofInt 3)) + Int32.ofInt 16 * (Int32.ofInt 0))) Ln x (nI (z2.2.2.2.1 + 1)))) _ := k
                  have k := ly_revb 1 (c' := (174, [(4, .int (Int32.ofInt 3)), (3, .int (Int32.ofInt 1)), (2, .int (nI z1.1)), (1, .int (lb_g f t z1.1)), (0, .ref B)], [.int (Int32.ofInt 1)], me_w M (nt_u (nt_u J2 Sg (400 * x + z2.2.2.2.1) (((Int32.ofInt 6) + (Int32.ofInt 3)) + Int32.ofInt 16 * (Int32.ofInt 0))) Ln x (nI (z2.2.2.2.1 + 1))))) rfl k
                  have k := lz_ri rfl (by decide) k
                  have hcm : lb_cm f t z1.1 (Int32.ofInt 17) := Or.inr (Or.inr (Or.inr (Or.inl ⟨h34, ⟨by omega, h82⟩, rfl⟩)))
                  have hcl : lb_cl (Int32.ofInt 17) = 2 := by decide
                  have hv3 : lb_sum f t (lb_s f t (z1.1 + lb_cl (Int32.ofInt 17)), z1.2.1 + 1, z1.2.2) (.inr z2) := by rw [hcl]; exact hv2
                  rw [show ((Int32.ofInt 6) + (Int32.ofInt 3)) + Int32.ofInt 16 * (Int32.ofInt 0) = Int32.ofInt 17 - Int32.ofInt 8 from by decide] at hU2
                  rw [show ((Int32.ofInt 6) + (Int32.ofInt 3)) + Int32.ofInt 16 * (Int32.ofInt 0) = Int32.ofInt 17 - Int32.ofInt 8 from by decide] at k
                  exact ⟨.inr (z2.1, z2.2.1, lb_em z2.2.2 (Int32.ofInt 17) (Int32.ofInt 17 - Int32.ofInt 8)), _, _, k, ⟨_, hv1, Or.inr ⟨z1, rfl, _, _, ⟨hcm, Or.inr (Or.inr ⟨by decide, hm, rfl⟩)⟩, Or.inr ⟨_, rfl, _, hv3, Or.inr ⟨z2, rfl, rfl⟩⟩⟩⟩, rfl, _, hz2, hq2, hU2⟩
            · rw [if_neg (show ¬ ((f ((z1.1 + 1))) = (Int32.ofInt 61)) from h82)] at k
              have k := ly_revb 4 (c' := (if (Int32.ofInt 0) = 0 then 105 else 95, [(3, .int (Int32.ofInt 0)), (2, .int (nI z1.1)), (1, .int (lb_g f t z1.1)), (0, .ref B)], [], me_w M (nt_u (nt_u J1 B 15 (nI z1.1)) B 15 (nI (z1.1 + 1))))) rfl k
              rw [if_pos (show (Int32.ofInt 0) = 0 from by decide)] at k
              have k := ly_revb 2 (c' := (107, [(3, .int (Int32.ofInt 0)), (2, .int (nI z1.1)), (1, .int (lb_g f t z1.1)), (0, .ref B)], [.int (nI z1.1), .ref B], me_w M (nt_u (nt_u J1 B 15 (nI z1.1)) B 15 (nI (z1.1 + 1))))) rfl k
              obtain ⟨d1, o1, ed, kc, k⟩ := lz_c (g := 154) (q := 1) (vs := [.ref B, .int (nI z1.1)]) (rest := []) rfl rfl (by decide) (Or.inr (Or.inl ⟨_, rfl, rfl⟩)) rfl k
              rcases mg_makes (a := z1.1) hP hN1 (show z1.1 + 1 ≤ t from hlt) rfl kc with ⟨hm, e1⟩ | ⟨hm, e1⟩
              · subst e1
                have hS6 := mg_Sw (y := lb_c z1.1 (Int32.ofInt 3)) hP hN1
                have k : nt_rn X _ 161 (110, [(3, .int (Int32.ofInt 0)), (2, .int (nI z1.1)), (1, .int (lb_g f t z1.1)), (0, .ref B)], [.int (Int32.ofInt 0)], me_w M (nt_u (nt_u (nt_u J1 B 15 (nI z1.1)) B 15 (nI (z1.1 + 1))) B 16 (lb_c z1.1 (Int32.ofInt 3)))) _ := k
                have k := ly_revb 1 (c' := (if (Int32.ofInt 0) = 0 then 113 else 115, [(3, .int (Int32.ofInt 0)), (2, .int (nI z1.1)), (1, .int (lb_g f t z1.1)), (0, .ref B)], [], me_w M (nt_u (nt_u (nt_u J1 B 15 (nI z1.1)) B 15 (nI (z1.1 + 1))) B 16 (lb_c z1.1 (Int32.ofInt 3))))) rfl k
                rw [if_pos (show (Int32.ofInt 0) = 0 from by decide)] at k
                have k := ly_revb 1 (c' := (114, [(3, .int (Int32.ofInt 0)), (2, .int (nI z1.1)), (1, .int (lb_g f t z1.1)), (0, .ref B)], [.int (Int32.ofInt 0)], me_w M (nt_u (nt_u (nt_u J1 B 15 (nI z1.1)) B 15 (nI (z1.1 + 1))) B 16 (lb_c z1.1 (Int32.ofInt 3))))) rfl k
                have k := lz_ri rfl (by decide) k
                have hcm : lb_cm f t z1.1 (Int32.ofInt 18) := Or.inr (Or.inr (Or.inr (Or.inr (Or.inl ⟨h34, fun c => h82 c.2, rfl⟩))))
                exact ⟨.inl (lb_c z1.1 (Int32.ofInt 3)), _, _, k, ⟨_, hv1, Or.inr ⟨z1, rfl, _, _, ⟨hcm, Or.inr (Or.inl ⟨by decide, hm, rfl⟩)⟩, Or.inl ⟨_, rfl, rfl⟩⟩⟩, (lb_c_ne (by omega) (by decide) (by decide)), rfl, _, _, _, hS6, (show z1.1 + 1 ≤ t from hlt)⟩
              · subst e1
                have hS6 := mg_Sm (y := z1.2.1 + 1) hP hN1 (by omega)
                have k : nt_rn X _ 161 (110, [(3, .int (Int32.ofInt 0)), (2, .int (nI z1.1)), (1, .int (lb_g f t z1.1)), (0, .ref B)], [.int (Int32.ofInt 1)], me_w M (nt_u (nt_u (nt_u J1 B 15 (nI z1.1)) B 15 (nI (z1.1 + 1))) B 19 (nI (z1.2.1 + 1)))) _ := k
                have k := ly_revb 1 (c' := (if (Int32.ofInt 1) = 0 then 113 else 115, [(3, .int (Int32.ofInt 0)), (2, .int (nI z1.1)), (1, .int (lb_g f t z1.1)), (0, .ref B)], [], me_w M (nt_u (nt_u (nt_u J1 B 15 (nI z1.1)) B 15 (nI (z1.1 + 1))) B 19 (nI (z1.2.1 + 1))))) rfl k
                rw [if_neg (show ¬ ((Int32.ofInt 1) = 0) from by decide)] at k
                have k := ly_revb 3 (c' := (if (lb_g f t z1.1) = (Int32.ofInt 60) then 121 else 133, [(3, .int (Int32.ofInt 0)), (2, .int (nI z1.1)), (1, .int (lb_g f t z1.1)), (0, .ref B)], [], me_w M (nt_u (nt_u (nt_u J1 B 15 (nI z1.1)) B 15 (nI (z1.1 + 1))) B 19 (nI (z1.2.1 + 1))))) rfl k
                rw [if_neg (show ¬ ((lb_g f t z1.1) = (Int32.ofInt 60)) from h22)] at k
                have k := ly_revb 3 (c' := (if (lb_g f t z1.1) = (Int32.ofInt 61) then 139 else 143, [(3, .int (Int32.ofInt 0)), (2, .int (nI z1.1)), (1, .int (lb_g f t z1.1)), (0, .ref B)], [], me_w M (nt_u (nt_u (nt_u J1 B 15 (nI z1.1)) B 15 (nI (z1.1 + 1))) B 19 (nI (z1.2.1 + 1))))) rfl k
                rw [if_neg (show ¬ ((lb_g f t z1.1) = (Int32.ofInt 61)) from h28)] at k
                have k := ly_revb 2 (c' := (if (Int32.ofInt 0) = 0 then 151 else 147, [(3, .int (Int32.ofInt 0)), (2, .int (nI z1.1)), (1, .int (lb_g f t z1.1)), (0, .ref B)], [], me_w M (nt_u (nt_u (nt_u J1 B 15 (nI z1.1)) B 15 (nI (z1.1 + 1))) B 19 (nI (z1.2.1 + 1))))) rfl k
                rw [if_pos (show (Int32.ofInt 0) = 0 from by decide)] at k
                have k := ly_revb 3 (c' := (155, [(4, .int (Int32.ofInt 4)), (3, .int (Int32.ofInt 0)), (2, .int (nI z1.1)), (1, .int (lb_g f t z1.1)), (0, .ref B)], [.ref B], me_w M (nt_u (nt_u (nt_u J1 B 15 (nI z1.1)) B 15 (nI (z1.1 + 1))) B 19 (nI (z1.2.1 + 1))))) rfl k
                obtain ⟨d1, o1, ed, kc, k⟩ := lz_c (g := 151) (q := 1) (vs := [.ref B]) (rest := []) rfl rfl (by decide) (Or.inr (Or.inl ⟨_, rfl, rfl⟩)) rfl k
                obtain ⟨r2, a2, J2, e1, hv2, hQ2⟩ := mg_sum (s0 := z1.2.2.1) hP hB hS6 (show z1.1 + 1 ≤ t from hlt) kc
                subst e1
                rcases r2 with c | z2
                · obtain ⟨hc, rfl, q2, m2, e2, hT2, hq2⟩ := hQ2
                  have k : nt_rn X _ 161 (158, [(4, .int (Int32.ofInt 4)), (3, .int (Int32.ofInt 0)), (2, .int (nI z1.1)), (1, .int (lb_g f t z1.1)), (0, .ref B)], [.int (Int32.ofInt 0)], me_w M J2) _ := k
                  have k := ly_revb 1 (c' := (if (Int32.ofInt 0) = 0 then 161 else 163, [(4, .int (Int32.ofInt 4)), (3, .int (Int32.ofInt 0)), (2, .int (nI z1.1)), (1, .int (lb_g f t z1.1)), (0, .ref B)], [], me_w M J2)) rfl k
                  rw [if_pos (show (Int32.ofInt 0) = 0 from by decide)] at k
                  have k := ly_revb 1 (c' := (162, [(4, .int (Int32.ofInt 4)), (3, .int (Int32.ofInt 0)), (2, .int (nI z1.1)), (1, .int (lb_g f t z1.1)), (0, .ref B)], [.int (Int32.ofInt 0)], me_w M J2)) rfl k
                  have k := lz_ri rfl (by decide) k
                  have hcm : lb_cm f t z1.1 (Int32.ofInt 18) := Or.inr (Or.inr (Or.inr (Or.inr (Or.inl ⟨h34, fun c => h82 c.2, rfl⟩))))
                  have hcl : lb_cl (Int32.ofInt 18) = 1 := by decide
                  have hv3 : lb_sum f t (lb_s f t (z1.1 + lb_cl (Int32.ofInt 18)), z1.2.1 + 1, z1.2.2) (.inl c) := by rw [hcl]; exact hv2
                  exact ⟨.inl c, _, _, k, ⟨_, hv1, Or.inr ⟨z1, rfl, _, _, ⟨hcm, Or.inr (Or.inr ⟨by decide, hm, rfl⟩)⟩, Or.inr ⟨_, rfl, _, hv3, Or.inl ⟨c, rfl, rfl⟩⟩⟩⟩, hc, rfl, _, _, _, hT2, hq2⟩
                · obtain ⟨rfl, q2, hz2, hq2, hT2⟩ := hQ2
                  have k : nt_rn X _ 161 (158, [(4, .int (Int32.ofInt 4)), (3, .int (Int32.ofInt 0)), (2, .int (nI z1.1)), (1, .int (lb_g f t z1.1)), (0, .ref B)], [.int (Int32.ofInt 1)], me_w M J2) _ := k
                  have k := ly_revb 1 (c' := (if (Int32.ofInt 1) = 0 then 161 else 163, [(4, .int (Int32.ofInt 4)), (3, .int (Int32.ofInt 0)), (2, .int (nI z1.1)), (1, .int (lb_g f t z1.1)), (0, .ref B)], [], me_w M J2)) rfl k
                  rw [if_neg (show ¬ ((Int32.ofInt 1) = 0) from by decide)] at k
                  have k := ly_revb 5 (c' := (170, [(4, .int (Int32.ofInt 4)), (3, .int (Int32.ofInt 0)), (2, .int (nI z1.1)), (1, .int (lb_g f t z1.1)), (0, .ref B)], [.int (Int32.ofInt 0), .int ((Int32.ofInt 6) + (Int32.ofInt 4)), .ref B], me_w M J2)) rfl k
                  obtain ⟨d1, o1, ed, kc, k⟩ := lz_c (g := 155) (q := 1) (vs := [.ref B, .int ((Int32.ofInt 6) + (Int32.ofInt 4)), .int (Int32.ofInt 0)]) (rest := []) rfl rfl (by decide) (Or.inr (Or.inl ⟨_, rfl, rfl⟩)) rfl k
                  obtain ⟨hb, e1⟩ := mg_puts hP hT2 hq2 kc
                  subst e1
                  have hU2 := mg_Se (y := ((Int32.ofInt 6) + (Int32.ofInt 4)) + Int32.ofInt 16 * (Int32.ofInt 0)) hP hT2 hb
                  have k : nt_rn X _ 161 (173, [(4, .int (Int32.ofInt 4)), (3, .int (Int32.ofInt 0)), (2, .int (nI z1.1)), (1, .int (lb_g f t z1.1)), (0, .ref B)], [], me_w M (nt_u (nt_u J2 Sg (400 * x + z2.2.2.2.1) (((Int32.ofInt 6) + (Int32.ofInt 4)) + Int32.ofInt 16 * (Int32.ofInt 0))) Ln x (nI (z2.2.2.2.1 + 1)))) _ := k
                  have k := ly_revb 1 (c' := (174, [(4, .int (Int32.ofInt 4)), (3, .int (Int32.ofInt 0)), (2, .int (nI z1.1)), (1, .int (lb_g f t z1.1)), (0, .ref B)], [.int (Int32.ofInt 1)], me_w M (nt_u (nt_u J2 Sg (400 * x + z2.2.2.2.1) (((Int32.ofInt 6) + (Int32.ofInt 4)) + Int32.ofInt 16 * (Int32.ofInt 0))) Ln x (nI (z2.2.2.2.1 + 1))))) rfl k
                  have k := lz_ri rfl (by decide) k
                  have hcm : lb_cm f t z1.1 (Int32.ofInt 18) := Or.inr (Or.inr (Or.inr (Or.inr (Or.inl ⟨h34, fun c => h82 c.2, rfl⟩))))
                  have hcl : lb_cl (Int32.ofInt 18) = 1 := by decide
                  have hv3 : lb_sum f t (lb_s f t (z1.1 + lb_cl (Int32.ofInt 18)), z1.2.1 + 1, z1.2.2) (.inr z2) := by rw [hcl]; exact hv2
                  rw [show ((Int32.ofInt 6) + (Int32.ofInt 4)) + Int32.ofInt 16 * (Int32.ofInt 0) = Int32.ofInt 18 - Int32.ofInt 8 from by decide] at hU2
                  rw [show ((Int32.ofInt 6) + (Int32.ofInt 4)) + Int32.ofInt 16 * (Int32.ofInt 0) = Int32.ofInt 18 - Int32.ofInt 8 from by decide] at k
                  exact ⟨.inr (z2.1, z2.2.1, lb_em z2.2.2 (Int32.ofInt 18) (Int32.ofInt 18 - Int32.ofInt 8)), _, _, k, ⟨_, hv1, Or.inr ⟨z1, rfl, _, _, ⟨hcm, Or.inr (Or.inr ⟨by decide, hm, rfl⟩)⟩, Or.inr ⟨_, rfl, _, hv3, Or.inr ⟨z2, rfl, rfl⟩⟩⟩⟩, rfl, _, hz2, hq2, hU2⟩
        · rw [if_neg (show ¬ ((lb_g f t z1.1) = (Int32.ofInt 62)) from h34)] at k
          have k := ly_revb 3 (c' := (40, [(2, .int (nI z1.1)), (1, .int (lb_g f t z1.1)), (0, .ref B)], [.int (nI z1.1), .int (Int32.ofInt 0), .ref B], me_w M (nt_u J1 B 15 (nI z1.1)))) rfl k
          obtain ⟨d1, o1, ed, kc, k⟩ := lz_c (g := 139) (q := 1) (vs := [.ref B, .int (Int32.ofInt 0), .int (nI z1.1)]) (rest := []) rfl rfl (by decide) (Or.inr (Or.inl ⟨_, rfl, rfl⟩)) rfl k
          obtain ⟨hf, e1⟩ := (mg_fails (a := z1.1) hP hS2 hp2 kc).resolve_right (fun c => c.1 rfl)
          subst e1
          have hS9 := mg_Sw (y := lb_c z1.1 (Int32.ofInt 0)) hP hS2
          have k : nt_rn X _ 161 (43, [(2, .int (nI z1.1)), (1, .int (lb_g f t z1.1)), (0, .ref B)], [.int (Int32.ofInt 0)], me_w M (nt_u (nt_u J1 B 15 (nI z1.1)) B 16 (lb_c z1.1 (Int32.ofInt 0)))) _ := k
          have k := lz_ri rfl (by decide) k
          have hcm : lb_cm f t z1.1 (Int32.ofInt (-1)) := Or.inr (Or.inr (Or.inr (Or.inr (Or.inr ⟨⟨h22, h28, h34⟩, rfl⟩))))
          exact ⟨.inl (lb_c z1.1 (Int32.ofInt 0)), _, _, k, ⟨_, hv1, Or.inr ⟨z1, rfl, _, _, ⟨hcm, Or.inl ⟨rfl, rfl⟩⟩, Or.inl ⟨_, rfl, rfl⟩⟩⟩, (lb_c_ne (by omega) (by decide) (by decide)), rfl, _, _, _, hS9, hp2⟩
def mg_T (G : Nat → Int32) (J0 : Nat → Nat → Int32) (B Sg Ln Op x q : Nat) (wr : Int32) (m : Nat) (e : Nat × (Nat → Int32)) (dd : Int32) (S : List Int32) (J : Nat → Nat → Int32) : Prop := mg_S G J B Sg Ln x q wr m e J ∧ ((∀ i, i ≠ 15 → i ≠ 16 → i ≠ 17 → i ≠ 19 → i ≠ 20 → i ≠ 23 → J B i = J0 B i) ∧ (∀ a, a ≠ B → a ≠ Sg → a ≠ Ln → a ≠ Op → J a = J0 a)) ∧ J B 20 = dd ∧ J B 23 = nI S.length ∧ lb_stk (J Op) S ∧ S.length ≤ 400
theorem mg_Sself {G : Nat → Int32} {J0 J : Nat → Nat → Int32} {x B Sg Ln q m : Nat} {wr : Int32} {e : Nat × (Nat → Int32)} (hS : mg_S G J0 B Sg Ln x q wr m e J) : mg_S G J B Sg Ln x q wr m e J := by
  obtain ⟨a1, a2, a3, a4, a5, a6, a7, a8⟩ := hS
  exact ⟨a1, a2, a3, a4, a5, fun _ _ _ _ _ => rfl, fun _ _ _ _ => rfl, a8⟩
theorem mg_TP {G : Nat → Int32} {M : nt_M} {J0 J : Nat → Nat → Int32} {f : Nat → Int32} {t x B Tb Sg Ln Op q m : Nat} {wr dd : Int32} {e : Nat × (Nat → Int32)} {S : List Int32} (hP : md_P M J0 f t x B Tb Sg Ln) (hO : md_O M B Tb Sg Ln Op) (hT : mg_T G J0 B Sg Ln Op x q wr m e dd S J) : md_P M J f t x B Tb Sg Ln := by
  obtain ⟨p1, p2, p3, p4, p5, p6⟩ := hP
  obtain ⟨_, ⟨fB, fA⟩, _⟩ := hT
  refine ⟨p1, p2, (fB 1 (by decide) (by decide) (by decide) (by decide) (by decide) (by decide)).trans p3, (fB 18 (by decide) (by decide) (by decide) (by decide) (by decide) (by decide)).trans p4, fun j => ?_, p6⟩
  rw [fA Tb p2.1 p2.2.1 p2.2.2.1 (Ne.symm hO.2.1.2.1)]
  exact p5 j
theorem mg_Tup {G : Nat → Int32} {M : nt_M} {J0 J : Nat → Nat → Int32} {f : Nat → Int32} {t x B Tb Sg Ln Op q m : Nat} {wr dd : Int32} {e : Nat × (Nat → Int32)} {S : List Int32} (hP : md_P M J0 f t x B Tb Sg Ln) (hO : md_O M B Tb Sg Ln Op) (hT : mg_T G J0 B Sg Ln Op x q wr m e dd S J) {J' : Nat → Nat → Int32} {q' m' : Nat} {wr' : Int32} {e' : Nat × (Nat → Int32)} (hS : mg_S G J B Sg Ln x q' wr' m' e' J') : mg_T G J0 B Sg Ln Op x q' wr' m' e' dd S J' := by
  obtain ⟨h1, ⟨fB, fA⟩, t1, t2, t3, t4⟩ := hT
  have b1 := hS.2.2.2.2.2.1
  have b2 := hS.2.2.2.2.2.2.1
  exact ⟨mg_Sself hS, ⟨fun i q1 q2 q3 q4 q5 q6 => (b1 i q1 q2 q3 q4).trans (fB i q1 q2 q3 q4 q5 q6), fun a q1 q2 q3 q4 => (b2 a q1 q2 q3).trans (fA a q1 q2 q3 q4)⟩, (b1 20 (by decide) (by decide) (by decide) (by decide)).trans t1, (b1 23 (by decide) (by decide) (by decide) (by decide)).trans t2, lb_stk_eq S (fun j _ => by rw [b2 Op hO.2.1.1 hO.2.1.2.2.1 hO.2.1.2.2.2]) t3, t4⟩
theorem mg_Td {G : Nat → Int32} {M : nt_M} {J0 J : Nat → Nat → Int32} {f : Nat → Int32} {t x B Tb Sg Ln Op q m : Nat} {wr dd : Int32} {e : Nat × (Nat → Int32)} {S : List Int32} {y : Int32} (hP : md_P M J0 f t x B Tb Sg Ln) (hO : md_O M B Tb Sg Ln Op) (hT : mg_T G J0 B Sg Ln Op x q wr m e dd S J) : mg_T G J0 B Sg Ln Op x q wr m e y S (nt_u J B 20 y) := by
  obtain ⟨⟨a1, a2, a3, a4, a5, a6, a7, a8⟩, ⟨fB, fA⟩, t1, t2, t3, t4⟩ := hT
  have n1 := hP.2.1.2.2.2.1
  have n2 := hP.2.1.2.2.2.2.1
  have n3 := hP.2.1.2.2.2.2.2
  have o1 := hO.2.1.1
  have o2 := hO.2.1.2.2.1
  have o3 := hO.2.1.2.2.2
  exact ⟨⟨(me_uk (by decide)).trans a1, (me_uk (by decide)).trans a2, (me_uk (by decide)).trans a3, (me_uj (Ne.symm n2)).trans a4, fun j hj => (me_uj (Ne.symm n1)).trans (a5 j hj), fun _ _ _ _ _ => rfl, fun _ _ _ _ => rfl, a8⟩, ⟨fun i q1 q2 q3 q4 q5 q6 => (me_uk q5).trans (fB i q1 q2 q3 q4 q5 q6), fun a q1 q2 q3 q4 => (me_uo q1).trans (fA a q1 q2 q3 q4)⟩, me_us, (me_uk (by decide)).trans t2, lb_stk_eq S (fun j _ => me_uj o1) t3, t4⟩
theorem mg_Tn {G : Nat → Int32} {M : nt_M} {J0 J : Nat → Nat → Int32} {f : Nat → Int32} {t x B Tb Sg Ln Op q m : Nat} {wr dd : Int32} {e : Nat × (Nat → Int32)} {S : List Int32} {S' : List Int32} (hP : md_P M J0 f t x B Tb Sg Ln) (hO : md_O M B Tb Sg Ln Op) (hT : mg_T G J0 B Sg Ln Op x q wr m e dd S J) (hl : S'.length ≤ 400) (hs : lb_stk (J Op) S') : mg_T G J0 B Sg Ln Op x q wr m e dd S' (nt_u J B 23 (nI S'.length)) := by
  obtain ⟨⟨a1, a2, a3, a4, a5, a6, a7, a8⟩, ⟨fB, fA⟩, t1, t2, t3, t4⟩ := hT
  have n1 := hP.2.1.2.2.2.1
  have n2 := hP.2.1.2.2.2.2.1
  have n3 := hP.2.1.2.2.2.2.2
  have o1 := hO.2.1.1
  have o2 := hO.2.1.2.2.1
  have o3 := hO.2.1.2.2.2
  exact ⟨⟨(me_uk (by decide)).trans a1, (me_uk (by decide)).trans a2, (me_uk (by decide)).trans a3, (me_uj (Ne.symm n2)).trans a4, fun j hj => (me_uj (Ne.symm n1)).trans (a5 j hj), fun _ _ _ _ _ => rfl, fun _ _ _ _ => rfl, a8⟩, ⟨fun i q1 q2 q3 q4 q5 q6 => (me_uk q6).trans (fB i q1 q2 q3 q4 q5 q6), fun a q1 q2 q3 q4 => (me_uo q1).trans (fA a q1 q2 q3 q4)⟩, (me_uk (by decide)).trans t1, me_us, lb_stk_eq S' (fun j _ => me_uj o1) hs, hl⟩
theorem mg_Tpop {G : Nat → Int32} {M : nt_M} {J0 J : Nat → Nat → Int32} {f : Nat → Int32} {t x B Tb Sg Ln Op q m : Nat} {wr dd : Int32} {e : Nat × (Nat → Int32)} {S : List Int32} {s : Int32} (hP : md_P M J0 f t x B Tb Sg Ln) (hO : md_O M B Tb Sg Ln Op) (hT : mg_T G J0 B Sg Ln Op x q wr m e dd (s :: S) J) : mg_T G J0 B Sg Ln Op x q wr m e dd S (nt_u J B 23 (nI S.length)) := mg_Tn hP hO hT (by have := hT.2.2.2.2.2; have : S.length + 1 ≤ 400 := this; omega) hT.2.2.2.2.1.2
theorem mg_Tpush {G : Nat → Int32} {M : nt_M} {J0 J : Nat → Nat → Int32} {f : Nat → Int32} {t x B Tb Sg Ln Op q m : Nat} {wr dd : Int32} {e : Nat × (Nat → Int32)} {S : List Int32} {y : Int32} (hP : md_P M J0 f t x B Tb Sg Ln) (hO : md_O M B Tb Sg Ln Op) (hT : mg_T G J0 B Sg Ln Op x q wr m e dd S J) (hl : S.length < 400) : mg_T G J0 B Sg Ln Op x q wr m e dd (y :: S) (nt_u (nt_u J Op S.length y) B 23 (nI (S.length + 1))) := by
  have hT2 : mg_T G J0 B Sg Ln Op x q wr m e dd S (nt_u J Op S.length y) := by
    obtain ⟨⟨a1, a2, a3, a4, a5, a6, a7, a8⟩, ⟨fB, fA⟩, t1, t2, t3, t4⟩ := hT
    have n1 := hP.2.1.2.2.2.1
    have n2 := hP.2.1.2.2.2.2.1
    have n3 := hP.2.1.2.2.2.2.2
    have o1 := hO.2.1.1
    have o2 := hO.2.1.2.2.1
    have o3 := hO.2.1.2.2.2
    exact ⟨⟨(me_uj (Ne.symm o1)).trans a1, (me_uj (Ne.symm o1)).trans a2, (me_uj (Ne.symm o1)).trans a3, (me_uj (Ne.symm o3)).trans a4, fun j hj => (me_uj (Ne.symm o2)).trans (a5 j hj), fun _ _ _ _ _ => rfl, fun _ _ _ _ => rfl, a8⟩, ⟨fun i q1 q2 q3 q4 q5 q6 => (me_uj (Ne.symm o1)).trans (fB i q1 q2 q3 q4 q5 q6), fun a q1 q2 q3 q4 => (me_uo q4).trans (fA a q1 q2 q3 q4)⟩, (me_uj (Ne.symm o1)).trans t1, (me_uj (Ne.symm o1)).trans t2, lb_stk_eq S (fun j hj => me_uk (by omega)) t3, t4⟩
  exact mg_Tn (S' := y :: S) hP hO hT2 (by show S.length + 1 ≤ 400; omega) ⟨me_us, hT2.2.2.2.2.1⟩
theorem mg_opens {G : Nat → Int32} {X : nt_X} {d t x B Tb Sg Ln Op q m : Nat} {f : Nat → Int32} {M : nt_M} {J0 J : Nat → Nat → Int32} {o : Option Value × nt_M} {dd : Int32} {e : Nat × (Nat → Int32)} {S : List Int32} {y : Int32} (hP : md_P M J0 f t x B Tb Sg Ln) (hO : md_O M B Tb Sg Ln Op) (hT : mg_T G J0 B Sg Ln Op x q 0 m e dd S J) (hp : q ≤ t) (k : nt_ev X d 160 [.ref B, .int (y)] (me_w M J) o) : (dd = Int32.ofInt 10 ∧ ∃ J', o = (some (.int (Int32.ofInt 0)), me_w M J') ∧ mg_T G J0 B Sg Ln Op x q (lb_c q (Int32.ofInt 2)) m e dd S J') ∨ (¬ dd = Int32.ofInt 10 ∧ ∃ J', o = (some (.int (Int32.ofInt 1)), me_w M J') ∧ mg_T G J0 B Sg Ln Op x q 0 m e (dd + Int32.ofInt 1) (y :: S) J') := by
  have k : nt_rn X d 160 (0, [(0, .ref B), (1, .int (y))], [], me_w M J) o := k
  have t4 : t ≤ 400 := hP.2.2.2.2.2.1
  have s4 : S.length ≤ 400 := hT.2.2.2.2.2
  have k := ly_revb 1 (c' := (1, [(0, .ref B), (1, .int (y))], [.ref B], me_w M J)) rfl k
  have k := lz_get (a := B) (g := 1120) (M := me_w M J) (v := .int (dd)) rfl (congrArg Value.int (hT.2.2.1)) k
  have k := ly_revb 2 (c' := (if dd = (Int32.ofInt 10) then 9 else 19, [(0, .ref B), (1, .int (y))], [], me_w M J)) rfl k
  by_cases h6 : dd = Int32.ofInt 10
  · rw [if_pos (show dd = (Int32.ofInt 10) from h6)] at k
    have k := ly_revb 3 (c' := (12, [(0, .ref B), (1, .int (y))], [.ref B, .int (Int32.ofInt 2), .ref B], me_w M J)) rfl k
    have k := lz_get (a := B) (g := 1115) (M := me_w M J) (v := .int (nI q)) rfl (congrArg Value.int (hT.1.1)) k
    obtain ⟨d1, o1, ed, kc, k⟩ := lz_c (g := 139) (q := 1) (vs := [.ref B, .int (Int32.ofInt 2), .int (nI q)]) (rest := []) rfl rfl (by decide) (Or.inr (Or.inl ⟨_, rfl, rfl⟩)) rfl k
    obtain ⟨hf, e1⟩ := (mg_fails (a := q) (mg_TP hP hO hT) hT.1 hp kc).resolve_right (fun c => c.1 rfl)
    subst e1
    have hS9 := mg_Tup hP hO hT (mg_Sw (y := lb_c q (Int32.ofInt 2)) (mg_TP hP hO hT) hT.1)
    have k : nt_rn X _ 160 (18, [(0, .ref B), (1, .int (y))], [.int (Int32.ofInt 0)], me_w M (nt_u J B 16 (lb_c q (Int32.ofInt 2)))) _ := k
    have k := lz_ri rfl (by decide) k
    exact Or.inl ⟨h6, _, k, hS9⟩
  · rw [if_neg (show ¬ (dd = (Int32.ofInt 10)) from h6)] at k
    have k := ly_revb 2 (c' := (21, [(0, .ref B), (1, .int (y))], [.ref B, .ref B], me_w M J)) rfl k
    have k := lz_get (a := B) (g := 1120) (M := me_w M J) (v := .int (dd)) rfl (congrArg Value.int (hT.2.2.1)) k
    have k := ly_revb 2 (c' := (26, [(0, .ref B), (1, .int (y))], [.int (dd + (Int32.ofInt 1)), .ref B], me_w M J)) rfl k
    have k := me_put rfl (by decide) k
    have k : nt_rn X _ 160 (29, [(0, .ref B), (1, .int (y))], [], me_w M (nt_u J B 20 (dd + (Int32.ofInt 1)))) _ := k
    have hT2 := mg_Td (y := dd + Int32.ofInt 1) hP hO hT
    have k := ly_revb 1 (c' := (30, [(0, .ref B), (1, .int (y))], [.ref B], me_w M (nt_u J B 20 (dd + (Int32.ofInt 1))))) rfl k
    have k := lz_get (a := B) (g := 1122) (M := me_w M (nt_u J B 20 (dd + (Int32.ofInt 1)))) (v := .ref Op) rfl (nt_gfR rfl hO.1) k
    have k := ly_revb 1 (c' := (34, [(0, .ref B), (1, .int (y))], [.ref B, .ref Op], me_w M (nt_u J B 20 (dd + (Int32.ofInt 1))))) rfl k
    have k := lz_get (a := B) (g := 1123) (M := me_w M (nt_u J B 20 (dd + (Int32.ofInt 1)))) (v := .int (nI S.length)) rfl (congrArg Value.int (hT2.2.2.2.1)) k
    have k := ly_revb 1 (c' := (38, [(0, .ref B), (1, .int (y))], [.int (y), .int (nI S.length), .ref Op], me_w M (nt_u J B 20 (dd + (Int32.ofInt 1))))) rfl k
    have hb : S.length < nt_l M Op := me_iastb (q := S.length) rfl rfl (by omega) k
    rw [hO.2.2.1] at hb
    have k := me_iast (q := S.length) rfl (rfl) (by omega) k
    have k := ly_revb 2 (c' := (41, [(0, .ref B), (1, .int (y))], [.ref B, .ref B], me_w M (nt_u (nt_u J B 20 (dd + (Int32.ofInt 1))) Op S.length (y)))) rfl k
    have k := lz_get (a := B) (g := 1123) (M := me_w M (nt_u (nt_u J B 20 (dd + (Int32.ofInt 1))) Op S.length (y))) (v := .int (nI S.length)) rfl (congrArg Value.int ((me_uj (Ne.symm (hO.2.1.1))).trans (hT2.2.2.2.1))) k
    have k := ly_revb 2 (c' := (46, [(0, .ref B), (1, .int (y))], [.int ((nI S.length) + (Int32.ofInt 1)), .ref B], me_w M (nt_u (nt_u J B 20 (dd + (Int32.ofInt 1))) Op S.length (y)))) rfl k
    rw [show ((nI S.length) + (Int32.ofInt 1) : Int32) = nI (S.length + 1) from me_add (k := 1)] at k
    have k := me_put rfl (by decide) k
    have k : nt_rn X _ 160 (49, [(0, .ref B), (1, .int (y))], [], me_w M (nt_u (nt_u (nt_u J B 20 (dd + (Int32.ofInt 1))) Op S.length (y)) B 23 (nI (S.length + 1)))) _ := k
    have k := ly_revb 1 (c' := (50, [(0, .ref B), (1, .int (y))], [.int (Int32.ofInt 1)], me_w M (nt_u (nt_u (nt_u J B 20 (dd + (Int32.ofInt 1))) Op S.length (y)) B 23 (nI (S.length + 1))))) rfl k
    have k := lz_ri rfl (by decide) k
    exact Or.inr ⟨h6, _, k, mg_Tpush hP hO hT2 hb⟩
theorem mg_settles {G : Nat → Int32} {X : nt_X} {d t x B Tb Sg Ln Op q m l : Nat} {f : Nat → Int32} {M : nt_M} {J0 : Nat → Nat → Int32} {o : Option Value × nt_M} {wr : Int32} (hP : md_P M J0 f t x B Tb Sg Ln) (hO : md_O M B Tb Sg Ln Op) (hl : l ≤ 3) (hp : q ≤ t) : ∀ (S : List Int32) (dd : Int32) (e : lb_E) (J : Nat → Nat → Int32), mg_T G J0 B Sg Ln Op x q wr m e.2 dd S J → nt_ev X d 163 [.ref B, .int (nI l)] (me_w M J) o → ∃ J', o = (none, me_w M J') ∧ mg_T G J0 B Sg Ln Op x q wr m (lb_st l S dd e).2.2.2 (lb_st l S dd e).1 (lb_st l S dd e).2.1 J' := by
  intro S
  induction S with
  | nil =>
    intro dd e J hT k
    have k : nt_rn X d 163 (0, [(0, .ref B), (1, .int (nI l))], [], me_w M J) o := k
    have t4 : t ≤ 400 := hP.2.2.2.2.2.1
    have k := ly_revb 1 (c' := (1, [(0, .ref B), (1, .int (nI l))], [.ref B], me_w M J)) rfl k
    have k := lz_get (a := B) (g := 1123) (M := me_w M J) (v := .int (nI 0)) rfl (congrArg Value.int (hT.2.2.2.1)) k
    have k := ly_revb 1 (c' := (if (nI 0) ≤ 0 then 76 else 7, [(0, .ref B), (1, .int (nI l))], [], me_w M J)) rfl k
    rw [if_pos (show (nI 0) ≤ 0 from by decide)] at k
    have k := lz_rv rfl rfl k
    exact ⟨J, k, hT⟩
  | cons s S ih =>
    intro dd e J hT k
    have s4 : S.length + 1 ≤ 400 := hT.2.2.2.2.2
    have sr := lb_sg_le (s := s)
    have k : nt_rn X d 163 (0, [(0, .ref B), (1, .int (nI l))], [], me_w M J) o := k
    have t4 : t ≤ 400 := hP.2.2.2.2.2.1
    have k := ly_revb 1 (c' := (1, [(0, .ref B), (1, .int (nI l))], [.ref B], me_w M J)) rfl k
    have k := lz_get (a := B) (g := 1123) (M := me_w M J) (v := .int (nI (S.length + 1))) rfl (congrArg Value.int (hT.2.2.2.1)) k
    have k := ly_revb 1 (c' := (if (nI (S.length + 1)) ≤ 0 then 76 else 7, [(0, .ref B), (1, .int (nI l))], [], me_w M J)) rfl k
    rw [if_neg (show ¬ ((nI (S.length + 1)) ≤ 0) from nI_nle (by omega) (by omega))] at k
    have k := ly_revb 1 (c' := (8, [(0, .ref B), (1, .int (nI l))], [.ref B], me_w M J)) rfl k
    have k := lz_get (a := B) (g := 1122) (M := me_w M J) (v := .ref Op) rfl (nt_gfR rfl hO.1) k
    have k := ly_revb 1 (c' := (12, [(0, .ref B), (1, .int (nI l))], [.ref B, .ref Op], me_w M J)) rfl k
    have k := lz_get (a := B) (g := 1123) (M := me_w M J) (v := .int (nI (S.length + 1))) rfl (congrArg Value.int (hT.2.2.2.1)) k
    have k := ly_revb 2 (c' := (17, [(0, .ref B), (1, .int (nI l))], [.int ((nI (S.length + 1)) - (Int32.ofInt 1)), .ref Op], me_w M J)) rfl k
    rw [show ((nI (S.length + 1)) - (Int32.ofInt 1) : Int32) = nI S.length from (me_subn (b := 1) (by omega)).trans (congrArg nI (by omega))] at k
    have k := me_iald (q := S.length) (v := s) rfl (hO.2.2.2) (rfl) (by omega) (hT.2.2.2.2.1.1) k
    obtain ⟨d1, o1, ed, kc, k⟩ := lz_c (g := 164) (q := 0) (vs := [.int (s)]) (rest := []) rfl rfl (by decide) (Or.inl ⟨_, rfl, rfl⟩) rfl k
    have e1 := md_strength kc
    subst e1
    have k : nt_rn X _ 163 (21, [(0, .ref B), (1, .int (nI l))], [.int (nI (lb_sg s))], me_w M J) _ := k
    have k := ly_revb 2 (c' := (if (nI (lb_sg s)) < (nI l) then 76 else 25, [(0, .ref B), (1, .int (nI l))], [], me_w M J)) rfl k
    by_cases h22 : lb_sg s < l
    · rw [if_pos (show (nI (lb_sg s)) < (nI l) from nI_lt h22 (by omega))] at k
      have k := lz_rv rfl rfl k
      rw [lb_st_no h22]
      exact ⟨J, k, hT⟩
    · rw [if_neg (show ¬ ((nI (lb_sg s)) < (nI l)) from nI_nlt (Nat.not_lt.mp h22) (by omega))] at k
      have k := ly_revb 2 (c' := (27, [(0, .ref B), (1, .int (nI l))], [.ref B, .ref B], me_w M J)) rfl k
      have k := lz_get (a := B) (g := 1123) (M := me_w M J) (v := .int (nI (S.length + 1))) rfl (congrArg Value.int (hT.2.2.2.1)) k
      have k := ly_revb 2 (c' := (32, [(0, .ref B), (1, .int (nI l))], [.int ((nI (S.length + 1)) - (Int32.ofInt 1)), .ref B], me_w M J)) rfl k
      rw [show ((nI (S.length + 1)) - (Int32.ofInt 1) : Int32) = nI S.length from (me_subn (b := 1) (by omega)).trans (congrArg nI (by omega))] at k
      have k := me_put rfl (by decide) k
      have k : nt_rn X _ 163 (35, [(0, .ref B), (1, .int (nI l))], [], me_w M (nt_u J B 23 (nI S.length))) _ := k
      have hT2 : mg_T G J0 B Sg Ln Op x q wr m e.2 dd S (nt_u J B 23 (nI S.length)) := mg_Tpop hP hO hT
      have k := ly_revb 2 (c' := (37, [(0, .ref B), (1, .int (nI l))], [.ref B, .ref B], me_w M (nt_u J B 23 (nI S.length)))) rfl k
      have k := lz_get (a := B) (g := 1122) (M := me_w M (nt_u J B 23 (nI S.length))) (v := .ref Op) rfl (nt_gfR rfl hO.1) k
      have k := ly_revb 1 (c' := (41, [(0, .ref B), (1, .int (nI l))], [.ref B, .ref Op, .ref B], me_w M (nt_u J B 23 (nI S.length)))) rfl k
      have k := lz_get (a := B) (g := 1123) (M := me_w M (nt_u J B 23 (nI S.length))) (v := .int (nI S.length)) rfl (congrArg Value.int (hT2.2.2.2.1)) k
      have k := me_iald (q := S.length) (v := s) rfl (hO.2.2.2) (rfl) (by omega) ((me_uj hO.2.1.1).trans hT.2.2.2.2.1.1) k
      have k := ly_revb 1 (c' := (46, [(0, .ref B), (1, .int (nI l))], [.int (Int32.ofInt 0), .int (s), .ref B], me_w M (nt_u J B 23 (nI S.length)))) rfl k
      obtain ⟨d1, o1, ed, kc, k⟩ := lz_c (g := 155) (q := 1) (vs := [.ref B, .int (s), .int (Int32.ofInt 0)]) (rest := []) rfl rfl (by decide) (Or.inr (Or.inl ⟨_, rfl, rfl⟩)) rfl k
      obtain ⟨hb, e1⟩ := mg_puts (mg_TP hP hO hT2) hT2.1 hp kc
      rw [me_p0] at e1
      subst e1
      have hT3 := mg_Tup hP hO hT2 (mg_Se (y := s) (mg_TP hP hO hT2) hT2.1 hb)
      have k : nt_rn X _ 163 (49, [(0, .ref B), (1, .int (nI l))], [], me_w M (nt_u (nt_u (nt_u J B 23 (nI S.length)) Sg (400 * x + e.2.1) s) Ln x (nI (e.2.1 + 1)))) _ := k
      have k := ly_revb 1 (c' := (50, [(0, .ref B), (1, .int (nI l))], [.ref B], me_w M (nt_u (nt_u (nt_u J B 23 (nI S.length)) Sg (400 * x + e.2.1) s) Ln x (nI (e.2.1 + 1))))) rfl k
      have k := lz_get (a := B) (g := 1122) (M := me_w M (nt_u (nt_u (nt_u J B 23 (nI S.length)) Sg (400 * x + e.2.1) s) Ln x (nI (e.2.1 + 1)))) (v := .ref Op) rfl (nt_gfR rfl hO.1) k
      have k := ly_revb 1 (c' := (54, [(0, .ref B), (1, .int (nI l))], [.ref B, .ref Op], me_w M (nt_u (nt_u (nt_u J B 23 (nI S.length)) Sg (400 * x + e.2.1) s) Ln x (nI (e.2.1 + 1))))) rfl k
      have k := lz_get (a := B) (g := 1123) (M := me_w M (nt_u (nt_u (nt_u J B 23 (nI S.length)) Sg (400 * x + e.2.1) s) Ln x (nI (e.2.1 + 1)))) (v := .int (nI S.length)) rfl (congrArg Value.int (hT3.2.2.2.1)) k
      have k := me_iald (q := S.length) (v := s) rfl (hO.2.2.2) (rfl) (by omega) ((me_uj hO.2.1.2.2.2).trans ((me_uj hO.2.1.2.2.1).trans ((me_uj hO.2.1.1).trans hT.2.2.2.2.1.1))) k
      have k := ly_revb 2 (c' := (if s = (Int32.ofInt 11) then 63 else 0, [(0, .ref B), (1, .int (nI l))], [], me_w M (nt_u (nt_u (nt_u J B 23 (nI S.length)) Sg (400 * x + e.2.1) s) Ln x (nI (e.2.1 + 1))))) rfl k
      by_cases h60 : s = Int32.ofInt 11
      · rw [if_pos (show s = (Int32.ofInt 11) from h60)] at k
        have k := ly_revb 2 (c' := (65, [(0, .ref B), (1, .int (nI l))], [.ref B, .ref B], me_w M (nt_u (nt_u (nt_u J B 23 (nI S.length)) Sg (400 * x + e.2.1) s) Ln x (nI (e.2.1 + 1))))) rfl k
        have k := lz_get (a := B) (g := 1120) (M := me_w M (nt_u (nt_u (nt_u J B 23 (nI S.length)) Sg (400 * x + e.2.1) s) Ln x (nI (e.2.1 + 1)))) (v := .int (dd)) rfl (congrArg Value.int (hT3.2.2.1)) k
        have k := ly_revb 2 (c' := (70, [(0, .ref B), (1, .int (nI l))], [.int (dd - (Int32.ofInt 1)), .ref B], me_w M (nt_u (nt_u (nt_u J B 23 (nI S.length)) Sg (400 * x + e.2.1) s) Ln x (nI (e.2.1 + 1))))) rfl k
        have k := me_put rfl (by decide) k
        have k : nt_rn X _ 163 (73, [(0, .ref B), (1, .int (nI l))], [], me_w M (nt_u (nt_u (nt_u (nt_u J B 23 (nI S.length)) Sg (400 * x + e.2.1) s) Ln x (nI (e.2.1 + 1))) B 20 (dd - (Int32.ofInt 1)))) _ := k
        have k := ly_revb 1 (c' := (0, [(0, .ref B), (1, .int (nI l))], [], me_w M (nt_u (nt_u (nt_u (nt_u J B 23 (nI S.length)) Sg (400 * x + e.2.1) s) Ln x (nI (e.2.1 + 1))) B 20 (dd - (Int32.ofInt 1))))) rfl k
        have hT4 := mg_Td (y := dd - Int32.ofInt 1) hP hO hT3
        obtain ⟨J', e1, h⟩ := ih _ (lb_em e (lb_tw s) s) _ hT4 k
        have es : lb_st l (s :: S) dd e = lb_st l S (dd - Int32.ofInt 1) (lb_em e (lb_tw s) s) := by
          show (if l ≤ lb_sg s then lb_st l S (if s = Int32.ofInt 11 then dd - Int32.ofInt 1 else dd) (lb_em e (lb_tw s) s) else (dd, s :: S, e)) = _
          rw [if_pos (Nat.not_lt.mp h22), if_pos h60]
        rw [es]
        exact ⟨J', e1, h⟩
      · rw [if_neg (show ¬ (s = (Int32.ofInt 11)) from h60)] at k
        obtain ⟨J', e1, h⟩ := ih _ (lb_em e (lb_tw s) s) _ hT3 k
        have es : lb_st l (s :: S) dd e = lb_st l S dd (lb_em e (lb_tw s) s) := by
          show (if l ≤ lb_sg s then lb_st l S (if s = Int32.ofInt 11 then dd - Int32.ofInt 1 else dd) (lb_em e (lb_tw s) s) else (dd, s :: S, e)) = _
          rw [if_pos (Nat.not_lt.mp h22), if_neg h60]
        rw [es]
        exact ⟨J', e1, h⟩
theorem mg_insl {G : Nat → Int32} {X : nt_X} {d t x B Tb Sg Ln Op q m : Nat} {f : Nat → Int32} {M : nt_M} {J0 J : Nat → Nat → Int32} {o : Option Value × nt_M} {wr dd : Int32} {e : Nat × (Nat → Int32)} {S : List Int32} (hP : md_P M J0 f t x B Tb Sg Ln) (hO : md_O M B Tb Sg Ln Op) (hT : mg_T G J0 B Sg Ln Op x q wr m e dd S J) : ∀ (c i : Nat), i + c = S.length → (∀ j, j < i → ¬ J Op j = Int32.ofInt 91) → nt_rn X d 165 (2, [(1, .int (nI i)), (0, .ref B)], [], me_w M J) o → ∃ r, o = (some (.int r), me_w M J) ∧ (r = Int32.ofInt 1 ∧ Int32.ofInt 91 ∈ S ∨ r = Int32.ofInt 0 ∧ ¬ Int32.ofInt 91 ∈ S) := by
  have s4 : S.length ≤ 400 := hT.2.2.2.2.2
  have hmem := lb_stk_mem (c := Int32.ofInt 91) S hT.2.2.2.2.1
  intro c
  induction c with
  | zero =>
    intro i hc hj k
    have k := ly_revb 2 (c' := (4, [(1, .int (nI i)), (0, .ref B)], [.ref B, .int (nI i)], me_w M J)) rfl k
    have k := lz_get (a := B) (g := 1123) (M := me_w M J) (v := .int (nI S.length)) rfl (congrArg Value.int (hT.2.2.2.1)) k
    have k := ly_revb 1 (c' := (if (nI S.length) ≤ (nI i) then 29 else 10, [(1, .int (nI i)), (0, .ref B)], [], me_w M J)) rfl k
    rw [if_pos (show (nI S.length) ≤ (nI i) from nI_le (by omega) (by omega))] at k
    have k := ly_revb 1 (c' := (30, [(1, .int (nI i)), (0, .ref B)], [.int (Int32.ofInt 0)], me_w M J)) rfl k
    have k := lz_ri rfl (by decide) k
    refine ⟨_, k, Or.inr ⟨rfl, fun h => ?_⟩⟩
    obtain ⟨j, a, b⟩ := hmem.mp h
    exact hj j (by omega) b
  | succ c ih =>
    intro i hc hj k
    have k := ly_revb 2 (c' := (4, [(1, .int (nI i)), (0, .ref B)], [.ref B, .int (nI i)], me_w M J)) rfl k
    have k := lz_get (a := B) (g := 1123) (M := me_w M J) (v := .int (nI S.length)) rfl (congrArg Value.int (hT.2.2.2.1)) k
    have k := ly_revb 1 (c' := (if (nI S.length) ≤ (nI i) then 29 else 10, [(1, .int (nI i)), (0, .ref B)], [], me_w M J)) rfl k
    rw [if_neg (show ¬ ((nI S.length) ≤ (nI i)) from nI_ge (by omega) (by omega))] at k
    have k := ly_revb 1 (c' := (11, [(1, .int (nI i)), (0, .ref B)], [.ref B], me_w M J)) rfl k
    have k := lz_get (a := B) (g := 1122) (M := me_w M J) (v := .ref Op) rfl (nt_gfR rfl hO.1) k
    have k := ly_revb 1 (c' := (15, [(1, .int (nI i)), (0, .ref B)], [.int (nI i), .ref Op], me_w M J)) rfl k
    have k := me_iald (q := i) (v := J Op i) rfl (hO.2.2.2) (rfl) (by omega) (rfl) k
    have k := ly_revb 2 (c' := (if (J Op i) = (Int32.ofInt 91) then 21 else 23, [(1, .int (nI i)), (0, .ref B)], [], me_w M J)) rfl k
    by_cases h18 : J Op i = Int32.ofInt 91
    · rw [if_pos (show (J Op i) = (Int32.ofInt 91) from h18)] at k
      have k := ly_revb 1 (c' := (22, [(1, .int (nI i)), (0, .ref B)], [.int (Int32.ofInt 1)], me_w M J)) rfl k
      have k := lz_ri rfl (by decide) k
      exact ⟨_, k, Or.inl ⟨rfl, hmem.mpr ⟨i, by omega, h18⟩⟩⟩
    · rw [if_neg (show ¬ ((J Op i) = (Int32.ofInt 91)) from h18)] at k
      have k := ly_revb 1 (c' := (26, [(1, .int ((nI i) + Int32.ofInt 1)), (0, .ref B)], [], me_w M J)) rfl k
      rw [show ((nI i) + Int32.ofInt 1 : Int32) = nI (i + 1) from me_add (k := 1)] at k
      have k := ly_revb 1 (c' := (2, [(1, .int (nI (i + 1))), (0, .ref B)], [], me_w M J)) rfl k
      refine ih (i + 1) (by omega) (fun j hj2 => ?_) k
      by_cases c2 : j = i
      · rw [c2]; exact h18
      · exact hj j (by omega)
theorem mg_inside {G : Nat → Int32} {X : nt_X} {d t x B Tb Sg Ln Op q m : Nat} {f : Nat → Int32} {M : nt_M} {J0 J : Nat → Nat → Int32} {o : Option Value × nt_M} {wr dd : Int32} {e : Nat × (Nat → Int32)} {S : List Int32} (hP : md_P M J0 f t x B Tb Sg Ln) (hO : md_O M B Tb Sg Ln Op) (hT : mg_T G J0 B Sg Ln Op x q wr m e dd S J) (k : nt_ev X d 165 [.ref B] (me_w M J) o) : ∃ r, o = (some (.int r), me_w M J) ∧ (r = Int32.ofInt 1 ∧ Int32.ofInt 91 ∈ S ∨ r = Int32.ofInt 0 ∧ ¬ Int32.ofInt 91 ∈ S) := by
  have k : nt_rn X d 165 (0, [(0, .ref B)], [], me_w M J) o := k
  have t4 : t ≤ 400 := hP.2.2.2.2.2.1
  have k := ly_revb 2 (c' := (2, [(1, .int (Int32.ofInt 0)), (0, .ref B)], [], me_w M J)) rfl k
  exact mg_insl hP hO hT S.length 0 (by omega) (fun j h => absurd h (Nat.not_lt_zero _)) k
def mg_F (G : Nat → Int32) (J0 : Nat → Nat → Int32) (B Sg Ln Op x t : Nat) (f : Nat → Int32) (z : lb_Z) (dd : Int32) (S : List Int32) (a : Int32) (J : Nat → Nat → Int32) : Prop :=
  (a = Int32.ofInt 0 ∧ ∃ c q' m' e' dd' S', c ≠ 0 ∧ mg_T G J0 B Sg Ln Op x q' c m' e' dd' S' J ∧ q' ≤ t ∧ ∃ k, lb_ma f t k 0 dd S z (.inl c)) ∨
  (a = Int32.ofInt 1 ∧ ∃ (z1 : lb_Z) (q1 : Nat) (dd1 : Int32) (S1 : List Int32), lb_s f t q1 = z1.1 ∧ q1 ≤ t ∧ z.1 < z1.1 ∧ mg_T G J0 B Sg Ln Op x q1 0 z1.2.1 z1.2.2.2 dd1 S1 J ∧ ∀ r, (∃ k, lb_ma f t k 1 dd1 S1 z1 r) → ∃ k, lb_ma f t k 0 dd S z r)
theorem mg_Fs {G : Nat → Int32} {J0 J : Nat → Nat → Int32} {B Sg Ln Op x t : Nat} {f : Nat → Int32} {z z' : lb_Z} {dd dd' a : Int32} {S S' : List Int32} (hz : z.1 ≤ z'.1) (hs : ∀ r, (∃ k, lb_ma f t k 0 dd' S' z' r) → ∃ k, lb_ma f t k 0 dd S z r) (h : mg_F G J0 B Sg Ln Op x t f z' dd' S' a J) : mg_F G J0 B Sg Ln Op x t f z dd S a J := by
  rcases h with ⟨h, c, q1, m1, e1, d1, S1, h1, h2, h3, h4⟩ | ⟨h, z1, q1, d1, S1, h1, h2, h3, h4, h5⟩
  · exact Or.inl ⟨h, c, q1, m1, e1, d1, S1, h1, h2, h3, hs _ h4⟩
  · exact Or.inr ⟨h, z1, q1, d1, S1, h1, h2, by omega, h4, fun r hr => hs _ (h5 r hr)⟩
def mg_QT (G : Nat → Int32) (J0 : Nat → Nat → Int32) (B Sg Ln Op x t : Nat) (f : Nat → Int32) (r : lb_Y) (a : Int32) (J : Nat → Nat → Int32) : Prop := match r with
  | .inl c => c ≠ 0 ∧ a = Int32.ofInt 0 ∧ ∃ q m e dd S, mg_T G J0 B Sg Ln Op x q c m e dd S J ∧ q ≤ t
  | .inr z => a = Int32.ofInt 1 ∧ ∃ q dd S, lb_s f t q = z.1 ∧ q ≤ t ∧ mg_T G J0 B Sg Ln Op x q 0 z.2.1 z.2.2.2 dd S J
theorem mg_T0 {G : Nat → Int32} {M : nt_M} {J0 J : Nat → Nat → Int32} {f : Nat → Int32} {t x B Tb Sg Ln Op q m : Nat} {wr : Int32} {e : Nat × (Nat → Int32)} (hP : md_P M J0 f t x B Tb Sg Ln) (hO : md_O M B Tb Sg Ln Op) (hS : mg_S G J0 B Sg Ln x q wr m e J) : mg_T G J0 B Sg Ln Op x q wr m e (Int32.ofInt 0) [] (nt_u (nt_u J B 23 (Int32.ofInt 0)) B 20 (Int32.ofInt 0)) := by
  obtain ⟨a1, a2, a3, a4, a5, a6, a7, a8⟩ := hS
  have n1 := hP.2.1.2.2.2.1
  have n2 := hP.2.1.2.2.2.2.1
  exact ⟨⟨(me_uk (by decide)).trans ((me_uk (by decide)).trans a1), (me_uk (by decide)).trans ((me_uk (by decide)).trans a2), (me_uk (by decide)).trans ((me_uk (by decide)).trans a3), (me_uj (Ne.symm n2)).trans ((me_uj (Ne.symm n2)).trans a4), fun j hj => (me_uj (Ne.symm n1)).trans ((me_uj (Ne.symm n1)).trans (a5 j hj)), fun _ _ _ _ _ => rfl, fun _ _ _ _ => rfl, a8⟩, ⟨fun i q1 q2 q3 q4 q5 q6 => (me_uk q5).trans ((me_uk q6).trans (a6 i q1 q2 q3 q4)), fun a q1 q2 q3 _ => (me_uo q1).trans ((me_uo q1).trans (a7 a q1 q2 q3))⟩, me_us, (me_uk (by decide)).trans me_us, trivial, Nat.zero_le _⟩
theorem mg_factl {G : Nat → Int32} {X : nt_X} {d t x B Tb Sg Ln Op m : Nat} {f : Nat → Int32} {M : nt_M} {J0 : Nat → Nat → Int32} {o : Option Value × nt_M} {s0 e : Nat × (Nat → Int32)} (hP : md_P M J0 f t x B Tb Sg Ln) (hO : md_O M B Tb Sg Ln Op) (hB : lb_by f t) : ∀ (c q : Nat) (dd : Int32) (S : List Int32) (J : Nat → Nat → Int32) (c9 : Int32), t - lb_s f t q < c → mg_T G J0 B Sg Ln Op x q 0 m e dd S J → q ≤ t → nt_rn X d 159 (2, [(1, .int (Int32.ofInt 1)), (2, .int c9), (0, .ref B)], [], me_w M J) o → ∃ a J', o = (some (.int a), me_w M J') ∧ mg_F G J0 B Sg Ln Op x t f (lb_s f t q, m, (s0, e)) dd S a J' := by
  have t4 : t ≤ 400 := hP.2.2.2.2.2.1
  intro cc
  induction cc with
  | zero => intro q dd S J c9 hc; omega
  | succ cc ih =>
    intro q dd S J c9 hcc hT hp k
    have hss : lb_s f t (lb_s f t q) = lb_s f t q := lb_ss hp
    have k := ly_revb 2 (c' := (if (Int32.ofInt 1) = 0 then 75 else 6, [(1, .int (Int32.ofInt 1)), (2, .int (c9)), (0, .ref B)], [], me_w M J)) rfl k
    rw [if_neg (show ¬ ((Int32.ofInt 1) = 0) from by decide)] at k
    have k := ly_revb 3 (c' := (9, [(1, .int (Int32.ofInt 0)), (2, .int (c9)), (0, .ref B)], [.ref B], me_w M J)) rfl k
    obtain ⟨d1, o1, ed, kc, k⟩ := lz_c (g := 136) (q := 1) (vs := [.ref B]) (rest := []) rfl rfl (by decide) (Or.inr (Or.inl ⟨_, rfl, rfl⟩)) rfl k
    have e1 := mg_see (mg_TP hP hO hT) hT.1 hp kc
    subst e1
    have hT1 := mg_Tup hP hO hT (mg_Sq (y := lb_s f t q) (mg_TP hP hO hT) hT.1)
    have k : nt_rn X _ 159 (12, [(1, .int (Int32.ofInt 0)), (2, .int (c9)), (0, .ref B)], [.int (lb_g f t (lb_s f t q))], me_w M (nt_u J B 15 (nI (lb_s f t q)))) _ := k
    have hp1 : lb_s f t q ≤ t := (lb_s_le (t - q) q (by omega)).2
    have k := ly_revb 3 (c' := (17, [(2, .int (lb_g f t (lb_s f t q))), (1, .int (Int32.ofInt 0)), (0, .ref B)], [.long (7237492), .ref B], me_w M (nt_u J B 15 (nI (lb_s f t q))))) rfl k
    obtain ⟨d1, o1, ed, kc, k⟩ := lz_c (g := 137) (q := 1) (vs := [.ref B, .long (7237492)]) (rest := []) rfl rfl (by decide) (Or.inr (Or.inl ⟨_, rfl, rfl⟩)) rfl k
    obtain ⟨r, e1, hr⟩ := mg_isWord (mg_TP hP hO hT1) hT1.1 hp1 kc
    rw [hss, me_uu] at e1
    rw [hss] at hr
    subst e1
    rw [lb_w_not] at hr
    rcases hr with ⟨rfl, g15⟩ | ⟨rfl, g15⟩
    · have k : nt_rn X _ 159 (20, [(2, .int (lb_g f t (lb_s f t q))), (1, .int (Int32.ofInt 0)), (0, .ref B)], [.int (Int32.ofInt 1)], me_w M (nt_u J B 15 (nI (lb_s f t q)))) _ := k
      have k := ly_revb 1 (c' := (if (Int32.ofInt 1) = 0 then 43 else 23, [(2, .int (lb_g f t (lb_s f t q))), (1, .int (Int32.ofInt 0)), (0, .ref B)], [], me_w M (nt_u J B 15 (nI (lb_s f t q))))) rfl k
      rw [if_neg (show ¬ ((Int32.ofInt 1) = 0) from by decide)] at k
      have k := ly_revb 2 (c' := (26, [(2, .int (lb_g f t (lb_s f t q))), (1, .int (Int32.ofInt 0)), (0, .ref B)], [.int (Int32.ofInt 11), .ref B], me_w M (nt_u J B 15 (nI (lb_s f t q))))) rfl k
      obtain ⟨d1, o1, ed, kc, k⟩ := lz_c (g := 160) (q := 1) (vs := [.ref B, .int (Int32.ofInt 11)]) (rest := []) rfl rfl (by decide) (Or.inr (Or.inl ⟨_, rfl, rfl⟩)) rfl k
      rcases mg_opens hP hO hT1 hp1 kc with ⟨h10, J2, e1, hT2⟩ | ⟨h10, J2, e1, hT2⟩
      · subst e1
        have k : nt_rn X _ 159 (29, [(2, .int (lb_g f t (lb_s f t q))), (1, .int (Int32.ofInt 0)), (0, .ref B)], [.int (Int32.ofInt 0)], me_w M J2) _ := k
        have k := ly_revb 1 (c' := (if (Int32.ofInt 0) = 0 then 32 else 34, [(2, .int (lb_g f t (lb_s f t q))), (1, .int (Int32.ofInt 0)), (0, .ref B)], [], me_w M J2)) rfl k
        rw [if_pos (show (Int32.ofInt 0) = 0 from by decide)] at k
        have k := ly_revb 1 (c' := (33, [(2, .int (lb_g f t (lb_s f t q))), (1, .int (Int32.ofInt 0)), (0, .ref B)], [.int (Int32.ofInt 0)], me_w M J2)) rfl k
        have k := lz_ri rfl (by decide) k
        exact ⟨_, _, k, Or.inl ⟨rfl, _, _, _, _, _, _, (lb_c_ne (by omega) (by decide) (by decide)), hT2, hp1, 1, Or.inl ⟨g15, h10, rfl⟩⟩⟩
      · subst e1
        have k : nt_rn X _ 159 (29, [(2, .int (lb_g f t (lb_s f t q))), (1, .int (Int32.ofInt 0)), (0, .ref B)], [.int (Int32.ofInt 1)], me_w M J2) _ := k
        have k := ly_revb 1 (c' := (if (Int32.ofInt 1) = 0 then 32 else 34, [(2, .int (lb_g f t (lb_s f t q))), (1, .int (Int32.ofInt 0)), (0, .ref B)], [], me_w M J2)) rfl k
        rw [if_neg (show ¬ ((Int32.ofInt 1) = 0) from by decide)] at k
        have k := ly_revb 1 (c' := (35, [(2, .int (lb_g f t (lb_s f t q))), (1, .int (Int32.ofInt 0)), (0, .ref B)], [.ref B], me_w M J2)) rfl k
        obtain ⟨d1, o1, ed, kc, k⟩ := lz_c (g := 142) (q := 1) (vs := [.ref B]) (rest := []) rfl rfl (by decide) (Or.inr (Or.inl ⟨_, rfl, rfl⟩)) rfl k
        have e1 := mg_pass (mg_TP hP hO hT2) hT2.1 hp1 kc
        rw [lb_at_l g15] at e1
        subst e1
        have hT3 := mg_Tup hP hO hT2 (mg_Sq (y := lb_s f t q + (lb_W (nt_sp + 1 + 15)).length) (mg_TP hP hO hT2) hT2.1)
        have hp3 : lb_s f t q + (lb_W (nt_sp + 1 + 15)).length ≤ t := g15.1
        have k : nt_rn X _ 159 (38, [(2, .int (lb_g f t (lb_s f t q))), (1, .int (Int32.ofInt 0)), (0, .ref B)], [], me_w M (nt_u J2 B 15 (nI (lb_s f t q + (lb_W (nt_sp + 1 + 15)).length)))) _ := k
        have k := ly_revb 4 (c' := (2, [(1, .int (Int32.ofInt 1)), (2, .int (lb_g f t (lb_s f t q))), (0, .ref B)], [], me_w M (nt_u J2 B 15 (nI (lb_s f t q + (lb_W (nt_sp + 1 + 15)).length))))) rfl k
        have wl := lb_Wp 15 (by decide)
        have hsl := lb_s_le (f := f) (t := t) (t - (lb_s f t q + (lb_W (nt_sp + 1 + 15)).length)) (lb_s f t q + (lb_W (nt_sp + 1 + 15)).length) (by omega)
        obtain ⟨a, J', e9, hF⟩ := ih _ _ _ _ _ (by omega) hT3 hp3 k
        exact ⟨a, J', e9, mg_Fs (show lb_s f t q ≤ lb_s f t (lb_s f t q + (lb_W (nt_sp + 1 + 15)).length) by omega) (fun r ⟨k1, hk⟩ => ⟨k1 + 1, Or.inr (Or.inl ⟨g15, h10, hk⟩)⟩) hF⟩
    · have k : nt_rn X _ 159 (20, [(2, .int (lb_g f t (lb_s f t q))), (1, .int (Int32.ofInt 0)), (0, .ref B)], [.int (Int32.ofInt 0)], me_w M (nt_u J B 15 (nI (lb_s f t q)))) _ := k
      have k := ly_revb 1 (c' := (if (Int32.ofInt 0) = 0 then 43 else 23, [(2, .int (lb_g f t (lb_s f t q))), (1, .int (Int32.ofInt 0)), (0, .ref B)], [], me_w M (nt_u J B 15 (nI (lb_s f t q))))) rfl k
      rw [if_pos (show (Int32.ofInt 0) = 0 from by decide)] at k
      have k := ly_revb 3 (c' := (if (lb_g f t (lb_s f t q)) = (Int32.ofInt 91) then 49 else 72, [(2, .int (lb_g f t (lb_s f t q))), (1, .int (Int32.ofInt 0)), (0, .ref B)], [], me_w M (nt_u J B 15 (nI (lb_s f t q))))) rfl k
      by_cases h46 : lb_g f t (lb_s f t q) = Int32.ofInt 91
      · rw [if_pos (show (lb_g f t (lb_s f t q)) = (Int32.ofInt 91) from h46)] at k
        have k := ly_revb 2 (c' := (52, [(2, .int (lb_g f t (lb_s f t q))), (1, .int (Int32.ofInt 0)), (0, .ref B)], [.int (Int32.ofInt 91), .ref B], me_w M (nt_u J B 15 (nI (lb_s f t q))))) rfl k
        obtain ⟨d1, o1, ed, kc, k⟩ := lz_c (g := 160) (q := 1) (vs := [.ref B, .int (Int32.ofInt 91)]) (rest := []) rfl rfl (by decide) (Or.inr (Or.inl ⟨_, rfl, rfl⟩)) rfl k
        rcases mg_opens hP hO hT1 hp1 kc with ⟨h10, J2, e1, hT2⟩ | ⟨h10, J2, e1, hT2⟩
        · subst e1
          have k : nt_rn X _ 159 (55, [(2, .int (lb_g f t (lb_s f t q))), (1, .int (Int32.ofInt 0)), (0, .ref B)], [.int (Int32.ofInt 0)], me_w M J2) _ := k
          have k := ly_revb 1 (c' := (if (Int32.ofInt 0) = 0 then 58 else 60, [(2, .int (lb_g f t (lb_s f t q))), (1, .int (Int32.ofInt 0)), (0, .ref B)], [], me_w M J2)) rfl k
          rw [if_pos (show (Int32.ofInt 0) = 0 from by decide)] at k
          have k := ly_revb 1 (c' := (59, [(2, .int (lb_g f t (lb_s f t q))), (1, .int (Int32.ofInt 0)), (0, .ref B)], [.int (Int32.ofInt 0)], me_w M J2)) rfl k
          have k := lz_ri rfl (by decide) k
          exact ⟨_, _, k, Or.inl ⟨rfl, _, _, _, _, _, _, (lb_c_ne (by omega) (by decide) (by decide)), hT2, hp1, 1, Or.inr (Or.inr (Or.inl ⟨g15, h46, h10, rfl⟩))⟩⟩
        · subst e1
          have k : nt_rn X _ 159 (55, [(2, .int (lb_g f t (lb_s f t q))), (1, .int (Int32.ofInt 0)), (0, .ref B)], [.int (Int32.ofInt 1)], me_w M J2) _ := k
          have k := ly_revb 1 (c' := (if (Int32.ofInt 1) = 0 then 58 else 60, [(2, .int (lb_g f t (lb_s f t q))), (1, .int (Int32.ofInt 0)), (0, .ref B)], [], me_w M J2)) rfl k
          rw [if_neg (show ¬ ((Int32.ofInt 1) = 0) from by decide)] at k
          have k := ly_revb 2 (c' := (62, [(2, .int (lb_g f t (lb_s f t q))), (1, .int (Int32.ofInt 0)), (0, .ref B)], [.ref B, .ref B], me_w M J2)) rfl k
          have k := lz_get (a := B) (g := 1115) (M := me_w M J2) (v := .int (nI (lb_s f t q))) rfl (congrArg Value.int (hT2.1.1)) k
          have k := ly_revb 2 (c' := (67, [(2, .int (lb_g f t (lb_s f t q))), (1, .int (Int32.ofInt 0)), (0, .ref B)], [.int ((nI (lb_s f t q)) + (Int32.ofInt 1)), .ref B], me_w M J2)) rfl k
          rw [show ((nI (lb_s f t q)) + (Int32.ofInt 1) : Int32) = nI ((lb_s f t q) + 1) from me_add (k := 1)] at k
          have k := me_put rfl (by decide) k
          have k : nt_rn X _ 159 (70, [(2, .int (lb_g f t (lb_s f t q))), (1, .int (Int32.ofInt 0)), (0, .ref B)], [], me_w M (nt_u J2 B 15 (nI ((lb_s f t q) + 1)))) _ := k
          have hlt : lb_s f t q < t := lb_g_lt (by rw [h46]; decide)
          have hT3 := mg_Tup hP hO hT2 (mg_Sq (y := lb_s f t q + 1) (mg_TP hP hO hT2) hT2.1)
          have hp3 : lb_s f t q + 1 ≤ t := hlt
          have k := ly_revb 3 (c' := (2, [(1, .int (Int32.ofInt 1)), (2, .int (lb_g f t (lb_s f t q))), (0, .ref B)], [], me_w M (nt_u J2 B 15 (nI ((lb_s f t q) + 1))))) rfl k
          have hsl := lb_s_le (f := f) (t := t) (t - (lb_s f t q + 1)) (lb_s f t q + 1) (by omega)
          obtain ⟨a, J', e9, hF⟩ := ih _ _ _ _ _ (by omega) hT3 hp3 k
          exact ⟨a, J', e9, mg_Fs (show lb_s f t q ≤ lb_s f t (lb_s f t q + 1) by omega) (fun r ⟨k1, hk⟩ => ⟨k1 + 1, Or.inr (Or.inr (Or.inr (Or.inl ⟨g15, h46, h10, hk⟩)))⟩) hF⟩
      · rw [if_neg (show ¬ ((lb_g f t (lb_s f t q)) = (Int32.ofInt 91)) from h46)] at k
        have k := ly_revb 1 (c' := (2, [(2, .int (lb_g f t (lb_s f t q))), (1, .int (Int32.ofInt 0)), (0, .ref B)], [], me_w M (nt_u J B 15 (nI (lb_s f t q))))) rfl k
        have k := ly_revb 2 (c' := (if (Int32.ofInt 0) = 0 then 75 else 6, [(2, .int (lb_g f t (lb_s f t q))), (1, .int (Int32.ofInt 0)), (0, .ref B)], [], me_w M (nt_u J B 15 (nI (lb_s f t q))))) rfl k
        rw [if_pos (show (Int32.ofInt 0) = 0 from by decide)] at k
        have k := ly_revb 1 (c' := (76, [(2, .int (lb_g f t (lb_s f t q))), (1, .int (Int32.ofInt 0)), (0, .ref B)], [.ref B], me_w M (nt_u J B 15 (nI (lb_s f t q))))) rfl k
        obtain ⟨d1, o1, ed, kc, k⟩ := lz_c (g := 161) (q := 1) (vs := [.ref B]) (rest := []) rfl rfl (by decide) (Or.inr (Or.inl ⟨_, rfl, rfl⟩)) rfl k
        obtain ⟨r1, a1, J4, e1, hfa, hQ⟩ := mg_cmp (s0 := s0) (mg_TP hP hO hT1) hB hT1.1 hp1 kc
        rw [hss] at hfa
        subst e1
        rcases r1 with c | z1
        · obtain ⟨hc, rfl, q4, m4, e4, hS4, hq4⟩ := hQ
          have k : nt_rn X _ 159 (79, [(2, .int (lb_g f t (lb_s f t q))), (1, .int (Int32.ofInt 0)), (0, .ref B)], [.int (Int32.ofInt 0)], me_w M J4) _ := k
          have k := lz_ri rfl (by decide) k
          exact ⟨_, _, k, Or.inl ⟨rfl, c, _, _, _, _, _, hc, mg_Tup hP hO hT1 hS4, hq4, 1, Or.inr (Or.inr (Or.inr (Or.inr ⟨g15, h46, _, hfa, Or.inl ⟨c, rfl, rfl⟩⟩)))⟩⟩
        · obtain ⟨rfl, q4, hz4, hq4, hS4⟩ := hQ
          have k : nt_rn X _ 159 (79, [(2, .int (lb_g f t (lb_s f t q))), (1, .int (Int32.ofInt 0)), (0, .ref B)], [.int (Int32.ofInt 1)], me_w M J4) _ := k
          have k := lz_ri rfl (by decide) k
          exact ⟨_, _, k, Or.inr ⟨rfl, z1, q4, _, _, hz4, hq4, (lb_fa_up hp1 hfa).1, mg_Tup hP hO hT1 hS4, fun r ⟨k1, hk⟩ => ⟨k1 + 1, Or.inr (Or.inr (Or.inr (Or.inr ⟨g15, h46, _, hfa, Or.inr ⟨z1, rfl, hk⟩⟩)))⟩⟩⟩
theorem mg_fact {G : Nat → Int32} {X : nt_X} {d t x B Tb Sg Ln Op q m : Nat} {f : Nat → Int32} {M : nt_M} {J0 J : Nat → Nat → Int32} {o : Option Value × nt_M} {dd : Int32} {e : Nat × (Nat → Int32)} {S : List Int32} {s0 : Nat × (Nat → Int32)} (hP : md_P M J0 f t x B Tb Sg Ln) (hO : md_O M B Tb Sg Ln Op) (hB : lb_by f t) (hT : mg_T G J0 B Sg Ln Op x q 0 m e dd S J) (hp : q ≤ t) (k : nt_ev X d 159 [.ref B] (me_w M J) o) : ∃ a J', o = (some (.int a), me_w M J') ∧ mg_F G J0 B Sg Ln Op x t f (lb_s f t q, m, (s0, e)) dd S a J' := by
  have k : nt_rn X d 159 (0, [(0, .ref B)], [], me_w M J) o := k
  have t4 : t ≤ 400 := hP.2.2.2.2.2.1
  have hss : lb_s f t (lb_s f t q) = lb_s f t q := lb_ss hp
  have k := ly_revb 2 (c' := (2, [(1, .int (Int32.ofInt 1)), (0, .ref B)], [], me_w M J)) rfl k
  have k := ly_revb 2 (c' := (if (Int32.ofInt 1) = 0 then 75 else 6, [(1, .int (Int32.ofInt 1)), (0, .ref B)], [], me_w M J)) rfl k
  rw [if_neg (show ¬ ((Int32.ofInt 1) = 0) from by decide)] at k
  have k := ly_revb 3 (c' := (9, [(1, .int (Int32.ofInt 0)), (0, .ref B)], [.ref B], me_w M J)) rfl k
  obtain ⟨d1, o1, ed, kc, k⟩ := lz_c (g := 136) (q := 1) (vs := [.ref B]) (rest := []) rfl rfl (by decide) (Or.inr (Or.inl ⟨_, rfl, rfl⟩)) rfl k
  have e1 := mg_see (mg_TP hP hO hT) hT.1 hp kc
  subst e1
  have hT1 := mg_Tup hP hO hT (mg_Sq (y := lb_s f t q) (mg_TP hP hO hT) hT.1)
  have k : nt_rn X _ 159 (12, [(1, .int (Int32.ofInt 0)), (0, .ref B)], [.int (lb_g f t (lb_s f t q))], me_w M (nt_u J B 15 (nI (lb_s f t q)))) _ := k
  have hp1 : lb_s f t q ≤ t := (lb_s_le (t - q) q (by omega)).2
  have k := ly_revb 3 (c' := (17, [(2, .int (lb_g f t (lb_s f t q))), (1, .int (Int32.ofInt 0)), (0, .ref B)], [.long (7237492), .ref B], me_w M (nt_u J B 15 (nI (lb_s f t q))))) rfl k
  obtain ⟨d1, o1, ed, kc, k⟩ := lz_c (g := 137) (q := 1) (vs := [.ref B, .long (7237492)]) (rest := []) rfl rfl (by decide) (Or.inr (Or.inl ⟨_, rfl, rfl⟩)) rfl k
  obtain ⟨r, e1, hr⟩ := mg_isWord (mg_TP hP hO hT1) hT1.1 hp1 kc
  rw [hss, me_uu] at e1
  rw [hss] at hr
  subst e1
  rw [lb_w_not] at hr
  rcases hr with ⟨rfl, g15⟩ | ⟨rfl, g15⟩
  · have k : nt_rn X _ 159 (20, [(2, .int (lb_g f t (lb_s f t q))), (1, .int (Int32.ofInt 0)), (0, .ref B)], [.int (Int32.ofInt 1)], me_w M (nt_u J B 15 (nI (lb_s f t q)))) _ := k
    have k := ly_revb 1 (c' := (if (Int32.ofInt 1) = 0 then 43 else 23, [(2, .int (lb_g f t (lb_s f t q))), (1, .int (Int32.ofInt 0)), (0, .ref B)], [], me_w M (nt_u J B 15 (nI (lb_s f t q))))) rfl k
    rw [if_neg (show ¬ ((Int32.ofInt 1) = 0) from by decide)] at k
    have k := ly_revb 2 (c' := (26, [(2, .int (lb_g f t (lb_s f t q))), (1, .int (Int32.ofInt 0)), (0, .ref B)], [.int (Int32.ofInt 11), .ref B], me_w M (nt_u J B 15 (nI (lb_s f t q))))) rfl k
    obtain ⟨d1, o1, ed, kc, k⟩ := lz_c (g := 160) (q := 1) (vs := [.ref B, .int (Int32.ofInt 11)]) (rest := []) rfl rfl (by decide) (Or.inr (Or.inl ⟨_, rfl, rfl⟩)) rfl k
    rcases mg_opens hP hO hT1 hp1 kc with ⟨h10, J2, e1, hT2⟩ | ⟨h10, J2, e1, hT2⟩
    · subst e1
      have k : nt_rn X _ 159 (29, [(2, .int (lb_g f t (lb_s f t q))), (1, .int (Int32.ofInt 0)), (0, .ref B)], [.int (Int32.ofInt 0)], me_w M J2) _ := k
      have k := ly_revb 1 (c' := (if (Int32.ofInt 0) = 0 then 32 else 34, [(2, .int (lb_g f t (lb_s f t q))), (1, .int (Int32.ofInt 0)), (0, .ref B)], [], me_w M J2)) rfl k
      rw [if_pos (show (Int32.ofInt 0) = 0 from by decide)] at k
      have k := ly_revb 1 (c' := (33, [(2, .int (lb_g f t (lb_s f t q))), (1, .int (Int32.ofInt 0)), (0, .ref B)], [.int (Int32.ofInt 0)], me_w M J2)) rfl k
      have k := lz_ri rfl (by decide) k
      exact ⟨_, _, k, Or.inl ⟨rfl, _, _, _, _, _, _, (lb_c_ne (by omega) (by decide) (by decide)), hT2, hp1, 1, Or.inl ⟨g15, h10, rfl⟩⟩⟩
    · subst e1
      have k : nt_rn X _ 159 (29, [(2, .int (lb_g f t (lb_s f t q))), (1, .int (Int32.ofInt 0)), (0, .ref B)], [.int (Int32.ofInt 1)], me_w M J2) _ := k
      have k := ly_revb 1 (c' := (if (Int32.ofInt 1) = 0 then 32 else 34, [(2, .int (lb_g f t (lb_s f t q))), (1, .int (Int32.ofInt 0)), (0, .ref B)], [], me_w M J2)) rfl k
      rw [if_neg (show ¬ ((Int32.ofInt 1) = 0) from by decide)] at k
      have k := ly_revb 1 (c' := (35, [(2, .int (lb_g f t (lb_s f t q))), (1, .int (Int32.ofInt 0)), (0, .ref B)], [.ref B], me_w M J2)) rfl k
      obtain ⟨d1, o1, ed, kc, k⟩ := lz_c (g := 142) (q := 1) (vs := [.ref B]) (rest := []) rfl rfl (by decide) (Or.inr (Or.inl ⟨_, rfl, rfl⟩)) rfl k
      have e1 := mg_pass (mg_TP hP hO hT2) hT2.1 hp1 kc
      rw [lb_at_l g15] at e1
      subst e1
      have hT3 := mg_Tup hP hO hT2 (mg_Sq (y := lb_s f t q + (lb_W (nt_sp + 1 + 15)).length) (mg_TP hP hO hT2) hT2.1)
      have hp3 : lb_s f t q + (lb_W (nt_sp + 1 + 15)).length ≤ t := g15.1
      have k : nt_rn X _ 159 (38, [(2, .int (lb_g f t (lb_s f t q))), (1, .int (Int32.ofInt 0)), (0, .ref B)], [], me_w M (nt_u J2 B 15 (nI (lb_s f t q + (lb_W (nt_sp + 1 + 15)).length)))) _ := k
      have k := ly_revb 4 (c' := (2, [(1, .int (Int32.ofInt 1)), (2, .int (lb_g f t (lb_s f t q))), (0, .ref B)], [], me_w M (nt_u J2 B 15 (nI (lb_s f t q + (lb_W (nt_sp + 1 + 15)).length))))) rfl k
      have wl := lb_Wp 15 (by decide)
      have hsl := lb_s_le (f := f) (t := t) (t - (lb_s f t q + (lb_W (nt_sp + 1 + 15)).length)) (lb_s f t q + (lb_W (nt_sp + 1 + 15)).length) (by omega)
      obtain ⟨a, J', e9, hF⟩ := mg_factl (m := m) (e := e) (s0 := s0) hP hO hB (t - (lb_s f t q) + 1) _ _ _ _ _ (by omega) hT3 hp3 k
      exact ⟨a, J', e9, mg_Fs (show lb_s f t q ≤ lb_s f t (lb_s f t q + (lb_W (nt_sp + 1 + 15)).length) by omega) (fun r ⟨k1, hk⟩ => ⟨k1 + 1, Or.inr (Or.inl ⟨g15, h10, hk⟩)⟩) hF⟩
  · have k : nt_rn X _ 159 (20, [(2, .int (lb_g f t (lb_s f t q))), (1, .int (Int32.ofInt 0)), (0, .ref B)], [.int (Int32.ofInt 0)], me_w M (nt_u J B 15 (nI (lb_s f t q)))) _ := k
    have k := ly_revb 1 (c' := (if (Int32.ofInt 0) = 0 then 43 else 23, [(2, .int (lb_g f t (lb_s f t q))), (1, .int (Int32.ofInt 0)), (0, .ref B)], [], me_w M (nt_u J B 15 (nI (lb_s f t q))))) rfl k
    rw [if_pos (show (Int32.ofInt 0) = 0 from by decide)] at k
    have k := ly_revb 3 (c' := (if (lb_g f t (lb_s f t q)) = (Int32.ofInt 91) then 49 else 72, [(2, .int (lb_g f t (lb_s f t q))), (1, .int (Int32.ofInt 0)), (0, .ref B)], [], me_w M (nt_u J B 15 (nI (lb_s f t q))))) rfl k
    by_cases h46 : lb_g f t (lb_s f t q) = Int32.ofInt 91
    · rw [if_pos (show (lb_g f t (lb_s f t q)) = (Int32.ofInt 91) from h46)] at k
      have k := ly_revb 2 (c' := (52, [(2, .int (lb_g f t (lb_s f t q))), (1, .int (Int32.ofInt 0)), (0, .ref B)], [.int (Int32.ofInt 91), .ref B], me_w M (nt_u J B 15 (nI (lb_s f t q))))) rfl k
      obtain ⟨d1, o1, ed, kc, k⟩ := lz_c (g := 160) (q := 1) (vs := [.ref B, .int (Int32.ofInt 91)]) (rest := []) rfl rfl (by decide) (Or.inr (Or.inl ⟨_, rfl, rfl⟩)) rfl k
      rcases mg_opens hP hO hT1 hp1 kc with ⟨h10, J2, e1, hT2⟩ | ⟨h10, J2, e1, hT2⟩
      · subst e1
        have k : nt_rn X _ 159 (55, [(2, .int (lb_g f t (lb_s f t q))), (1, .int (Int32.ofInt 0)), (0, .ref B)], [.int (Int32.ofInt 0)], me_w M J2) _ := k
        have k := ly_revb 1 (c' := (if (Int32.ofInt 0) = 0 then 58 else 60, [(2, .int (lb_g f t (lb_s f t q))), (1, .int (Int32.ofInt 0)), (0, .ref B)], [], me_w M J2)) rfl k
        rw [if_pos (show (Int32.ofInt 0) = 0 from by decide)] at k
        have k := ly_revb 1 (c' := (59, [(2, .int (lb_g f t (lb_s f t q))), (1, .int (Int32.ofInt 0)), (0, .ref B)], [.int (Int32.ofInt 0)], me_w M J2)) rfl k
        have k := lz_ri rfl (by decide) k
        exact ⟨_, _, k, Or.inl ⟨rfl, _, _, _, _, _, _, (lb_c_ne (by omega) (by decide) (by decide)), hT2, hp1, 1, Or.inr (Or.inr (Or.inl ⟨g15, h46, h10, rfl⟩))⟩⟩
      · subst e1
        have k : nt_rn X _ 159 (55, [(2, .int (lb_g f t (lb_s f t q))), (1, .int (Int32.ofInt 0)), (0, .ref B)], [.int (Int32.ofInt 1)], me_w M J2) _ := k
        have k := ly_revb 1 (c' := (if (Int32.ofInt 1) = 0 then 58 else 60, [(2, .int (lb_g f t (lb_s f t q))), (1, .int (Int32.ofInt 0)), (0, .ref B)], [], me_w M J2)) rfl k
        rw [if_neg (show ¬ ((Int32.ofInt 1) = 0) from by decide)] at k
        have k := ly_revb 2 (c' := (62, [(2, .int (lb_g f t (lb_s f t q))), (1, .int (Int32.ofInt 0)), (0, .ref B)], [.ref B, .ref B], me_w M J2)) rfl k
        have k := lz_get (a := B) (g := 1115) (M := me_w M J2) (v := .int (nI (lb_s f t q))) rfl (congrArg Value.int (hT2.1.1)) k
        have k := ly_revb 2 (c' := (67, [(2, .int (lb_g f t (lb_s f t q))), (1, .int (Int32.ofInt 0)), (0, .ref B)], [.int ((nI (lb_s f t q)) + (Int32.ofInt 1)), .ref B], me_w M J2)) rfl k
        rw [show ((nI (lb_s f t q)) + (Int32.ofInt 1) : Int32) = nI ((lb_s f t q) + 1) from me_add (k := 1)] at k
        have k := me_put rfl (by decide) k
        have k : nt_rn X _ 159 (70, [(2, .int (lb_g f t (lb_s f t q))), (1, .int (Int32.ofInt 0)), (0, .ref B)], [], me_w M (nt_u J2 B 15 (nI ((lb_s f t q) + 1)))) _ := k
        have hlt : lb_s f t q < t := lb_g_lt (by rw [h46]; decide)
        have hT3 := mg_Tup hP hO hT2 (mg_Sq (y := lb_s f t q + 1) (mg_TP hP hO hT2) hT2.1)
        have hp3 : lb_s f t q + 1 ≤ t := hlt
        have k := ly_revb 3 (c' := (2, [(1, .int (Int32.ofInt 1)), (2, .int (lb_g f t (lb_s f t q))), (0, .ref B)], [], me_w M (nt_u J2 B 15 (nI ((lb_s f t q) + 1))))) rfl k
        have hsl := lb_s_le (f := f) (t := t) (t - (lb_s f t q + 1)) (lb_s f t q + 1) (by omega)
        obtain ⟨a, J', e9, hF⟩ := mg_factl (m := m) (e := e) (s0 := s0) hP hO hB (t - (lb_s f t q) + 1) _ _ _ _ _ (by omega) hT3 hp3 k
        exact ⟨a, J', e9, mg_Fs (show lb_s f t q ≤ lb_s f t (lb_s f t q + 1) by omega) (fun r ⟨k1, hk⟩ => ⟨k1 + 1, Or.inr (Or.inr (Or.inr (Or.inl ⟨g15, h46, h10, hk⟩)))⟩) hF⟩
    · rw [if_neg (show ¬ ((lb_g f t (lb_s f t q)) = (Int32.ofInt 91)) from h46)] at k
      have k := ly_revb 1 (c' := (2, [(2, .int (lb_g f t (lb_s f t q))), (1, .int (Int32.ofInt 0)), (0, .ref B)], [], me_w M (nt_u J B 15 (nI (lb_s f t q))))) rfl k
      have k := ly_revb 2 (c' := (if (Int32.ofInt 0) = 0 then 75 else 6, [(2, .int (lb_g f t (lb_s f t q))), (1, .int (Int32.ofInt 0)), (0, .ref B)], [], me_w M (nt_u J B 15 (nI (lb_s f t q))))) rfl k
      rw [if_pos (show (Int32.ofInt 0) = 0 from by decide)] at k
      have k := ly_revb 1 (c' := (76, [(2, .int (lb_g f t (lb_s f t q))), (1, .int (Int32.ofInt 0)), (0, .ref B)], [.ref B], me_w M (nt_u J B 15 (nI (lb_s f t q))))) rfl k
      obtain ⟨d1, o1, ed, kc, k⟩ := lz_c (g := 161) (q := 1) (vs := [.ref B]) (rest := []) rfl rfl (by decide) (Or.inr (Or.inl ⟨_, rfl, rfl⟩)) rfl k
      obtain ⟨r1, a1, J4, e1, hfa, hQ⟩ := mg_cmp (s0 := s0) (mg_TP hP hO hT1) hB hT1.1 hp1 kc
      rw [hss] at hfa
      subst e1
      rcases r1 with c | z1
      · obtain ⟨hc, rfl, q4, m4, e4, hS4, hq4⟩ := hQ
        have k : nt_rn X _ 159 (79, [(2, .int (lb_g f t (lb_s f t q))), (1, .int (Int32.ofInt 0)), (0, .ref B)], [.int (Int32.ofInt 0)], me_w M J4) _ := k
        have k := lz_ri rfl (by decide) k
        exact ⟨_, _, k, Or.inl ⟨rfl, c, _, _, _, _, _, hc, mg_Tup hP hO hT1 hS4, hq4, 1, Or.inr (Or.inr (Or.inr (Or.inr ⟨g15, h46, _, hfa, Or.inl ⟨c, rfl, rfl⟩⟩)))⟩⟩
      · obtain ⟨rfl, q4, hz4, hq4, hS4⟩ := hQ
        have k : nt_rn X _ 159 (79, [(2, .int (lb_g f t (lb_s f t q))), (1, .int (Int32.ofInt 0)), (0, .ref B)], [.int (Int32.ofInt 1)], me_w M J4) _ := k
        have k := lz_ri rfl (by decide) k
        exact ⟨_, _, k, Or.inr ⟨rfl, z1, q4, _, _, hz4, hq4, (lb_fa_up hp1 hfa).1, mg_Tup hP hO hT1 hS4, fun r ⟨k1, hk⟩ => ⟨k1 + 1, Or.inr (Or.inr (Or.inr (Or.inr ⟨g15, h46, _, hfa, Or.inr ⟨z1, rfl, hk⟩⟩)))⟩⟩⟩
theorem mg_clol {G : Nat → Int32} {X : nt_X} {d t x B Tb Sg Ln Op m : Nat} {f : Nat → Int32} {M : nt_M} {J0 : Nat → Nat → Int32} {o : Option Value × nt_M} (hP : md_P M J0 f t x B Tb Sg Ln) (hO : md_O M B Tb Sg Ln Op) : ∀ (c q : Nat) (e : lb_E) (dd : Int32) (S : List Int32) (J : Nat → Nat → Int32), t - lb_s f t q < c → mg_T G J0 B Sg Ln Op x q 0 m e.2 dd S J → q ≤ t → nt_rn X d 162 (5, [(0, .ref B)], [], me_w M J) o → ∃ (J' : Nat → Nat → Int32) (z1 : lb_Z) (q1 : Nat) (dd1 : Int32) (S1 : List Int32), o = (none, me_w M J') ∧ lb_s f t q1 = z1.1 ∧ q1 ≤ t ∧ lb_s f t q ≤ z1.1 ∧ mg_T G J0 B Sg Ln Op x q1 0 z1.2.1 z1.2.2.2 dd1 S1 J' ∧ ∀ r, (∃ k, lb_ma f t k 3 dd1 S1 z1 r) → ∃ k, lb_ma f t k 2 dd S (lb_s f t q, m, e) r := by
  have t4 : t ≤ 400 := hP.2.2.2.2.2.1
  intro cc
  induction cc with
  | zero => intro q e dd S J hc; omega
  | succ cc ih =>
    intro q e dd S J hcc hT hp k
    have hss : lb_s f t (lb_s f t q) = lb_s f t q := lb_ss hp
    have k := ly_revb 1 (c' := (6, [(0, .ref B)], [.ref B], me_w M J)) rfl k
    obtain ⟨d1, o1, ed, kc, k⟩ := lz_c (g := 136) (q := 1) (vs := [.ref B]) (rest := []) rfl rfl (by decide) (Or.inr (Or.inl ⟨_, rfl, rfl⟩)) rfl k
    have e1 := mg_see (mg_TP hP hO hT) hT.1 hp kc
    subst e1
    have hT1 := mg_Tup hP hO hT (mg_Sq (y := lb_s f t q) (mg_TP hP hO hT) hT.1)
    have k : nt_rn X _ 162 (9, [(0, .ref B)], [.int (lb_g f t (lb_s f t q))], me_w M (nt_u J B 15 (nI (lb_s f t q)))) _ := k
    have hp1 : lb_s f t q ≤ t := (lb_s_le (t - q) q (by omega)).2
    have k := ly_revb 2 (c' := (if (lb_g f t (lb_s f t q)) = (Int32.ofInt 93) then 14 else 64, [(0, .ref B)], [], me_w M (nt_u J B 15 (nI (lb_s f t q))))) rfl k
    by_cases h11 : lb_g f t (lb_s f t q) = Int32.ofInt 93
    · rw [if_pos (show (lb_g f t (lb_s f t q)) = (Int32.ofInt 93) from h11)] at k
      have k := ly_revb 1 (c' := (15, [(0, .ref B)], [.ref B], me_w M (nt_u J B 15 (nI (lb_s f t q))))) rfl k
      obtain ⟨d1, o1, ed, kc, k⟩ := lz_c (g := 165) (q := 1) (vs := [.ref B]) (rest := []) rfl rfl (by decide) (Or.inr (Or.inl ⟨_, rfl, rfl⟩)) rfl k
      obtain ⟨r, e1, hin⟩ := mg_inside hP hO hT1 kc
      subst e1
      rcases hin with ⟨rfl, hin⟩ | ⟨rfl, hin⟩
      · have k : nt_rn X _ 162 (18, [(0, .ref B)], [.int (Int32.ofInt 1)], me_w M (nt_u J B 15 (nI (lb_s f t q)))) _ := k
        have k := ly_revb 1 (c' := (if (Int32.ofInt 1) = 0 then 64 else 21, [(0, .ref B)], [], me_w M (nt_u J B 15 (nI (lb_s f t q))))) rfl k
        rw [if_neg (show ¬ ((Int32.ofInt 1) = 0) from by decide)] at k
        have k := ly_revb 2 (c' := (23, [(0, .ref B)], [.int (Int32.ofInt 1), .ref B], me_w M (nt_u J B 15 (nI (lb_s f t q))))) rfl k
        obtain ⟨d1, o1, ed, kc, k⟩ := lz_c (g := 163) (q := 1) (vs := [.ref B, .int (Int32.ofInt 1)]) (rest := []) rfl rfl (by decide) (Or.inr (Or.inl ⟨_, rfl, rfl⟩)) rfl k
        obtain ⟨J2, e1, hT2⟩ := mg_settles (l := 1) hP hO (by decide) hp1 S dd e _ hT1 kc
        subst e1
        obtain ⟨y, S2, hS2⟩ := lb_st_ne (l := 1) (by decide) S dd e hin
        rw [hS2] at hT2
        have s4 : S2.length + 1 ≤ 400 := hT2.2.2.2.2.2
        have k : nt_rn X _ 162 (26, [(0, .ref B)], [], me_w M J2) _ := k
        have k := ly_revb 2 (c' := (28, [(0, .ref B)], [.ref B, .ref B], me_w M J2)) rfl k
        have k := lz_get (a := B) (g := 1123) (M := me_w M J2) (v := .int (nI (S2.length + 1))) rfl (congrArg Value.int (hT2.2.2.2.1)) k
        have k := ly_revb 2 (c' := (33, [(0, .ref B)], [.int ((nI (S2.length + 1)) - (Int32.ofInt 1)), .ref B], me_w M J2)) rfl k
        rw [show ((nI (S2.length + 1)) - (Int32.ofInt 1) : Int32) = nI S2.length from (me_subn (b := 1) (by omega)).trans (congrArg nI (by omega))] at k
        have k := me_put rfl (by decide) k
        have k : nt_rn X _ 162 (36, [(0, .ref B)], [], me_w M (nt_u J2 B 23 (nI S2.length))) _ := k
        have hT3 := mg_Tpop hP hO hT2
        have k := ly_revb 2 (c' := (38, [(0, .ref B)], [.ref B, .ref B], me_w M (nt_u J2 B 23 (nI S2.length)))) rfl k
        have k := lz_get (a := B) (g := 1120) (M := me_w M (nt_u J2 B 23 (nI S2.length))) (v := .int ((lb_st 1 S dd e).1)) rfl (congrArg Value.int (hT3.2.2.1)) k
        have k := ly_revb 2 (c' := (43, [(0, .ref B)], [.int (((lb_st 1 S dd e).1) - (Int32.ofInt 1)), .ref B], me_w M (nt_u J2 B 23 (nI S2.length)))) rfl k
        have k := me_put rfl (by decide) k
        have k : nt_rn X _ 162 (46, [(0, .ref B)], [], me_w M (nt_u (nt_u J2 B 23 (nI S2.length)) B 20 (((lb_st 1 S dd e).1) - (Int32.ofInt 1)))) _ := k
        have hT4 := mg_Td (y := (lb_st 1 S dd e).1 - Int32.ofInt 1) hP hO hT3
        have k := ly_revb 2 (c' := (48, [(0, .ref B)], [.ref B, .ref B], me_w M (nt_u (nt_u J2 B 23 (nI S2.length)) B 20 (((lb_st 1 S dd e).1) - (Int32.ofInt 1))))) rfl k
        have k := lz_get (a := B) (g := 1115) (M := me_w M (nt_u (nt_u J2 B 23 (nI S2.length)) B 20 (((lb_st 1 S dd e).1) - (Int32.ofInt 1)))) (v := .int (nI (lb_s f t q))) rfl (congrArg Value.int (hT4.1.1)) k
        have k := ly_revb 2 (c' := (53, [(0, .ref B)], [.int ((nI (lb_s f t q)) + (Int32.ofInt 1)), .ref B], me_w M (nt_u (nt_u J2 B 23 (nI S2.length)) B 20 (((lb_st 1 S dd e).1) - (Int32.ofInt 1))))) rfl k
        rw [show ((nI (lb_s f t q)) + (Int32.ofInt 1) : Int32) = nI ((lb_s f t q) + 1) from me_add (k := 1)] at k
        have k := me_put rfl (by decide) k
        have k : nt_rn X _ 162 (56, [(0, .ref B)], [], me_w M (nt_u (nt_u (nt_u J2 B 23 (nI S2.length)) B 20 (((lb_st 1 S dd e).1) - (Int32.ofInt 1))) B 15 (nI ((lb_s f t q) + 1)))) _ := k
        have hlt : lb_s f t q < t := lb_g_lt (by rw [h11]; decide)
        have hp5 : lb_s f t q + 1 ≤ t := hlt
        have hT5 := mg_Tup hP hO hT4 (mg_Sq (y := lb_s f t q + 1) (mg_TP hP hO hT4) hT4.1)
        have k := ly_revb 2 (c' := (58, [(0, .ref B)], [.int (Int32.ofInt 3), .ref B], me_w M (nt_u (nt_u (nt_u J2 B 23 (nI S2.length)) B 20 (((lb_st 1 S dd e).1) - (Int32.ofInt 1))) B 15 (nI ((lb_s f t q) + 1))))) rfl k
        obtain ⟨d1, o1, ed, kc, k⟩ := lz_c (g := 163) (q := 1) (vs := [.ref B, .int (Int32.ofInt 3)]) (rest := []) rfl rfl (by decide) (Or.inr (Or.inl ⟨_, rfl, rfl⟩)) rfl k
        obtain ⟨J6, e1, hT6⟩ := mg_settles (l := 3) hP hO (by decide) hp5 S2 ((lb_st 1 S dd e).1 - Int32.ofInt 1) (lb_st 1 S dd e).2.2 _ hT5 kc
        subst e1
        have k : nt_rn X _ 162 (61, [(0, .ref B)], [], me_w M J6) _ := k
        have k := ly_revb 1 (c' := (5, [(0, .ref B)], [], me_w M J6)) rfl k
        have hsl := lb_s_le (f := f) (t := t) (t - (lb_s f t q + 1)) (lb_s f t q + 1) (by omega)
        obtain ⟨J', z1, q1, dd1, S1, e9, hz1, hq1, hle, hT9, hr⟩ := ih _ _ _ _ _ (by omega) hT6 hp5 k
        refine ⟨J', z1, q1, dd1, S1, e9, hz1, hq1, by omega, hT9, fun r hh => ?_⟩
        obtain ⟨k1, hk⟩ := hr r hh
        refine ⟨k1 + 2, Or.inl ⟨⟨h11, hin⟩, ?_⟩⟩
        dsimp only
        rw [hS2]
        exact hk
      · have k : nt_rn X _ 162 (18, [(0, .ref B)], [.int (Int32.ofInt 0)], me_w M (nt_u J B 15 (nI (lb_s f t q)))) _ := k
        have k := ly_revb 1 (c' := (if (Int32.ofInt 0) = 0 then 64 else 21, [(0, .ref B)], [], me_w M (nt_u J B 15 (nI (lb_s f t q))))) rfl k
        rw [if_pos (show (Int32.ofInt 0) = 0 from by decide)] at k
        have k := lz_rv rfl rfl k
        exact ⟨_, (lb_s f t q, m, e), lb_s f t q, dd, S, k, hss, hp1, Nat.le_refl _, hT1, fun r ⟨k1, hk⟩ => ⟨k1 + 1, Or.inr ⟨fun c => hin c.2, hk⟩⟩⟩
    · rw [if_neg (show ¬ ((lb_g f t (lb_s f t q)) = (Int32.ofInt 93)) from h11)] at k
      have k := lz_rv rfl rfl k
      exact ⟨_, (lb_s f t q, m, e), lb_s f t q, dd, S, k, hss, hp1, Nat.le_refl _, hT1, fun r ⟨k1, hk⟩ => ⟨k1 + 1, Or.inr ⟨fun c => h11 c.1, hk⟩⟩⟩
theorem mg_closes {G : Nat → Int32} {X : nt_X} {d t x B Tb Sg Ln Op q m : Nat} {f : Nat → Int32} {M : nt_M} {J0 J : Nat → Nat → Int32} {o : Option Value × nt_M} {dd : Int32} {e : lb_E} {S : List Int32} (hP : md_P M J0 f t x B Tb Sg Ln) (hO : md_O M B Tb Sg Ln Op) (hT : mg_T G J0 B Sg Ln Op x q 0 m e.2 dd S J) (hp : q ≤ t) (k : nt_ev X d 162 [.ref B] (me_w M J) o) : ∃ (J' : Nat → Nat → Int32) (z1 : lb_Z) (q1 : Nat) (dd1 : Int32) (S1 : List Int32), o = (none, me_w M J') ∧ lb_s f t q1 = z1.1 ∧ q1 ≤ t ∧ lb_s f t q ≤ z1.1 ∧ mg_T G J0 B Sg Ln Op x q1 0 z1.2.1 z1.2.2.2 dd1 S1 J' ∧ ∀ r, (∃ k, lb_ma f t k 3 dd1 S1 z1 r) → ∃ k, lb_ma f t k 1 dd S (lb_s f t q, m, e) r := by
  have k : nt_rn X d 162 (0, [(0, .ref B)], [], me_w M J) o := k
  have t4 : t ≤ 400 := hP.2.2.2.2.2.1
  have k := ly_revb 2 (c' := (2, [(0, .ref B)], [.int (Int32.ofInt 3), .ref B], me_w M J)) rfl k
  obtain ⟨d1, o1, ed, kc, k⟩ := lz_c (g := 163) (q := 1) (vs := [.ref B, .int (Int32.ofInt 3)]) (rest := []) rfl rfl (by decide) (Or.inr (Or.inl ⟨_, rfl, rfl⟩)) rfl k
  obtain ⟨J6, e1, hT6⟩ := mg_settles (l := 3) hP hO (by decide) hp S dd e _ hT kc
  subst e1
  have k : nt_rn X _ 162 (5, [(0, .ref B)], [], me_w M J6) _ := k
  obtain ⟨J', z1, q1, dd1, S1, e9, hz1, hq1, hle, hT9, hr⟩ := mg_clol hP hO (t - lb_s f t q + 1) _ _ _ _ _ (by omega) hT6 hp k
  refine ⟨J', z1, q1, dd1, S1, e9, hz1, hq1, hle, hT9, fun r hh => ?_⟩
  obtain ⟨k1, hk⟩ := hr r hh
  exact ⟨k1 + 1, hk⟩
theorem mg_tesl {G : Nat → Int32} {X : nt_X} {d t x B Tb Sg Ln Op : Nat} {f : Nat → Int32} {M : nt_M} {J0 : Nat → Nat → Int32} {o : Option Value × nt_M} (hP : md_P M J0 f t x B Tb Sg Ln) (hO : md_O M B Tb Sg Ln Op) (hB : lb_by f t) : ∀ (c q m : Nat) (e : lb_E) (dd : Int32) (S : List Int32) (J : Nat → Nat → Int32) (s9 : Int32), t - lb_s f t q < c → mg_T G J0 B Sg Ln Op x q 0 m e.2 dd S J → q ≤ t → nt_rn X d 158 (12, [(2, .int s9), (1, .int (Int32.ofInt 1)), (0, .ref B)], [], me_w M J) o → ∃ r a J', o = (some (.int a), me_w M J') ∧ (∃ k, lb_ma f t k 0 dd S (lb_s f t q, m, e) r) ∧ mg_QT G J0 B Sg Ln Op x t f r a J' := by
  have t4 : t ≤ 400 := hP.2.2.2.2.2.1
  intro cc
  induction cc with
  | zero => intro q m e dd S J s9 hc; omega
  | succ cc ih =>
    intro q m e dd S J s9 hcc hT hp k
    have k := ly_revb 2 (c' := (if (Int32.ofInt 1) = 0 then 112 else 16, [(2, .int (s9)), (1, .int (Int32.ofInt 1)), (0, .ref B)], [], me_w M J)) rfl k
    rw [if_neg (show ¬ ((Int32.ofInt 1) = 0) from by decide)] at k
    have k := ly_revb 1 (c' := (17, [(2, .int (s9)), (1, .int (Int32.ofInt 1)), (0, .ref B)], [.ref B], me_w M J)) rfl k
    obtain ⟨d1, o1, ed, kc, k⟩ := lz_c (g := 159) (q := 1) (vs := [.ref B]) (rest := []) rfl rfl (by decide) (Or.inr (Or.inl ⟨_, rfl, rfl⟩)) rfl k
    obtain ⟨a1, J1, e1, hF⟩ := mg_fact (s0 := e.1) hP hO hB hT hp kc
    subst e1
    rcases hF with ⟨rfl, c, q1, m1, e1, dd1, S1, hc, hT1, hq1, hk1⟩ | ⟨rfl, z1, q1, dd1, S1, hz1, hq1, hlt1, hT1, hr1⟩
    · have k : nt_rn X _ 158 (20, [(2, .int (s9)), (1, .int (Int32.ofInt 1)), (0, .ref B)], [.int (Int32.ofInt 0)], me_w M J1) _ := k
      have k := ly_revb 1 (c' := (if (Int32.ofInt 0) = 0 then 23 else 25, [(2, .int (s9)), (1, .int (Int32.ofInt 1)), (0, .ref B)], [], me_w M J1)) rfl k
      rw [if_pos (show (Int32.ofInt 0) = 0 from by decide)] at k
      have k := ly_revb 1 (c' := (24, [(2, .int (s9)), (1, .int (Int32.ofInt 1)), (0, .ref B)], [.int (Int32.ofInt 0)], me_w M J1)) rfl k
      have k := lz_ri rfl (by decide) k
      exact ⟨.inl c, _, _, k, hk1, hc, rfl, _, _, _, _, _, hT1, hq1⟩
    · have k : nt_rn X _ 158 (20, [(2, .int (s9)), (1, .int (Int32.ofInt 1)), (0, .ref B)], [.int (Int32.ofInt 1)], me_w M J1) _ := k
      have k := ly_revb 1 (c' := (if (Int32.ofInt 1) = 0 then 23 else 25, [(2, .int (s9)), (1, .int (Int32.ofInt 1)), (0, .ref B)], [], me_w M J1)) rfl k
      rw [if_neg (show ¬ ((Int32.ofInt 1) = 0) from by decide)] at k
      have k := ly_revb 1 (c' := (26, [(2, .int (s9)), (1, .int (Int32.ofInt 1)), (0, .ref B)], [.ref B], me_w M J1)) rfl k
      obtain ⟨d1, o1, ed, kc, k⟩ := lz_c (g := 162) (q := 1) (vs := [.ref B]) (rest := []) rfl rfl (by decide) (Or.inr (Or.inl ⟨_, rfl, rfl⟩)) rfl k
      obtain ⟨J2, z2, q2, dd2, S2, e1, hz2, hq2, hle2, hT2, hr2⟩ := mg_closes (e := z1.2.2) hP hO hT1 hq1 kc
      subst e1
      rw [show (lb_s f t q1, z1.2.1, z1.2.2) = z1 from by rw [hz1]] at hr2
      rw [hz1] at hle2
      have hp2 : z2.1 ≤ t := by rw [← hz2]; exact (lb_s_le (t - q2) q2 (by omega)).2
      have hs2 : lb_s f t z2.1 = z2.1 := by rw [← hz2]; exact lb_ss hq2
      have k : nt_rn X _ 158 (29, [(2, .int (s9)), (1, .int (Int32.ofInt 1)), (0, .ref B)], [], me_w M J2) _ := k
      have k := ly_revb 2 (c' := (33, [(2, .int (s9)), (1, .int (Int32.ofInt 1)), (0, .ref B)], [.long (6385252), .ref B], me_w M J2)) rfl k
      obtain ⟨d1, o1, ed, kc, k⟩ := lz_c (g := 137) (q := 1) (vs := [.ref B, .long (6385252)]) (rest := []) rfl rfl (by decide) (Or.inr (Or.inl ⟨_, rfl, rfl⟩)) rfl k
      obtain ⟨r, e1, hr⟩ := mg_isWord (mg_TP hP hO hT2) hT2.1 hq2 kc
      rw [hz2] at e1
      rw [hz2] at hr
      have hT3 := mg_Tup hP hO hT2 (mg_Sq (y := z2.1) (mg_TP hP hO hT2) hT2.1)
      subst e1
      rw [lb_w_and] at hr
      rcases hr with ⟨rfl, g16⟩ | ⟨rfl, g16⟩
      · have k : nt_rn X _ 158 (36, [(2, .int (s9)), (1, .int (Int32.ofInt 1)), (0, .ref B)], [.int (Int32.ofInt 1)], me_w M (nt_u J2 B 15 (nI z2.1))) _ := k
        have k := ly_revb 1 (c' := (if (Int32.ofInt 1) = 0 then 39 else 49, [(2, .int (s9)), (1, .int (Int32.ofInt 1)), (0, .ref B)], [], me_w M (nt_u J2 B 15 (nI z2.1)))) rfl k
        rw [if_neg (show ¬ ((Int32.ofInt 1) = 0) from by decide)] at k
        have k := ly_revb 5 (c' := (if (Int32.ofInt 1) = 0 then 12 else 59, [(1, .int (Int32.ofInt 1)), (2, .int (s9)), (0, .ref B)], [], me_w M (nt_u J2 B 15 (nI z2.1)))) rfl k
        rw [if_neg (show ¬ ((Int32.ofInt 1) = 0) from by decide)] at k
        have k := ly_revb 2 (c' := (63, [(1, .int (Int32.ofInt 1)), (2, .int (s9)), (0, .ref B)], [.long (6385252), .ref B], me_w M (nt_u J2 B 15 (nI z2.1)))) rfl k
        obtain ⟨d1, o1, ed, kc, k⟩ := lz_c (g := 137) (q := 1) (vs := [.ref B, .long (6385252)]) (rest := []) rfl rfl (by decide) (Or.inr (Or.inl ⟨_, rfl, rfl⟩)) rfl k
        obtain ⟨r, e1, hr⟩ := mg_isWord (mg_TP hP hO hT3) hT3.1 hp2 kc
        rw [hs2, me_uu] at e1
        rw [hs2] at hr
        subst e1
        rw [lb_w_and] at hr
        rcases hr with ⟨rfl, g16b⟩ | ⟨rfl, g16b⟩
        · have k : nt_rn X _ 158 (66, [(1, .int (Int32.ofInt 1)), (2, .int (s9)), (0, .ref B)], [.int (Int32.ofInt 1)], me_w M (nt_u J2 B 15 (nI z2.1))) _ := k
          have k := ly_revb 1 (c' := (if (Int32.ofInt 1) = 0 then 74 else 69, [(1, .int (Int32.ofInt 1)), (2, .int (s9)), (0, .ref B)], [], me_w M (nt_u J2 B 15 (nI z2.1)))) rfl k
          rw [if_neg (show ¬ ((Int32.ofInt 1) = 0) from by decide)] at k
          have k := ly_revb 4 (c' := (78, [(2, .int (Int32.ofInt 12)), (1, .int (Int32.ofInt 1)), (0, .ref B)], [.ref B], me_w M (nt_u J2 B 15 (nI z2.1)))) rfl k
          obtain ⟨d1, o1, ed, kc, k⟩ := lz_c (g := 142) (q := 1) (vs := [.ref B]) (rest := []) rfl rfl (by decide) (Or.inr (Or.inl ⟨_, rfl, rfl⟩)) rfl k
          have e1 := mg_pass (mg_TP hP hO hT3) hT3.1 hp2 kc
          rw [lb_at_l g16] at e1
          subst e1
          have hT4 := mg_Tup hP hO hT3 (mg_Sq (y := z2.1 + (lb_W (nt_sp + 1 + 16)).length) (mg_TP hP hO hT3) hT3.1)
          have hp4 : z2.1 + (lb_W (nt_sp + 1 + 16)).length ≤ t := g16.1
          have k : nt_rn X _ 158 (81, [(2, .int (Int32.ofInt 12)), (1, .int (Int32.ofInt 1)), (0, .ref B)], [], me_w M (nt_u (nt_u J2 B 15 (nI z2.1)) B 15 (nI (z2.1 + (lb_W (nt_sp + 1 + 16)).length)))) _ := k
          have k := ly_revb 2 (c' := (83, [(2, .int (Int32.ofInt 12)), (1, .int (Int32.ofInt 1)), (0, .ref B)], [.int (Int32.ofInt 12), .ref B], me_w M (nt_u (nt_u J2 B 15 (nI z2.1)) B 15 (nI (z2.1 + (lb_W (nt_sp + 1 + 16)).length))))) rfl k
          obtain ⟨d1, o1, ed, kc, k⟩ := lz_c (g := 164) (q := 0) (vs := [.int (Int32.ofInt 12)]) (rest := [.ref B]) rfl rfl (by decide) (Or.inl ⟨_, rfl, rfl⟩) rfl k
          have e1 := md_strength kc
          rw [show lb_sg (Int32.ofInt 12) = 2 from by decide] at e1
          subst e1
          have k : nt_rn X _ 158 (86, [(2, .int (Int32.ofInt 12)), (1, .int (Int32.ofInt 1)), (0, .ref B)], [.int (nI 2), .ref B], me_w M (nt_u (nt_u J2 B 15 (nI z2.1)) B 15 (nI (z2.1 + (lb_W (nt_sp + 1 + 16)).length)))) _ := k
          obtain ⟨d1, o1, ed, kc, k⟩ := lz_c (g := 163) (q := 1) (vs := [.ref B, .int (nI 2)]) (rest := []) rfl rfl (by decide) (Or.inr (Or.inl ⟨_, rfl, rfl⟩)) rfl k
          obtain ⟨J5, e1, hT5⟩ := mg_settles (l := 2) hP hO (by decide) hp4 S2 dd2 z2.2.2 _ hT4 kc
          subst e1
          have s5 : (lb_st 2 S2 dd2 z2.2.2).2.1.length ≤ 400 := hT5.2.2.2.2.2
          have k : nt_rn X _ 158 (89, [(2, .int (Int32.ofInt 12)), (1, .int (Int32.ofInt 1)), (0, .ref B)], [], me_w M J5) _ := k
          have k := ly_revb 1 (c' := (90, [(2, .int (Int32.ofInt 12)), (1, .int (Int32.ofInt 1)), (0, .ref B)], [.ref B], me_w M J5)) rfl k
          have k := lz_get (a := B) (g := 1122) (M := me_w M J5) (v := .ref Op) rfl (nt_gfR rfl hO.1) k
          have k := ly_revb 1 (c' := (94, [(2, .int (Int32.ofInt 12)), (1, .int (Int32.ofInt 1)), (0, .ref B)], [.ref B, .ref Op], me_w M J5)) rfl k
          have k := lz_get (a := B) (g := 1123) (M := me_w M J5) (v := .int (nI ((lb_st 2 S2 dd2 z2.2.2).2.1.length))) rfl (congrArg Value.int (hT5.2.2.2.1)) k
          have k := ly_revb 1 (c' := (98, [(2, .int (Int32.ofInt 12)), (1, .int (Int32.ofInt 1)), (0, .ref B)], [.int (Int32.ofInt 12), .int (nI ((lb_st 2 S2 dd2 z2.2.2).2.1.length)), .ref Op], me_w M J5)) rfl k
          have hb : ((lb_st 2 S2 dd2 z2.2.2).2.1.length) < nt_l M Op := me_iastb (q := ((lb_st 2 S2 dd2 z2.2.2).2.1.length)) rfl rfl (by omega) k
          rw [hO.2.2.1] at hb
          have k := me_iast (q := ((lb_st 2 S2 dd2 z2.2.2).2.1.length)) rfl (rfl) (by omega) k
          have k := ly_revb 2 (c' := (101, [(2, .int (Int32.ofInt 12)), (1, .int (Int32.ofInt 1)), (0, .ref B)], [.ref B, .ref B], me_w M (nt_u J5 Op (((lb_st 2 S2 dd2 z2.2.2).2.1.length)) (Int32.ofInt 12)))) rfl k
          have k := lz_get (a := B) (g := 1123) (M := me_w M (nt_u J5 Op (((lb_st 2 S2 dd2 z2.2.2).2.1.length)) (Int32.ofInt 12))) (v := .int (nI ((lb_st 2 S2 dd2 z2.2.2).2.1.length))) rfl (congrArg Value.int ((me_uj (Ne.symm (hO.2.1.1))).trans (hT5.2.2.2.1))) k
          have k := ly_revb 2 (c' := (106, [(2, .int (Int32.ofInt 12)), (1, .int (Int32.ofInt 1)), (0, .ref B)], [.int ((nI ((lb_st 2 S2 dd2 z2.2.2).2.1.length)) + (Int32.ofInt 1)), .ref B], me_w M (nt_u J5 Op (((lb_st 2 S2 dd2 z2.2.2).2.1.length)) (Int32.ofInt 12)))) rfl k
          rw [show ((nI ((lb_st 2 S2 dd2 z2.2.2).2.1.length)) + (Int32.ofInt 1) : Int32) = nI (((lb_st 2 S2 dd2 z2.2.2).2.1.length) + 1) from me_add (k := 1)] at k
          have k := me_put rfl (by decide) k
          have k : nt_rn X _ 158 (109, [(2, .int (Int32.ofInt 12)), (1, .int (Int32.ofInt 1)), (0, .ref B)], [], me_w M (nt_u (nt_u J5 Op (((lb_st 2 S2 dd2 z2.2.2).2.1.length)) (Int32.ofInt 12)) B 23 (nI (((lb_st 2 S2 dd2 z2.2.2).2.1.length) + 1)))) _ := k
          have k := ly_revb 1 (c' := (12, [(2, .int (Int32.ofInt 12)), (1, .int (Int32.ofInt 1)), (0, .ref B)], [], me_w M (nt_u (nt_u J5 Op (((lb_st 2 S2 dd2 z2.2.2).2.1.length)) (Int32.ofInt 12)) B 23 (nI (((lb_st 2 S2 dd2 z2.2.2).2.1.length) + 1))))) rfl k
          have hT6 := mg_Tpush (y := Int32.ofInt 12) hP hO hT5 hb
          have wl := lb_Wp 16 (by decide)
          have hsl := lb_s_le (f := f) (t := t) (t - (z2.1 + (lb_W (nt_sp + 1 + 16)).length)) (z2.1 + (lb_W (nt_sp + 1 + 16)).length) (by omega)
          dsimp only at hlt1
          obtain ⟨r, a, J9, e9, ⟨k1, hk⟩, hQ⟩ := ih _ _ (lb_st 2 S2 dd2 z2.2.2).2.2 _ _ _ _ (by omega) hT6 hp4 k
          exact ⟨r, a, J9, e9, hr1 r (hr2 r ⟨k1 + 1, Or.inl ⟨g16, hk⟩⟩), hQ⟩
        · exact absurd g16 g16b
      · have k : nt_rn X _ 158 (36, [(2, .int (s9)), (1, .int (Int32.ofInt 1)), (0, .ref B)], [.int (Int32.ofInt 0)], me_w M (nt_u J2 B 15 (nI z2.1))) _ := k
        have k := ly_revb 1 (c' := (if (Int32.ofInt 0) = 0 then 39 else 49, [(2, .int (s9)), (1, .int (Int32.ofInt 1)), (0, .ref B)], [], me_w M (nt_u J2 B 15 (nI z2.1)))) rfl k
        rw [if_pos (show (Int32.ofInt 0) = 0 from by decide)] at k
        have k := ly_revb 2 (c' := (43, [(2, .int (s9)), (1, .int (Int32.ofInt 1)), (0, .ref B)], [.long (28530), .ref B], me_w M (nt_u J2 B 15 (nI z2.1)))) rfl k
        obtain ⟨d1, o1, ed, kc, k⟩ := lz_c (g := 137) (q := 1) (vs := [.ref B, .long (28530)]) (rest := []) rfl rfl (by decide) (Or.inr (Or.inl ⟨_, rfl, rfl⟩)) rfl k
        obtain ⟨r, e1, hr⟩ := mg_isWord (mg_TP hP hO hT3) hT3.1 hp2 kc
        rw [hs2, me_uu] at e1
        rw [hs2] at hr
        subst e1
        rw [lb_w_or] at hr
        rcases hr with ⟨rfl, g17⟩ | ⟨rfl, g17⟩
        · have k : nt_rn X _ 158 (46, [(2, .int (s9)), (1, .int (Int32.ofInt 1)), (0, .ref B)], [.int (Int32.ofInt 1)], me_w M (nt_u J2 B 15 (nI z2.1))) _ := k
          have k := ly_revb 1 (c' := (if (Int32.ofInt 1) = 0 then 53 else 49, [(2, .int (s9)), (1, .int (Int32.ofInt 1)), (0, .ref B)], [], me_w M (nt_u J2 B 15 (nI z2.1)))) rfl k
          rw [if_neg (show ¬ ((Int32.ofInt 1) = 0) from by decide)] at k
          have k := ly_revb 5 (c' := (if (Int32.ofInt 1) = 0 then 12 else 59, [(1, .int (Int32.ofInt 1)), (2, .int (s9)), (0, .ref B)], [], me_w M (nt_u J2 B 15 (nI z2.1)))) rfl k
          rw [if_neg (show ¬ ((Int32.ofInt 1) = 0) from by decide)] at k
          have k := ly_revb 2 (c' := (63, [(1, .int (Int32.ofInt 1)), (2, .int (s9)), (0, .ref B)], [.long (6385252), .ref B], me_w M (nt_u J2 B 15 (nI z2.1)))) rfl k
          obtain ⟨d1, o1, ed, kc, k⟩ := lz_c (g := 137) (q := 1) (vs := [.ref B, .long (6385252)]) (rest := []) rfl rfl (by decide) (Or.inr (Or.inl ⟨_, rfl, rfl⟩)) rfl k
          obtain ⟨r, e1, hr⟩ := mg_isWord (mg_TP hP hO hT3) hT3.1 hp2 kc
          rw [hs2, me_uu] at e1
          rw [hs2] at hr
          subst e1
          rw [lb_w_and] at hr
          rcases hr with ⟨rfl, g16b⟩ | ⟨rfl, g16b⟩
          · exact absurd g16b g16
          · have k : nt_rn X _ 158 (66, [(1, .int (Int32.ofInt 1)), (2, .int (s9)), (0, .ref B)], [.int (Int32.ofInt 0)], me_w M (nt_u J2 B 15 (nI z2.1))) _ := k
            have k := ly_revb 1 (c' := (if (Int32.ofInt 0) = 0 then 74 else 69, [(1, .int (Int32.ofInt 1)), (2, .int (s9)), (0, .ref B)], [], me_w M (nt_u J2 B 15 (nI z2.1)))) rfl k
            rw [if_pos (show (Int32.ofInt 0) = 0 from by decide)] at k
            have k := ly_revb 3 (c' := (78, [(2, .int (Int32.ofInt 13)), (1, .int (Int32.ofInt 1)), (0, .ref B)], [.ref B], me_w M (nt_u J2 B 15 (nI z2.1)))) rfl k
            obtain ⟨d1, o1, ed, kc, k⟩ := lz_c (g := 142) (q := 1) (vs := [.ref B]) (rest := []) rfl rfl (by decide) (Or.inr (Or.inl ⟨_, rfl, rfl⟩)) rfl k
            have e1 := mg_pass (mg_TP hP hO hT3) hT3.1 hp2 kc
            rw [lb_at_l g17] at e1
            subst e1
            have hT4 := mg_Tup hP hO hT3 (mg_Sq (y := z2.1 + (lb_W (nt_sp + 1 + 17)).length) (mg_TP hP hO hT3) hT3.1)
            have hp4 : z2.1 + (lb_W (nt_sp + 1 + 17)).length ≤ t := g17.1
            have k : nt_rn X _ 158 (81, [(2, .int (Int32.ofInt 13)), (1, .int (Int32.ofInt 1)), (0, .ref B)], [], me_w M (nt_u (nt_u J2 B 15 (nI z2.1)) B 15 (nI (z2.1 + (lb_W (nt_sp + 1 + 17)).length)))) _ := k
            have k := ly_revb 2 (c' := (83, [(2, .int (Int32.ofInt 13)), (1, .int (Int32.ofInt 1)), (0, .ref B)], [.int (Int32.ofInt 13), .ref B], me_w M (nt_u (nt_u J2 B 15 (nI z2.1)) B 15 (nI (z2.1 + (lb_W (nt_sp + 1 + 17)).length))))) rfl k
            obtain ⟨d1, o1, ed, kc, k⟩ := lz_c (g := 164) (q := 0) (vs := [.int (Int32.ofInt 13)]) (rest := [.ref B]) rfl rfl (by decide) (Or.inl ⟨_, rfl, rfl⟩) rfl k
            have e1 := md_strength kc
            rw [show lb_sg (Int32.ofInt 13) = 1 from by decide] at e1
            subst e1
            have k : nt_rn X _ 158 (86, [(2, .int (Int32.ofInt 13)), (1, .int (Int32.ofInt 1)), (0, .ref B)], [.int (nI 1), .ref B], me_w M (nt_u (nt_u J2 B 15 (nI z2.1)) B 15 (nI (z2.1 + (lb_W (nt_sp + 1 + 17)).length)))) _ := k
            obtain ⟨d1, o1, ed, kc, k⟩ := lz_c (g := 163) (q := 1) (vs := [.ref B, .int (nI 1)]) (rest := []) rfl rfl (by decide) (Or.inr (Or.inl ⟨_, rfl, rfl⟩)) rfl k
            obtain ⟨J5, e1, hT5⟩ := mg_settles (l := 1) hP hO (by decide) hp4 S2 dd2 z2.2.2 _ hT4 kc
            subst e1
            have s5 : (lb_st 1 S2 dd2 z2.2.2).2.1.length ≤ 400 := hT5.2.2.2.2.2
            have k : nt_rn X _ 158 (89, [(2, .int (Int32.ofInt 13)), (1, .int (Int32.ofInt 1)), (0, .ref B)], [], me_w M J5) _ := k
            have k := ly_revb 1 (c' := (90, [(2, .int (Int32.ofInt 13)), (1, .int (Int32.ofInt 1)), (0, .ref B)], [.ref B], me_w M J5)) rfl k
            have k := lz_get (a := B) (g := 1122) (M := me_w M J5) (v := .ref Op) rfl (nt_gfR rfl hO.1) k
            have k := ly_revb 1 (c' := (94, [(2, .int (Int32.ofInt 13)), (1, .int (Int32.ofInt 1)), (0, .ref B)], [.ref B, .ref Op], me_w M J5)) rfl k
            have k := lz_get (a := B) (g := 1123) (M := me_w M J5) (v := .int (nI ((lb_st 1 S2 dd2 z2.2.2).2.1.length))) rfl (congrArg Value.int (hT5.2.2.2.1)) k
            have k := ly_revb 1 (c' := (98, [(2, .int (Int32.ofInt 13)), (1, .int (Int32.ofInt 1)), (0, .ref B)], [.int (Int32.ofInt 13), .int (nI ((lb_st 1 S2 dd2 z2.2.2).2.1.length)), .ref Op], me_w M J5)) rfl k
            have hb : ((lb_st 1 S2 dd2 z2.2.2).2.1.length) < nt_l M Op := me_iastb (q := ((lb_st 1 S2 dd2 z2.2.2).2.1.length)) rfl rfl (by omega) k
            rw [hO.2.2.1] at hb
            have k := me_iast (q := ((lb_st 1 S2 dd2 z2.2.2).2.1.length)) rfl (rfl) (by omega) k
            have k := ly_revb 2 (c' := (101, [(2, .int (Int32.ofInt 13)), (1, .int (Int32.ofInt 1)), (0, .ref B)], [.ref B, .ref B], me_w M (nt_u J5 Op (((lb_st 1 S2 dd2 z2.2.2).2.1.length)) (Int32.ofInt 13)))) rfl k
            have k := lz_get (a := B) (g := 1123) (M := me_w M (nt_u J5 Op (((lb_st 1 S2 dd2 z2.2.2).2.1.length)) (Int32.ofInt 13))) (v := .int (nI ((lb_st 1 S2 dd2 z2.2.2).2.1.length))) rfl (congrArg Value.int ((me_uj (Ne.symm (hO.2.1.1))).trans (hT5.2.2.2.1))) k
            have k := ly_revb 2 (c' := (106, [(2, .int (Int32.ofInt 13)), (1, .int (Int32.ofInt 1)), (0, .ref B)], [.int ((nI ((lb_st 1 S2 dd2 z2.2.2).2.1.length)) + (Int32.ofInt 1)), .ref B], me_w M (nt_u J5 Op (((lb_st 1 S2 dd2 z2.2.2).2.1.length)) (Int32.ofInt 13)))) rfl k
            rw [show ((nI ((lb_st 1 S2 dd2 z2.2.2).2.1.length)) + (Int32.ofInt 1) : Int32) = nI (((lb_st 1 S2 dd2 z2.2.2).2.1.length) + 1) from me_add (k := 1)] at k
            have k := me_put rfl (by decide) k
            have k : nt_rn X _ 158 (109, [(2, .int (Int32.ofInt 13)), (1, .int (Int32.ofInt 1)), (0, .ref B)], [], me_w M (nt_u (nt_u J5 Op (((lb_st 1 S2 dd2 z2.2.2).2.1.length)) (Int32.ofInt 13)) B 23 (nI (((lb_st 1 S2 dd2 z2.2.2).2.1.length) + 1)))) _ := k
            have k := ly_revb 1 (c' := (12, [(2, .int (Int32.ofInt 13)), (1, .int (Int32.ofInt 1)), (0, .ref B)], [], me_w M (nt_u (nt_u J5 Op (((lb_st 1 S2 dd2 z2.2.2).2.1.length)) (Int32.ofInt 13)) B 23 (nI (((lb_st 1 S2 dd2 z2.2.2).2.1.length) + 1))))) rfl k
            have hT6 := mg_Tpush (y := Int32.ofInt 13) hP hO hT5 hb
            have wl := lb_Wp 17 (by decide)
            have hsl := lb_s_le (f := f) (t := t) (t - (z2.1 + (lb_W (nt_sp + 1 + 17)).length)) (z2.1 + (lb_W (nt_sp + 1 + 17)).length) (by omega)
            dsimp only at hlt1
            obtain ⟨r, a, J9, e9, ⟨k1, hk⟩, hQ⟩ := ih _ _ (lb_st 1 S2 dd2 z2.2.2).2.2 _ _ _ _ (by omega) hT6 hp4 k
            exact ⟨r, a, J9, e9, hr1 r (hr2 r ⟨k1 + 1, Or.inr (Or.inl ⟨g16, g17, hk⟩)⟩), hQ⟩
        · have k : nt_rn X _ 158 (46, [(2, .int (s9)), (1, .int (Int32.ofInt 1)), (0, .ref B)], [.int (Int32.ofInt 0)], me_w M (nt_u J2 B 15 (nI z2.1))) _ := k
          have k := ly_revb 1 (c' := (if (Int32.ofInt 0) = 0 then 53 else 49, [(2, .int (s9)), (1, .int (Int32.ofInt 1)), (0, .ref B)], [], me_w M (nt_u J2 B 15 (nI z2.1)))) rfl k
          rw [if_pos (show (Int32.ofInt 0) = 0 from by decide)] at k
          have k := ly_revb 4 (c' := (if (Int32.ofInt 0) = 0 then 12 else 59, [(1, .int (Int32.ofInt 0)), (2, .int (s9)), (0, .ref B)], [], me_w M (nt_u J2 B 15 (nI z2.1)))) rfl k
          rw [if_pos (show (Int32.ofInt 0) = 0 from by decide)] at k
          have k := ly_revb 2 (c' := (if (Int32.ofInt 0) = 0 then 112 else 16, [(1, .int (Int32.ofInt 0)), (2, .int (s9)), (0, .ref B)], [], me_w M (nt_u J2 B 15 (nI z2.1)))) rfl k
          rw [if_pos (show (Int32.ofInt 0) = 0 from by decide)] at k
          have k := ly_revb 1 (c' := (113, [(1, .int (Int32.ofInt 0)), (2, .int (s9)), (0, .ref B)], [.ref B], me_w M (nt_u J2 B 15 (nI z2.1)))) rfl k
          obtain ⟨d1, o1, ed, kc, k⟩ := lz_c (g := 165) (q := 1) (vs := [.ref B]) (rest := []) rfl rfl (by decide) (Or.inr (Or.inl ⟨_, rfl, rfl⟩)) rfl k
          obtain ⟨r, e1, hin⟩ := mg_inside hP hO hT3 kc
          subst e1
          rcases hin with ⟨rfl, hin⟩ | ⟨rfl, hin⟩
          · have k : nt_rn X _ 158 (116, [(1, .int (Int32.ofInt 0)), (2, .int (s9)), (0, .ref B)], [.int (Int32.ofInt 1)], me_w M (nt_u J2 B 15 (nI z2.1))) _ := k
            have k := ly_revb 1 (c' := (if (Int32.ofInt 1) = 0 then 134 else 119, [(1, .int (Int32.ofInt 0)), (2, .int (s9)), (0, .ref B)], [], me_w M (nt_u J2 B 15 (nI z2.1)))) rfl k
            rw [if_neg (show ¬ ((Int32.ofInt 1) = 0) from by decide)] at k
            have k := ly_revb 1 (c' := (120, [(1, .int (Int32.ofInt 0)), (2, .int (s9)), (0, .ref B)], [.ref B], me_w M (nt_u J2 B 15 (nI z2.1)))) rfl k
            obtain ⟨d1, o1, ed, kc, k⟩ := lz_c (g := 136) (q := 1) (vs := [.ref B]) (rest := []) rfl rfl (by decide) (Or.inr (Or.inl ⟨_, rfl, rfl⟩)) rfl k
            have e1 := mg_see (mg_TP hP hO hT3) hT3.1 hp2 kc
            rw [hs2, me_uu] at e1
            subst e1
            have k : nt_rn X _ 158 (123, [(1, .int (Int32.ofInt 0)), (2, .int (s9)), (0, .ref B)], [.int (lb_g f t z2.1)], me_w M (nt_u J2 B 15 (nI z2.1))) _ := k
            have k := ly_revb 4 (c' := (127, [(1, .int (Int32.ofInt 0)), (2, .int (s9)), (0, .ref B)], [.ref B, .int (Int32.ofInt 0), .ref B], me_w M (nt_u J2 B 15 (nI z2.1)))) rfl k
            have k := lz_get (a := B) (g := 1115) (M := me_w M (nt_u J2 B 15 (nI z2.1))) (v := .int (nI z2.1)) rfl (congrArg Value.int (hT3.1.1)) k
            obtain ⟨d1, o1, ed, kc, k⟩ := lz_c (g := 139) (q := 1) (vs := [.ref B, .int (Int32.ofInt 0), .int (nI z2.1)]) (rest := []) rfl rfl (by decide) (Or.inr (Or.inl ⟨_, rfl, rfl⟩)) rfl k
            obtain ⟨hf, e1⟩ := (mg_fails (a := z2.1) (mg_TP hP hO hT3) hT3.1 hp2 kc).resolve_right (fun c => c.1 rfl)
            subst e1
            have hT9 := mg_Tup hP hO hT3 (mg_Sw (y := lb_c z2.1 (Int32.ofInt 0)) (mg_TP hP hO hT3) hT3.1)
            have k : nt_rn X _ 158 (133, [(1, .int (Int32.ofInt 0)), (2, .int (s9)), (0, .ref B)], [.int (Int32.ofInt 0)], me_w M (nt_u (nt_u J2 B 15 (nI z2.1)) B 16 (lb_c z2.1 (Int32.ofInt 0)))) _ := k
            have k := lz_ri rfl (by decide) k
            exact ⟨.inl (lb_c z2.1 (Int32.ofInt 0)), _, _, k, hr1 _ (hr2 _ ⟨1, Or.inr (Or.inr (Or.inl ⟨g16, g17, hin, rfl⟩))⟩), (lb_c_ne (by omega) (by decide) (by decide)), rfl, _, _, _, _, _, hT9, hp2⟩
          · have k : nt_rn X _ 158 (116, [(1, .int (Int32.ofInt 0)), (2, .int (s9)), (0, .ref B)], [.int (Int32.ofInt 0)], me_w M (nt_u J2 B 15 (nI z2.1))) _ := k
            have k := ly_revb 1 (c' := (if (Int32.ofInt 0) = 0 then 134 else 119, [(1, .int (Int32.ofInt 0)), (2, .int (s9)), (0, .ref B)], [], me_w M (nt_u J2 B 15 (nI z2.1)))) rfl k
            rw [if_pos (show (Int32.ofInt 0) = 0 from by decide)] at k
            have k := ly_revb 2 (c' := (136, [(1, .int (Int32.ofInt 0)), (2, .int (s9)), (0, .ref B)], [.int (Int32.ofInt 1), .ref B], me_w M (nt_u J2 B 15 (nI z2.1)))) rfl k
            obtain ⟨d1, o1, ed, kc, k⟩ := lz_c (g := 163) (q := 1) (vs := [.ref B, .int (Int32.ofInt 1)]) (rest := []) rfl rfl (by decide) (Or.inr (Or.inl ⟨_, rfl, rfl⟩)) rfl k
            obtain ⟨J5, e1, hT5⟩ := mg_settles (l := 1) hP hO (by decide) hp2 S2 dd2 z2.2.2 _ hT3 kc
            subst e1
            have s5 : (lb_st 1 S2 dd2 z2.2.2).2.1.length ≤ 400 := hT5.2.2.2.2.2
            have k : nt_rn X _ 158 (139, [(1, .int (Int32.ofInt 0)), (2, .int (s9)), (0, .ref B)], [], me_w M J5) _ := k
            have k := ly_revb 1 (c' := (140, [(1, .int (Int32.ofInt 0)), (2, .int (s9)), (0, .ref B)], [.int (Int32.ofInt 1)], me_w M J5)) rfl k
            have k := lz_ri rfl (by decide) k
            exact ⟨.inr (z2.1, z2.2.1, (lb_st 1 S2 dd2 z2.2.2).2.2), _, _, k, hr1 _ (hr2 _ ⟨1, Or.inr (Or.inr (Or.inr ⟨g16, g17, hin, rfl⟩))⟩), rfl, _, _, _, hs2, hp2, hT5⟩
theorem mg_tested {G : Nat → Int32} {X : nt_X} {d t x B Tb Sg Ln Op q m : Nat} {f : Nat → Int32} {M : nt_M} {J0 J : Nat → Nat → Int32} {o : Option Value × nt_M} {e : lb_E} (hP : md_P M J0 f t x B Tb Sg Ln) (hO : md_O M B Tb Sg Ln Op) (hB : lb_by f t) (hS : mg_S G J0 B Sg Ln x q 0 m e.2 J) (hp : q ≤ t) (k : nt_ev X d 158 [.ref B] (me_w M J) o) : ∃ r a J', o = (some (.int a), me_w M J') ∧ (∃ k, lb_ma f t k 0 (Int32.ofInt 0) [] (lb_s f t q, m, e) r) ∧ mg_QT G J0 B Sg Ln Op x t f r a J' := by
  have k : nt_rn X d 158 (0, [(0, .ref B)], [], me_w M J) o := k
  have t4 : t ≤ 400 := hP.2.2.2.2.2.1
  have k := ly_revb 2 (c' := (2, [(0, .ref B)], [.int (Int32.ofInt 0), .ref B], me_w M J)) rfl k
  have k := me_put rfl (by decide) k
  have k : nt_rn X _ 158 (5, [(0, .ref B)], [], me_w M (nt_u J B 23 (Int32.ofInt 0))) _ := k
  have k := ly_revb 2 (c' := (7, [(0, .ref B)], [.int (Int32.ofInt 0), .ref B], me_w M (nt_u J B 23 (Int32.ofInt 0)))) rfl k
  have k := me_put rfl (by decide) k
  have k : nt_rn X _ 158 (10, [(0, .ref B)], [], me_w M (nt_u (nt_u J B 23 (Int32.ofInt 0)) B 20 (Int32.ofInt 0))) _ := k
  have k := ly_revb 2 (c' := (12, [(1, .int (Int32.ofInt 1)), (0, .ref B)], [], me_w M (nt_u (nt_u J B 23 (Int32.ofInt 0)) B 20 (Int32.ofInt 0)))) rfl k
  have hT := mg_T0 hP hO hS
  have k := ly_revb 2 (c' := (if (Int32.ofInt 1) = 0 then 112 else 16, [(1, .int (Int32.ofInt 1)), (0, .ref B)], [], me_w M (nt_u (nt_u J B 23 (Int32.ofInt 0)) B 20 (Int32.ofInt 0)))) rfl k
  rw [if_neg (show ¬ ((Int32.ofInt 1) = 0) from by decide)] at k
  have k := ly_revb 1 (c' := (17, [(1, .int (Int32.ofInt 1)), (0, .ref B)], [.ref B], me_w M (nt_u (nt_u J B 23 (Int32.ofInt 0)) B 20 (Int32.ofInt 0)))) rfl k
  obtain ⟨d1, o1, ed, kc, k⟩ := lz_c (g := 159) (q := 1) (vs := [.ref B]) (rest := []) rfl rfl (by decide) (Or.inr (Or.inl ⟨_, rfl, rfl⟩)) rfl k
  obtain ⟨a1, J1, e1, hF⟩ := mg_fact (s0 := e.1) hP hO hB hT hp kc
  subst e1
  rcases hF with ⟨rfl, c, q1, m1, e1, dd1, S1, hc, hT1, hq1, hk1⟩ | ⟨rfl, z1, q1, dd1, S1, hz1, hq1, hlt1, hT1, hr1⟩
  · have k : nt_rn X _ 158 (20, [(1, .int (Int32.ofInt 1)), (0, .ref B)], [.int (Int32.ofInt 0)], me_w M J1) _ := k
    have k := ly_revb 1 (c' := (if (Int32.ofInt 0) = 0 then 23 else 25, [(1, .int (Int32.ofInt 1)), (0, .ref B)], [], me_w M J1)) rfl k
    rw [if_pos (show (Int32.ofInt 0) = 0 from by decide)] at k
    have k := ly_revb 1 (c' := (24, [(1, .int (Int32.ofInt 1)), (0, .ref B)], [.int (Int32.ofInt 0)], me_w M J1)) rfl k
    have k := lz_ri rfl (by decide) k
    exact ⟨.inl c, _, _, k, hk1, hc, rfl, _, _, _, _, _, hT1, hq1⟩
  · have k : nt_rn X _ 158 (20, [(1, .int (Int32.ofInt 1)), (0, .ref B)], [.int (Int32.ofInt 1)], me_w M J1) _ := k
    have k := ly_revb 1 (c' := (if (Int32.ofInt 1) = 0 then 23 else 25, [(1, .int (Int32.ofInt 1)), (0, .ref B)], [], me_w M J1)) rfl k
    rw [if_neg (show ¬ ((Int32.ofInt 1) = 0) from by decide)] at k
    have k := ly_revb 1 (c' := (26, [(1, .int (Int32.ofInt 1)), (0, .ref B)], [.ref B], me_w M J1)) rfl k
    obtain ⟨d1, o1, ed, kc, k⟩ := lz_c (g := 162) (q := 1) (vs := [.ref B]) (rest := []) rfl rfl (by decide) (Or.inr (Or.inl ⟨_, rfl, rfl⟩)) rfl k
    obtain ⟨J2, z2, q2, dd2, S2, e1, hz2, hq2, hle2, hT2, hr2⟩ := mg_closes (e := z1.2.2) hP hO hT1 hq1 kc
    subst e1
    rw [show (lb_s f t q1, z1.2.1, z1.2.2) = z1 from by rw [hz1]] at hr2
    rw [hz1] at hle2
    have hp2 : z2.1 ≤ t := by rw [← hz2]; exact (lb_s_le (t - q2) q2 (by omega)).2
    have hs2 : lb_s f t z2.1 = z2.1 := by rw [← hz2]; exact lb_ss hq2
    have k : nt_rn X _ 158 (29, [(1, .int (Int32.ofInt 1)), (0, .ref B)], [], me_w M J2) _ := k
    have k := ly_revb 2 (c' := (33, [(1, .int (Int32.ofInt 1)), (0, .ref B)], [.long (6385252), .ref B], me_w M J2)) rfl k
    obtain ⟨d1, o1, ed, kc, k⟩ := lz_c (g := 137) (q := 1) (vs := [.ref B, .long (6385252)]) (rest := []) rfl rfl (by decide) (Or.inr (Or.inl ⟨_, rfl, rfl⟩)) rfl k
    obtain ⟨r, e1, hr⟩ := mg_isWord (mg_TP hP hO hT2) hT2.1 hq2 kc
    rw [hz2] at e1
    rw [hz2] at hr
    have hT3 := mg_Tup hP hO hT2 (mg_Sq (y := z2.1) (mg_TP hP hO hT2) hT2.1)
    subst e1
    rw [lb_w_and] at hr
    rcases hr with ⟨rfl, g16⟩ | ⟨rfl, g16⟩
    · have k : nt_rn X _ 158 (36, [(1, .int (Int32.ofInt 1)), (0, .ref B)], [.int (Int32.ofInt 1)], me_w M (nt_u J2 B 15 (nI z2.1))) _ := k
      have k := ly_revb 1 (c' := (if (Int32.ofInt 1) = 0 then 39 else 49, [(1, .int (Int32.ofInt 1)), (0, .ref B)], [], me_w M (nt_u J2 B 15 (nI z2.1)))) rfl k
      rw [if_neg (show ¬ ((Int32.ofInt 1) = 0) from by decide)] at k
      have k := ly_revb 5 (c' := (if (Int32.ofInt 1) = 0 then 12 else 59, [(1, .int (Int32.ofInt 1)), (0, .ref B)], [], me_w M (nt_u J2 B 15 (nI z2.1)))) rfl k
      rw [if_neg (show ¬ ((Int32.ofInt 1) = 0) from by decide)] at k
      have k := ly_revb 2 (c' := (63, [(1, .int (Int32.ofInt 1)), (0, .ref B)], [.long (6385252), .ref B], me_w M (nt_u J2 B 15 (nI z2.1)))) rfl k
      obtain ⟨d1, o1, ed, kc, k⟩ := lz_c (g := 137) (q := 1) (vs := [.ref B, .long (6385252)]) (rest := []) rfl rfl (by decide) (Or.inr (Or.inl ⟨_, rfl, rfl⟩)) rfl k
      obtain ⟨r, e1, hr⟩ := mg_isWord (mg_TP hP hO hT3) hT3.1 hp2 kc
      rw [hs2, me_uu] at e1
      rw [hs2] at hr
      subst e1
      rw [lb_w_and] at hr
      rcases hr with ⟨rfl, g16b⟩ | ⟨rfl, g16b⟩
      · have k : nt_rn X _ 158 (66, [(1, .int (Int32.ofInt 1)), (0, .ref B)], [.int (Int32.ofInt 1)], me_w M (nt_u J2 B 15 (nI z2.1))) _ := k
        have k := ly_revb 1 (c' := (if (Int32.ofInt 1) = 0 then 74 else 69, [(1, .int (Int32.ofInt 1)), (0, .ref B)], [], me_w M (nt_u J2 B 15 (nI z2.1)))) rfl k
        rw [if_neg (show ¬ ((Int32.ofInt 1) = 0) from by decide)] at k
        have k := ly_revb 4 (c' := (78, [(2, .int (Int32.ofInt 12)), (1, .int (Int32.ofInt 1)), (0, .ref B)], [.ref B], me_w M (nt_u J2 B 15 (nI z2.1)))) rfl k
        obtain ⟨d1, o1, ed, kc, k⟩ := lz_c (g := 142) (q := 1) (vs := [.ref B]) (rest := []) rfl rfl (by decide) (Or.inr (Or.inl ⟨_, rfl, rfl⟩)) rfl k
        have e1 := mg_pass (mg_TP hP hO hT3) hT3.1 hp2 kc
        rw [lb_at_l g16] at e1
        subst e1
        have hT4 := mg_Tup hP hO hT3 (mg_Sq (y := z2.1 + (lb_W (nt_sp + 1 + 16)).length) (mg_TP hP hO hT3) hT3.1)
        have hp4 : z2.1 + (lb_W (nt_sp + 1 + 16)).length ≤ t := g16.1
        have k : nt_rn X _ 158 (81, [(2, .int (Int32.ofInt 12)), (1, .int (Int32.ofInt 1)), (0, .ref B)], [], me_w M (nt_u (nt_u J2 B 15 (nI z2.1)) B 15 (nI (z2.1 + (lb_W (nt_sp + 1 + 16)).length)))) _ := k
        have k := ly_revb 2 (c' := (83, [(2, .int (Int32.ofInt 12)), (1, .int (Int32.ofInt 1)), (0, .ref B)], [.int (Int32.ofInt 12), .ref B], me_w M (nt_u (nt_u J2 B 15 (nI z2.1)) B 15 (nI (z2.1 + (lb_W (nt_sp + 1 + 16)).length))))) rfl k
        obtain ⟨d1, o1, ed, kc, k⟩ := lz_c (g := 164) (q := 0) (vs := [.int (Int32.ofInt 12)]) (rest := [.ref B]) rfl rfl (by decide) (Or.inl ⟨_, rfl, rfl⟩) rfl k
        have e1 := md_strength kc
        rw [show lb_sg (Int32.ofInt 12) = 2 from by decide] at e1
        subst e1
        have k : nt_rn X _ 158 (86, [(2, .int (Int32.ofInt 12)), (1, .int (Int32.ofInt 1)), (0, .ref B)], [.int (nI 2), .ref B], me_w M (nt_u (nt_u J2 B 15 (nI z2.1)) B 15 (nI (z2.1 + (lb_W (nt_sp + 1 + 16)).length)))) _ := k
        obtain ⟨d1, o1, ed, kc, k⟩ := lz_c (g := 163) (q := 1) (vs := [.ref B, .int (nI 2)]) (rest := []) rfl rfl (by decide) (Or.inr (Or.inl ⟨_, rfl, rfl⟩)) rfl k
        obtain ⟨J5, e1, hT5⟩ := mg_settles (l := 2) hP hO (by decide) hp4 S2 dd2 z2.2.2 _ hT4 kc
        subst e1
        have s5 : (lb_st 2 S2 dd2 z2.2.2).2.1.length ≤ 400 := hT5.2.2.2.2.2
        have k : nt_rn X _ 158 (89, [(2, .int (Int32.ofInt 12)), (1, .int (Int32.ofInt 1)), (0, .ref B)], [], me_w M J5) _ := k
        have k := ly_revb 1 (c' := (90, [(2, .int (Int32.ofInt 12)), (1, .int (Int32.ofInt 1)), (0, .ref B)], [.ref B], me_w M J5)) rfl k
        have k := lz_get (a := B) (g := 1122) (M := me_w M J5) (v := .ref Op) rfl (nt_gfR rfl hO.1) k
        have k := ly_revb 1 (c' := (94, [(2, .int (Int32.ofInt 12)), (1, .int (Int32.ofInt 1)), (0, .ref B)], [.ref B, .ref Op], me_w M J5)) rfl k
        have k := lz_get (a := B) (g := 1123) (M := me_w M J5) (v := .int (nI ((lb_st 2 S2 dd2 z2.2.2).2.1.length))) rfl (congrArg Value.int (hT5.2.2.2.1)) k
        have k := ly_revb 1 (c' := (98, [(2, .int (Int32.ofInt 12)), (1, .int (Int32.ofInt 1)), (0, .ref B)], [.int (Int32.ofInt 12), .int (nI ((lb_st 2 S2 dd2 z2.2.2).2.1.length)), .ref Op], me_w M J5)) rfl k
        have hb : ((lb_st 2 S2 dd2 z2.2.2).2.1.length) < nt_l M Op := me_iastb (q := ((lb_st 2 S2 dd2 z2.2.2).2.1.length)) rfl rfl (by omega) k
        rw [hO.2.2.1] at hb
        have k := me_iast (q := ((lb_st 2 S2 dd2 z2.2.2).2.1.length)) rfl (rfl) (by omega) k
        have k := ly_revb 2 (c' := (101, [(2, .int (Int32.ofInt 12)), (1, .int (Int32.ofInt 1)), (0, .ref B)], [.ref B, .ref B], me_w M (nt_u J5 Op (((lb_st 2 S2 dd2 z2.2.2).2.1.length)) (Int32.ofInt 12)))) rfl k
        have k := lz_get (a := B) (g := 1123) (M := me_w M (nt_u J5 Op (((lb_st 2 S2 dd2 z2.2.2).2.1.length)) (Int32.ofInt 12))) (v := .int (nI ((lb_st 2 S2 dd2 z2.2.2).2.1.length))) rfl (congrArg Value.int ((me_uj (Ne.symm (hO.2.1.1))).trans (hT5.2.2.2.1))) k
        have k := ly_revb 2 (c' := (106, [(2, .int (Int32.ofInt 12)), (1, .int (Int32.ofInt 1)), (0, .ref B)], [.int ((nI ((lb_st 2 S2 dd2 z2.2.2).2.1.length)) + (Int32.ofInt 1)), .ref B], me_w M (nt_u J5 Op (((lb_st 2 S2 dd2 z2.2.2).2.1.length)) (Int32.ofInt 12)))) rfl k
        rw [show ((nI ((lb_st 2 S2 dd2 z2.2.2).2.1.length)) + (Int32.ofInt 1) : Int32) = nI (((lb_st 2 S2 dd2 z2.2.2).2.1.length) + 1) from me_add (k := 1)] at k
        have k := me_put rfl (by decide) k
        have k : nt_rn X _ 158 (109, [(2, .int (Int32.ofInt 12)), (1, .int (Int32.ofInt 1)), (0, .ref B)], [], me_w M (nt_u (nt_u J5 Op (((lb_st 2 S2 dd2 z2.2.2).2.1.length)) (Int32.ofInt 12)) B 23 (nI (((lb_st 2 S2 dd2 z2.2.2).2.1.length) + 1)))) _ := k
        have k := ly_revb 1 (c' := (12, [(2, .int (Int32.ofInt 12)), (1, .int (Int32.ofInt 1)), (0, .ref B)], [], me_w M (nt_u (nt_u J5 Op (((lb_st 2 S2 dd2 z2.2.2).2.1.length)) (Int32.ofInt 12)) B 23 (nI (((lb_st 2 S2 dd2 z2.2.2).2.1.length) + 1))))) rfl k
        have hT6 := mg_Tpush (y := Int32.ofInt 12) hP hO hT5 hb
        have wl := lb_Wp 16 (by decide)
        have hsl := lb_s_le (f := f) (t := t) (t - (z2.1 + (lb_W (nt_sp + 1 + 16)).length)) (z2.1 + (lb_W (nt_sp + 1 + 16)).length) (by omega)
        dsimp only at hlt1
        obtain ⟨r, a, J9, e9, ⟨k1, hk⟩, hQ⟩ := mg_tesl hP hO hB (t - lb_s f t q + 1) _ _ (lb_st 2 S2 dd2 z2.2.2).2.2 _ _ _ _ (by omega) hT6 hp4 k
        exact ⟨r, a, J9, e9, hr1 r (hr2 r ⟨k1 + 1, Or.inl ⟨g16, hk⟩⟩), hQ⟩
      · exact absurd g16 g16b
    · have k : nt_rn X _ 158 (36, [(1, .int (Int32.ofInt 1)), (0, .ref B)], [.int (Int32.ofInt 0)], me_w M (nt_u J2 B 15 (nI z2.1))) _ := k
      have k := ly_revb 1 (c' := (if (Int32.ofInt 0) = 0 then 39 else 49, [(1, .int (Int32.ofInt 1)), (0, .ref B)], [], me_w M (nt_u J2 B 15 (nI z2.1)))) rfl k
      rw [if_pos (show (Int32.ofInt 0) = 0 from by decide)] at k
      have k := ly_revb 2 (c' := (43, [(1, .int (Int32.ofInt 1)), (0, .ref B)], [.long (28530), .ref B], me_w M (nt_u J2 B 15 (nI z2.1)))) rfl k
      obtain ⟨d1, o1, ed, kc, k⟩ := lz_c (g := 137) (q := 1) (vs := [.ref B, .long (28530)]) (rest := []) rfl rfl (by decide) (Or.inr (Or.inl ⟨_, rfl, rfl⟩)) rfl k
      obtain ⟨r, e1, hr⟩ := mg_isWord (mg_TP hP hO hT3) hT3.1 hp2 kc
      rw [hs2, me_uu] at e1
      rw [hs2] at hr
      subst e1
      rw [lb_w_or] at hr
      rcases hr with ⟨rfl, g17⟩ | ⟨rfl, g17⟩
      · have k : nt_rn X _ 158 (46, [(1, .int (Int32.ofInt 1)), (0, .ref B)], [.int (Int32.ofInt 1)], me_w M (nt_u J2 B 15 (nI z2.1))) _ := k
        have k := ly_revb 1 (c' := (if (Int32.ofInt 1) = 0 then 53 else 49, [(1, .int (Int32.ofInt 1)), (0, .ref B)], [], me_w M (nt_u J2 B 15 (nI z2.1)))) rfl k
        rw [if_neg (show ¬ ((Int32.ofInt 1) = 0) from by decide)] at k
        have k := ly_revb 5 (c' := (if (Int32.ofInt 1) = 0 then 12 else 59, [(1, .int (Int32.ofInt 1)), (0, .ref B)], [], me_w M (nt_u J2 B 15 (nI z2.1)))) rfl k
        rw [if_neg (show ¬ ((Int32.ofInt 1) = 0) from by decide)] at k
        have k := ly_revb 2 (c' := (63, [(1, .int (Int32.ofInt 1)), (0, .ref B)], [.long (6385252), .ref B], me_w M (nt_u J2 B 15 (nI z2.1)))) rfl k
        obtain ⟨d1, o1, ed, kc, k⟩ := lz_c (g := 137) (q := 1) (vs := [.ref B, .long (6385252)]) (rest := []) rfl rfl (by decide) (Or.inr (Or.inl ⟨_, rfl, rfl⟩)) rfl k
        obtain ⟨r, e1, hr⟩ := mg_isWord (mg_TP hP hO hT3) hT3.1 hp2 kc
        rw [hs2, me_uu] at e1
        rw [hs2] at hr
        subst e1
        rw [lb_w_and] at hr
        rcases hr with ⟨rfl, g16b⟩ | ⟨rfl, g16b⟩
        · exact absurd g16b g16
        · have k : nt_rn X _ 158 (66, [(1, .int (Int32.ofInt 1)), (0, .ref B)], [.int (Int32.ofInt 0)], me_w M (nt_u J2 B 15 (nI z2.1))) _ := k
          have k := ly_revb 1 (c' := (if (Int32.ofInt 0) = 0 then 74 else 69, [(1, .int (Int32.ofInt 1)), (0, .ref B)], [], me_w M (nt_u J2 B 15 (nI z2.1)))) rfl k
          rw [if_pos (show (Int32.ofInt 0) = 0 from by decide)] at k
          have k := ly_revb 3 (c' := (78, [(2, .int (Int32.ofInt 13)), (1, .int (Int32.ofInt 1)), (0, .ref B)], [.ref B], me_w M (nt_u J2 B 15 (nI z2.1)))) rfl k
          obtain ⟨d1, o1, ed, kc, k⟩ := lz_c (g := 142) (q := 1) (vs := [.ref B]) (rest := []) rfl rfl (by decide) (Or.inr (Or.inl ⟨_, rfl, rfl⟩)) rfl k
          have e1 := mg_pass (mg_TP hP hO hT3) hT3.1 hp2 kc
          rw [lb_at_l g17] at e1
          subst e1
          have hT4 := mg_Tup hP hO hT3 (mg_Sq (y := z2.1 + (lb_W (nt_sp + 1 + 17)).length) (mg_TP hP hO hT3) hT3.1)
          have hp4 : z2.1 + (lb_W (nt_sp + 1 + 17)).length ≤ t := g17.1
          have k : nt_rn X _ 158 (81, [(2, .int (Int32.ofInt 13)), (1, .int (Int32.ofInt 1)), (0, .ref B)], [], me_w M (nt_u (nt_u J2 B 15 (nI z2.1)) B 15 (nI (z2.1 + (lb_W (nt_sp + 1 + 17)).length)))) _ := k
          have k := ly_revb 2 (c' := (83, [(2, .int (Int32.ofInt 13)), (1, .int (Int32.ofInt 1)), (0, .ref B)], [.int (Int32.ofInt 13), .ref B], me_w M (nt_u (nt_u J2 B 15 (nI z2.1)) B 15 (nI (z2.1 + (lb_W (nt_sp + 1 + 17)).length))))) rfl k
          obtain ⟨d1, o1, ed, kc, k⟩ := lz_c (g := 164) (q := 0) (vs := [.int (Int32.ofInt 13)]) (rest := [.ref B]) rfl rfl (by decide) (Or.inl ⟨_, rfl, rfl⟩) rfl k
          have e1 := md_strength kc
          rw [show lb_sg (Int32.ofInt 13) = 1 from by decide] at e1
          subst e1
          have k : nt_rn X _ 158 (86, [(2, .int (Int32.ofInt 13)), (1, .int (Int32.ofInt 1)), (0, .ref B)], [.int (nI 1), .ref B], me_w M (nt_u (nt_u J2 B 15 (nI z2.1)) B 15 (nI (z2.1 + (lb_W (nt_sp + 1 + 17)).length)))) _ := k
          obtain ⟨d1, o1, ed, kc, k⟩ := lz_c (g := 163) (q := 1) (vs := [.ref B, .int (nI 1)]) (rest := []) rfl rfl (by decide) (Or.inr (Or.inl ⟨_, rfl, rfl⟩)) rfl k
          obtain ⟨J5, e1, hT5⟩ := mg_settles (l := 1) hP hO (by decide) hp4 S2 dd2 z2.2.2 _ hT4 kc
          subst e1
          have s5 : (lb_st 1 S2 dd2 z2.2.2).2.1.length ≤ 400 := hT5.2.2.2.2.2
          have k : nt_rn X _ 158 (89, [(2, .int (Int32.ofInt 13)), (1, .int (Int32.ofInt 1)), (0, .ref B)], [], me_w M J5) _ := k
          have k := ly_revb 1 (c' := (90, [(2, .int (Int32.ofInt 13)), (1, .int (Int32.ofInt 1)), (0, .ref B)], [.ref B], me_w M J5)) rfl k
          have k := lz_get (a := B) (g := 1122) (M := me_w M J5) (v := .ref Op) rfl (nt_gfR rfl hO.1) k
          have k := ly_revb 1 (c' := (94, [(2, .int (Int32.ofInt 13)), (1, .int (Int32.ofInt 1)), (0, .ref B)], [.ref B, .ref Op], me_w M J5)) rfl k
          have k := lz_get (a := B) (g := 1123) (M := me_w M J5) (v := .int (nI ((lb_st 1 S2 dd2 z2.2.2).2.1.length))) rfl (congrArg Value.int (hT5.2.2.2.1)) k
          have k := ly_revb 1 (c' := (98, [(2, .int (Int32.ofInt 13)), (1, .int (Int32.ofInt 1)), (0, .ref B)], [.int (Int32.ofInt 13), .int (nI ((lb_st 1 S2 dd2 z2.2.2).2.1.length)), .ref Op], me_w M J5)) rfl k
          have hb : ((lb_st 1 S2 dd2 z2.2.2).2.1.length) < nt_l M Op := me_iastb (q := ((lb_st 1 S2 dd2 z2.2.2).2.1.length)) rfl rfl (by omega) k
          rw [hO.2.2.1] at hb
          have k := me_iast (q := ((lb_st 1 S2 dd2 z2.2.2).2.1.length)) rfl (rfl) (by omega) k
          have k := ly_revb 2 (c' := (101, [(2, .int (Int32.ofInt 13)), (1, .int (Int32.ofInt 1)), (0, .ref B)], [.ref B, .ref B], me_w M (nt_u J5 Op (((lb_st 1 S2 dd2 z2.2.2).2.1.length)) (Int32.ofInt 13)))) rfl k
          have k := lz_get (a := B) (g := 1123) (M := me_w M (nt_u J5 Op (((lb_st 1 S2 dd2 z2.2.2).2.1.length)) (Int32.ofInt 13))) (v := .int (nI ((lb_st 1 S2 dd2 z2.2.2).2.1.length))) rfl (congrArg Value.int ((me_uj (Ne.symm (hO.2.1.1))).trans (hT5.2.2.2.1))) k
          have k := ly_revb 2 (c' := (106, [(2, .int (Int32.ofInt 13)), (1, .int (Int32.ofInt 1)), (0, .ref B)], [.int ((nI ((lb_st 1 S2 dd2 z2.2.2).2.1.length)) + (Int32.ofInt 1)), .ref B], me_w M (nt_u J5 Op (((lb_st 1 S2 dd2 z2.2.2).2.1.length)) (Int32.ofInt 13)))) rfl k
          rw [show ((nI ((lb_st 1 S2 dd2 z2.2.2).2.1.length)) + (Int32.ofInt 1) : Int32) = nI (((lb_st 1 S2 dd2 z2.2.2).2.1.length) + 1) from me_add (k := 1)] at k
          have k := me_put rfl (by decide) k
          have k : nt_rn X _ 158 (109, [(2, .int (Int32.ofInt 13)), (1, .int (Int32.ofInt 1)), (0, .ref B)], [], me_w M (nt_u (nt_u J5 Op (((lb_st 1 S2 dd2 z2.2.2).2.1.length)) (Int32.ofInt 13)) B 23 (nI (((lb_st 1 S2 dd2 z2.2.2).2.1.length) + 1)))) _ := k
          have k := ly_revb 1 (c' := (12, [(2, .int (Int32.ofInt 13)), (1, .int (Int32.ofInt 1)), (0, .ref B)], [], me_w M (nt_u (nt_u J5 Op (((lb_st 1 S2 dd2 z2.2.2).2.1.length)) (Int32.ofInt 13)) B 23 (nI (((lb_st 1 S2 dd2 z2.2.2).2.1.length) + 1))))) rfl k
          have hT6 := mg_Tpush (y := Int32.ofInt 13) hP hO hT5 hb
          have wl := lb_Wp 17 (by decide)
          have hsl := lb_s_le (f := f) (t := t) (t - (z2.1 + (lb_W (nt_sp + 1 + 17)).length)) (z2.1 + (lb_W (nt_sp + 1 + 17)).length) (by omega)
          dsimp only at hlt1
          obtain ⟨r, a, J9, e9, ⟨k1, hk⟩, hQ⟩ := mg_tesl hP hO hB (t - lb_s f t q + 1) _ _ (lb_st 1 S2 dd2 z2.2.2).2.2 _ _ _ _ (by omega) hT6 hp4 k
          exact ⟨r, a, J9, e9, hr1 r (hr2 r ⟨k1 + 1, Or.inr (Or.inl ⟨g16, g17, hk⟩)⟩), hQ⟩
      · have k : nt_rn X _ 158 (46, [(1, .int (Int32.ofInt 1)), (0, .ref B)], [.int (Int32.ofInt 0)], me_w M (nt_u J2 B 15 (nI z2.1))) _ := k
        have k := ly_revb 1 (c' := (if (Int32.ofInt 0) = 0 then 53 else 49, [(1, .int (Int32.ofInt 1)), (0, .ref B)], [], me_w M (nt_u J2 B 15 (nI z2.1)))) rfl k
        rw [if_pos (show (Int32.ofInt 0) = 0 from by decide)] at k
        have k := ly_revb 4 (c' := (if (Int32.ofInt 0) = 0 then 12 else 59, [(1, .int (Int32.ofInt 0)), (0, .ref B)], [], me_w M (nt_u J2 B 15 (nI z2.1)))) rfl k
        rw [if_pos (show (Int32.ofInt 0) = 0 from by decide)] at k
        have k := ly_revb 2 (c' := (if (Int32.ofInt 0) = 0 then 112 else 16, [(1, .int (Int32.ofInt 0)), (0, .ref B)], [], me_w M (nt_u J2 B 15 (nI z2.1)))) rfl k
        rw [if_pos (show (Int32.ofInt 0) = 0 from by decide)] at k
        have k := ly_revb 1 (c' := (113, [(1, .int (Int32.ofInt 0)), (0, .ref B)], [.ref B], me_w M (nt_u J2 B 15 (nI z2.1)))) rfl k
        obtain ⟨d1, o1, ed, kc, k⟩ := lz_c (g := 165) (q := 1) (vs := [.ref B]) (rest := []) rfl rfl (by decide) (Or.inr (Or.inl ⟨_, rfl, rfl⟩)) rfl k
        obtain ⟨r, e1, hin⟩ := mg_inside hP hO hT3 kc
        subst e1
        rcases hin with ⟨rfl, hin⟩ | ⟨rfl, hin⟩
        · have k : nt_rn X _ 158 (116, [(1, .int (Int32.ofInt 0)), (0, .ref B)], [.int (Int32.ofInt 1)], me_w M (nt_u J2 B 15 (nI z2.1))) _ := k
          have k := ly_revb 1 (c' := (if (Int32.ofInt 1) = 0 then 134 else 119, [(1, .int (Int32.ofInt 0)), (0, .ref B)], [], me_w M (nt_u J2 B 15 (nI z2.1)))) rfl k
          rw [if_neg (show ¬ ((Int32.ofInt 1) = 0) from by decide)] at k
          have k := ly_revb 1 (c' := (120, [(1, .int (Int32.ofInt 0)), (0, .ref B)], [.ref B], me_w M (nt_u J2 B 15 (nI z2.1)))) rfl k
          obtain ⟨d1, o1, ed, kc, k⟩ := lz_c (g := 136) (q := 1) (vs := [.ref B]) (rest := []) rfl rfl (by decide) (Or.inr (Or.inl ⟨_, rfl, rfl⟩)) rfl k
          have e1 := mg_see (mg_TP hP hO hT3) hT3.1 hp2 kc
          rw [hs2, me_uu] at e1
          subst e1
          have k : nt_rn X _ 158 (123, [(1, .int (Int32.ofInt 0)), (0, .ref B)], [.int (lb_g f t z2.1)], me_w M (nt_u J2 B 15 (nI z2.1))) _ := k
          have k := ly_revb 4 (c' := (127, [(1, .int (Int32.ofInt 0)), (0, .ref B)], [.ref B, .int (Int32.ofInt 0), .ref B], me_w M (nt_u J2 B 15 (nI z2.1)))) rfl k
          have k := lz_get (a := B) (g := 1115) (M := me_w M (nt_u J2 B 15 (nI z2.1))) (v := .int (nI z2.1)) rfl (congrArg Value.int (hT3.1.1)) k
          obtain ⟨d1, o1, ed, kc, k⟩ := lz_c (g := 139) (q := 1) (vs := [.ref B, .int (Int32.ofInt 0), .int (nI z2.1)]) (rest := []) rfl rfl (by decide) (Or.inr (Or.inl ⟨_, rfl, rfl⟩)) rfl k
          obtain ⟨hf, e1⟩ := (mg_fails (a := z2.1) (mg_TP hP hO hT3) hT3.1 hp2 kc).resolve_right (fun c => c.1 rfl)
          subst e1
          have hT9 := mg_Tup hP hO hT3 (mg_Sw (y := lb_c z2.1 (Int32.ofInt 0)) (mg_TP hP hO hT3) hT3.1)
          have k : nt_rn X _ 158 (133, [(1, .int (Int32.ofInt 0)), (0, .ref B)], [.int (Int32.ofInt 0)], me_w M (nt_u (nt_u J2 B 15 (nI z2.1)) B 16 (lb_c z2.1 (Int32.ofInt 0)))) _ := k
          have k := lz_ri rfl (by decide) k
          exact ⟨.inl (lb_c z2.1 (Int32.ofInt 0)), _, _, k, hr1 _ (hr2 _ ⟨1, Or.inr (Or.inr (Or.inl ⟨g16, g17, hin, rfl⟩))⟩), (lb_c_ne (by omega) (by decide) (by decide)), rfl, _, _, _, _, _, hT9, hp2⟩
        · have k : nt_rn X _ 158 (116, [(1, .int (Int32.ofInt 0)), (0, .ref B)], [.int (Int32.ofInt 0)], me_w M (nt_u J2 B 15 (nI z2.1))) _ := k
          have k := ly_revb 1 (c' := (if (Int32.ofInt 0) = 0 then 134 else 119, [(1, .int (Int32.ofInt 0)), (0, .ref B)], [], me_w M (nt_u J2 B 15 (nI z2.1)))) rfl k
          rw [if_pos (show (Int32.ofInt 0) = 0 from by decide)] at k
          have k := ly_revb 2 (c' := (136, [(1, .int (Int32.ofInt 0)), (0, .ref B)], [.int (Int32.ofInt 1), .ref B], me_w M (nt_u J2 B 15 (nI z2.1)))) rfl k
          obtain ⟨d1, o1, ed, kc, k⟩ := lz_c (g := 163) (q := 1) (vs := [.ref B, .int (Int32.ofInt 1)]) (rest := []) rfl rfl (by decide) (Or.inr (Or.inl ⟨_, rfl, rfl⟩)) rfl k
          obtain ⟨J5, e1, hT5⟩ := mg_settles (l := 1) hP hO (by decide) hp2 S2 dd2 z2.2.2 _ hT3 kc
          subst e1
          have s5 : (lb_st 1 S2 dd2 z2.2.2).2.1.length ≤ 400 := hT5.2.2.2.2.2
          have k : nt_rn X _ 158 (139, [(1, .int (Int32.ofInt 0)), (0, .ref B)], [], me_w M J5) _ := k
          have k := ly_revb 1 (c' := (140, [(1, .int (Int32.ofInt 0)), (0, .ref B)], [.int (Int32.ofInt 1)], me_w M J5)) rfl k
          have k := lz_ri rfl (by decide) k
          exact ⟨.inr (z2.1, z2.2.1, (lb_st 1 S2 dd2 z2.2.2).2.2), _, _, k, hr1 _ (hr2 _ ⟨1, Or.inr (Or.inr (Or.inr ⟨g16, g17, hin, rfl⟩))⟩), rfl, _, _, _, hs2, hp2, hT5⟩
