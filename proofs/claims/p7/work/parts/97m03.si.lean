/-! a rule, the other side, and what its rows hold -/
def mg_P0 (M : nt_M) (J : Nat → Nat → Int32) (f : Nat → Int32) (t B Tb Sg Ln : Nat) : Prop := (nt_R M B 0 = some Tb ∧ nt_R M B 3 = some Sg ∧ nt_R M B 4 = some Ln) ∧ (Tb ≠ B ∧ Tb ≠ Sg ∧ Tb ≠ Ln ∧ B ≠ Sg ∧ B ≠ Ln ∧ Sg ≠ Ln) ∧ J B 1 = nI t ∧ (∀ j, J Tb j = f j) ∧ t ≤ 400 ∧ nt_l M Sg = 2400 ∧ Sg ≠ nt_sp ∧ Ln ≠ nt_sp
theorem mg_rule {X : nt_X} {d t n B Tb Sg Ln Op Cl Cs : Nat} {f : Nat → Int32} {M : nt_M} {J : Nat → Nat → Int32} {o : Option Value × nt_M} (hP0 : mg_P0 M J f t B Tb Sg Ln) (hO : md_O M B Tb Sg Ln Op) (hK : md_K M B Tb Sg Ln Cl Cs) (hK2 : mg_K2 Op Cl Cs) (hB : lb_by f t) (hn : J B 2 = nI n) (h6 : n ≤ 6) (k : nt_ev X d 133 [.ref B] (me_w M J) o) : (n = 6 ∧ o = (some (.int (Int32.ofInt (-1))), me_w M J)) ∨ (n < 6 ∧ ∃ r J' cl' cc', mg_c3 f t n (lb_s f t 0, 0, ((0, fun _ => 0), (0, fun _ => 0))) r (J Cl) cl' cc' ∧ ((lb_rc r ≠ 0 ∧ o = (some (.int (Int32.ofInt (-2) - lb_rc r)), me_w M J') ∧ J' B 2 = nI n) ∨ (lb_rc r = 0 ∧ o = (some (.int (nI (n + 1) - Int32.ofInt 1)), me_w M J') ∧ J' B 2 = nI (n + 1))) ∧ J' B 1 = 0 ∧ (∀ a, a ≠ B → a ≠ Sg → a ≠ Ln → a ≠ Op → a ≠ Cl → a ≠ Cs → J' a = J a) ∧ ((∀ j, j < 400 * n → J' Sg j = J Sg j) ∧ (∀ j, j < 48 * n → J' Cl j = J Cl j) ∧ (∀ j, j ≠ n → J' Cs j = J Cs j) ∧ ∀ z, r = .inr z → (∀ j, j < z.2.2.2.1 → J' Sg (400 * n + j) = z.2.2.2.2 j) ∧ (∀ j, J' Cl j = cl' j) ∧ J' Cs n = nI cc' ∧ cc' ≤ 12)) := by
  have k : nt_rn X d 133 (0, [(0, .ref B)], [], me_w M J) o := k
  have k := ly_revb 1 (c' := (1, [(0, .ref B)], [.ref B], me_w M J)) rfl k
  have k := lz_get (a := B) (g := 1102) (M := me_w M J) (v := .int (nI n)) rfl (congrArg Value.int (hn)) k
  have k := ly_revb 2 (c' := (if (nI n) = (Int32.ofInt 6) then 9 else 11, [(0, .ref B)], [], me_w M J)) rfl k
  by_cases h6 : n = 6
  · rw [if_pos (show (nI n) = (Int32.ofInt 6) from show nI n = nI 6 from congrArg nI h6)] at k
    have k := ly_revb 1 (c' := (10, [(0, .ref B)], [.int (Int32.ofInt (-1))], me_w M J)) rfl k
    have k := lz_ri rfl (by decide) k
    exact Or.inl ⟨h6, k⟩
  · rw [if_neg (show ¬ ((nI n) = (Int32.ofInt 6)) from show ¬ nI n = nI 6 from me_ne h6 (by omega) (by omega))] at k
    have k := ly_revb 2 (c' := (13, [(0, .ref B)], [.ref B, .ref B], me_w M J)) rfl k
    have k := lz_get (a := B) (g := 1102) (M := me_w M J) (v := .int (nI n)) rfl (congrArg Value.int (hn)) k
    have k := me_put rfl (by decide) k
    have k : nt_rn X _ 133 (19, [(0, .ref B)], [], me_w M (nt_u J B 18 (nI n))) _ := k
    have k := ly_revb 1 (c' := (20, [(0, .ref B)], [.ref B], me_w M (nt_u J B 18 (nI n)))) rfl k
    have k := lz_get (a := B) (g := 1106) (M := me_w M (nt_u J B 18 (nI n))) (v := .ref Cs) rfl (nt_gfR rfl hK.2.1) k
    have k := ly_revb 1 (c' := (24, [(0, .ref B)], [.ref B, .ref Cs], me_w M (nt_u J B 18 (nI n)))) rfl k
    have k := lz_get (a := B) (g := 1118) (M := me_w M (nt_u J B 18 (nI n))) (v := .int (nI n)) rfl (congrArg Value.int (me_us)) k
    have k := ly_revb 1 (c' := (28, [(0, .ref B)], [.int (Int32.ofInt 0), .int (nI n), .ref Cs], me_w M (nt_u J B 18 (nI n)))) rfl k
    have k := me_iast (q := n) rfl (rfl) (by omega) k
    have k := ly_revb 1 (c' := (30, [(0, .ref B)], [.ref B], me_w M (nt_u (nt_u J B 18 (nI n)) Cs n (Int32.ofInt 0)))) rfl k
    obtain ⟨d1, o1, ed, kc, k⟩ := lz_c (g := 134) (q := 1) (vs := [.ref B]) (rest := []) rfl rfl (by decide) (Or.inr (Or.inl ⟨_, rfl, rfl⟩)) rfl k
    have hP : md_P M (nt_u (nt_u J B 18 (nI n)) Cs n (Int32.ofInt 0)) f t n B Tb Sg Ln := ⟨hP0.1, hP0.2.1, (me_uj (Ne.symm hK.2.2.2.1.1)).trans ((me_uk (by decide)).trans hP0.2.2.1), (me_uj (Ne.symm hK.2.2.2.1.1)).trans me_us, fun j => (me_uj (Ne.symm hK.2.2.2.1.2.1)).trans ((me_uj hP0.2.1.1).trans (hP0.2.2.2.1 j)), hP0.2.2.2.2.1, by omega, hP0.2.2.2.2.2⟩
    have eSg : (nt_u (nt_u J B 18 (nI n)) Cs n (Int32.ofInt 0)) Sg = J Sg := (me_uo (Ne.symm hK.2.2.2.1.2.2.1)).trans (me_uo (Ne.symm hP0.2.1.2.2.2.1))
    have eCl : (nt_u (nt_u J B 18 (nI n)) Cs n (Int32.ofInt 0)) Cl = J Cl := (me_uo hK2.2.2).trans (me_uo hK.2.2.1.1)
    have hG : (∀ j, j < 400 * n → (nt_u (nt_u J B 18 (nI n)) Cs n (Int32.ofInt 0)) Sg j = (fun j => if j < 10000 then J Sg j else if j < 20000 then J Cl (j - 10000) else J Cs (j - 20000)) j) ∧ (∀ j, j < 48 * n → (nt_u (nt_u J B 18 (nI n)) Cs n (Int32.ofInt 0)) Cl j = (fun j => if j < 10000 then J Sg j else if j < 20000 then J Cl (j - 10000) else J Cs (j - 20000)) (10000 + j)) ∧ (∀ j, j ≠ n → (nt_u (nt_u J B 18 (nI n)) Cs n (Int32.ofInt 0)) Cs j = (fun j => if j < 10000 then J Sg j else if j < 20000 then J Cl (j - 10000) else J Cs (j - 20000)) (20000 + j)) ∧ (nt_u (nt_u J B 18 (nI n)) Cs n (Int32.ofInt 0)) Cs n = nI 0 := by
      refine ⟨fun j hj => ?_, fun j hj => ?_, fun j hj => ?_, me_us⟩
      · rw [eSg]
        exact (if_pos (by omega)).symm
      · rw [eCl]
        refine Eq.symm ((if_neg (by omega)).trans ((if_pos (by omega)).trans ?_))
        rw [show 10000 + j - 10000 = j from by omega]
      · rw [me_uk hj, me_uo hK.2.2.2.1.1]
        refine Eq.symm ((if_neg (by omega)).trans ((if_neg (by omega)).trans ?_))
        rw [show 20000 + j - 20000 = j from by omega]
    obtain ⟨r, a, J', cl', cc', e1, hr, ha, w16, w1, w2, w18, fr, qv, wv, mv, ev, lv, clv, ccv, Jv, hV, hJv, hz⟩ := mg_reads (G := (fun j => if j < 10000 then J Sg j else if j < 20000 then J Cl (j - 10000) else J Cs (j - 20000))) hP hO hK hK2 hB (by omega) hG ⟨fun _ _ _ _ _ _ _ _ => rfl, fun _ _ _ _ _ _ _ => rfl⟩ kc
    subst e1
    rw [eCl] at hr
    have hX : ((∀ j, j < 400 * n → J' Sg j = J Sg j) ∧ (∀ j, j < 48 * n → J' Cl j = J Cl j) ∧ (∀ j, j ≠ n → J' Cs j = J Cs j) ∧ ∀ z, r = .inr z → (∀ j, j < z.2.2.2.1 → J' Sg (400 * n + j) = z.2.2.2.2 j) ∧ (∀ j, J' Cl j = cl' j) ∧ J' Cs n = nI cc' ∧ cc' ≤ 12) := by
      obtain ⟨⟨_, _, _, _, a5, _, _, a8, _⟩, _, _, _, u1, u2, u3, u4, u5⟩ := hV
      have jS : J' Sg = Jv Sg := hJv Sg (Ne.symm hP0.2.1.2.2.2.1)
      have jC : J' Cl = Jv Cl := hJv Cl hK.2.2.1.1
      have jD : J' Cs = Jv Cs := hJv Cs hK.2.2.2.1.1
      rw [jS, jC, jD]
      refine ⟨fun j hj => ?_, fun j hj => ?_, fun j hj => ?_, fun z e => ?_⟩
      · have q := a5 (2400 + j) (Or.inr ⟨by omega, by omega⟩)
        rw [show mg_a n (2400 + j) = j from (if_neg (by omega)).trans (by omega)] at q
        rw [q]
        refine (if_neg (by omega)).trans ?_
        rw [show 2400 + j - 2400 = j from by omega]
        exact if_pos (by omega)
      · rw [u1 j, u3 j hj]
        refine (if_neg (by omega)).trans ((if_pos (by omega)).trans ?_)
        rw [show 10000 + j - 10000 = j from by omega]
      · rw [u4 j hj]
        refine (if_neg (by omega)).trans ((if_neg (by omega)).trans ?_)
        rw [show 20000 + j - 20000 = j from by omega]
      · obtain ⟨e1, e2, e3⟩ := hz z e
        subst e1
        subst e2
        subst e3
        refine ⟨fun j hj => ?_, u1, u2, u5⟩
        have q := a5 j (Or.inl hj)
        rw [show mg_a n j = 400 * n + j from if_pos (by omega)] at q
        rw [q]
        exact if_pos (by omega)
    have w2 : J' B 2 = nI n := w2.trans ((me_uj (Ne.symm hK.2.2.2.1.1)).trans ((me_uk (by decide)).trans hn))
    have fr : ∀ a, a ≠ B → a ≠ Sg → a ≠ Ln → a ≠ Op → a ≠ Cl → a ≠ Cs → J' a = J a := fun a q1 q2 q3 q4 q5 q6 => (fr a q1 q2 q3 q4 q5 q6).trans ((me_uo q6).trans (me_uo q1))
    rcases ha with ⟨rfl, ha⟩ | ⟨rfl, ha⟩
    · have k : nt_rn X _ 133 (33, [(0, .ref B)], [.int (Int32.ofInt 1)], me_w M (J')) _ := k
      have k := ly_revb 1 (c' := (if (Int32.ofInt 1) = 0 then 36 else 44, [(0, .ref B)], [], me_w M (J'))) rfl k
      rw [if_neg (show ¬ ((Int32.ofInt 1) = 0) from by decide)] at k
      have k := ly_revb 2 (c' := (46, [(0, .ref B)], [.ref B, .ref B], me_w M (J'))) rfl k
      have k := lz_get (a := B) (g := 1102) (M := me_w M (J')) (v := .int (nI n)) rfl (congrArg Value.int (w2)) k
      have k := ly_revb 2 (c' := (51, [(0, .ref B)], [.int ((nI n) + (Int32.ofInt 1)), .ref B], me_w M (J'))) rfl k
      rw [show ((nI n) + (Int32.ofInt 1) : Int32) = nI (n + 1) from me_add (k := 1)] at k
      have k := me_put rfl (by decide) k
      have k : nt_rn X _ 133 (54, [(0, .ref B)], [], me_w M (nt_u (J') B 2 (nI (n + 1)))) _ := k
      have k := ly_revb 1 (c' := (55, [(0, .ref B)], [.ref B], me_w M (nt_u (J') B 2 (nI (n + 1))))) rfl k
      have k := lz_get (a := B) (g := 1102) (M := me_w M (nt_u (J') B 2 (nI (n + 1)))) (v := .int (nI (n + 1))) rfl (congrArg Value.int (me_us)) k
      have k := ly_revb 2 (c' := (60, [(0, .ref B)], [.int ((nI (n + 1)) - (Int32.ofInt 1))], me_w M (nt_u (J') B 2 (nI (n + 1))))) rfl k
      have k := lz_ri rfl (by decide) k
      refine Or.inr ⟨by omega, r, _, cl', cc', hr, Or.inr ⟨ha, k, me_us⟩, (me_uk (by decide)).trans w1, fun a q1 q2 q3 q4 q5 q6 => (me_uo q1).trans (fr a q1 q2 q3 q4 q5 q6), ?_⟩
      rw [me_uo (Ne.symm hP0.2.1.2.2.2.1), me_uo hK.2.2.1.1, me_uo hK.2.2.2.1.1]
      exact hX
    · have k : nt_rn X _ 133 (33, [(0, .ref B)], [.int (Int32.ofInt 0)], me_w M (J')) _ := k
      have k := ly_revb 1 (c' := (if (Int32.ofInt 0) = 0 then 36 else 44, [(0, .ref B)], [], me_w M (J'))) rfl k
      rw [if_pos (show (Int32.ofInt 0) = 0 from by decide)] at k
      have k := ly_revb 2 (c' := (39, [(0, .ref B)], [.ref B, .int (Int32.ofInt (-2))], me_w M (J'))) rfl k
      have k := lz_get (a := B) (g := 1116) (M := me_w M (J')) (v := .int (lb_rc r)) rfl (congrArg Value.int (w16)) k
      have k := ly_revb 1 (c' := (43, [(0, .ref B)], [.int ((Int32.ofInt (-2)) - (lb_rc r))], me_w M (J'))) rfl k
      have k := lz_ri rfl (by decide) k
      exact Or.inr ⟨by omega, r, J', cl', cc', hr, Or.inl ⟨ha, k, w2⟩, w1, fr, hX⟩
