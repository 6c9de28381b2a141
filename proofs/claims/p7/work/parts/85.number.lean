/-! a number here -/
theorem lb_d_dig {f : Nat → Int32} {t p n : Nat} (h : lb_d f t p = n + 1) : lb_dig f t p ∧ lb_d f t (p + 1) = n := by
  by_cases c : lb_dig f t p
  · rw [lb_d1 c] at h
    exact ⟨c, by omega⟩
  · rw [lb_d0 c] at h
    omega
theorem md_nhl {X : nt_X} {d t x B Tb Sg Ln m p D : Nat} {f : Nat → Int32} {M : nt_M} {J0 : Nat → Nat → Int32} {o : Option Value × nt_M} {wr lo hi : Int32} {e : Nat × (Nat → Int32)} (hP : md_P M J0 f t x B Tb Sg Ln) (hD : p + D ≤ t) : ∀ (c n : Nat) (J : Nat → Nat → Int32), lb_d f t (p + n) = c → n + c = D → md_S J0 B Sg Ln x (p + n) wr m e J → nt_rn X d 143 (34, [(4, .int (lb_v f p (min n 5))), (3, .int (nI p)), (0, .ref B), (1, .int lo), (2, .int hi)], [], me_w M J) o → nt_rn X d 143 (88, [(4, .int (lb_v f p (min D 5))), (3, .int (nI p)), (0, .ref B), (1, .int lo), (2, .int hi)], [], me_w M (nt_u J B 15 (nI (p + D)))) o := by
  have t4 : t ≤ 400 := hP.2.2.2.2.2.1
  intro c
  induction c with
  | zero =>
    intro n J hc hn hS k
    have hn : n = D := by omega
    subst hn
    have k := ly_revb 2 (c' := (36, [(4, .int (lb_v f p (min n 5))), (3, .int (nI p)), (0, .ref B), (1, .int (lo)), (2, .int (hi))], [.ref B, .ref B], me_w M J)) rfl k
    have k := lz_get (a := B) (g := 1115) (M := me_w M J) (v := .int (nI (p + n))) rfl (congrArg Value.int (hS.1)) k
    obtain ⟨d1, o1, ed, kc, k⟩ := lz_c (g := 144) (q := 1) (vs := [.ref B, .int (nI (p + n))]) (rest := []) rfl rfl (by decide) (Or.inr (Or.inl ⟨_, rfl, rfl⟩)) rfl k
    obtain ⟨r, e1, hr⟩ := md_isDigit hP hS (by omega) (by omega) kc
    subst e1
    rcases hr with ⟨rfl, hr⟩ | ⟨rfl, hr⟩
    · have k : nt_rn X _ 143 (42, [(4, .int (lb_v f p (min n 5))), (3, .int (nI p)), (0, .ref B), (1, .int (lo)), (2, .int (hi))], [.int (Int32.ofInt 1)], me_w M J) _ := k
      rw [lb_d1 hr] at hc
      omega
    · have k : nt_rn X _ 143 (42, [(4, .int (lb_v f p (min n 5))), (3, .int (nI p)), (0, .ref B), (1, .int (lo)), (2, .int (hi))], [.int (Int32.ofInt 0)], me_w M J) _ := k
      have k := ly_revb 1 (c' := (if (Int32.ofInt 0) = 0 then 88 else 45, [(4, .int (lb_v f p (min n 5))), (3, .int (nI p)), (0, .ref B), (1, .int (lo)), (2, .int (hi))], [], me_w M J)) rfl k
      rw [if_pos (show (Int32.ofInt 0) = 0 from by decide)] at k
      rw [me_ui hS.1]
      exact k
  | succ c ih =>
    intro n J hc hn hS k
    obtain ⟨hdg, hc1⟩ := lb_d_dig hc
    have k := ly_revb 2 (c' := (36, [(4, .int (lb_v f p (min n 5))), (3, .int (nI p)), (0, .ref B), (1, .int (lo)), (2, .int (hi))], [.ref B, .ref B], me_w M J)) rfl k
    have k := lz_get (a := B) (g := 1115) (M := me_w M J) (v := .int (nI (p + n))) rfl (congrArg Value.int (hS.1)) k
    obtain ⟨d1, o1, ed, kc, k⟩ := lz_c (g := 144) (q := 1) (vs := [.ref B, .int (nI (p + n))]) (rest := []) rfl rfl (by decide) (Or.inr (Or.inl ⟨_, rfl, rfl⟩)) rfl k
    obtain ⟨r, e1, hr⟩ := md_isDigit hP hS (by omega) (by omega) kc
    subst e1
    rcases hr with ⟨rfl, hr⟩ | ⟨rfl, hr⟩
    · have k : nt_rn X _ 143 (42, [(4, .int (lb_v f p (min n 5))), (3, .int (nI p)), (0, .ref B), (1, .int (lo)), (2, .int (hi))], [.int (Int32.ofInt 1)], me_w M J) _ := k
      have k := ly_revb 1 (c' := (if (Int32.ofInt 1) = 0 then 88 else 45, [(4, .int (lb_v f p (min n 5))), (3, .int (nI p)), (0, .ref B), (1, .int (lo)), (2, .int (hi))], [], me_w M J)) rfl k
      rw [if_neg (show ¬ ((Int32.ofInt 1) = 0) from by decide)] at k
      have k := ly_revb 1 (c' := (46, [(4, .int (lb_v f p (min n 5))), (3, .int (nI p)), (0, .ref B), (1, .int (lo)), (2, .int (hi))], [.ref B], me_w M J)) rfl k
      have k := lz_get (a := B) (g := 1115) (M := me_w M J) (v := .int (nI (p + n))) rfl (congrArg Value.int (hS.1)) k
      have k := ly_revb 2 (c' := (51, [(4, .int (lb_v f p (min n 5))), (3, .int (nI p)), (0, .ref B), (1, .int (lo)), (2, .int (hi))], [.int ((nI (p + n)) - (nI p))], me_w M J)) rfl k
      rw [show ((nI (p + n)) - (nI p) : Int32) = nI n from (me_subn (by omega)).trans (congrArg nI (by omega))] at k
      have k := ly_revb 2 (c' := (if (Int32.ofInt 5) ≤ (nI n) then 75 else 55, [(4, .int (lb_v f p (min n 5))), (3, .int (nI p)), (0, .ref B), (1, .int (lo)), (2, .int (hi))], [], me_w M J)) rfl k
      by_cases h52 : 5 ≤ n
      · rw [if_pos (show (Int32.ofInt 5) ≤ (nI n) from show nI 5 ≤ nI n from nI_le h52 (by omega))] at k
        have k := ly_revb 2 (c' := (77, [(4, .int (lb_v f p (min n 5))), (3, .int (nI p)), (0, .ref B), (1, .int (lo)), (2, .int (hi))], [.ref B, .ref B], me_w M J)) rfl k
        have k := lz_get (a := B) (g := 1115) (M := me_w M J) (v := .int (nI (p + n))) rfl (congrArg Value.int (hS.1)) k
        have k := ly_revb 2 (c' := (82, [(4, .int (lb_v f p (min n 5))), (3, .int (nI p)), (0, .ref B), (1, .int (lo)), (2, .int (hi))], [.int ((nI (p + n)) + (Int32.ofInt 1)), .ref B], me_w M J)) rfl k
        rw [show ((nI (p + n)) + (Int32.ofInt 1) : Int32) = nI (p + (n + 1)) from me_add (k := 1)] at k
        have k := me_put rfl (by decide) k
        have k : nt_rn X _ 143 (85, [(4, .int (lb_v f p (min n 5))), (3, .int (nI p)), (0, .ref B), (1, .int (lo)), (2, .int (hi))], [], me_w M (nt_u J B 15 (nI (p + (n + 1))))) _ := k
        have k := ly_revb 1 (c' := (34, [(4, .int (lb_v f p (min n 5))), (3, .int (nI p)), (0, .ref B), (1, .int (lo)), (2, .int (hi))], [], me_w M (nt_u J B 15 (nI (p + (n + 1)))))) rfl k
        have ev : lb_v f p (min n 5) = lb_v f p (min (n + 1) 5) := by rw [show min n 5 = 5 from by omega, show min (n + 1) 5 = 5 from by omega]
        rw [ev] at k
        have k := ih (n + 1) _ hc1 (by omega) (md_Sq (y := p + (n + 1)) hP hS) k
        rw [me_uu] at k
        exact k
      · rw [if_neg (show ¬ ((Int32.ofInt 5) ≤ (nI n)) from show ¬ nI 5 ≤ nI n from nI_ge (Nat.not_le.mp h52) (by omega))] at k
        have k := ly_revb 4 (c' := (61, [(4, .int (lb_v f p (min n 5))), (3, .int (nI p)), (0, .ref B), (1, .int (lo)), (2, .int (hi))], [.ref B, .int ((Int32.ofInt 10) * (lb_v f p (min n 5)))], me_w M J)) rfl k
        have k := lz_get (a := B) (g := 1100) (M := me_w M J) (v := .ref Tb) rfl (nt_gfR rfl hP.1.1) k
        have k := ly_revb 1 (c' := (65, [(4, .int (lb_v f p (min n 5))), (3, .int (nI p)), (0, .ref B), (1, .int (lo)), (2, .int (hi))], [.ref B, .ref Tb, .int ((Int32.ofInt 10) * (lb_v f p (min n 5)))], me_w M J)) rfl k
        have k := lz_get (a := B) (g := 1115) (M := me_w M J) (v := .int (nI (p + n))) rfl (congrArg Value.int (hS.1)) k
        have k := me_bald (q := (p + n)) (v := f ((p + n))) rfl (rfl) (by omega) (md_f hP hS ((p + n))) k
        have k := ly_revb 6 (c' := (77, [(4, .int ((((Int32.ofInt 10) * (lb_v f p (min n 5))) + (f ((p + n)))) - (Int32.ofInt 48))), (3, .int (nI p)), (0, .ref B), (1, .int (lo)), (2, .int (hi))], [.ref B, .ref B], me_w M J)) rfl k
        have k := lz_get (a := B) (g := 1115) (M := me_w M J) (v := .int (nI (p + n))) rfl (congrArg Value.int (hS.1)) k
        have k := ly_revb 2 (c' := (82, [(4, .int ((((Int32.ofInt 10) * (lb_v f p (min n 5))) + (f ((p + n)))) - (Int32.ofInt 48))), (3, .int (nI p)), (0, .ref B), (1, .int (lo)), (2, .int (hi))], [.int ((nI (p + n)) + (Int32.ofInt 1)), .ref B], me_w M J)) rfl k
        rw [show ((nI (p + n)) + (Int32.ofInt 1) : Int32) = nI (p + (n + 1)) from me_add (k := 1)] at k
        have k := me_put rfl (by decide) k
        have k : nt_rn X _ 143 (85, [(4, .int ((((Int32.ofInt 10) * (lb_v f p (min n 5))) + (f ((p + n)))) - (Int32.ofInt 48))), (3, .int (nI p)), (0, .ref B), (1, .int (lo)), (2, .int (hi))], [], me_w M (nt_u J B 15 (nI (p + (n + 1))))) _ := k
        have k := ly_revb 1 (c' := (34, [(4, .int ((((Int32.ofInt 10) * (lb_v f p (min n 5))) + (f ((p + n)))) - (Int32.ofInt 48))), (3, .int (nI p)), (0, .ref B), (1, .int (lo)), (2, .int (hi))], [], me_w M (nt_u J B 15 (nI (p + (n + 1)))))) rfl k
        have ev : (((Int32.ofInt 10) * (lb_v f p (min n 5))) + (f ((p + n)))) - (Int32.ofInt 48) = lb_v f p (min (n + 1) 5) := by
          rw [show min n 5 = n from by omega, show min (n + 1) 5 = n + 1 from by omega, Int32.mul_comm]
          rfl
        rw [ev] at k
        have k := ih (n + 1) _ hc1 (by omega) (md_Sq (y := p + (n + 1)) hP hS) k
        rw [me_uu] at k
        exact k
    · have k : nt_rn X _ 143 (42, [(4, .int (lb_v f p (min n 5))), (3, .int (nI p)), (0, .ref B), (1, .int (lo)), (2, .int (hi))], [.int (Int32.ofInt 0)], me_w M J) _ := k
      exact absurd hdg hr
