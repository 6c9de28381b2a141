/-! comparisons, told purely; sums and comparisons -/
def lb_nx (f : Nat → Int32) (t p : Nat) : Prop := p + 1 < t ∧ f (p + 1) = Int32.ofInt 61
/-- what sign of a fact stands at p -/
def lb_cm (f : Nat → Int32) (t p : Nat) (x : Int32) : Prop :=
  (lb_g f t p = Int32.ofInt 60 ∧ lb_nx f t p ∧ x = Int32.ofInt 15) ∨ (lb_g f t p = Int32.ofInt 60 ∧ ¬ lb_nx f t p ∧ x = Int32.ofInt 14) ∨ (lb_g f t p = Int32.ofInt 61 ∧ x = Int32.ofInt 16) ∨ (lb_g f t p = Int32.ofInt 62 ∧ lb_nx f t p ∧ x = Int32.ofInt 17) ∨ (lb_g f t p = Int32.ofInt 62 ∧ ¬ lb_nx f t p ∧ x = Int32.ofInt 18) ∨ ((lb_g f t p ≠ Int32.ofInt 60 ∧ lb_g f t p ≠ Int32.ofInt 61 ∧ lb_g f t p ≠ Int32.ofInt 62) ∧ x = Int32.ofInt (-1))
theorem lc_readSum {X : nt_X} {d t Rd Tp By RR Sp : Nat} {f : Nat → Int32} {M : nt_M} {J0 J : Nat → Nat → Int32} {o : Option Value × nt_M} {p m : Nat} {e : lb_E}  (hP : lc_P M J0 f t Rd Tp By RR Sp) (hS : lc_S J0 Rd RR Sp p 0 m e.1 J) (hp : p ≤ t) (k : nt_ev X d 49 [.ref RR] (me_w M J) o) : ∃ r J', o = (none, me_w M J') ∧ lb_sum f t (p, m, e) r ∧ lc_Q J0 Rd RR Sp t r J' := by
  have k : nt_rn X d 49 (0, [(0, .ref RR)], [], me_w M J) o := k
  have t4 : t ≤ 400 := hP.2.2.2.2.1
  have m6 : m ≤ 60 := hS.2.2.2.2.2.2.2
  have k := ly_revb 3 (c' := (3, [(1, .int (Int32.ofInt (-1))), (0, .ref RR)], [.ref RR], me_w M J)) rfl k
  obtain ⟨d1, o1, ed, kc, k⟩ := lz_c (g := 50) (q := 1) (vs := [.ref RR]) (rest := []) rfl rfl (by decide) (Or.inr (Or.inl ⟨_, rfl, rfl⟩)) rfl k
  obtain ⟨r1, J8, e1, hv, hq⟩ := lc_readValue (e := e) hP hS hp kc
  subst e1
  cases r1 with
  | inl c =>
    obtain ⟨hfa, m8, s8, hS8⟩ := hq
    have k : nt_rn X _ 49 (6, [(1, .int (Int32.ofInt (-1))), (0, .ref RR)], [], me_w M J8) _ := k
    have k := ly_revb 2 (c' := (8, [(2, .int (Int32.ofInt 1)), (1, .int (Int32.ofInt (-1))), (0, .ref RR)], [], me_w M J8)) rfl k
    have k := ly_revb 3 (c' := (if (Int32.ofInt 400) ≤ (Int32.ofInt 1) then 91 else 15, [(2, .int (Int32.ofInt 1)), (1, .int (Int32.ofInt (-1))), (0, .ref RR)], [], me_w M J8)) rfl k
    rw [if_neg (show ¬ ((Int32.ofInt 400) ≤ (Int32.ofInt 1)) from show ¬ nI 400 ≤ nI 1 from nI_ge (by omega) (by omega))] at k
    have k := ly_revb 1 (c' := (16, [(2, .int (Int32.ofInt 1)), (1, .int (Int32.ofInt (-1))), (0, .ref RR)], [.ref RR], me_w M J8)) rfl k
    obtain ⟨d1, o1, ed, kc, k⟩ := lz_c (g := 56) (q := 1) (vs := [.ref RR]) (rest := []) rfl rfl (by decide) (Or.inr (Or.inl ⟨_, rfl, rfl⟩)) rfl k
    have e1 := lc_opAt hP hS8 (Nat.le_refl t) kc
    subst e1
    have hop := lb_op_in (lb_g f t t)
    have k : nt_rn X _ 49 (19, [(2, .int (Int32.ofInt 1)), (1, .int (Int32.ofInt (-1))), (0, .ref RR)], [.int (lb_op (lb_g f t t))], me_w M J8) _ := k
    have he : lb_op (lb_g f t t) = Int32.ofInt (-1) := by
      unfold lb_g
      rw [if_neg (by omega)]
      decide
    have k := ly_revb 4 (c' := (if (lb_op (lb_g f t t)) = (Int32.ofInt (-1)) then 25 else 28, [(3, .int (lb_op (lb_g f t t))), (2, .int (Int32.ofInt 1)), (1, .int (Int32.ofInt (-1))), (0, .ref RR)], [], me_w M J8)) rfl k
    rw [if_pos (show (lb_op (lb_g f t t)) = (Int32.ofInt (-1)) from he)] at k
    have k := ly_revb 3 (c' := (93, [(3, .int (lb_op (lb_g f t t))), (2, .int (Int32.ofInt 1)), (1, .int (Int32.ofInt (-1))), (0, .ref RR)], [.int (Int32.ofInt (-1)), .ref RR], me_w M J8)) rfl k
    obtain ⟨d1, o1, ed, kc, k⟩ := lz_c (g := 57) (q := 1) (vs := [.ref RR, .int (Int32.ofInt (-1))]) (rest := []) rfl rfl (by decide) (Or.inr (Or.inl ⟨_, rfl, rfl⟩)) rfl k
    obtain ⟨J1, e1, hS1⟩ := lc_addn hP hS8 (Nat.le_refl t) kc
    subst e1
    have k : nt_rn X _ 49 (96, [(3, .int (lb_op (lb_g f t t))), (2, .int (Int32.ofInt 1)), (1, .int (Int32.ofInt (-1))), (0, .ref RR)], [], me_w M J1) _ := k
    have k := lz_rv rfl rfl k
    exact ⟨.inl c, _, k, ⟨_, hv, Or.inl ⟨c, rfl, rfl⟩⟩, hfa, _, _, hS1⟩
  | inr z1 =>
    obtain ⟨hS9, hp9⟩ := hq
    have hup := lb_val_up hp hv
    have k : nt_rn X _ 49 (6, [(1, .int (Int32.ofInt (-1))), (0, .ref RR)], [], me_w M J8) _ := k
    have k := ly_revb 2 (c' := (8, [(2, .int (Int32.ofInt 1)), (1, .int (Int32.ofInt (-1))), (0, .ref RR)], [], me_w M J8)) rfl k
    dsimp only at hup
    obtain ⟨k1, r, J7, e2, hsr, hq⟩ := lc_sml hP (t - z1.1) 1 (Int32.ofInt (-1)) z1 _ _ rfl hp9 (by omega) (Or.inl rfl) hS9 k
    exact ⟨r, J7, e2, ⟨_, hv, Or.inr ⟨z1, k1, rfl, hsr⟩⟩, hq⟩
theorem lc_cmpAt {X : nt_X} {d t Rd Tp By RR Sp : Nat} {f : Nat → Int32} {M : nt_M} {J0 J : Nat → Nat → Int32} {o : Option Value × nt_M} {p m : Nat} {fa : Int32} {s : Nat × (Nat → Int32)} (hP : lc_P M J0 f t Rd Tp By RR Sp) (hS : lc_S J0 Rd RR Sp p fa m s J) (hp : p ≤ t) (k : nt_ev X d 61 [.ref RR] (me_w M J) o) : ∃ x, o = (some (.int x), me_w M J) ∧ lb_cm f t p x := by
  have k : nt_rn X d 61 (0, [(0, .ref RR)], [], me_w M J) o := k
  have t4 : t ≤ 400 := hP.2.2.2.2.1
  have k := ly_revb 1 (c' := (1, [(0, .ref RR)], [.ref RR], me_w M J)) rfl k
  have k := lz_get (a := RR) (g := 500) (M := me_w M J) (v := .ref Rd) rfl (nt_gfR rfl hP.1.2.2.1) k
  obtain ⟨d1, o1, ed, kc, k⟩ := lz_c (g := 37) (q := 1) (vs := [.ref Rd]) (rest := []) rfl rfl (by decide) (Or.inr (Or.inl ⟨_, rfl, rfl⟩)) rfl k
  have e1 := lc_sign hP hS hp kc
  subst e1
  have k : nt_rn X _ 61 (7, [(0, .ref RR)], [.int (lb_g f t p)], me_w M J) _ := k
  by_cases h60 : lb_g f t p = Int32.ofInt 60
  · rw [h60] at k
    have k := ly_revb 1 (c' := (32, [(0, .ref RR)], [], me_w M J)) rfl k
    have k := ly_revb 1 (c' := (33, [(0, .ref RR)], [.ref RR], me_w M J)) rfl k
    have k := lz_get (a := RR) (g := 500) (M := me_w M J) (v := .ref Rd) rfl (nt_gfR rfl hP.1.2.2.1) k
    have k := ly_revb 1 (c' := (38, [(0, .ref RR)], [.int (Int32.ofInt 61), .ref Rd], me_w M J)) rfl k
    obtain ⟨d1, o1, ed, kc, k⟩ := lz_c (g := 39) (q := 1) (vs := [.ref Rd, .int (Int32.ofInt 61)]) (rest := []) rfl rfl (by decide) (Or.inr (Or.inl ⟨_, rfl, rfl⟩)) rfl k
    obtain ⟨r, e1, hr⟩ := lc_isNext hP hS hp kc
    subst e1
    rcases hr with ⟨rfl, hr⟩ | ⟨rfl, hr⟩
    · have k : nt_rn X _ 61 (41, [(0, .ref RR)], [.int (Int32.ofInt 1)], me_w M J) _ := k
      have k := ly_revb 1 (c' := (if (Int32.ofInt 1) = 0 then 49 else 44, [(0, .ref RR)], [], me_w M J)) rfl k
      rw [if_neg (show ¬ ((Int32.ofInt 1) = 0) from by decide)] at k
      have k := ly_revb 2 (c' := (51, [(0, .ref RR)], [.int (Int32.ofInt 15)], me_w M J)) rfl k
      have k := lz_ri rfl (by decide) k
      exact ⟨_, k, Or.inl ⟨h60, hr, rfl⟩⟩
    · have k : nt_rn X _ 61 (41, [(0, .ref RR)], [.int (Int32.ofInt 0)], me_w M J) _ := k
      have k := ly_revb 1 (c' := (if (Int32.ofInt 0) = 0 then 49 else 44, [(0, .ref RR)], [], me_w M J)) rfl k
      rw [if_pos (show (Int32.ofInt 0) = 0 from by decide)] at k
      have k := ly_revb 1 (c' := (51, [(0, .ref RR)], [.int (Int32.ofInt 14)], me_w M J)) rfl k
      have k := lz_ri rfl (by decide) k
      exact ⟨_, k, Or.inr (Or.inl ⟨h60, hr, rfl⟩)⟩
  by_cases h61 : lb_g f t p = Int32.ofInt 61
  · rw [h61] at k
    have k := ly_revb 1 (c' := (52, [(0, .ref RR)], [], me_w M J)) rfl k
    have k := ly_revb 1 (c' := (54, [(0, .ref RR)], [.int (Int32.ofInt 16)], me_w M J)) rfl k
    have k := lz_ri rfl (by decide) k
    exact ⟨_, k, Or.inr (Or.inr (Or.inl ⟨h61, rfl⟩))⟩
  by_cases h62 : lb_g f t p = Int32.ofInt 62
  · rw [h62] at k
    have k := ly_revb 1 (c' := (55, [(0, .ref RR)], [], me_w M J)) rfl k
    have k := ly_revb 1 (c' := (56, [(0, .ref RR)], [.ref RR], me_w M J)) rfl k
    have k := lz_get (a := RR) (g := 500) (M := me_w M J) (v := .ref Rd) rfl (nt_gfR rfl hP.1.2.2.1) k
    have k := ly_revb 1 (c' := (61, [(0, .ref RR)], [.int (Int32.ofInt 61), .ref Rd], me_w M J)) rfl k
    obtain ⟨d1, o1, ed, kc, k⟩ := lz_c (g := 39) (q := 1) (vs := [.ref Rd, .int (Int32.ofInt 61)]) (rest := []) rfl rfl (by decide) (Or.inr (Or.inl ⟨_, rfl, rfl⟩)) rfl k
    obtain ⟨r, e1, hr⟩ := lc_isNext hP hS hp kc
    subst e1
    rcases hr with ⟨rfl, hr⟩ | ⟨rfl, hr⟩
    · have k : nt_rn X _ 61 (64, [(0, .ref RR)], [.int (Int32.ofInt 1)], me_w M J) _ := k
      have k := ly_revb 1 (c' := (if (Int32.ofInt 1) = 0 then 72 else 67, [(0, .ref RR)], [], me_w M J)) rfl k
      rw [if_neg (show ¬ ((Int32.ofInt 1) = 0) from by decide)] at k
      have k := ly_revb 2 (c' := (74, [(0, .ref RR)], [.int (Int32.ofInt 17)], me_w M J)) rfl k
      have k := lz_ri rfl (by decide) k
      exact ⟨_, k, Or.inr (Or.inr (Or.inr (Or.inl ⟨h62, hr, rfl⟩)))⟩
    · have k : nt_rn X _ 61 (64, [(0, .ref RR)], [.int (Int32.ofInt 0)], me_w M J) _ := k
      have k := ly_revb 1 (c' := (if (Int32.ofInt 0) = 0 then 72 else 67, [(0, .ref RR)], [], me_w M J)) rfl k
      rw [if_pos (show (Int32.ofInt 0) = 0 from by decide)] at k
      have k := ly_revb 1 (c' := (74, [(0, .ref RR)], [.int (Int32.ofInt 18)], me_w M J)) rfl k
      have k := lz_ri rfl (by decide) k
      exact ⟨_, k, Or.inr (Or.inr (Or.inr (Or.inr (Or.inl ⟨h62, hr, rfl⟩))))⟩
  have hx : (lb_g f t p).toInt < 60 ∨ 62 < (lb_g f t p).toInt := by
    by_cases c : (lb_g f t p).toInt < 60 ∨ 62 < (lb_g f t p).toInt
    · exact c
    · exfalso
      rcases (by omega : (lb_g f t p).toInt = 60 ∨ (lb_g f t p).toInt = 61 ∨ (lb_g f t p).toInt = 62) with h | h | h
      · exact h60 (me_eqi (by decide) h)
      · exact h61 (me_eqi (by decide) h)
      · exact h62 (me_eqi (by decide) h)
  have k := me_ts (mi := 61) (pc := 7) (dflt := 68) (lo := 60) (hi := 62) (offs := #[25, 45, 48]) (c' := (75, [(0, .ref RR)], [], me_w M J)) rfl hx rfl k
  have k := ly_revb 1 (c' := (76, [(0, .ref RR)], [.int (Int32.ofInt (-1))], me_w M J)) rfl k
  have k := lz_ri rfl (by decide) k
  exact ⟨_, k, Or.inr (Or.inr (Or.inr (Or.inr (Or.inr ⟨⟨h60, h61, h62⟩, rfl⟩))))⟩
