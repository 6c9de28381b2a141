/-! a rule's clauses, told purely, and read -/
def lb_if (f : Nat → Int32) (t : Nat) (z : lb_Z) (r : lb_Y) : Prop := (lb_at f t (lb_W (nt_sp + 1 + 14)) z.1 ∧ ∃ k r1 r2, lb_ft f t k true 0 false (lb_s f t (z.1 + (lb_W (nt_sp + 1 + 14)).length), z.2.1, z.2.2) r1 ∧ lb_th r1 r2 (fun z1 => lb_ft f t k false 0 false z1 r2) ∧ lb_th r2 r (fun z2 => r = .inr (z2.1, z2.2.1, (lb_e z2.2.2.1 (Int32.ofInt 23), z2.2.2.2)))) ∨ (¬ lb_at f t (lb_W (nt_sp + 1 + 14)) z.1 ∧ r = .inr (z.1, z.2.1, (lb_e z.2.2.1 (Int32.ofInt 22), z.2.2.2)))
def lb_cs (f : Nat → Int32) (t : Nat) : Nat → Nat → lb_Z → lb_Y → Prop
  | 0, _, _, _ => False
  | k + 1, i, z, r =>
    (¬ lb_at f t (lb_W (nt_sp + 1 + 5)) z.1 ∧ r = .inl (lb_c z.1 (Int32.ofInt 0))) ∨
    (lb_at f t (lb_W (nt_sp + 1 + 5)) z.1 ∧ i = 12 ∧ r = .inl (lb_c z.1 (Int32.ofInt 4))) ∨
    (lb_at f t (lb_W (nt_sp + 1 + 5)) z.1 ∧ i < 12 ∧ ∃ r1, lb_sum f t (lb_s f t (z.1 + (lb_W (nt_sp + 1 + 5)).length), z.2.1, z.2.2) r1 ∧ lb_th r1 r (fun z1 => ∃ r2, lb_if f t z1 r2 ∧ lb_th r2 r (fun z2 => (lb_g f t z2.1 = Int32.ofInt 59 ∧ lb_cs f t k (i + 1) (lb_s f t (z2.1 + 1), z2.2.1, z2.2.2) r) ∨ (lb_g f t z2.1 = Int32.ofInt (-1) ∧ r = .inr z2) ∨ (¬ lb_g f t z2.1 = Int32.ofInt 59 ∧ ¬ lb_g f t z2.1 = Int32.ofInt (-1) ∧ r = .inl (lb_c z2.1 (Int32.ofInt 0))))))
def lb_rc : lb_Y → Int32
  | .inl c => c
  | .inr _ => 0
theorem lc_fault {X : nt_X} {d t Rd Tp By RR Sp : Nat} {f : Nat → Int32} {M : nt_M} {J0 J : Nat → Nat → Int32} {o : Option Value × nt_M} {p m : Nat} {fa : Int32} {s : Nat × (Nat → Int32)}  (hP : lc_P M J0 f t Rd Tp By RR Sp) (hS : lc_S J0 Rd RR Sp p fa m s J) (hp : p ≤ t) (k : nt_ev X d 38 [.ref Rd] (me_w M J) o) : o = (some (.int fa), me_w M J) := by
  have k : nt_rn X d 38 (0, [(0, .ref Rd)], [], me_w M J) o := k
  have t4 : t ≤ 400 := hP.2.2.2.2.1
  have k := ly_revb 1 (c' := (1, [(0, .ref Rd)], [.ref Rd], me_w M J)) rfl k
  have k := lz_get (a := Rd) (g := 202) (M := me_w M J) (v := .int (fa)) rfl (congrArg Value.int (hS.2.1)) k
  have k := lz_ri rfl (by decide) k
  exact k
theorem lc_rdl {X : nt_X} {d t Rd Tp By RR Sp : Nat} {f : Nat → Int32} {M : nt_M} {J0 : Nat → Nat → Int32} {o : Option Value × nt_M} (hP : lc_P M J0 f t Rd Tp By RR Sp) : ∀ (c i : Nat) (z : lb_Z) (J : Nat → Nat → Int32), i + c = 12 → z.1 ≤ t → lc_S J0 Rd RR Sp z.1 0 z.2.1 z.2.2.1 J → nt_rn X d 48 (21, [(2, .int (nI i)), (1, .int (Int32.ofInt 1)), (0, .ref RR)], [], me_w M J) o → ∃ k r J', o = (some (.int (lb_rc r)), me_w M J') ∧ lb_cs f t k i z r ∧ lc_Q J0 Rd RR Sp t r J' := by
  have t4 : t ≤ 400 := hP.2.2.2.2.1
  intro c
  induction c with
  | zero =>
    intro i z J hc hp hS k
    have k := ly_revb 2 (c' := (if (Int32.ofInt 1) = 0 then 130 else 25, [(2, .int (nI i)), (1, .int (Int32.ofInt 1)), (0, .ref RR)], [], me_w M J)) rfl k
    rw [if_neg (show ¬ ((Int32.ofInt 1) = 0) from by decide)] at k
    have k := ly_revb 3 (c' := (if (Int32.ofInt 12) < (nI i) then 130 else 31, [(2, .int (nI i)), (1, .int (Int32.ofInt 1)), (0, .ref RR)], [], me_w M J)) rfl k
    rw [if_neg (show ¬ ((Int32.ofInt 12) < (nI i)) from show ¬ nI 12 < nI i from nI_nlt (Nat.not_lt.mp (by omega)) (by omega))] at k
    have k := ly_revb 3 (c' := (if (nI i) = (Int32.ofInt 12) then 37 else 60, [(2, .int (nI i)), (1, .int (Int32.ofInt 1)), (0, .ref RR)], [], me_w M J)) rfl k
    rw [if_pos (show (nI i) = (Int32.ofInt 12) from show nI i = nI 12 from congrArg nI (by omega))] at k
    have k := ly_revb 1 (c' := (38, [(2, .int (nI i)), (1, .int (Int32.ofInt 1)), (0, .ref RR)], [.ref RR], me_w M J)) rfl k
    have k := lz_get (a := RR) (g := 500) (M := me_w M J) (v := .ref Rd) rfl (nt_gfR rfl hP.1.2.2.1) k
    have k := ly_revb 1 (c' := (43, [(2, .int (nI i)), (1, .int (Int32.ofInt 1)), (0, .ref RR)], [.ref (nt_sp + 1 + 5), .ref Rd], me_w M J)) rfl k
    obtain ⟨d1, o1, ed, kc, k⟩ := lz_c (g := 30) (q := 1) (vs := [.ref Rd, .ref (nt_sp + 1 + 5)]) (rest := []) rfl rfl (by decide) (Or.inr (Or.inl ⟨_, rfl, rfl⟩)) rfl k
    obtain ⟨r, e1, hr⟩ := lc_isAt hP hS hp kc
    subst e1
    rcases hr with ⟨rfl, hr⟩ | ⟨rfl, hr⟩
    · have k : nt_rn X _ 48 (46, [(2, .int (nI i)), (1, .int (Int32.ofInt 1)), (0, .ref RR)], [.int (Int32.ofInt 1)], me_w M J) _ := k
      have k := ly_revb 1 (c' := (if (Int32.ofInt 1) = 0 then 60 else 49, [(2, .int (nI i)), (1, .int (Int32.ofInt 1)), (0, .ref RR)], [], me_w M J)) rfl k
      rw [if_neg (show ¬ ((Int32.ofInt 1) = 0) from by decide)] at k
      have k := ly_revb 1 (c' := (50, [(2, .int (nI i)), (1, .int (Int32.ofInt 1)), (0, .ref RR)], [.ref RR], me_w M J)) rfl k
      have k := lz_get (a := RR) (g := 500) (M := me_w M J) (v := .ref Rd) rfl (nt_gfR rfl hP.1.2.2.1) k
      have k := ly_revb 1 (c' := (54, [(2, .int (nI i)), (1, .int (Int32.ofInt 1)), (0, .ref RR)], [.int (Int32.ofInt 4), .ref Rd], me_w M J)) rfl k
      obtain ⟨d1, o1, ed, kc, k⟩ := lz_c (g := 31) (q := 1) (vs := [.ref Rd, .int (Int32.ofInt 4)]) (rest := []) rfl rfl (by decide) (Or.inr (Or.inl ⟨_, rfl, rfl⟩)) rfl k
      obtain ⟨hf, e1⟩ := (lc_fail hP hS hp kc).resolve_right (fun c => c.1 rfl)
      subst e1
      have hS1 := lc_Spp (q := t) hP (lc_Sf (fb := lb_c z.1 (Int32.ofInt 4)) hP hS)
      have k : nt_rn X _ 48 (57, [(2, .int (nI i)), (1, .int (Int32.ofInt 1)), (0, .ref RR)], [], me_w M (nt_u (nt_u J Rd 2 (lb_c z.1 (Int32.ofInt 4))) Rd 1 (nI t))) _ := k
      have k := ly_revb 2 (c' := (81, [(2, .int (nI i)), (1, .int (Int32.ofInt 1)), (0, .ref RR)], [.ref RR], me_w M (nt_u (nt_u J Rd 2 (lb_c z.1 (Int32.ofInt 4))) Rd 1 (nI t)))) rfl k
      obtain ⟨d1, o1, ed, kc, k⟩ := lz_c (g := 49) (q := 1) (vs := [.ref RR]) (rest := []) rfl rfl (by decide) (Or.inr (Or.inl ⟨_, rfl, rfl⟩)) rfl k
      obtain ⟨m1, s1, J1, e1, hT1⟩ := lc_readSumF hP hS1 (lb_c_ne (by omega) (by decide) (by decide)) kc
      subst e1
      have k : nt_rn X _ 48 (84, [(2, .int (nI i)), (1, .int (Int32.ofInt 1)), (0, .ref RR)], [], me_w M J1) _ := k
      have k := ly_revb 1 (c' := (85, [(2, .int (nI i)), (1, .int (Int32.ofInt 1)), (0, .ref RR)], [.ref RR], me_w M J1)) rfl k
      have k := lz_get (a := RR) (g := 500) (M := me_w M J1) (v := .ref Rd) rfl (nt_gfR rfl hP.1.2.2.1) k
      have k := ly_revb 1 (c' := (90, [(2, .int (nI i)), (1, .int (Int32.ofInt 1)), (0, .ref RR)], [.ref (nt_sp + 1 + 14), .ref Rd], me_w M J1)) rfl k
      obtain ⟨d1, o1, ed, kc, k⟩ := lz_c (g := 32) (q := 1) (vs := [.ref Rd, .ref (nt_sp + 1 + 14)]) (rest := []) rfl rfl (by decide) (Or.inr (Or.inl ⟨_, rfl, rfl⟩)) rfl k
      obtain ⟨hn, e1⟩ := (lc_takesWord hP hT1 (Nat.le_refl t) kc).resolve_left (fun hh => lb_at_t (by decide) hh.1)
      subst e1
      have k : nt_rn X _ 48 (93, [(2, .int (nI i)), (1, .int (Int32.ofInt 1)), (0, .ref RR)], [.int (Int32.ofInt 0)], me_w M J1) _ := k
      have k := ly_revb 1 (c' := (if (Int32.ofInt 0) = 0 then 110 else 96, [(2, .int (nI i)), (1, .int (Int32.ofInt 1)), (0, .ref RR)], [], me_w M J1)) rfl k
      rw [if_pos (show (Int32.ofInt 0) = 0 from by decide)] at k
      have k := ly_revb 2 (c' := (113, [(2, .int (nI i)), (1, .int (Int32.ofInt 1)), (0, .ref RR)], [.int (Int32.ofInt 22), .ref RR], me_w M J1)) rfl k
      obtain ⟨d1, o1, ed, kc, k⟩ := lz_c (g := 54) (q := 1) (vs := [.ref RR, .int (Int32.ofInt 22)]) (rest := []) rfl rfl (by decide) (Or.inr (Or.inl ⟨_, rfl, rfl⟩)) rfl k
      obtain ⟨J2, e1, hS2⟩ := lc_add hP hT1 (Nat.le_refl t) kc
      subst e1
      have k : nt_rn X _ 48 (116, [(2, .int (nI i)), (1, .int (Int32.ofInt 1)), (0, .ref RR)], [], me_w M J2) _ := k
      have k := ly_revb 1 (c' := (117, [(2, .int (nI i)), (1, .int (Int32.ofInt 1)), (0, .ref RR)], [.ref RR], me_w M J2)) rfl k
      have k := lz_get (a := RR) (g := 500) (M := me_w M J2) (v := .ref Rd) rfl (nt_gfR rfl hP.1.2.2.1) k
      obtain ⟨d1, o1, ed, kc, k⟩ := lz_c (g := 35) (q := 1) (vs := [.ref Rd]) (rest := []) rfl rfl (by decide) (Or.inr (Or.inl ⟨_, rfl, rfl⟩)) rfl k
      have hgt : lb_g f t t = Int32.ofInt (-1) := if_neg (by omega)
      have e1 : o1 = (some (.int (Int32.ofInt 0)), me_w M J2) := by
        rcases lc_nextClause hP hS2 (Nat.le_refl t) kc with ⟨q, _⟩ | ⟨_, q⟩ | ⟨_, q, _⟩ | ⟨_, q, _⟩
        · rw [hgt] at q; exact absurd q (by decide)
        · exact q
        · exact absurd hgt q
        · exact absurd hgt q
      subst e1
      have k : nt_rn X _ 48 (123, [(2, .int (nI i)), (1, .int (Int32.ofInt 1)), (0, .ref RR)], [.int (Int32.ofInt 0)], me_w M J2) _ := k
      have k := ly_revb 2 (c' := (127, [(2, .int ((nI i) + Int32.ofInt 1)), (1, .int (Int32.ofInt 0)), (0, .ref RR)], [], me_w M J2)) rfl k
      rw [show ((nI i) + Int32.ofInt 1 : Int32) = nI (i + 1) from me_add (k := 1)] at k
      have k := ly_revb 1 (c' := (21, [(2, .int (nI (i + 1))), (1, .int (Int32.ofInt 0)), (0, .ref RR)], [], me_w M J2)) rfl k
      have k := ly_revb 2 (c' := (if (Int32.ofInt 0) = 0 then 130 else 25, [(2, .int (nI (i + 1))), (1, .int (Int32.ofInt 0)), (0, .ref RR)], [], me_w M J2)) rfl k
      rw [if_pos (show (Int32.ofInt 0) = 0 from by decide)] at k
      have k := ly_revb 1 (c' := (131, [(2, .int (nI (i + 1))), (1, .int (Int32.ofInt 0)), (0, .ref RR)], [.ref RR], me_w M J2)) rfl k
      have k := lz_get (a := RR) (g := 500) (M := me_w M J2) (v := .ref Rd) rfl (nt_gfR rfl hP.1.2.2.1) k
      obtain ⟨d1, o1, ed, kc, k⟩ := lz_c (g := 38) (q := 1) (vs := [.ref Rd]) (rest := []) rfl rfl (by decide) (Or.inr (Or.inl ⟨_, rfl, rfl⟩)) rfl k
      have e1 := lc_fault hP hS2 (Nat.le_refl t) kc
      subst e1
      have k : nt_rn X _ 48 (137, [(2, .int (nI (i + 1))), (1, .int (Int32.ofInt 0)), (0, .ref RR)], [.int (lb_c z.1 (Int32.ofInt 4))], me_w M J2) _ := k
      have k := lz_ri rfl (by decide) k
      exact ⟨1, .inl (lb_c z.1 (Int32.ofInt 4)), _, k, Or.inr (Or.inl ⟨hr, by omega, rfl⟩), (lb_c_ne (by omega) (by decide) (by decide)), _, _, hS2⟩
    · have k : nt_rn X _ 48 (46, [(2, .int (nI i)), (1, .int (Int32.ofInt 1)), (0, .ref RR)], [.int (Int32.ofInt 0)], me_w M J) _ := k
      have k := ly_revb 1 (c' := (if (Int32.ofInt 0) = 0 then 60 else 49, [(2, .int (nI i)), (1, .int (Int32.ofInt 1)), (0, .ref RR)], [], me_w M J)) rfl k
      rw [if_pos (show (Int32.ofInt 0) = 0 from by decide)] at k
      have k := ly_revb 1 (c' := (61, [(2, .int (nI i)), (1, .int (Int32.ofInt 1)), (0, .ref RR)], [.ref RR], me_w M J)) rfl k
      have k := lz_get (a := RR) (g := 500) (M := me_w M J) (v := .ref Rd) rfl (nt_gfR rfl hP.1.2.2.1) k
      have k := ly_revb 1 (c' := (66, [(2, .int (nI i)), (1, .int (Int32.ofInt 1)), (0, .ref RR)], [.ref (nt_sp + 1 + 5), .ref Rd], me_w M J)) rfl k
      obtain ⟨d1, o1, ed, kc, k⟩ := lz_c (g := 32) (q := 1) (vs := [.ref Rd, .ref (nt_sp + 1 + 5)]) (rest := []) rfl rfl (by decide) (Or.inr (Or.inl ⟨_, rfl, rfl⟩)) rfl k
      obtain ⟨_, e1⟩ := (lc_takesWord hP hS hp kc).resolve_left (fun hh => hr hh.1)
      subst e1
      have k : nt_rn X _ 48 (69, [(2, .int (nI i)), (1, .int (Int32.ofInt 1)), (0, .ref RR)], [.int (Int32.ofInt 0)], me_w M J) _ := k
      have hw5 := hr
      have k := ly_revb 1 (c' := (if (Int32.ofInt 0) = 0 then 72 else 80, [(2, .int (nI i)), (1, .int (Int32.ofInt 1)), (0, .ref RR)], [], me_w M J)) rfl k
      rw [if_pos (show (Int32.ofInt 0) = 0 from by decide)] at k
      have k := ly_revb 1 (c' := (73, [(2, .int (nI i)), (1, .int (Int32.ofInt 1)), (0, .ref RR)], [.ref RR], me_w M J)) rfl k
      have k := lz_get (a := RR) (g := 500) (M := me_w M J) (v := .ref Rd) rfl (nt_gfR rfl hP.1.2.2.1) k
      have k := ly_revb 1 (c' := (77, [(2, .int (nI i)), (1, .int (Int32.ofInt 1)), (0, .ref RR)], [.int (Int32.ofInt 0), .ref Rd], me_w M J)) rfl k
      obtain ⟨d1, o1, ed, kc, k⟩ := lz_c (g := 31) (q := 1) (vs := [.ref Rd, .int (Int32.ofInt 0)]) (rest := []) rfl rfl (by decide) (Or.inr (Or.inl ⟨_, rfl, rfl⟩)) rfl k
      obtain ⟨hf, e1⟩ := (lc_fail hP hS hp kc).resolve_right (fun c => c.1 rfl)
      subst e1
      have hS1 := lc_Spp (q := t) hP (lc_Sf (fb := lb_c z.1 (Int32.ofInt 0)) hP hS)
      have k : nt_rn X _ 48 (80, [(2, .int (nI i)), (1, .int (Int32.ofInt 1)), (0, .ref RR)], [], me_w M (nt_u (nt_u J Rd 2 (lb_c z.1 (Int32.ofInt 0))) Rd 1 (nI t))) _ := k
      have k := ly_revb 1 (c' := (81, [(2, .int (nI i)), (1, .int (Int32.ofInt 1)), (0, .ref RR)], [.ref RR], me_w M (nt_u (nt_u J Rd 2 (lb_c z.1 (Int32.ofInt 0))) Rd 1 (nI t)))) rfl k
      obtain ⟨d1, o1, ed, kc, k⟩ := lz_c (g := 49) (q := 1) (vs := [.ref RR]) (rest := []) rfl rfl (by decide) (Or.inr (Or.inl ⟨_, rfl, rfl⟩)) rfl k
      obtain ⟨m1, s1, J1, e1, hT1⟩ := lc_readSumF hP hS1 (lb_c_ne (by omega) (by decide) (by decide)) kc
      subst e1
      have k : nt_rn X _ 48 (84, [(2, .int (nI i)), (1, .int (Int32.ofInt 1)), (0, .ref RR)], [], me_w M J1) _ := k
      have k := ly_revb 1 (c' := (85, [(2, .int (nI i)), (1, .int (Int32.ofInt 1)), (0, .ref RR)], [.ref RR], me_w M J1)) rfl k
      have k := lz_get (a := RR) (g := 500) (M := me_w M J1) (v := .ref Rd) rfl (nt_gfR rfl hP.1.2.2.1) k
      have k := ly_revb 1 (c' := (90, [(2, .int (nI i)), (1, .int (Int32.ofInt 1)), (0, .ref RR)], [.ref (nt_sp + 1 + 14), .ref Rd], me_w M J1)) rfl k
      obtain ⟨d1, o1, ed, kc, k⟩ := lz_c (g := 32) (q := 1) (vs := [.ref Rd, .ref (nt_sp + 1 + 14)]) (rest := []) rfl rfl (by decide) (Or.inr (Or.inl ⟨_, rfl, rfl⟩)) rfl k
      obtain ⟨hn, e1⟩ := (lc_takesWord hP hT1 (Nat.le_refl t) kc).resolve_left (fun hh => lb_at_t (by decide) hh.1)
      subst e1
      have k : nt_rn X _ 48 (93, [(2, .int (nI i)), (1, .int (Int32.ofInt 1)), (0, .ref RR)], [.int (Int32.ofInt 0)], me_w M J1) _ := k
      have k := ly_revb 1 (c' := (if (Int32.ofInt 0) = 0 then 110 else 96, [(2, .int (nI i)), (1, .int (Int32.ofInt 1)), (0, .ref RR)], [], me_w M J1)) rfl k
      rw [if_pos (show (Int32.ofInt 0) = 0 from by decide)] at k
      have k := ly_revb 2 (c' := (113, [(2, .int (nI i)), (1, .int (Int32.ofInt 1)), (0, .ref RR)], [.int (Int32.ofInt 22), .ref RR], me_w M J1)) rfl k
      obtain ⟨d1, o1, ed, kc, k⟩ := lz_c (g := 54) (q := 1) (vs := [.ref RR, .int (Int32.ofInt 22)]) (rest := []) rfl rfl (by decide) (Or.inr (Or.inl ⟨_, rfl, rfl⟩)) rfl k
      obtain ⟨J2, e1, hS2⟩ := lc_add hP hT1 (Nat.le_refl t) kc
      subst e1
      have k : nt_rn X _ 48 (116, [(2, .int (nI i)), (1, .int (Int32.ofInt 1)), (0, .ref RR)], [], me_w M J2) _ := k
      have k := ly_revb 1 (c' := (117, [(2, .int (nI i)), (1, .int (Int32.ofInt 1)), (0, .ref RR)], [.ref RR], me_w M J2)) rfl k
      have k := lz_get (a := RR) (g := 500) (M := me_w M J2) (v := .ref Rd) rfl (nt_gfR rfl hP.1.2.2.1) k
      obtain ⟨d1, o1, ed, kc, k⟩ := lz_c (g := 35) (q := 1) (vs := [.ref Rd]) (rest := []) rfl rfl (by decide) (Or.inr (Or.inl ⟨_, rfl, rfl⟩)) rfl k
      have hgt : lb_g f t t = Int32.ofInt (-1) := if_neg (by omega)
      have e1 : o1 = (some (.int (Int32.ofInt 0)), me_w M J2) := by
        rcases lc_nextClause hP hS2 (Nat.le_refl t) kc with ⟨q, _⟩ | ⟨_, q⟩ | ⟨_, q, _⟩ | ⟨_, q, _⟩
        · rw [hgt] at q; exact absurd q (by decide)
        · exact q
        · exact absurd hgt q
        · exact absurd hgt q
      subst e1
      have k : nt_rn X _ 48 (123, [(2, .int (nI i)), (1, .int (Int32.ofInt 1)), (0, .ref RR)], [.int (Int32.ofInt 0)], me_w M J2) _ := k
      have k := ly_revb 2 (c' := (127, [(2, .int ((nI i) + Int32.ofInt 1)), (1, .int (Int32.ofInt 0)), (0, .ref RR)], [], me_w M J2)) rfl k
      rw [show ((nI i) + Int32.ofInt 1 : Int32) = nI (i + 1) from me_add (k := 1)] at k
      have k := ly_revb 1 (c' := (21, [(2, .int (nI (i + 1))), (1, .int (Int32.ofInt 0)), (0, .ref RR)], [], me_w M J2)) rfl k
      have k := ly_revb 2 (c' := (if (Int32.ofInt 0) = 0 then 130 else 25, [(2, .int (nI (i + 1))), (1, .int (Int32.ofInt 0)), (0, .ref RR)], [], me_w M J2)) rfl k
      rw [if_pos (show (Int32.ofInt 0) = 0 from by decide)] at k
      have k := ly_revb 1 (c' := (131, [(2, .int (nI (i + 1))), (1, .int (Int32.ofInt 0)), (0, .ref RR)], [.ref RR], me_w M J2)) rfl k
      have k := lz_get (a := RR) (g := 500) (M := me_w M J2) (v := .ref Rd) rfl (nt_gfR rfl hP.1.2.2.1) k
      obtain ⟨d1, o1, ed, kc, k⟩ := lz_c (g := 38) (q := 1) (vs := [.ref Rd]) (rest := []) rfl rfl (by decide) (Or.inr (Or.inl ⟨_, rfl, rfl⟩)) rfl k
      have e1 := lc_fault hP hS2 (Nat.le_refl t) kc
      subst e1
      have k : nt_rn X _ 48 (137, [(2, .int (nI (i + 1))), (1, .int (Int32.ofInt 0)), (0, .ref RR)], [.int (lb_c z.1 (Int32.ofInt 0))], me_w M J2) _ := k
      have k := lz_ri rfl (by decide) k
      exact ⟨1, .inl (lb_c z.1 (Int32.ofInt 0)), _, k, Or.inl ⟨hw5, rfl⟩, (lb_c_ne (by omega) (by decide) (by decide)), _, _, hS2⟩
  | succ c ih =>
    intro i z J hc hp hS k
    have k := ly_revb 2 (c' := (if (Int32.ofInt 1) = 0 then 130 else 25, [(2, .int (nI i)), (1, .int (Int32.ofInt 1)), (0, .ref RR)], [], me_w M J)) rfl k
    rw [if_neg (show ¬ ((Int32.ofInt 1) = 0) from by decide)] at k
    have k := ly_revb 3 (c' := (if (Int32.ofInt 12) < (nI i) then 130 else 31, [(2, .int (nI i)), (1, .int (Int32.ofInt 1)), (0, .ref RR)], [], me_w M J)) rfl k
    rw [if_neg (show ¬ ((Int32.ofInt 12) < (nI i)) from show ¬ nI 12 < nI i from nI_nlt (Nat.not_lt.mp (by omega)) (by omega))] at k
    have k := ly_revb 3 (c' := (if (nI i) = (Int32.ofInt 12) then 37 else 60, [(2, .int (nI i)), (1, .int (Int32.ofInt 1)), (0, .ref RR)], [], me_w M J)) rfl k
    rw [if_neg (show ¬ ((nI i) = (Int32.ofInt 12)) from show ¬ nI i = nI 12 from me_ne (by omega) (by omega) (by omega))] at k
    have k := ly_revb 1 (c' := (61, [(2, .int (nI i)), (1, .int (Int32.ofInt 1)), (0, .ref RR)], [.ref RR], me_w M J)) rfl k
    have k := lz_get (a := RR) (g := 500) (M := me_w M J) (v := .ref Rd) rfl (nt_gfR rfl hP.1.2.2.1) k
    have k := ly_revb 1 (c' := (66, [(2, .int (nI i)), (1, .int (Int32.ofInt 1)), (0, .ref RR)], [.ref (nt_sp + 1 + 5), .ref Rd], me_w M J)) rfl k
    obtain ⟨d1, o1, ed, kc, k⟩ := lz_c (g := 32) (q := 1) (vs := [.ref Rd, .ref (nt_sp + 1 + 5)]) (rest := []) rfl rfl (by decide) (Or.inr (Or.inl ⟨_, rfl, rfl⟩)) rfl k
    rcases lc_takesWord hP hS hp kc with ⟨hw5, e1⟩ | ⟨hw5, e1⟩
    · subst e1
      have hwl := hw5.1
      have hS1 := lc_Spp (q := lb_s f t (z.1 + (lb_W (nt_sp + 1 + 5)).length)) hP hS
      have hp1 : lb_s f t (z.1 + (lb_W (nt_sp + 1 + 5)).length) ≤ t := (lb_s_le (t - (z.1 + (lb_W (nt_sp + 1 + 5)).length)) (z.1 + (lb_W (nt_sp + 1 + 5)).length) (by omega)).2
      have hg1 := (lb_s_le (f := f) (t := t) (t - (z.1 + (lb_W (nt_sp + 1 + 5)).length)) (z.1 + (lb_W (nt_sp + 1 + 5)).length) (by omega)).1
      have k : nt_rn X _ 48 (69, [(2, .int (nI i)), (1, .int (Int32.ofInt 1)), (0, .ref RR)], [.int (Int32.ofInt 1)], me_w M (nt_u J Rd 1 (nI (lb_s f t (z.1 + (lb_W (nt_sp + 1 + 5)).length))))) _ := k
      have k := ly_revb 1 (c' := (if (Int32.ofInt 1) = 0 then 72 else 80, [(2, .int (nI i)), (1, .int (Int32.ofInt 1)), (0, .ref RR)], [], me_w M (nt_u J Rd 1 (nI (lb_s f t (z.1 + (lb_W (nt_sp + 1 + 5)).length)))))) rfl k
      rw [if_neg (show ¬ ((Int32.ofInt 1) = 0) from by decide)] at k
      have k := ly_revb 1 (c' := (81, [(2, .int (nI i)), (1, .int (Int32.ofInt 1)), (0, .ref RR)], [.ref RR], me_w M (nt_u J Rd 1 (nI (lb_s f t (z.1 + (lb_W (nt_sp + 1 + 5)).length)))))) rfl k
      obtain ⟨d1, o1, ed, kc, k⟩ := lz_c (g := 49) (q := 1) (vs := [.ref RR]) (rest := []) rfl rfl (by decide) (Or.inr (Or.inl ⟨_, rfl, rfl⟩)) rfl k
      obtain ⟨r21, J21, e1, hv21, hq21⟩ := lc_readSum (e := z.2.2) hP hS1 hp1 kc
      subst e1
      cases r21 with
      | inl c21 =>
        obtain ⟨hfa, m21, s21, hS21⟩ := hq21
        have k : nt_rn X _ 48 (84, [(2, .int (nI i)), (1, .int (Int32.ofInt 1)), (0, .ref RR)], [], me_w M J21) _ := k
        have k := ly_revb 1 (c' := (85, [(2, .int (nI i)), (1, .int (Int32.ofInt 1)), (0, .ref RR)], [.ref RR], me_w M J21)) rfl k
        have k := lz_get (a := RR) (g := 500) (M := me_w M J21) (v := .ref Rd) rfl (nt_gfR rfl hP.1.2.2.1) k
        have k := ly_revb 1 (c' := (90, [(2, .int (nI i)), (1, .int (Int32.ofInt 1)), (0, .ref RR)], [.ref (nt_sp + 1 + 14), .ref Rd], me_w M J21)) rfl k
        obtain ⟨d1, o1, ed, kc, k⟩ := lz_c (g := 32) (q := 1) (vs := [.ref Rd, .ref (nt_sp + 1 + 14)]) (rest := []) rfl rfl (by decide) (Or.inr (Or.inl ⟨_, rfl, rfl⟩)) rfl k
        obtain ⟨hn, e1⟩ := (lc_takesWord hP hS21 (Nat.le_refl t) kc).resolve_left (fun hh => lb_at_t (by decide) hh.1)
        subst e1
        have k : nt_rn X _ 48 (93, [(2, .int (nI i)), (1, .int (Int32.ofInt 1)), (0, .ref RR)], [.int (Int32.ofInt 0)], me_w M J21) _ := k
        have k := ly_revb 1 (c' := (if (Int32.ofInt 0) = 0 then 110 else 96, [(2, .int (nI i)), (1, .int (Int32.ofInt 1)), (0, .ref RR)], [], me_w M J21)) rfl k
        rw [if_pos (show (Int32.ofInt 0) = 0 from by decide)] at k
        have k := ly_revb 2 (c' := (113, [(2, .int (nI i)), (1, .int (Int32.ofInt 1)), (0, .ref RR)], [.int (Int32.ofInt 22), .ref RR], me_w M J21)) rfl k
        obtain ⟨d1, o1, ed, kc, k⟩ := lz_c (g := 54) (q := 1) (vs := [.ref RR, .int (Int32.ofInt 22)]) (rest := []) rfl rfl (by decide) (Or.inr (Or.inl ⟨_, rfl, rfl⟩)) rfl k
        obtain ⟨J2, e1, hS2⟩ := lc_add hP hS21 (Nat.le_refl t) kc
        subst e1
        have k : nt_rn X _ 48 (116, [(2, .int (nI i)), (1, .int (Int32.ofInt 1)), (0, .ref RR)], [], me_w M J2) _ := k
        have k := ly_revb 1 (c' := (117, [(2, .int (nI i)), (1, .int (Int32.ofInt 1)), (0, .ref RR)], [.ref RR], me_w M J2)) rfl k
        have k := lz_get (a := RR) (g := 500) (M := me_w M J2) (v := .ref Rd) rfl (nt_gfR rfl hP.1.2.2.1) k
        obtain ⟨d1, o1, ed, kc, k⟩ := lz_c (g := 35) (q := 1) (vs := [.ref Rd]) (rest := []) rfl rfl (by decide) (Or.inr (Or.inl ⟨_, rfl, rfl⟩)) rfl k
        have hgt : lb_g f t t = Int32.ofInt (-1) := if_neg (by omega)
        have e1 : o1 = (some (.int (Int32.ofInt 0)), me_w M J2) := by
          rcases lc_nextClause hP hS2 (Nat.le_refl t) kc with ⟨q, _⟩ | ⟨_, q⟩ | ⟨_, q, _⟩ | ⟨_, q, _⟩
          · rw [hgt] at q; exact absurd q (by decide)
          · exact q
          · exact absurd hgt q
          · exact absurd hgt q
        subst e1
        have k : nt_rn X _ 48 (123, [(2, .int (nI i)), (1, .int (Int32.ofInt 1)), (0, .ref RR)], [.int (Int32.ofInt 0)], me_w M J2) _ := k
        have k := ly_revb 2 (c' := (127, [(2, .int ((nI i) + Int32.ofInt 1)), (1, .int (Int32.ofInt 0)), (0, .ref RR)], [], me_w M J2)) rfl k
        rw [show ((nI i) + Int32.ofInt 1 : Int32) = nI (i + 1) from me_add (k := 1)] at k
        have k := ly_revb 1 (c' := (21, [(2, .int (nI (i + 1))), (1, .int (Int32.ofInt 0)), (0, .ref RR)], [], me_w M J2)) rfl k
        have k := ly_revb 2 (c' := (if (Int32.ofInt 0) = 0 then 130 else 25, [(2, .int (nI (i + 1))), (1, .int (Int32.ofInt 0)), (0, .ref RR)], [], me_w M J2)) rfl k
        rw [if_pos (show (Int32.ofInt 0) = 0 from by decide)] at k
        have k := ly_revb 1 (c' := (131, [(2, .int (nI (i + 1))), (1, .int (Int32.ofInt 0)), (0, .ref RR)], [.ref RR], me_w M J2)) rfl k
        have k := lz_get (a := RR) (g := 500) (M := me_w M J2) (v := .ref Rd) rfl (nt_gfR rfl hP.1.2.2.1) k
        obtain ⟨d1, o1, ed, kc, k⟩ := lz_c (g := 38) (q := 1) (vs := [.ref Rd]) (rest := []) rfl rfl (by decide) (Or.inr (Or.inl ⟨_, rfl, rfl⟩)) rfl k
        have e1 := lc_fault hP hS2 (Nat.le_refl t) kc
        subst e1
        have k : nt_rn X _ 48 (137, [(2, .int (nI (i + 1))), (1, .int (Int32.ofInt 0)), (0, .ref RR)], [.int (c21)], me_w M J2) _ := k
        have k := lz_ri rfl (by decide) k
        exact ⟨1, .inl (c21), _, k, Or.inr (Or.inr ⟨hw5, by omega, _, hv21, Or.inl ⟨_, rfl, rfl⟩⟩), hfa, _, _, hS2⟩
      | inr z21 =>
        obtain ⟨hS21, hp21⟩ := hq21
        have k : nt_rn X _ 48 (84, [(2, .int (nI i)), (1, .int (Int32.ofInt 1)), (0, .ref RR)], [], me_w M J21) _ := k
        have k := ly_revb 1 (c' := (85, [(2, .int (nI i)), (1, .int (Int32.ofInt 1)), (0, .ref RR)], [.ref RR], me_w M J21)) rfl k
        have k := lz_get (a := RR) (g := 500) (M := me_w M J21) (v := .ref Rd) rfl (nt_gfR rfl hP.1.2.2.1) k
        have k := ly_revb 1 (c' := (90, [(2, .int (nI i)), (1, .int (Int32.ofInt 1)), (0, .ref RR)], [.ref (nt_sp + 1 + 14), .ref Rd], me_w M J21)) rfl k
        obtain ⟨d1, o1, ed, kc, k⟩ := lz_c (g := 32) (q := 1) (vs := [.ref Rd, .ref (nt_sp + 1 + 14)]) (rest := []) rfl rfl (by decide) (Or.inr (Or.inl ⟨_, rfl, rfl⟩)) rfl k
        rcases lc_takesWord hP hS21 hp21 kc with ⟨hw14, e1⟩ | ⟨hw14, e1⟩
        · subst e1
          have hwl := hw14.1
          have hS2 := lc_Spp (q := lb_s f t (z21.1 + (lb_W (nt_sp + 1 + 14)).length)) hP hS21
          have hp2 : lb_s f t (z21.1 + (lb_W (nt_sp + 1 + 14)).length) ≤ t := (lb_s_le (t - (z21.1 + (lb_W (nt_sp + 1 + 14)).length)) (z21.1 + (lb_W (nt_sp + 1 + 14)).length) (by omega)).2
          have hg2 := (lb_s_le (f := f) (t := t) (t - (z21.1 + (lb_W (nt_sp + 1 + 14)).length)) (z21.1 + (lb_W (nt_sp + 1 + 14)).length) (by omega)).1
          have k : nt_rn X _ 48 (93, [(2, .int (nI i)), (1, .int (Int32.ofInt 1)), (0, .ref RR)], [.int (Int32.ofInt 1)], me_w M (nt_u J21 Rd 1 (nI (lb_s f t (z21.1 + (lb_W (nt_sp + 1 + 14)).length))))) _ := k
          have k := ly_revb 1 (c' := (if (Int32.ofInt 1) = 0 then 110 else 96, [(2, .int (nI i)), (1, .int (Int32.ofInt 1)), (0, .ref RR)], [], me_w M (nt_u J21 Rd 1 (nI (lb_s f t (z21.1 + (lb_W (nt_sp + 1 + 14)).length)))))) rfl k
          rw [if_neg (show ¬ ((Int32.ofInt 1) = 0) from by decide)] at k
          have k := ly_revb 2 (c' := (98, [(2, .int (nI i)), (1, .int (Int32.ofInt 1)), (0, .ref RR)], [.int (Int32.ofInt 0), .ref RR], me_w M (nt_u J21 Rd 1 (nI (lb_s f t (z21.1 + (lb_W (nt_sp + 1 + 14)).length)))))) rfl k
          obtain ⟨d1, o1, ed, kc, k⟩ := lz_c (g := 58) (q := 1) (vs := [.ref RR, .int (Int32.ofInt 0)]) (rest := []) rfl rfl (by decide) (Or.inr (Or.inl ⟨_, rfl, rfl⟩)) rfl k
          obtain ⟨k22, q22, r22, J22, e1, hu22, hv22, hq22⟩ := (lc_FT hP d1).2 0 _ _ z21.2.2 _ _ hS2 hp2 (by omega) kc
          subst e1
          cases r22 with
          | inl c22 =>
            obtain ⟨hfa, m22, s22, hS22⟩ := hq22
            have k : nt_rn X _ 48 (101, [(2, .int (nI i)), (1, .int (Int32.ofInt 1)), (0, .ref RR)], [], me_w M J22) _ := k
            have k := ly_revb 2 (c' := (104, [(2, .int (nI i)), (1, .int (Int32.ofInt 1)), (0, .ref RR)], [.int (Int32.ofInt 23), .ref RR], me_w M J22)) rfl k
            obtain ⟨d1, o1, ed, kc, k⟩ := lz_c (g := 54) (q := 1) (vs := [.ref RR, .int (Int32.ofInt 23)]) (rest := []) rfl rfl (by decide) (Or.inr (Or.inl ⟨_, rfl, rfl⟩)) rfl k
            obtain ⟨J3, e1, hS3⟩ := lc_add hP hS22 (Nat.le_refl t) kc
            subst e1
            have k : nt_rn X _ 48 (107, [(2, .int (nI i)), (1, .int (Int32.ofInt 1)), (0, .ref RR)], [], me_w M J3) _ := k
            have k := ly_revb 2 (c' := (117, [(2, .int (nI i)), (1, .int (Int32.ofInt 1)), (0, .ref RR)], [.ref RR], me_w M J3)) rfl k
            have k := lz_get (a := RR) (g := 500) (M := me_w M J3) (v := .ref Rd) rfl (nt_gfR rfl hP.1.2.2.1) k
            obtain ⟨d1, o1, ed, kc, k⟩ := lz_c (g := 35) (q := 1) (vs := [.ref Rd]) (rest := []) rfl rfl (by decide) (Or.inr (Or.inl ⟨_, rfl, rfl⟩)) rfl k
            have hgt : lb_g f t t = Int32.ofInt (-1) := if_neg (by omega)
            have e1 : o1 = (some (.int (Int32.ofInt 0)), me_w M J3) := by
              rcases lc_nextClause hP hS3 (Nat.le_refl t) kc with ⟨q, _⟩ | ⟨_, q⟩ | ⟨_, q, _⟩ | ⟨_, q, _⟩
              · rw [hgt] at q; exact absurd q (by decide)
              · exact q
              · exact absurd hgt q
              · exact absurd hgt q
            subst e1
            have k : nt_rn X _ 48 (123, [(2, .int (nI i)), (1, .int (Int32.ofInt 1)), (0, .ref RR)], [.int (Int32.ofInt 0)], me_w M J3) _ := k
            have k := ly_revb 2 (c' := (127, [(2, .int ((nI i) + Int32.ofInt 1)), (1, .int (Int32.ofInt 0)), (0, .ref RR)], [], me_w M J3)) rfl k
            rw [show ((nI i) + Int32.ofInt 1 : Int32) = nI (i + 1) from me_add (k := 1)] at k
            have k := ly_revb 1 (c' := (21, [(2, .int (nI (i + 1))), (1, .int (Int32.ofInt 0)), (0, .ref RR)], [], me_w M J3)) rfl k
            have k := ly_revb 2 (c' := (if (Int32.ofInt 0) = 0 then 130 else 25, [(2, .int (nI (i + 1))), (1, .int (Int32.ofInt 0)), (0, .ref RR)], [], me_w M J3)) rfl k
            rw [if_pos (show (Int32.ofInt 0) = 0 from by decide)] at k
            have k := ly_revb 1 (c' := (131, [(2, .int (nI (i + 1))), (1, .int (Int32.ofInt 0)), (0, .ref RR)], [.ref RR], me_w M J3)) rfl k
            have k := lz_get (a := RR) (g := 500) (M := me_w M J3) (v := .ref Rd) rfl (nt_gfR rfl hP.1.2.2.1) k
            obtain ⟨d1, o1, ed, kc, k⟩ := lz_c (g := 38) (q := 1) (vs := [.ref Rd]) (rest := []) rfl rfl (by decide) (Or.inr (Or.inl ⟨_, rfl, rfl⟩)) rfl k
            have e1 := lc_fault hP hS3 (Nat.le_refl t) kc
            subst e1
            have k : nt_rn X _ 48 (137, [(2, .int (nI (i + 1))), (1, .int (Int32.ofInt 0)), (0, .ref RR)], [.int (c22)], me_w M J3) _ := k
            have k := lz_ri rfl (by decide) k
            exact ⟨1, .inl (c22), _, k, Or.inr (Or.inr ⟨hw5, by omega, _, hv21, Or.inr ⟨z21, rfl, .inl _, Or.inl ⟨hw14, k22, _, _, hu22, hv22, Or.inl ⟨_, rfl, rfl⟩⟩, Or.inl ⟨_, rfl, rfl⟩⟩⟩), hfa, _, _, hS3⟩
          | inr z22 =>
            obtain ⟨hS22, hp22⟩ := hq22
            have k : nt_rn X _ 48 (101, [(2, .int (nI i)), (1, .int (Int32.ofInt 1)), (0, .ref RR)], [], me_w M J22) _ := k
            have k := ly_revb 2 (c' := (104, [(2, .int (nI i)), (1, .int (Int32.ofInt 1)), (0, .ref RR)], [.int (Int32.ofInt 23), .ref RR], me_w M J22)) rfl k
            obtain ⟨d1, o1, ed, kc, k⟩ := lz_c (g := 54) (q := 1) (vs := [.ref RR, .int (Int32.ofInt 23)]) (rest := []) rfl rfl (by decide) (Or.inr (Or.inl ⟨_, rfl, rfl⟩)) rfl k
            obtain ⟨J3, e1, hS3⟩ := lc_add hP hS22 hp22 kc
            subst e1
            have k : nt_rn X _ 48 (107, [(2, .int (nI i)), (1, .int (Int32.ofInt 1)), (0, .ref RR)], [], me_w M J3) _ := k
            have k := ly_revb 2 (c' := (117, [(2, .int (nI i)), (1, .int (Int32.ofInt 1)), (0, .ref RR)], [.ref RR], me_w M J3)) rfl k
            have k := lz_get (a := RR) (g := 500) (M := me_w M J3) (v := .ref Rd) rfl (nt_gfR rfl hP.1.2.2.1) k
            obtain ⟨d1, o1, ed, kc, k⟩ := lz_c (g := 35) (q := 1) (vs := [.ref Rd]) (rest := []) rfl rfl (by decide) (Or.inr (Or.inl ⟨_, rfl, rfl⟩)) rfl k
            rcases lc_nextClause hP hS3 hp22 kc with ⟨hn, e1⟩ | ⟨hn, e1⟩ | ⟨hn, hn2, _, e1⟩ | ⟨_, _, hf, _⟩
            · have hlt := lb_g_lt (f := f) (t := t) (p := z22.1) (by rw [hn]; decide)
              rw [Nat.min_eq_left (show z22.1 + 1 ≤ t from hlt)] at e1
              subst e1
              have hS4 := lc_Spp (q := lb_s f t (z22.1 + 1)) hP hS3
              have hp4 : lb_s f t (z22.1 + 1) ≤ t := (lb_s_le (t - (z22.1 + 1)) (z22.1 + 1) (by omega)).2
              have k : nt_rn X _ 48 (123, [(2, .int (nI i)), (1, .int (Int32.ofInt 1)), (0, .ref RR)], [.int (Int32.ofInt 1)], me_w M (nt_u J3 Rd 1 (nI (lb_s f t (z22.1 + 1))))) _ := k
              have k := ly_revb 2 (c' := (127, [(2, .int ((nI i) + Int32.ofInt 1)), (1, .int (Int32.ofInt 1)), (0, .ref RR)], [], me_w M (nt_u J3 Rd 1 (nI (lb_s f t (z22.1 + 1)))))) rfl k
              rw [show ((nI i) + Int32.ofInt 1 : Int32) = nI (i + 1) from me_add (k := 1)] at k
              have k := ly_revb 1 (c' := (21, [(2, .int (nI (i + 1))), (1, .int (Int32.ofInt 1)), (0, .ref RR)], [], me_w M (nt_u J3 Rd 1 (nI (lb_s f t (z22.1 + 1)))))) rfl k
              obtain ⟨k1, r1, J7, e2, hsr, hq⟩ := ih (i + 1) (lb_s f t (z22.1 + 1), z22.2.1, (lb_e z22.2.2.1 (Int32.ofInt 23), z22.2.2.2)) _ (by omega) hp4 hS4 k
              exact ⟨k1 + 1, r1, J7, e2, Or.inr (Or.inr ⟨hw5, by omega, _, hv21, Or.inr ⟨z21, rfl, .inr (z22.1, z22.2.1, (lb_e z22.2.2.1 (Int32.ofInt 23), z22.2.2.2)), Or.inl ⟨hw14, k22, _, _, hu22, hv22, Or.inr ⟨z22, rfl, rfl⟩⟩, Or.inr ⟨_, rfl, Or.inl ⟨hn, hsr⟩⟩⟩⟩), hq⟩
            · subst e1
              have k : nt_rn X _ 48 (123, [(2, .int (nI i)), (1, .int (Int32.ofInt 1)), (0, .ref RR)], [.int (Int32.ofInt 0)], me_w M J3) _ := k
              have k := ly_revb 2 (c' := (127, [(2, .int ((nI i) + Int32.ofInt 1)), (1, .int (Int32.ofInt 0)), (0, .ref RR)], [], me_w M J3)) rfl k
              rw [show ((nI i) + Int32.ofInt 1 : Int32) = nI (i + 1) from me_add (k := 1)] at k
              have k := ly_revb 1 (c' := (21, [(2, .int (nI (i + 1))), (1, .int (Int32.ofInt 0)), (0, .ref RR)], [], me_w M J3)) rfl k
              have k := ly_revb 2 (c' := (if (Int32.ofInt 0) = 0 then 130 else 25, [(2, .int (nI (i + 1))), (1, .int (Int32.ofInt 0)), (0, .ref RR)], [], me_w M J3)) rfl k
              rw [if_pos (show (Int32.ofInt 0) = 0 from by decide)] at k
              have k := ly_revb 1 (c' := (131, [(2, .int (nI (i + 1))), (1, .int (Int32.ofInt 0)), (0, .ref RR)], [.ref RR], me_w M J3)) rfl k
              have k := lz_get (a := RR) (g := 500) (M := me_w M J3) (v := .ref Rd) rfl (nt_gfR rfl hP.1.2.2.1) k
              obtain ⟨d1, o1, ed, kc, k⟩ := lz_c (g := 38) (q := 1) (vs := [.ref Rd]) (rest := []) rfl rfl (by decide) (Or.inr (Or.inl ⟨_, rfl, rfl⟩)) rfl k
              have e1 := lc_fault hP hS3 hp22 kc
              subst e1
              have k : nt_rn X _ 48 (137, [(2, .int (nI (i + 1))), (1, .int (Int32.ofInt 0)), (0, .ref RR)], [.int (0)], me_w M J3) _ := k
              have k := lz_ri rfl (by decide) k
              exact ⟨1, .inr (z22.1, z22.2.1, (lb_e z22.2.2.1 (Int32.ofInt 23), z22.2.2.2)), _, k, Or.inr (Or.inr ⟨hw5, by omega, _, hv21, Or.inr ⟨z21, rfl, .inr (z22.1, z22.2.1, (lb_e z22.2.2.1 (Int32.ofInt 23), z22.2.2.2)), Or.inl ⟨hw14, k22, _, _, hu22, hv22, Or.inr ⟨z22, rfl, rfl⟩⟩, Or.inr ⟨_, rfl, Or.inr (Or.inl ⟨hn, rfl⟩)⟩⟩⟩), hS3, hp22⟩
            · subst e1
              have hS4 := lc_Spp (q := t) hP (lc_Sf (fb := lb_c z22.1 (Int32.ofInt 0)) hP hS3)
              have k : nt_rn X _ 48 (123, [(2, .int (nI i)), (1, .int (Int32.ofInt 1)), (0, .ref RR)], [.int (Int32.ofInt 0)], me_w M (nt_u (nt_u J3 Rd 2 (lb_c z22.1 (Int32.ofInt 0))) Rd 1 (nI t))) _ := k
              have k := ly_revb 2 (c' := (127, [(2, .int ((nI i) + Int32.ofInt 1)), (1, .int (Int32.ofInt 0)), (0, .ref RR)], [], me_w M (nt_u (nt_u J3 Rd 2 (lb_c z22.1 (Int32.ofInt 0))) Rd 1 (nI t)))) rfl k
              rw [show ((nI i) + Int32.ofInt 1 : Int32) = nI (i + 1) from me_add (k := 1)] at k
              have k := ly_revb 1 (c' := (21, [(2, .int (nI (i + 1))), (1, .int (Int32.ofInt 0)), (0, .ref RR)], [], me_w M (nt_u (nt_u J3 Rd 2 (lb_c z22.1 (Int32.ofInt 0))) Rd 1 (nI t)))) rfl k
              have k := ly_revb 2 (c' := (if (Int32.ofInt 0) = 0 then 130 else 25, [(2, .int (nI (i + 1))), (1, .int (Int32.ofInt 0)), (0, .ref RR)], [], me_w M (nt_u (nt_u J3 Rd 2 (lb_c z22.1 (Int32.ofInt 0))) Rd 1 (nI t)))) rfl k
              rw [if_pos (show (Int32.ofInt 0) = 0 from by decide)] at k
              have k := ly_revb 1 (c' := (131, [(2, .int (nI (i + 1))), (1, .int (Int32.ofInt 0)), (0, .ref RR)], [.ref RR], me_w M (nt_u (nt_u J3 Rd 2 (lb_c z22.1 (Int32.ofInt 0))) Rd 1 (nI t)))) rfl k
              have k := lz_get (a := RR) (g := 500) (M := me_w M (nt_u (nt_u J3 Rd 2 (lb_c z22.1 (Int32.ofInt 0))) Rd 1 (nI t))) (v := .ref Rd) rfl (nt_gfR rfl hP.1.2.2.1) k
              obtain ⟨d1, o1, ed, kc, k⟩ := lz_c (g := 38) (q := 1) (vs := [.ref Rd]) (rest := []) rfl rfl (by decide) (Or.inr (Or.inl ⟨_, rfl, rfl⟩)) rfl k
              have e1 := lc_fault hP hS4 (Nat.le_refl t) kc
              subst e1
              have k : nt_rn X _ 48 (137, [(2, .int (nI (i + 1))), (1, .int (Int32.ofInt 0)), (0, .ref RR)], [.int (lb_c z22.1 (Int32.ofInt 0))], me_w M (nt_u (nt_u J3 Rd 2 (lb_c z22.1 (Int32.ofInt 0))) Rd 1 (nI t))) _ := k
              have k := lz_ri rfl (by decide) k
              exact ⟨1, .inl (lb_c z22.1 (Int32.ofInt 0)), _, k, Or.inr (Or.inr ⟨hw5, by omega, _, hv21, Or.inr ⟨z21, rfl, .inr (z22.1, z22.2.1, (lb_e z22.2.2.1 (Int32.ofInt 23), z22.2.2.2)), Or.inl ⟨hw14, k22, _, _, hu22, hv22, Or.inr ⟨z22, rfl, rfl⟩⟩, Or.inr ⟨_, rfl, Or.inr (Or.inr ⟨hn, hn2, rfl⟩)⟩⟩⟩), (lb_c_ne (by omega) (by decide) (by decide)), _, _, hS4⟩
            · exact absurd rfl hf
        · subst e1
          have k : nt_rn X _ 48 (93, [(2, .int (nI i)), (1, .int (Int32.ofInt 1)), (0, .ref RR)], [.int (Int32.ofInt 0)], me_w M J21) _ := k
          have k := ly_revb 1 (c' := (if (Int32.ofInt 0) = 0 then 110 else 96, [(2, .int (nI i)), (1, .int (Int32.ofInt 1)), (0, .ref RR)], [], me_w M J21)) rfl k
          rw [if_pos (show (Int32.ofInt 0) = 0 from by decide)] at k
          have k := ly_revb 2 (c' := (113, [(2, .int (nI i)), (1, .int (Int32.ofInt 1)), (0, .ref RR)], [.int (Int32.ofInt 22), .ref RR], me_w M J21)) rfl k
          obtain ⟨d1, o1, ed, kc, k⟩ := lz_c (g := 54) (q := 1) (vs := [.ref RR, .int (Int32.ofInt 22)]) (rest := []) rfl rfl (by decide) (Or.inr (Or.inl ⟨_, rfl, rfl⟩)) rfl k
          obtain ⟨J2, e1, hS2⟩ := lc_add hP hS21 hp21 kc
          subst e1
          have k : nt_rn X _ 48 (116, [(2, .int (nI i)), (1, .int (Int32.ofInt 1)), (0, .ref RR)], [], me_w M J2) _ := k
          have k := ly_revb 1 (c' := (117, [(2, .int (nI i)), (1, .int (Int32.ofInt 1)), (0, .ref RR)], [.ref RR], me_w M J2)) rfl k
          have k := lz_get (a := RR) (g := 500) (M := me_w M J2) (v := .ref Rd) rfl (nt_gfR rfl hP.1.2.2.1) k
          obtain ⟨d1, o1, ed, kc, k⟩ := lz_c (g := 35) (q := 1) (vs := [.ref Rd]) (rest := []) rfl rfl (by decide) (Or.inr (Or.inl ⟨_, rfl, rfl⟩)) rfl k
          rcases lc_nextClause hP hS2 hp21 kc with ⟨hn, e1⟩ | ⟨hn, e1⟩ | ⟨hn, hn2, _, e1⟩ | ⟨_, _, hf, _⟩
          · have hlt := lb_g_lt (f := f) (t := t) (p := z21.1) (by rw [hn]; decide)
            rw [Nat.min_eq_left (show z21.1 + 1 ≤ t from hlt)] at e1
            subst e1
            have hS3 := lc_Spp (q := lb_s f t (z21.1 + 1)) hP hS2
            have hp3 : lb_s f t (z21.1 + 1) ≤ t := (lb_s_le (t - (z21.1 + 1)) (z21.1 + 1) (by omega)).2
            have k : nt_rn X _ 48 (123, [(2, .int (nI i)), (1, .int (Int32.ofInt 1)), (0, .ref RR)], [.int (Int32.ofInt 1)], me_w M (nt_u J2 Rd 1 (nI (lb_s f t (z21.1 + 1))))) _ := k
            have k := ly_revb 2 (c' := (127, [(2, .int ((nI i) + Int32.ofInt 1)), (1, .int (Int32.ofInt 1)), (0, .ref RR)], [], me_w M (nt_u J2 Rd 1 (nI (lb_s f t (z21.1 + 1)))))) rfl k
            rw [show ((nI i) + Int32.ofInt 1 : Int32) = nI (i + 1) from me_add (k := 1)] at k
            have k := ly_revb 1 (c' := (21, [(2, .int (nI (i + 1))), (1, .int (Int32.ofInt 1)), (0, .ref RR)], [], me_w M (nt_u J2 Rd 1 (nI (lb_s f t (z21.1 + 1)))))) rfl k
            obtain ⟨k1, r1, J7, e2, hsr, hq⟩ := ih (i + 1) (lb_s f t (z21.1 + 1), z21.2.1, (lb_e z21.2.2.1 (Int32.ofInt 22), z21.2.2.2)) _ (by omega) hp3 hS3 k
            exact ⟨k1 + 1, r1, J7, e2, Or.inr (Or.inr ⟨hw5, by omega, _, hv21, Or.inr ⟨z21, rfl, .inr (z21.1, z21.2.1, (lb_e z21.2.2.1 (Int32.ofInt 22), z21.2.2.2)), Or.inr ⟨hw14, rfl⟩, Or.inr ⟨_, rfl, Or.inl ⟨hn, hsr⟩⟩⟩⟩), hq⟩
          · subst e1
            have k : nt_rn X _ 48 (123, [(2, .int (nI i)), (1, .int (Int32.ofInt 1)), (0, .ref RR)], [.int (Int32.ofInt 0)], me_w M J2) _ := k
            have k := ly_revb 2 (c' := (127, [(2, .int ((nI i) + Int32.ofInt 1)), (1, .int (Int32.ofInt 0)), (0, .ref RR)], [], me_w M J2)) rfl k
            rw [show ((nI i) + Int32.ofInt 1 : Int32) = nI (i + 1) from me_add (k := 1)] at k
            have k := ly_revb 1 (c' := (21, [(2, .int (nI (i + 1))), (1, .int (Int32.ofInt 0)), (0, .ref RR)], [], me_w M J2)) rfl k
            have k := ly_revb 2 (c' := (if (Int32.ofInt 0) = 0 then 130 else 25, [(2, .int (nI (i + 1))), (1, .int (Int32.ofInt 0)), (0, .ref RR)], [], me_w M J2)) rfl k
            rw [if_pos (show (Int32.ofInt 0) = 0 from by decide)] at k
            have k := ly_revb 1 (c' := (131, [(2, .int (nI (i + 1))), (1, .int (Int32.ofInt 0)), (0, .ref RR)], [.ref RR], me_w M J2)) rfl k
            have k := lz_get (a := RR) (g := 500) (M := me_w M J2) (v := .ref Rd) rfl (nt_gfR rfl hP.1.2.2.1) k
            obtain ⟨d1, o1, ed, kc, k⟩ := lz_c (g := 38) (q := 1) (vs := [.ref Rd]) (rest := []) rfl rfl (by decide) (Or.inr (Or.inl ⟨_, rfl, rfl⟩)) rfl k
            have e1 := lc_fault hP hS2 hp21 kc
            subst e1
            have k : nt_rn X _ 48 (137, [(2, .int (nI (i + 1))), (1, .int (Int32.ofInt 0)), (0, .ref RR)], [.int (0)], me_w M J2) _ := k
            have k := lz_ri rfl (by decide) k
            exact ⟨1, .inr (z21.1, z21.2.1, (lb_e z21.2.2.1 (Int32.ofInt 22), z21.2.2.2)), _, k, Or.inr (Or.inr ⟨hw5, by omega, _, hv21, Or.inr ⟨z21, rfl, .inr (z21.1, z21.2.1, (lb_e z21.2.2.1 (Int32.ofInt 22), z21.2.2.2)), Or.inr ⟨hw14, rfl⟩, Or.inr ⟨_, rfl, Or.inr (Or.inl ⟨hn, rfl⟩)⟩⟩⟩), hS2, hp21⟩
          · subst e1
            have hS3 := lc_Spp (q := t) hP (lc_Sf (fb := lb_c z21.1 (Int32.ofInt 0)) hP hS2)
            have k : nt_rn X _ 48 (123, [(2, .int (nI i)), (1, .int (Int32.ofInt 1)), (0, .ref RR)], [.int (Int32.ofInt 0)], me_w M (nt_u (nt_u J2 Rd 2 (lb_c z21.1 (Int32.ofInt 0))) Rd 1 (nI t))) _ := k
            have k := ly_revb 2 (c' := (127, [(2, .int ((nI i) + Int32.ofInt 1)), (1, .int (Int32.ofInt 0)), (0, .ref RR)], [], me_w M (nt_u (nt_u J2 Rd 2 (lb_c z21.1 (Int32.ofInt 0))) Rd 1 (nI t)))) rfl k
            rw [show ((nI i) + Int32.ofInt 1 : Int32) = nI (i + 1) from me_add (k := 1)] at k
            have k := ly_revb 1 (c' := (21, [(2, .int (nI (i + 1))), (1, .int (Int32.ofInt 0)), (0, .ref RR)], [], me_w M (nt_u (nt_u J2 Rd 2 (lb_c z21.1 (Int32.ofInt 0))) Rd 1 (nI t)))) rfl k
            have k := ly_revb 2 (c' := (if (Int32.ofInt 0) = 0 then 130 else 25, [(2, .int (nI (i + 1))), (1, .int (Int32.ofInt 0)), (0, .ref RR)], [], me_w M (nt_u (nt_u J2 Rd 2 (lb_c z21.1 (Int32.ofInt 0))) Rd 1 (nI t)))) rfl k
            rw [if_pos (show (Int32.ofInt 0) = 0 from by decide)] at k
            have k := ly_revb 1 (c' := (131, [(2, .int (nI (i + 1))), (1, .int (Int32.ofInt 0)), (0, .ref RR)], [.ref RR], me_w M (nt_u (nt_u J2 Rd 2 (lb_c z21.1 (Int32.ofInt 0))) Rd 1 (nI t)))) rfl k
            have k := lz_get (a := RR) (g := 500) (M := me_w M (nt_u (nt_u J2 Rd 2 (lb_c z21.1 (Int32.ofInt 0))) Rd 1 (nI t))) (v := .ref Rd) rfl (nt_gfR rfl hP.1.2.2.1) k
            obtain ⟨d1, o1, ed, kc, k⟩ := lz_c (g := 38) (q := 1) (vs := [.ref Rd]) (rest := []) rfl rfl (by decide) (Or.inr (Or.inl ⟨_, rfl, rfl⟩)) rfl k
            have e1 := lc_fault hP hS3 (Nat.le_refl t) kc
            subst e1
            have k : nt_rn X _ 48 (137, [(2, .int (nI (i + 1))), (1, .int (Int32.ofInt 0)), (0, .ref RR)], [.int (lb_c z21.1 (Int32.ofInt 0))], me_w M (nt_u (nt_u J2 Rd 2 (lb_c z21.1 (Int32.ofInt 0))) Rd 1 (nI t))) _ := k
            have k := lz_ri rfl (by decide) k
            exact ⟨1, .inl (lb_c z21.1 (Int32.ofInt 0)), _, k, Or.inr (Or.inr ⟨hw5, by omega, _, hv21, Or.inr ⟨z21, rfl, .inr (z21.1, z21.2.1, (lb_e z21.2.2.1 (Int32.ofInt 22), z21.2.2.2)), Or.inr ⟨hw14, rfl⟩, Or.inr ⟨_, rfl, Or.inr (Or.inr ⟨hn, hn2, rfl⟩)⟩⟩⟩), (lb_c_ne (by omega) (by decide) (by decide)), _, _, hS3⟩
          · exact absurd rfl hf
    · subst e1
      have k : nt_rn X _ 48 (69, [(2, .int (nI i)), (1, .int (Int32.ofInt 1)), (0, .ref RR)], [.int (Int32.ofInt 0)], me_w M J) _ := k
      have k := ly_revb 1 (c' := (if (Int32.ofInt 0) = 0 then 72 else 80, [(2, .int (nI i)), (1, .int (Int32.ofInt 1)), (0, .ref RR)], [], me_w M J)) rfl k
      rw [if_pos (show (Int32.ofInt 0) = 0 from by decide)] at k
      have k := ly_revb 1 (c' := (73, [(2, .int (nI i)), (1, .int (Int32.ofInt 1)), (0, .ref RR)], [.ref RR], me_w M J)) rfl k
      have k := lz_get (a := RR) (g := 500) (M := me_w M J) (v := .ref Rd) rfl (nt_gfR rfl hP.1.2.2.1) k
      have k := ly_revb 1 (c' := (77, [(2, .int (nI i)), (1, .int (Int32.ofInt 1)), (0, .ref RR)], [.int (Int32.ofInt 0), .ref Rd], me_w M J)) rfl k
      obtain ⟨d1, o1, ed, kc, k⟩ := lz_c (g := 31) (q := 1) (vs := [.ref Rd, .int (Int32.ofInt 0)]) (rest := []) rfl rfl (by decide) (Or.inr (Or.inl ⟨_, rfl, rfl⟩)) rfl k
      obtain ⟨hf, e1⟩ := (lc_fail hP hS hp kc).resolve_right (fun c => c.1 rfl)
      subst e1
      have hS1 := lc_Spp (q := t) hP (lc_Sf (fb := lb_c z.1 (Int32.ofInt 0)) hP hS)
      have k : nt_rn X _ 48 (80, [(2, .int (nI i)), (1, .int (Int32.ofInt 1)), (0, .ref RR)], [], me_w M (nt_u (nt_u J Rd 2 (lb_c z.1 (Int32.ofInt 0))) Rd 1 (nI t))) _ := k
      have k := ly_revb 1 (c' := (81, [(2, .int (nI i)), (1, .int (Int32.ofInt 1)), (0, .ref RR)], [.ref RR], me_w M (nt_u (nt_u J Rd 2 (lb_c z.1 (Int32.ofInt 0))) Rd 1 (nI t)))) rfl k
      obtain ⟨d1, o1, ed, kc, k⟩ := lz_c (g := 49) (q := 1) (vs := [.ref RR]) (rest := []) rfl rfl (by decide) (Or.inr (Or.inl ⟨_, rfl, rfl⟩)) rfl k
      obtain ⟨m1, s1, J1, e1, hT1⟩ := lc_readSumF hP hS1 (lb_c_ne (by omega) (by decide) (by decide)) kc
      subst e1
      have k : nt_rn X _ 48 (84, [(2, .int (nI i)), (1, .int (Int32.ofInt 1)), (0, .ref RR)], [], me_w M J1) _ := k
      have k := ly_revb 1 (c' := (85, [(2, .int (nI i)), (1, .int (Int32.ofInt 1)), (0, .ref RR)], [.ref RR], me_w M J1)) rfl k
      have k := lz_get (a := RR) (g := 500) (M := me_w M J1) (v := .ref Rd) rfl (nt_gfR rfl hP.1.2.2.1) k
      have k := ly_revb 1 (c' := (90, [(2, .int (nI i)), (1, .int (Int32.ofInt 1)), (0, .ref RR)], [.ref (nt_sp + 1 + 14), .ref Rd], me_w M J1)) rfl k
      obtain ⟨d1, o1, ed, kc, k⟩ := lz_c (g := 32) (q := 1) (vs := [.ref Rd, .ref (nt_sp + 1 + 14)]) (rest := []) rfl rfl (by decide) (Or.inr (Or.inl ⟨_, rfl, rfl⟩)) rfl k
      obtain ⟨hn, e1⟩ := (lc_takesWord hP hT1 (Nat.le_refl t) kc).resolve_left (fun hh => lb_at_t (by decide) hh.1)
      subst e1
      have k : nt_rn X _ 48 (93, [(2, .int (nI i)), (1, .int (Int32.ofInt 1)), (0, .ref RR)], [.int (Int32.ofInt 0)], me_w M J1) _ := k
      have k := ly_revb 1 (c' := (if (Int32.ofInt 0) = 0 then 110 else 96, [(2, .int (nI i)), (1, .int (Int32.ofInt 1)), (0, .ref RR)], [], me_w M J1)) rfl k
      rw [if_pos (show (Int32.ofInt 0) = 0 from by decide)] at k
      have k := ly_revb 2 (c' := (113, [(2, .int (nI i)), (1, .int (Int32.ofInt 1)), (0, .ref RR)], [.int (Int32.ofInt 22), .ref RR], me_w M J1)) rfl k
      obtain ⟨d1, o1, ed, kc, k⟩ := lz_c (g := 54) (q := 1) (vs := [.ref RR, .int (Int32.ofInt 22)]) (rest := []) rfl rfl (by decide) (Or.inr (Or.inl ⟨_, rfl, rfl⟩)) rfl k
      obtain ⟨J2, e1, hS2⟩ := lc_add hP hT1 (Nat.le_refl t) kc
      subst e1
      have k : nt_rn X _ 48 (116, [(2, .int (nI i)), (1, .int (Int32.ofInt 1)), (0, .ref RR)], [], me_w M J2) _ := k
      have k := ly_revb 1 (c' := (117, [(2, .int (nI i)), (1, .int (Int32.ofInt 1)), (0, .ref RR)], [.ref RR], me_w M J2)) rfl k
      have k := lz_get (a := RR) (g := 500) (M := me_w M J2) (v := .ref Rd) rfl (nt_gfR rfl hP.1.2.2.1) k
      obtain ⟨d1, o1, ed, kc, k⟩ := lz_c (g := 35) (q := 1) (vs := [.ref Rd]) (rest := []) rfl rfl (by decide) (Or.inr (Or.inl ⟨_, rfl, rfl⟩)) rfl k
      have hgt : lb_g f t t = Int32.ofInt (-1) := if_neg (by omega)
      have e1 : o1 = (some (.int (Int32.ofInt 0)), me_w M J2) := by
        rcases lc_nextClause hP hS2 (Nat.le_refl t) kc with ⟨q, _⟩ | ⟨_, q⟩ | ⟨_, q, _⟩ | ⟨_, q, _⟩
        · rw [hgt] at q; exact absurd q (by decide)
        · exact q
        · exact absurd hgt q
        · exact absurd hgt q
      subst e1
      have k : nt_rn X _ 48 (123, [(2, .int (nI i)), (1, .int (Int32.ofInt 1)), (0, .ref RR)], [.int (Int32.ofInt 0)], me_w M J2) _ := k
      have k := ly_revb 2 (c' := (127, [(2, .int ((nI i) + Int32.ofInt 1)), (1, .int (Int32.ofInt 0)), (0, .ref RR)], [], me_w M J2)) rfl k
      rw [show ((nI i) + Int32.ofInt 1 : Int32) = nI (i + 1) from me_add (k := 1)] at k
      have k := ly_revb 1 (c' := (21, [(2, .int (nI (i + 1))), (1, .int (Int32.ofInt 0)), (0, .ref RR)], [], me_w M J2)) rfl k
      have k := ly_revb 2 (c' := (if (Int32.ofInt 0) = 0 then 130 else 25, [(2, .int (nI (i + 1))), (1, .int (Int32.ofInt 0)), (0, .ref RR)], [], me_w M J2)) rfl k
      rw [if_pos (show (Int32.ofInt 0) = 0 from by decide)] at k
      have k := ly_revb 1 (c' := (131, [(2, .int (nI (i + 1))), (1, .int (Int32.ofInt 0)), (0, .ref RR)], [.ref RR], me_w M J2)) rfl k
      have k := lz_get (a := RR) (g := 500) (M := me_w M J2) (v := .ref Rd) rfl (nt_gfR rfl hP.1.2.2.1) k
      obtain ⟨d1, o1, ed, kc, k⟩ := lz_c (g := 38) (q := 1) (vs := [.ref Rd]) (rest := []) rfl rfl (by decide) (Or.inr (Or.inl ⟨_, rfl, rfl⟩)) rfl k
      have e1 := lc_fault hP hS2 (Nat.le_refl t) kc
      subst e1
      have k : nt_rn X _ 48 (137, [(2, .int (nI (i + 1))), (1, .int (Int32.ofInt 0)), (0, .ref RR)], [.int (lb_c z.1 (Int32.ofInt 0))], me_w M J2) _ := k
      have k := lz_ri rfl (by decide) k
      exact ⟨1, .inl (lb_c z.1 (Int32.ofInt 0)), _, k, Or.inl ⟨hw5, rfl⟩, (lb_c_ne (by omega) (by decide) (by decide)), _, _, hS2⟩
theorem lc_open {X : nt_X} {d t Rd Tp By RR Sp : Nat} {f : Nat → Int32} {M : nt_M} {J0 J : Nat → Nat → Int32} {o : Option Value × nt_M} {E : Nat → Int32} (hP : lc_P M J0 f t Rd Tp By RR Sp) (h2 : J RR 2 = nI 0) (h3 : J RR 3 = nI 0) (fr : ∀ a, a ≠ Rd → a ≠ RR → a ≠ Sp → J a = J0 a) (k : nt_ev X d 28 [.ref Rd] (me_w M J) o) : ∃ J', o = (none, me_w M J') ∧ lc_S J0 Rd RR Sp (lb_s f t 0) 0 0 (0, E) J' := by
  have k : nt_rn X d 28 (0, [(0, .ref Rd)], [], me_w M J) o := k
  have t4 : t ≤ 400 := hP.2.2.2.2.1
  have k := ly_revb 2 (c' := (2, [(0, .ref Rd)], [.int (Int32.ofInt 0), .ref Rd], me_w M J)) rfl k
  have k := me_put rfl (by decide) k
  have k : nt_rn X _ 28 (5, [(0, .ref Rd)], [], me_w M (nt_u J Rd 1 (Int32.ofInt 0))) _ := k
  have k := ly_revb 2 (c' := (7, [(0, .ref Rd)], [.int (Int32.ofInt 0), .ref Rd], me_w M (nt_u J Rd 1 (Int32.ofInt 0)))) rfl k
  have k := me_put rfl (by decide) k
  have k : nt_rn X _ 28 (10, [(0, .ref Rd)], [], me_w M (nt_u (nt_u J Rd 1 (Int32.ofInt 0)) Rd 2 (Int32.ofInt 0))) _ := k
  have k := ly_revb 2 (c' := (12, [(0, .ref Rd)], [.int (Int32.ofInt 0), .ref Rd], me_w M (nt_u (nt_u J Rd 1 (Int32.ofInt 0)) Rd 2 (Int32.ofInt 0)))) rfl k
  obtain ⟨d1, o1, ed, kc, k⟩ := lz_c (g := 29) (q := 1) (vs := [.ref Rd, .int (Int32.ofInt 0)]) (rest := []) rfl rfl (by decide) (Or.inr (Or.inl ⟨_, rfl, rfl⟩)) rfl k
  have n1 := hP.2.1.2.2.2.2.2.2.1
  have hS0 : lc_S J0 Rd RR Sp 0 0 0 (0, E) (nt_u (nt_u J Rd 1 (Int32.ofInt 0)) Rd 2 (Int32.ofInt 0)) := ⟨(me_uk (by decide)).trans me_us, me_us, (me_uj (Ne.symm n1)).trans ((me_uj (Ne.symm n1)).trans h2), (me_uj (Ne.symm n1)).trans ((me_uj (Ne.symm n1)).trans h3), fun j hj => absurd hj (Nat.not_lt_zero j), fun a q1 q2 q3 => (me_uo q1).trans ((me_uo q1).trans (fr a q1 q2 q3)), Nat.zero_le 400, Nat.zero_le 60⟩
  have e1 := lc_skip (b := 0) hP hS0 (Nat.zero_le t) (by omega) kc
  rw [show min (0 + 0) t = 0 from by omega] at e1
  subst e1
  have k : nt_rn X _ 28 (15, [(0, .ref Rd)], [], me_w M (nt_u (nt_u (nt_u J Rd 1 (Int32.ofInt 0)) Rd 2 (Int32.ofInt 0)) Rd 1 (nI (lb_s f t 0)))) _ := k
  have k := lz_rv rfl rfl k
  exact ⟨_, k, lc_Spp hP hS0⟩
theorem lc_read {X : nt_X} {d t Rd Tp By RR Sp : Nat} {f : Nat → Int32} {M : nt_M} {J0 J : Nat → Nat → Int32} {o : Option Value × nt_M} {E2 : Nat × (Nat → Int32)} (hP : lc_P M J0 f t Rd Tp By RR Sp) (fr : ∀ a, a ≠ Rd → a ≠ RR → a ≠ Sp → J a = J0 a) (k : nt_ev X d 48 [.ref RR] (me_w M J) o) : ∃ k r J', o = (some (.int (lb_rc r)), me_w M J') ∧ lb_cs f t k 0 (lb_s f t 0, 0, ((0, fun _ => 0), E2)) r ∧ lc_Q J0 Rd RR Sp t r J' := by
  have k : nt_rn X d 48 (0, [(0, .ref RR)], [], me_w M J) o := k
  have t4 : t ≤ 400 := hP.2.2.2.2.1
  have k := ly_revb 2 (c' := (2, [(0, .ref RR)], [.int (Int32.ofInt 0), .ref RR], me_w M J)) rfl k
  have k := me_put rfl (by decide) k
  have k : nt_rn X _ 48 (5, [(0, .ref RR)], [], me_w M (nt_u J RR 2 (Int32.ofInt 0))) _ := k
  have k := ly_revb 2 (c' := (7, [(0, .ref RR)], [.int (Int32.ofInt 0), .ref RR], me_w M (nt_u J RR 2 (Int32.ofInt 0)))) rfl k
  have k := me_put rfl (by decide) k
  have k : nt_rn X _ 48 (10, [(0, .ref RR)], [], me_w M (nt_u (nt_u J RR 2 (Int32.ofInt 0)) RR 3 (Int32.ofInt 0))) _ := k
  have k := ly_revb 1 (c' := (11, [(0, .ref RR)], [.ref RR], me_w M (nt_u (nt_u J RR 2 (Int32.ofInt 0)) RR 3 (Int32.ofInt 0)))) rfl k
  have k := lz_get (a := RR) (g := 500) (M := me_w M (nt_u (nt_u J RR 2 (Int32.ofInt 0)) RR 3 (Int32.ofInt 0))) (v := .ref Rd) rfl (nt_gfR rfl hP.1.2.2.1) k
  obtain ⟨d1, o1, ed, kc, k⟩ := lz_c (g := 28) (q := 1) (vs := [.ref Rd]) (rest := []) rfl rfl (by decide) (Or.inr (Or.inl ⟨_, rfl, rfl⟩)) rfl k
  have n1 := hP.2.1.2.2.2.2.2.2.1
  obtain ⟨J1, e1, hS⟩ := lc_open (E := fun _ => 0) hP (show (nt_u (nt_u J RR 2 (Int32.ofInt 0)) RR 3 (Int32.ofInt 0)) RR 2 = nI 0 from (me_uk (by decide)).trans me_us) (show (nt_u (nt_u J RR 2 (Int32.ofInt 0)) RR 3 (Int32.ofInt 0)) RR 3 = nI 0 from me_us) (fun a q1 q2 q3 => (me_uo q2).trans ((me_uo q2).trans (fr a q1 q2 q3))) kc
  subst e1
  have k : nt_rn X _ 48 (17, [(0, .ref RR)], [], me_w M J1) _ := k
  have k := ly_revb 4 (c' := (21, [(2, .int (Int32.ofInt 0)), (1, .int (Int32.ofInt 1)), (0, .ref RR)], [], me_w M J1)) rfl k
  exact lc_rdl hP 12 0 (lb_s f t 0, 0, ((0, fun _ => 0), E2)) J1 rfl (lb_s_le t 0 (by omega)).2 hS k
