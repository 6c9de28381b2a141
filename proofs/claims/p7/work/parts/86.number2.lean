/-! a number here, the whole -/
theorem lg_lt {a b : Int32} : lg_cmp a.toInt64 b.toInt64 < 0 ↔ a.toInt < b.toInt := by
  unfold lg_cmp
  by_cases h1 : a.toInt64 > b.toInt64
  · rw [if_pos h1]
    have q := Int64.lt_iff_toInt_lt.mp h1
    rw [Int32.toInt_toInt64, Int32.toInt_toInt64] at q
    exact ⟨fun c => absurd c (by decide), fun c => by omega⟩
  · rw [if_neg h1]
    have q : ¬ b.toInt64.toInt < a.toInt64.toInt := fun c => h1 (Int64.lt_iff_toInt_lt.mpr c)
    rw [Int32.toInt_toInt64, Int32.toInt_toInt64] at q
    by_cases h2 : a.toInt64 = b.toInt64
    · rw [if_pos h2]
      have q2 := congrArg Int64.toInt h2
      rw [Int32.toInt_toInt64, Int32.toInt_toInt64] at q2
      exact ⟨fun c => absurd c (by decide), fun c => by omega⟩
    · rw [if_neg h2]
      refine ⟨fun _ => ?_, fun _ => by decide⟩
      have q3 : a.toInt ≠ b.toInt := fun c => h2 (Int64.toInt_inj.mp (by rw [Int32.toInt_toInt64, Int32.toInt_toInt64]; exact c))
      omega
theorem lg_gt {a b : Int32} : 0 < lg_cmp a.toInt64 b.toInt64 ↔ b.toInt < a.toInt := by
  unfold lg_cmp
  by_cases h1 : a.toInt64 > b.toInt64
  · rw [if_pos h1]
    have q := Int64.lt_iff_toInt_lt.mp h1
    rw [Int32.toInt_toInt64, Int32.toInt_toInt64] at q
    exact ⟨fun _ => q, fun _ => by decide⟩
  · rw [if_neg h1]
    have q : ¬ b.toInt64.toInt < a.toInt64.toInt := fun c => h1 (Int64.lt_iff_toInt_lt.mpr c)
    rw [Int32.toInt_toInt64, Int32.toInt_toInt64] at q
    refine ⟨fun c => ?_, fun c => absurd c q⟩
    by_cases h2 : a.toInt64 = b.toInt64
    · rw [if_pos h2] at c; exact absurd c (by decide)
    · rw [if_neg h2] at c; exact absurd c (by decide)
theorem md_in {X : nt_X} {d : Nat} {v lo hi : Int32} {M : nt_M} {J : Nat → Nat → Int32} {o : Option Value × nt_M} (k : nt_ev X d 145 [.long v.toInt64, .long lo.toInt64, .long hi.toInt64] (me_w M J) o) : ∃ r, o = (some (.int r), me_w M J) ∧ (r = Int32.ofInt 1 ∧ (lo.toInt ≤ v.toInt ∧ v.toInt ≤ hi.toInt) ∨ r = Int32.ofInt 0 ∧ ¬ (lo.toInt ≤ v.toInt ∧ v.toInt ≤ hi.toInt)) := by
  have k : nt_rn X d 145 (0, [(0, .long v.toInt64), (2, .long lo.toInt64), (4, .long hi.toInt64)], [], me_w M J) o := k
  have k := ly_revb 4 (c' := (if (lg_cmp v.toInt64 lo.toInt64) < 0 then 17 else 6, [(0, .long (v.toInt64)), (2, .long (lo.toInt64)), (4, .long (hi.toInt64))], [], me_w M J)) rfl k
  by_cases h3 : v.toInt < lo.toInt
  · rw [if_pos (show (lg_cmp v.toInt64 lo.toInt64) < 0 from lg_lt.mpr h3)] at k
    have k := ly_revb 1 (c' := (18, [(0, .long (v.toInt64)), (2, .long (lo.toInt64)), (4, .long (hi.toInt64))], [.int (Int32.ofInt 0)], me_w M J)) rfl k
    have k := lz_ri rfl (by decide) k
    exact ⟨_, k, Or.inr ⟨rfl, fun c => absurd c.1 (by omega)⟩⟩
  · rw [if_neg (show ¬ ((lg_cmp v.toInt64 lo.toInt64) < 0) from fun c => h3 (lg_lt.mp c))] at k
    have k := ly_revb 4 (c' := (if 0 < (lg_cmp v.toInt64 hi.toInt64) then 17 else 13, [(0, .long (v.toInt64)), (2, .long (lo.toInt64)), (4, .long (hi.toInt64))], [], me_w M J)) rfl k
    by_cases h10 : hi.toInt < v.toInt
    · rw [if_pos (show 0 < (lg_cmp v.toInt64 hi.toInt64) from lg_gt.mpr h10)] at k
      have k := ly_revb 1 (c' := (18, [(0, .long (v.toInt64)), (2, .long (lo.toInt64)), (4, .long (hi.toInt64))], [.int (Int32.ofInt 0)], me_w M J)) rfl k
      have k := lz_ri rfl (by decide) k
      exact ⟨_, k, Or.inr ⟨rfl, fun c => absurd c.2 (by omega)⟩⟩
    · rw [if_neg (show ¬ (0 < (lg_cmp v.toInt64 hi.toInt64)) from fun c => h10 (lg_gt.mp c))] at k
      have k := ly_revb 2 (c' := (18, [(0, .long (v.toInt64)), (2, .long (lo.toInt64)), (4, .long (hi.toInt64))], [.int (Int32.ofInt 1)], me_w M J)) rfl k
      have k := lz_ri rfl (by decide) k
      exact ⟨_, k, Or.inl ⟨rfl, by omega, by omega⟩⟩
theorem md_num {X : nt_X} {d t x B Tb Sg Ln q m : Nat} {f : Nat → Int32} {M : nt_M} {J0 J : Nat → Nat → Int32} {o : Option Value × nt_M} {e : Nat × (Nat → Int32)} {lo hi : Int32} (hP : md_P M J0 f t x B Tb Sg Ln) (hS : md_S J0 B Sg Ln x q 0 m e J) (hp : q ≤ t) (k : nt_ev X d 143 [.ref B, .int (lo), .int (hi)] (me_w M J) o) : ∃ r J', o = (some (.int r), me_w M J') ∧ ((lb_d f t (lb_s f t q) = 0 ∧ r = Int32.ofInt 0 ∧ md_S J0 B Sg Ln x (lb_s f t q) (lb_c (lb_s f t q) (Int32.ofInt 0)) m e J') ∨ (0 < lb_d f t (lb_s f t q) ∧ (5 < lb_d f t (lb_s f t q) ∨ ¬ (lo.toInt ≤ (lb_v f (lb_s f t q) (lb_d f t (lb_s f t q))).toInt ∧ (lb_v f (lb_s f t q) (lb_d f t (lb_s f t q))).toInt ≤ hi.toInt)) ∧ r = Int32.ofInt 0 ∧ md_S J0 B Sg Ln x (lb_s f t q + lb_d f t (lb_s f t q)) (lb_c (lb_s f t q) (Int32.ofInt 1)) m e J') ∨ (0 < lb_d f t (lb_s f t q) ∧ lb_d f t (lb_s f t q) ≤ 5 ∧ (lo.toInt ≤ (lb_v f (lb_s f t q) (lb_d f t (lb_s f t q))).toInt ∧ (lb_v f (lb_s f t q) (lb_d f t (lb_s f t q))).toInt ≤ hi.toInt) ∧ r = Int32.ofInt 1 ∧ md_S J0 B Sg Ln x (lb_s f t q + lb_d f t (lb_s f t q)) 0 m e J' ∧ J' B 17 = lb_v f (lb_s f t q) (lb_d f t (lb_s f t q)))) := by
  have k : nt_rn X d 143 (0, [(0, .ref B), (1, .int (lo)), (2, .int (hi))], [], me_w M J) o := k
  have t4 : t ≤ 400 := hP.2.2.2.2.2.1
  have hp1 : lb_s f t q ≤ t := (lb_s_le (t - q) q (by omega)).2
  have hD : lb_s f t q + lb_d f t (lb_s f t q) ≤ t := lb_d_le (t - lb_s f t q) (lb_s f t q) (by omega)
  have k := ly_revb 1 (c' := (1, [(0, .ref B), (1, .int (lo)), (2, .int (hi))], [.ref B], me_w M J)) rfl k
  obtain ⟨d1, o1, ed, kc, k⟩ := lz_c (g := 136) (q := 1) (vs := [.ref B]) (rest := []) rfl rfl (by decide) (Or.inr (Or.inl ⟨_, rfl, rfl⟩)) rfl k
  have e1 := md_see hP hS hp kc
  subst e1
  have hS1 := md_Sq (y := lb_s f t q) hP hS
  have hp1 : lb_s f t q ≤ t := (lb_s_le (t - q) q (by omega)).2
  have k : nt_rn X _ 143 (4, [(0, .ref B), (1, .int (lo)), (2, .int (hi))], [.int (lb_g f t (lb_s f t q))], me_w M (nt_u J B 15 (nI (lb_s f t q)))) _ := k
  have k := ly_revb 3 (c' := (7, [(0, .ref B), (1, .int (lo)), (2, .int (hi))], [.ref B, .ref B], me_w M (nt_u J B 15 (nI (lb_s f t q))))) rfl k
  have k := lz_get (a := B) (g := 1115) (M := me_w M (nt_u J B 15 (nI (lb_s f t q)))) (v := .int (nI (lb_s f t q))) rfl (congrArg Value.int (hS1.1)) k
  obtain ⟨d1, o1, ed, kc, k⟩ := lz_c (g := 144) (q := 1) (vs := [.ref B, .int (nI (lb_s f t q))]) (rest := []) rfl rfl (by decide) (Or.inr (Or.inl ⟨_, rfl, rfl⟩)) rfl k
  obtain ⟨r, e1, hr⟩ := md_isDigit hP hS1 hp1 (by omega) kc
  subst e1
  rcases hr with ⟨rfl, hr⟩ | ⟨rfl, hr⟩
  · have k : nt_rn X _ 143 (13, [(0, .ref B), (1, .int (lo)), (2, .int (hi))], [.int (Int32.ofInt 1)], me_w M (nt_u J B 15 (nI (lb_s f t q)))) _ := k
    have k := ly_revb 1 (c' := (if (Int32.ofInt 1) = 0 then 16 else 26, [(0, .ref B), (1, .int (lo)), (2, .int (hi))], [], me_w M (nt_u J B 15 (nI (lb_s f t q))))) rfl k
    rw [if_neg (show ¬ ((Int32.ofInt 1) = 0) from by decide)] at k
    have k := ly_revb 1 (c' := (27, [(0, .ref B), (1, .int (lo)), (2, .int (hi))], [.ref B], me_w M (nt_u J B 15 (nI (lb_s f t q))))) rfl k
    have k := lz_get (a := B) (g := 1115) (M := me_w M (nt_u J B 15 (nI (lb_s f t q)))) (v := .int (nI (lb_s f t q))) rfl (congrArg Value.int (hS1.1)) k
    have k := ly_revb 3 (c' := (34, [(4, .int (Int32.ofInt 0)), (3, .int (nI (lb_s f t q))), (0, .ref B), (1, .int (lo)), (2, .int (hi))], [], me_w M (nt_u J B 15 (nI (lb_s f t q))))) rfl k
    have hd0 : 0 < lb_d f t (lb_s f t q) := by rw [lb_d1 hr]; omega
    have k := md_nhl (p := lb_s f t q) (D := lb_d f t (lb_s f t q)) hP hD (lb_d f t (lb_s f t q)) 0 _ rfl (by omega) hS1 k
    rw [me_uu] at k
    have hS2 := md_Sq (y := lb_s f t q + lb_d f t (lb_s f t q)) hP hS
    have k : nt_rn X _ 143 (88, [(4, .int (lb_v f (lb_s f t q) (min (lb_d f t (lb_s f t q)) 5))), (3, .int (nI (lb_s f t q))), (0, .ref B), (1, .int (lo)), (2, .int (hi))], [], me_w M (nt_u J B 15 (nI (lb_s f t q + lb_d f t (lb_s f t q))))) _ := k
    have hS3 := md_Sn (y := lb_v f (lb_s f t q) (min (lb_d f t (lb_s f t q)) 5)) hP hS2
    have k := ly_revb 2 (c' := (91, [(4, .int (lb_v f (lb_s f t q) (min (lb_d f t (lb_s f t q)) 5))), (3, .int (nI (lb_s f t q))), (0, .ref B), (1, .int (lo)), (2, .int (hi))], [.int (lb_v f (lb_s f t q) (min (lb_d f t (lb_s f t q)) 5)), .ref B], me_w M (nt_u J B 15 (nI (lb_s f t q + lb_d f t (lb_s f t q)))))) rfl k
    have k := me_put rfl (by decide) k
    have k : nt_rn X _ 143 (94, [(4, .int (lb_v f (lb_s f t q) (min (lb_d f t (lb_s f t q)) 5))), (3, .int (nI (lb_s f t q))), (0, .ref B), (1, .int (lo)), (2, .int (hi))], [], me_w M (nt_u (nt_u J B 15 (nI (lb_s f t q + lb_d f t (lb_s f t q)))) B 17 (lb_v f (lb_s f t q) (min (lb_d f t (lb_s f t q)) 5)))) _ := k
    have k := ly_revb 1 (c' := (95, [(4, .int (lb_v f (lb_s f t q) (min (lb_d f t (lb_s f t q)) 5))), (3, .int (nI (lb_s f t q))), (0, .ref B), (1, .int (lo)), (2, .int (hi))], [.ref B], me_w M (nt_u (nt_u J B 15 (nI (lb_s f t q + lb_d f t (lb_s f t q)))) B 17 (lb_v f (lb_s f t q) (min (lb_d f t (lb_s f t q)) 5))))) rfl k
    have k := lz_get (a := B) (g := 1115) (M := me_w M (nt_u (nt_u J B 15 (nI (lb_s f t q + lb_d f t (lb_s f t q)))) B 17 (lb_v f (lb_s f t q) (min (lb_d f t (lb_s f t q)) 5)))) (v := .int (nI (lb_s f t q + lb_d f t (lb_s f t q)))) rfl (congrArg Value.int ((me_uk (by decide)).trans (hS2.1))) k
    have k := ly_revb 2 (c' := (100, [(4, .int (lb_v f (lb_s f t q) (min (lb_d f t (lb_s f t q)) 5))), (3, .int (nI (lb_s f t q))), (0, .ref B), (1, .int (lo)), (2, .int (hi))], [.int ((nI (lb_s f t q + lb_d f t (lb_s f t q))) - (nI (lb_s f t q)))], me_w M (nt_u (nt_u J B 15 (nI (lb_s f t q + lb_d f t (lb_s f t q)))) B 17 (lb_v f (lb_s f t q) (min (lb_d f t (lb_s f t q)) 5))))) rfl k
    rw [show ((nI (lb_s f t q + lb_d f t (lb_s f t q))) - (nI (lb_s f t q)) : Int32) = nI (lb_d f t (lb_s f t q)) from (me_subn (by omega)).trans (congrArg nI (by omega))] at k
    have k := ly_revb 2 (c' := (if (Int32.ofInt 5) < (nI (lb_d f t (lb_s f t q))) then 117 else 104, [(4, .int (lb_v f (lb_s f t q) (min (lb_d f t (lb_s f t q)) 5))), (3, .int (nI (lb_s f t q))), (0, .ref B), (1, .int (lo)), (2, .int (hi))], [], me_w M (nt_u (nt_u J B 15 (nI (lb_s f t q + lb_d f t (lb_s f t q)))) B 17 (lb_v f (lb_s f t q) (min (lb_d f t (lb_s f t q)) 5))))) rfl k
    by_cases h101 : 5 < lb_d f t (lb_s f t q)
    · rw [if_pos (show (Int32.ofInt 5) < (nI (lb_d f t (lb_s f t q))) from show nI 5 < nI (lb_d f t (lb_s f t q)) from nI_lt h101 (by omega))] at k
      have k := ly_revb 3 (c' := (120, [(4, .int (lb_v f (lb_s f t q) (min (lb_d f t (lb_s f t q)) 5))), (3, .int (nI (lb_s f t q))), (0, .ref B), (1, .int (lo)), (2, .int (hi))], [.int (nI (lb_s f t q)), .int (Int32.ofInt 1), .ref B], me_w M (nt_u (nt_u J B 15 (nI (lb_s f t q + lb_d f t (lb_s f t q)))) B 17 (lb_v f (lb_s f t q) (min (lb_d f t (lb_s f t q)) 5))))) rfl k
      obtain ⟨d1, o1, ed, kc, k⟩ := lz_c (g := 139) (q := 1) (vs := [.ref B, .int (Int32.ofInt 1), .int (nI (lb_s f t q))]) (rest := []) rfl rfl (by decide) (Or.inr (Or.inl ⟨_, rfl, rfl⟩)) rfl k
      obtain ⟨hf, e1⟩ := (md_fails (a := lb_s f t q) hP hS3 hD kc).resolve_right (fun c => c.1 rfl)
      subst e1
      have hS9 := md_Sw (y := lb_c (lb_s f t q) (Int32.ofInt 1)) hP hS3
      have k : nt_rn X _ 143 (123, [(4, .int (lb_v f (lb_s f t q) (min (lb_d f t (lb_s f t q)) 5))), (3, .int (nI (lb_s f t q))), (0, .ref B), (1, .int (lo)), (2, .int (hi))], [.int (Int32.ofInt 0)], me_w M (nt_u (nt_u (nt_u J B 15 (nI (lb_s f t q + lb_d f t (lb_s f t q)))) B 17 (lb_v f (lb_s f t q) (min (lb_d f t (lb_s f t q)) 5))) B 16 (lb_c (lb_s f t q) (Int32.ofInt 1)))) _ := k
      have k := ly_revb 1 (c' := (if (Int32.ofInt 0) = 0 then 130 else 126, [(4, .int (lb_v f (lb_s f t q) (min (lb_d f t (lb_s f t q)) 5))), (3, .int (nI (lb_s f t q))), (0, .ref B), (1, .int (lo)), (2, .int (hi))], [], me_w M (nt_u (nt_u (nt_u J B 15 (nI (lb_s f t q + lb_d f t (lb_s f t q)))) B 17 (lb_v f (lb_s f t q) (min (lb_d f t (lb_s f t q)) 5))) B 16 (lb_c (lb_s f t q) (Int32.ofInt 1))))) rfl k
      rw [if_pos (show (Int32.ofInt 0) = 0 from by decide)] at k
      have k := ly_revb 1 (c' := (131, [(4, .int (lb_v f (lb_s f t q) (min (lb_d f t (lb_s f t q)) 5))), (3, .int (nI (lb_s f t q))), (0, .ref B), (1, .int (lo)), (2, .int (hi))], [.int (Int32.ofInt 0)], me_w M (nt_u (nt_u (nt_u J B 15 (nI (lb_s f t q + lb_d f t (lb_s f t q)))) B 17 (lb_v f (lb_s f t q) (min (lb_d f t (lb_s f t q)) 5))) B 16 (lb_c (lb_s f t q) (Int32.ofInt 1))))) rfl k
      have k := lz_ri rfl (by decide) k
      exact ⟨_, _, k, Or.inr (Or.inl ⟨hd0, Or.inl h101, rfl, hS9⟩)⟩
    · rw [if_neg (show ¬ ((Int32.ofInt 5) < (nI (lb_d f t (lb_s f t q)))) from show ¬ nI 5 < nI (lb_d f t (lb_s f t q)) from nI_nlt (Nat.not_lt.mp h101) (by omega))] at k
      have k := ly_revb 6 (c' := (111, [(4, .int (lb_v f (lb_s f t q) (min (lb_d f t (lb_s f t q)) 5))), (3, .int (nI (lb_s f t q))), (0, .ref B), (1, .int (lo)), (2, .int (hi))], [.long (hi.toInt64), .long (lo.toInt64), .long ((lb_v f (lb_s f t q) (min (lb_d f t (lb_s f t q)) 5)).toInt64)], me_w M (nt_u (nt_u J B 15 (nI (lb_s f t q + lb_d f t (lb_s f t q)))) B 17 (lb_v f (lb_s f t q) (min (lb_d f t (lb_s f t q)) 5))))) rfl k
      obtain ⟨d1, o1, ed, kc, k⟩ := lz_c (g := 145) (q := 0) (vs := [.long ((lb_v f (lb_s f t q) (min (lb_d f t (lb_s f t q)) 5)).toInt64), .long (lo.toInt64), .long (hi.toInt64)]) (rest := []) rfl rfl (by decide) (Or.inl ⟨_, rfl, rfl⟩) rfl k
      obtain ⟨r, e1, hi9⟩ := md_in kc
      subst e1
      rcases hi9 with ⟨rfl, hi9⟩ | ⟨rfl, hi9⟩
      · have k : nt_rn X _ 143 (114, [(4, .int (lb_v f (lb_s f t q) (min (lb_d f t (lb_s f t q)) 5))), (3, .int (nI (lb_s f t q))), (0, .ref B), (1, .int (lo)), (2, .int (hi))], [.int (Int32.ofInt 1)], me_w M (nt_u (nt_u J B 15 (nI (lb_s f t q + lb_d f t (lb_s f t q)))) B 17 (lb_v f (lb_s f t q) (min (lb_d f t (lb_s f t q)) 5)))) _ := k
        have k := ly_revb 1 (c' := (if (Int32.ofInt 1) = 0 then 117 else 126, [(4, .int (lb_v f (lb_s f t q) (min (lb_d f t (lb_s f t q)) 5))), (3, .int (nI (lb_s f t q))), (0, .ref B), (1, .int (lo)), (2, .int (hi))], [], me_w M (nt_u (nt_u J B 15 (nI (lb_s f t q + lb_d f t (lb_s f t q)))) B 17 (lb_v f (lb_s f t q) (min (lb_d f t (lb_s f t q)) 5))))) rfl k
        rw [if_neg (show ¬ ((Int32.ofInt 1) = 0) from by decide)] at k
        have k := ly_revb 2 (c' := (131, [(4, .int (lb_v f (lb_s f t q) (min (lb_d f t (lb_s f t q)) 5))), (3, .int (nI (lb_s f t q))), (0, .ref B), (1, .int (lo)), (2, .int (hi))], [.int (Int32.ofInt 1)], me_w M (nt_u (nt_u J B 15 (nI (lb_s f t q + lb_d f t (lb_s f t q)))) B 17 (lb_v f (lb_s f t q) (min (lb_d f t (lb_s f t q)) 5))))) rfl k
        have k := lz_ri rfl (by decide) k
        rw [show min (lb_d f t (lb_s f t q)) 5 = lb_d f t (lb_s f t q) from by omega] at hi9
        refine ⟨_, _, k, Or.inr (Or.inr ⟨hd0, by omega, hi9, rfl, hS3, ?_⟩)⟩
        rw [me_us, show min (lb_d f t (lb_s f t q)) 5 = lb_d f t (lb_s f t q) from by omega]
      · have k : nt_rn X _ 143 (114, [(4, .int (lb_v f (lb_s f t q) (min (lb_d f t (lb_s f t q)) 5))), (3, .int (nI (lb_s f t q))), (0, .ref B), (1, .int (lo)), (2, .int (hi))], [.int (Int32.ofInt 0)], me_w M (nt_u (nt_u J B 15 (nI (lb_s f t q + lb_d f t (lb_s f t q)))) B 17 (lb_v f (lb_s f t q) (min (lb_d f t (lb_s f t q)) 5)))) _ := k
        have k := ly_revb 1 (c' := (if (Int32.ofInt 0) = 0 then 117 else 126, [(4, .int (lb_v f (lb_s f t q) (min (lb_d f t (lb_s f t q)) 5))), (3, .int (nI (lb_s f t q))), (0, .ref B), (1, .int (lo)), (2, .int (hi))], [], me_w M (nt_u (nt_u J B 15 (nI (lb_s f t q + lb_d f t (lb_s f t q)))) B 17 (lb_v f (lb_s f t q) (min (lb_d f t (lb_s f t q)) 5))))) rfl k
        rw [if_pos (show (Int32.ofInt 0) = 0 from by decide)] at k
        have k := ly_revb 3 (c' := (120, [(4, .int (lb_v f (lb_s f t q) (min (lb_d f t (lb_s f t q)) 5))), (3, .int (nI (lb_s f t q))), (0, .ref B), (1, .int (lo)), (2, .int (hi))], [.int (nI (lb_s f t q)), .int (Int32.ofInt 1), .ref B], me_w M (nt_u (nt_u J B 15 (nI (lb_s f t q + lb_d f t (lb_s f t q)))) B 17 (lb_v f (lb_s f t q) (min (lb_d f t (lb_s f t q)) 5))))) rfl k
        obtain ⟨d1, o1, ed, kc, k⟩ := lz_c (g := 139) (q := 1) (vs := [.ref B, .int (Int32.ofInt 1), .int (nI (lb_s f t q))]) (rest := []) rfl rfl (by decide) (Or.inr (Or.inl ⟨_, rfl, rfl⟩)) rfl k
        obtain ⟨hf, e1⟩ := (md_fails (a := lb_s f t q) hP hS3 hD kc).resolve_right (fun c => c.1 rfl)
        subst e1
        have hS9 := md_Sw (y := lb_c (lb_s f t q) (Int32.ofInt 1)) hP hS3
        have k : nt_rn X _ 143 (123, [(4, .int (lb_v f (lb_s f t q) (min (lb_d f t (lb_s f t q)) 5))), (3, .int (nI (lb_s f t q))), (0, .ref B), (1, .int (lo)), (2, .int (hi))], [.int (Int32.ofInt 0)], me_w M (nt_u (nt_u (nt_u J B 15 (nI (lb_s f t q + lb_d f t (lb_s f t q)))) B 17 (lb_v f (lb_s f t q) (min (lb_d f t (lb_s f t q)) 5))) B 16 (lb_c (lb_s f t q) (Int32.ofInt 1)))) _ := k
        have k := ly_revb 1 (c' := (if (Int32.ofInt 0) = 0 then 130 else 126, [(4, .int (lb_v f (lb_s f t q) (min (lb_d f t (lb_s f t q)) 5))), (3, .int (nI (lb_s f t q))), (0, .ref B), (1, .int (lo)), (2, .int (hi))], [], me_w M (nt_u (nt_u (nt_u J B 15 (nI (lb_s f t q + lb_d f t (lb_s f t q)))) B 17 (lb_v f (lb_s f t q) (min (lb_d f t (lb_s f t q)) 5))) B 16 (lb_c (lb_s f t q) (Int32.ofInt 1))))) rfl k
        rw [if_pos (show (Int32.ofInt 0) = 0 from by decide)] at k
        have k := ly_revb 1 (c' := (131, [(4, .int (lb_v f (lb_s f t q) (min (lb_d f t (lb_s f t q)) 5))), (3, .int (nI (lb_s f t q))), (0, .ref B), (1, .int (lo)), (2, .int (hi))], [.int (Int32.ofInt 0)], me_w M (nt_u (nt_u (nt_u J B 15 (nI (lb_s f t q + lb_d f t (lb_s f t q)))) B 17 (lb_v f (lb_s f t q) (min (lb_d f t (lb_s f t q)) 5))) B 16 (lb_c (lb_s f t q) (Int32.ofInt 1))))) rfl k
        have k := lz_ri rfl (by decide) k
        rw [show min (lb_d f t (lb_s f t q)) 5 = lb_d f t (lb_s f t q) from by omega] at hi9
        exact ⟨_, _, k, Or.inr (Or.inl ⟨hd0, Or.inr hi9, rfl, hS9⟩)⟩
  · have k : nt_rn X _ 143 (13, [(0, .ref B), (1, .int (lo)), (2, .int (hi))], [.int (Int32.ofInt 0)], me_w M (nt_u J B 15 (nI (lb_s f t q)))) _ := k
    have k := ly_revb 1 (c' := (if (Int32.ofInt 0) = 0 then 16 else 26, [(0, .ref B), (1, .int (lo)), (2, .int (hi))], [], me_w M (nt_u J B 15 (nI (lb_s f t q))))) rfl k
    rw [if_pos (show (Int32.ofInt 0) = 0 from by decide)] at k
    have k := ly_revb 3 (c' := (19, [(0, .ref B), (1, .int (lo)), (2, .int (hi))], [.ref B, .int (Int32.ofInt 0), .ref B], me_w M (nt_u J B 15 (nI (lb_s f t q))))) rfl k
    have k := lz_get (a := B) (g := 1115) (M := me_w M (nt_u J B 15 (nI (lb_s f t q)))) (v := .int (nI (lb_s f t q))) rfl (congrArg Value.int (hS1.1)) k
    obtain ⟨d1, o1, ed, kc, k⟩ := lz_c (g := 139) (q := 1) (vs := [.ref B, .int (Int32.ofInt 0), .int (nI (lb_s f t q))]) (rest := []) rfl rfl (by decide) (Or.inr (Or.inl ⟨_, rfl, rfl⟩)) rfl k
    obtain ⟨hf, e1⟩ := (md_fails (a := lb_s f t q) hP hS1 hp1 kc).resolve_right (fun c => c.1 rfl)
    subst e1
    have hS9 := md_Sw (y := lb_c (lb_s f t q) (Int32.ofInt 0)) hP hS1
    have k : nt_rn X _ 143 (25, [(0, .ref B), (1, .int (lo)), (2, .int (hi))], [.int (Int32.ofInt 0)], me_w M (nt_u (nt_u J B 15 (nI (lb_s f t q))) B 16 (lb_c (lb_s f t q) (Int32.ofInt 0)))) _ := k
    have k := lz_ri rfl (by decide) k
    exact ⟨_, _, k, Or.inl ⟨lb_d0 hr, rfl, hS9⟩⟩
