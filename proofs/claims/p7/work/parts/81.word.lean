/-! words, packed into a number -/
def lb_pk (f : Nat → Int32) (p : Nat) : Nat → Int64
  | 0 => Int64.ofNat 0
  | n + 1 => if n < 8 then (lb_pk f p n <<< ((Int32.ofInt 8).toInt64 &&& 63)) ||| (f (p + n)).toInt64 else lb_pk f p n
def lb_iw (f : Nat → Int32) (t p : Nat) (w : Int64) : Prop := 0 < lb_l f t p ∧ lb_l f t p < 8 ∧ lg_cmp (lb_pk f p (lb_l f t p)) w = 0
theorem md_iwl {X : nt_X} {d t x B Tb Sg Ln q m : Nat} {f : Nat → Int32} {M : nt_M} {J0 J : Nat → Nat → Int32} {o : Option Value × nt_M} {wr : Int32} {e : Nat × (Nat → Int32)} {w : Int64} (hP : md_P M J0 f t x B Tb Sg Ln) (hS : md_S J0 B Sg Ln x q wr m e J) (hp : q ≤ t) : ∀ (c n : Nat), lb_l f t (q + n) = c → n + c = lb_l f t q → nt_rn X d 137 (10, [(5, .int (nI n)), (3, .long (lb_pk f q n)), (0, .ref B), (1, .long w)], [], me_w M J) o → ∃ r, o = (some (.int r), me_w M J) ∧ (r = Int32.ofInt 1 ∧ lb_iw f t q w ∨ r = Int32.ofInt 0 ∧ ¬ lb_iw f t q w) := by
  have t4 : t ≤ 400 := hP.2.2.2.2.2.1
  have hl := lb_l_le (f := f) (t := t) (t - q) q (by omega)
  intro c
  induction c with
  | zero =>
    intro n hc hn k
    have hn : n = lb_l f t q := by omega
    have k := ly_revb 2 (c' := (12, [(5, .int (nI n)), (3, .long (lb_pk f q n)), (0, .ref B), (1, .long (w))], [.ref B, .ref B], me_w M J)) rfl k
    have k := lz_get (a := B) (g := 1115) (M := me_w M J) (v := .int (nI q)) rfl (congrArg Value.int (hS.1)) k
    have k := ly_revb 2 (c' := (18, [(5, .int (nI n)), (3, .long (lb_pk f q n)), (0, .ref B), (1, .long (w))], [.int ((nI q) + (nI n)), .ref B], me_w M J)) rfl k
    rw [show ((nI q) + (nI n) : Int32) = nI (q + n) from me_addn] at k
    obtain ⟨d1, o1, ed, kc, k⟩ := lz_c (g := 138) (q := 1) (vs := [.ref B, .int (nI (q + n))]) (rest := []) rfl rfl (by decide) (Or.inr (Or.inl ⟨_, rfl, rfl⟩)) rfl k
    obtain ⟨r, e1, hr⟩ := md_isLetter hP hS hp (by omega) kc
    subst e1
    rcases hr with ⟨rfl, hr⟩ | ⟨rfl, hr⟩
    · have k : nt_rn X _ 137 (21, [(5, .int (nI n)), (3, .long (lb_pk f q n)), (0, .ref B), (1, .long (w))], [.int (Int32.ofInt 1)], me_w M J) _ := k
      rw [lb_l1 hr] at hc
      omega
    · have k : nt_rn X _ 137 (21, [(5, .int (nI n)), (3, .long (lb_pk f q n)), (0, .ref B), (1, .long (w))], [.int (Int32.ofInt 0)], me_w M J) _ := k
      have k := ly_revb 1 (c' := (if (Int32.ofInt 0) = 0 then 56 else 24, [(5, .int (nI n)), (3, .long (lb_pk f q n)), (0, .ref B), (1, .long (w))], [], me_w M J)) rfl k
      rw [if_pos (show (Int32.ofInt 0) = 0 from by decide)] at k
      have k := ly_revb 2 (c' := (if (nI n) ≤ 0 then 78 else 61, [(5, .int (nI n)), (3, .long (lb_pk f q n)), (0, .ref B), (1, .long (w))], [], me_w M J)) rfl k
      by_cases h58 : n = 0
      · rw [if_pos (show (nI n) ≤ 0 from by rw [h58]; decide)] at k
        have k := ly_revb 1 (c' := (79, [(5, .int (nI n)), (3, .long (lb_pk f q n)), (0, .ref B), (1, .long (w))], [.int (Int32.ofInt 0)], me_w M J)) rfl k
        have k := lz_ri rfl (by decide) k
        exact ⟨_, k, Or.inr ⟨rfl, fun c => absurd c.1 (by omega)⟩⟩
      · rw [if_neg (show ¬ ((nI n) ≤ 0) from nI_nle (Nat.pos_of_ne_zero h58) (by omega))] at k
        have k := ly_revb 3 (c' := (if (Int32.ofInt 8) ≤ (nI n) then 78 else 68, [(5, .int (nI n)), (3, .long (lb_pk f q n)), (0, .ref B), (1, .long (w))], [], me_w M J)) rfl k
        by_cases h65 : 8 ≤ n
        · rw [if_pos (show (Int32.ofInt 8) ≤ (nI n) from show nI 8 ≤ nI n from nI_le h65 (by omega))] at k
          have k := ly_revb 1 (c' := (79, [(5, .int (nI n)), (3, .long (lb_pk f q n)), (0, .ref B), (1, .long (w))], [.int (Int32.ofInt 0)], me_w M J)) rfl k
          have k := lz_ri rfl (by decide) k
          exact ⟨_, k, Or.inr ⟨rfl, fun c => absurd c.2.1 (by omega)⟩⟩
        · rw [if_neg (show ¬ ((Int32.ofInt 8) ≤ (nI n)) from show ¬ nI 8 ≤ nI n from nI_ge (Nat.not_le.mp h65) (by omega))] at k
          have k := ly_revb 4 (c' := (if (lg_cmp (lb_pk f q n) w) = 0 then 74 else 78, [(5, .int (nI n)), (3, .long (lb_pk f q n)), (0, .ref B), (1, .long (w))], [], me_w M J)) rfl k
          by_cases h71 : (lg_cmp (lb_pk f q n) w) = 0
          · rw [if_pos (show (lg_cmp (lb_pk f q n) w) = 0 from h71)] at k
            have k := ly_revb 2 (c' := (79, [(5, .int (nI n)), (3, .long (lb_pk f q n)), (0, .ref B), (1, .long (w))], [.int (Int32.ofInt 1)], me_w M J)) rfl k
            have k := lz_ri rfl (by decide) k
            exact ⟨_, k, Or.inl ⟨rfl, by omega, by omega, hn ▸ h71⟩⟩
          · rw [if_neg (show ¬ ((lg_cmp (lb_pk f q n) w) = 0) from h71)] at k
            have k := ly_revb 1 (c' := (79, [(5, .int (nI n)), (3, .long (lb_pk f q n)), (0, .ref B), (1, .long (w))], [.int (Int32.ofInt 0)], me_w M J)) rfl k
            have k := lz_ri rfl (by decide) k
            exact ⟨_, k, Or.inr ⟨rfl, fun c => h71 (hn.symm ▸ c.2.2)⟩⟩
  | succ c ih =>
    intro n hc hn k
    have k := ly_revb 2 (c' := (12, [(5, .int (nI n)), (3, .long (lb_pk f q n)), (0, .ref B), (1, .long (w))], [.ref B, .ref B], me_w M J)) rfl k
    have k := lz_get (a := B) (g := 1115) (M := me_w M J) (v := .int (nI q)) rfl (congrArg Value.int (hS.1)) k
    have k := ly_revb 2 (c' := (18, [(5, .int (nI n)), (3, .long (lb_pk f q n)), (0, .ref B), (1, .long (w))], [.int ((nI q) + (nI n)), .ref B], me_w M J)) rfl k
    rw [show ((nI q) + (nI n) : Int32) = nI (q + n) from me_addn] at k
    obtain ⟨d1, o1, ed, kc, k⟩ := lz_c (g := 138) (q := 1) (vs := [.ref B, .int (nI (q + n))]) (rest := []) rfl rfl (by decide) (Or.inr (Or.inl ⟨_, rfl, rfl⟩)) rfl k
    obtain ⟨r, e1, hr⟩ := md_isLetter hP hS hp (by omega) kc
    subst e1
    rcases hr with ⟨rfl, hr⟩ | ⟨rfl, hr⟩
    · have k : nt_rn X _ 137 (21, [(5, .int (nI n)), (3, .long (lb_pk f q n)), (0, .ref B), (1, .long (w))], [.int (Int32.ofInt 1)], me_w M J) _ := k
      have k := ly_revb 1 (c' := (if (Int32.ofInt 1) = 0 then 56 else 24, [(5, .int (nI n)), (3, .long (lb_pk f q n)), (0, .ref B), (1, .long (w))], [], me_w M J)) rfl k
      rw [if_neg (show ¬ ((Int32.ofInt 1) = 0) from by decide)] at k
      have k := ly_revb 3 (c' := (if (Int32.ofInt 8) ≤ (nI n) then 50 else 31, [(5, .int (nI n)), (3, .long (lb_pk f q n)), (0, .ref B), (1, .long (w))], [], me_w M J)) rfl k
      by_cases h28 : 8 ≤ n
      · rw [if_pos (show (Int32.ofInt 8) ≤ (nI n) from show nI 8 ≤ nI n from nI_le h28 (by omega))] at k
        have k := ly_revb 1 (c' := (53, [(5, .int ((nI n) + Int32.ofInt 1)), (3, .long (lb_pk f q n)), (0, .ref B), (1, .long (w))], [], me_w M J)) rfl k
        rw [show ((nI n) + Int32.ofInt 1 : Int32) = nI (n + 1) from me_add (k := 1)] at k
        have k := ly_revb 1 (c' := (10, [(5, .int (nI (n + 1))), (3, .long (lb_pk f q n)), (0, .ref B), (1, .long (w))], [], me_w M J)) rfl k
        have ep : lb_pk f q (n + 1) = lb_pk f q n := if_neg (by omega)
        rw [← ep] at k
        exact ih (n + 1) (by rw [lb_l1 hr] at hc; exact Nat.succ.inj hc) (by omega) k
      · rw [if_neg (show ¬ ((Int32.ofInt 8) ≤ (nI n)) from show ¬ nI 8 ≤ nI n from nI_ge (Nat.not_le.mp h28) (by omega))] at k
        have k := ly_revb 4 (c' := (36, [(5, .int (nI n)), (3, .long (lb_pk f q n)), (0, .ref B), (1, .long (w))], [.ref B, .long ((lb_pk f q n) <<< ((Int32.ofInt 8).toInt64 &&& 63))], me_w M J)) rfl k
        have k := lz_get (a := B) (g := 1100) (M := me_w M J) (v := .ref Tb) rfl (nt_gfR rfl hP.1.1) k
        have k := ly_revb 1 (c' := (40, [(5, .int (nI n)), (3, .long (lb_pk f q n)), (0, .ref B), (1, .long (w))], [.ref B, .ref Tb, .long ((lb_pk f q n) <<< ((Int32.ofInt 8).toInt64 &&& 63))], me_w M J)) rfl k
        have k := lz_get (a := B) (g := 1115) (M := me_w M J) (v := .int (nI q)) rfl (congrArg Value.int (hS.1)) k
        have k := ly_revb 2 (c' := (46, [(5, .int (nI n)), (3, .long (lb_pk f q n)), (0, .ref B), (1, .long (w))], [.int ((nI q) + (nI n)), .ref Tb, .long ((lb_pk f q n) <<< ((Int32.ofInt 8).toInt64 &&& 63))], me_w M J)) rfl k
        rw [show ((nI q) + (nI n) : Int32) = nI (q + n) from me_addn] at k
        have k := me_bald (q := (q + n)) (v := f ((q + n))) rfl (rfl) (by omega) (md_f hP hS ((q + n))) k
        have k := ly_revb 4 (c' := (53, [(5, .int ((nI n) + Int32.ofInt 1)), (3, .long (((lb_pk f q n) <<< ((Int32.ofInt 8).toInt64 &&& 63)) ||| ((f ((q + n))).toInt64))), (0, .ref B), (1, .long (w))], [], me_w M J)) rfl k
        rw [show ((nI n) + Int32.ofInt 1 : Int32) = nI (n + 1) from me_add (k := 1)] at k
        have k := ly_revb 1 (c' := (10, [(5, .int (nI (n + 1))), (3, .long (((lb_pk f q n) <<< ((Int32.ofInt 8).toInt64 &&& 63)) ||| ((f ((q + n))).toInt64))), (0, .ref B), (1, .long (w))], [], me_w M J)) rfl k
        have ep : lb_pk f q (n + 1) = ((lb_pk f q n) <<< ((Int32.ofInt 8).toInt64 &&& 63)) ||| ((f ((q + n))).toInt64) := if_pos (by omega)
        rw [← ep] at k
        exact ih (n + 1) (by rw [lb_l1 hr] at hc; exact Nat.succ.inj hc) (by omega) k
    · have k : nt_rn X _ 137 (21, [(5, .int (nI n)), (3, .long (lb_pk f q n)), (0, .ref B), (1, .long (w))], [.int (Int32.ofInt 0)], me_w M J) _ := k
      rw [lb_l0 hr] at hc
      omega
theorem md_isWord {X : nt_X} {d t x B Tb Sg Ln q m : Nat} {f : Nat → Int32} {M : nt_M} {J0 J : Nat → Nat → Int32} {o : Option Value × nt_M} {wr : Int32} {e : Nat × (Nat → Int32)} {w : Int64} (hP : md_P M J0 f t x B Tb Sg Ln) (hS : md_S J0 B Sg Ln x q wr m e J) (hp : q ≤ t) (k : nt_ev X d 137 [.ref B, .long (w)] (me_w M J) o) : ∃ r, o = (some (.int r), me_w M (nt_u J B 15 (nI (lb_s f t q)))) ∧ (r = Int32.ofInt 1 ∧ lb_iw f t (lb_s f t q) w ∨ r = Int32.ofInt 0 ∧ ¬ lb_iw f t (lb_s f t q) w) := by
  have k : nt_rn X d 137 (0, [(0, .ref B), (1, .long (w))], [], me_w M J) o := k
  have t4 : t ≤ 400 := hP.2.2.2.2.2.1
  have k := ly_revb 1 (c' := (1, [(0, .ref B), (1, .long (w))], [.ref B], me_w M J)) rfl k
  obtain ⟨d1, o1, ed, kc, k⟩ := lz_c (g := 136) (q := 1) (vs := [.ref B]) (rest := []) rfl rfl (by decide) (Or.inr (Or.inl ⟨_, rfl, rfl⟩)) rfl k
  have e1 := md_see hP hS hp kc
  subst e1
  have hS1 := md_Sq (y := lb_s f t q) hP hS
  have hp1 : lb_s f t q ≤ t := (lb_s_le (t - q) q (by omega)).2
  have k : nt_rn X _ 137 (4, [(0, .ref B), (1, .long (w))], [.int (lb_g f t (lb_s f t q))], me_w M (nt_u J B 15 (nI (lb_s f t q)))) _ := k
  have k := ly_revb 5 (c' := (10, [(5, .int (Int32.ofInt 0)), (3, .long (Int64.ofNat 0)), (0, .ref B), (1, .long (w))], [], me_w M (nt_u J B 15 (nI (lb_s f t q))))) rfl k
  exact md_iwl hP hS1 hp1 _ 0 rfl (by rw [Nat.add_zero]; omega) k
