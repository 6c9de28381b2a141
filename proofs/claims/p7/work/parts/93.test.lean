/-! tests, the other side -/
def md_F (J0 : Nat → Nat → Int32) (B Sg Ln Op x t : Nat) (f : Nat → Int32) (z : lb_Z) (dd : Int32) (S : List Int32) (a : Int32) (J : Nat → Nat → Int32) : Prop :=
  (a = Int32.ofInt 0 ∧ ∃ c q' m' e' dd' S', c ≠ 0 ∧ md_T J0 B Sg Ln Op x q' c m' e' dd' S' J ∧ q' ≤ t ∧ ∃ k, lb_ma f t k 0 dd S z (.inl c)) ∨
  (a = Int32.ofInt 1 ∧ ∃ (z1 : lb_Z) (q1 : Nat) (dd1 : Int32) (S1 : List Int32), lb_s f t q1 = z1.1 ∧ q1 ≤ t ∧ z.1 < z1.1 ∧ md_T J0 B Sg Ln Op x q1 0 z1.2.1 z1.2.2.2 dd1 S1 J ∧ ∀ r, (∃ k, lb_ma f t k 1 dd1 S1 z1 r) → ∃ k, lb_ma f t k 0 dd S z r)
theorem md_Fs {J0 J : Nat → Nat → Int32} {B Sg Ln Op x t : Nat} {f : Nat → Int32} {z z' : lb_Z} {dd dd' a : Int32} {S S' : List Int32} (hz : z.1 ≤ z'.1) (hs : ∀ r, (∃ k, lb_ma f t k 0 dd' S' z' r) → ∃ k, lb_ma f t k 0 dd S z r) (h : md_F J0 B Sg Ln Op x t f z' dd' S' a J) : md_F J0 B Sg Ln Op x t f z dd S a J := by
  rcases h with ⟨h, c, q1, m1, e1, d1, S1, h1, h2, h3, h4⟩ | ⟨h, z1, q1, d1, S1, h1, h2, h3, h4, h5⟩
  · exact Or.inl ⟨h, c, q1, m1, e1, d1, S1, h1, h2, h3, hs _ h4⟩
  · exact Or.inr ⟨h, z1, q1, d1, S1, h1, h2, by omega, h4, fun r hr => hs _ (h5 r hr)⟩
def md_QT (J0 : Nat → Nat → Int32) (B Sg Ln Op x t : Nat) (f : Nat → Int32) (r : lb_Y) (a : Int32) (J : Nat → Nat → Int32) : Prop := match r with
  | .inl c => c ≠ 0 ∧ a = Int32.ofInt 0 ∧ ∃ q m e dd S, md_T J0 B Sg Ln Op x q c m e dd S J ∧ q ≤ t
  | .inr z => a = Int32.ofInt 1 ∧ ∃ q dd S, lb_s f t q = z.1 ∧ q ≤ t ∧ md_T J0 B Sg Ln Op x q 0 z.2.1 z.2.2.2 dd S J
theorem lb_st_ne {l : Nat} (hl : 1 ≤ l) : ∀ (S : List Int32) (d : Int32) (e : lb_E), Int32.ofInt 91 ∈ S → ∃ y S', (lb_st l S d e).2.1 = y :: S' := by
  intro S
  induction S with
  | nil => intro d e h; cases h
  | cons s S ih =>
    intro d e h
    by_cases c : l ≤ lb_sg s
    · have es : lb_st l (s :: S) d e = lb_st l S (if s = Int32.ofInt 11 then d - Int32.ofInt 1 else d) (lb_em e (lb_tw s) s) := if_pos c
      rw [es]
      refine ih _ _ ((List.mem_cons.mp h).resolve_left (fun e => ?_))
      rw [← e, show lb_sg (Int32.ofInt 91) = 0 from by decide] at c
      omega
    · rw [lb_st_no (by omega)]
      exact ⟨s, S, rfl⟩
theorem md_T0 {M : nt_M} {J0 J : Nat → Nat → Int32} {f : Nat → Int32} {t x B Tb Sg Ln Op q m : Nat} {wr : Int32} {e : Nat × (Nat → Int32)} (hP : md_P M J0 f t x B Tb Sg Ln) (hO : md_O M B Tb Sg Ln Op) (hS : md_S J0 B Sg Ln x q wr m e J) : md_T J0 B Sg Ln Op x q wr m e (Int32.ofInt 0) [] (nt_u (nt_u J B 23 (Int32.ofInt 0)) B 20 (Int32.ofInt 0)) := by
  obtain ⟨a1, a2, a3, a4, a5, a6, a7, a8⟩ := hS
  have n1 := hP.2.1.2.2.2.1
  have n2 := hP.2.1.2.2.2.2.1
  exact ⟨⟨(me_uk (by decide)).trans ((me_uk (by decide)).trans a1), (me_uk (by decide)).trans ((me_uk (by decide)).trans a2), (me_uk (by decide)).trans ((me_uk (by decide)).trans a3), (me_uj (Ne.symm n2)).trans ((me_uj (Ne.symm n2)).trans a4), fun j hj => (me_uj (Ne.symm n1)).trans ((me_uj (Ne.symm n1)).trans (a5 j hj)), fun _ _ _ _ _ => rfl, fun _ _ _ _ => rfl, a8⟩, ⟨fun i q1 q2 q3 q4 q5 q6 => (me_uk q5).trans ((me_uk q6).trans (a6 i q1 q2 q3 q4)), fun a q1 q2 q3 _ => (me_uo q1).trans ((me_uo q1).trans (a7 a q1 q2 q3))⟩, me_us, (me_uk (by decide)).trans me_us, trivial, Nat.zero_le _⟩
theorem md_factl {X : nt_X} {d t x B Tb Sg Ln Op m : Nat} {f : Nat → Int32} {M : nt_M} {J0 : Nat → Nat → Int32} {o : Option Value × nt_M} {s0 e : Nat × (Nat → Int32)} (hP : md_P M J0 f t x B Tb Sg Ln) (hO : md_O M B Tb Sg Ln Op) (hB : lb_by f t) : ∀ (c q : Nat) (dd : Int32) (S : List Int32) (J : Nat → Nat → Int32) (c9 : Int32), t - lb_s f t q < c → md_T J0 B Sg Ln Op x q 0 m e dd S J → q ≤ t → nt_rn X d 159 (2, [(1, .int (Int32.ofInt 1)), (2, .int c9), (0, .ref B)], [], me_w M J) o → ∃ a J', o = (some (.int a), me_w M J') ∧ md_F J0 B Sg Ln Op x t f (lb_s f t q, m, (s0, e)) dd S a J' := by
  have t4 : t ≤ 400 := hP.2.2.2.2.2.1
  intro cc
  induction cc with
  | zero => intro q dd S J c9 hc; omega
  | succ cc ih =>
    intro q dd S J c9 hcc hT hp k
    have hss : lb_s f t (lb_s f t q) = lb_s f t q := lb_ss hp
    have k := ly_revb 2 (c' := (if (Int32.ofInt 1) = 0 then 75 else 6, [(1, .int (Int32.ofInt 1)), (2, .int (c9)), (0, .ref B)], [], me_w M J)) rfl k
    rw [if_neg (show ¬ ((Int32.ofInt 1) = 0) from by decide)] at k
    have k := ly_revb 3 (c' := (9, [(1, .int (Int32.ofInt 0)), (2, .int (c9)), (0, .ref B)], [.ref B], me_w M J)) rfl k
    obtain ⟨d1, o1, ed, kc, k⟩ := lz_c (g := 136) (q := 1) (vs := [.ref B]) (rest := []) rfl rfl (by decide) (Or.inr (Or.inl ⟨_, rfl, rfl⟩)) rfl k
    have e1 := md_see (md_TP hP hO hT) hT.1 hp kc
    subst e1
    have hT1 := md_Tup hP hO hT (md_Sq (y := lb_s f t q) (md_TP hP hO hT) hT.1)
    have k : nt_rn X _ 159 (12, [(1, .int (Int32.ofInt 0)), (2, .int (c9)), (0, .ref B)], [.int (lb_g f t (lb_s f t q))], me_w M (nt_u J B 15 (nI (lb_s f t q)))) _ := k
    have hp1 : lb_s f t q ≤ t := (lb_s_le (t - q) q (by omega)).2
    have k := ly_revb 3 (c' := (17, [(2, .int (lb_g f t (lb_s f t q))), (1, .int (Int32.ofInt 0)), (0, .ref B)], [.long (7237492), .ref B], me_w M (nt_u J B 15 (nI (lb_s f t q))))) rfl k
    obtain ⟨d1, o1, ed, kc, k⟩ := lz_c (g := 137) (q := 1) (vs := [.ref B, .long (7237492)]) (rest := []) rfl rfl (by decide) (Or.inr (Or.inl ⟨_, rfl, rfl⟩)) rfl k
    obtain ⟨r, e1, hr⟩ := md_isWord (md_TP hP hO hT1) hT1.1 hp1 kc
    rw [hss, me_uu] at e1
    rw [hss] at hr
    subst e1
    rw [lb_w_not] at hr
    rcases hr with ⟨rfl, g15⟩ | ⟨rfl, g15⟩
    · have k : nt_rn X _ 159 (20, [(2, .int (lb_g f t (lb_s f t q))), (1, .int (Int32.ofInt 0)), (0, .ref B)], [.int (Int32.ofInt 1)], me_w M (nt_u J B 15 (nI (lb_s f t q)))) _ := k
      have k := ly_revb 1 (c' := (if (Int32.ofInt 1) = 0 then 43 else 23, [(2, .int (lb_g f t (lb_s f t q))), (1, .int (Int32.ofInt 0)), (0, .ref B)], [], me_w M (nt_u J B 15 (nI (lb_s f t q))))) rfl k
      rw [if_neg (show ¬ ((Int32.ofInt 1) = 0) from by decide)] at k
      have k := ly_revb 2 (c' := (26, [(2, .int (lb_g f t (lb_s f t q))), (1, .int (Int32.ofInt 0)), (0, .ref B)], [.int (Int32.ofInt 11), .ref B], me_w M (nt_u J B 15 (nI (lb_s f t q))))) rfl k
      obtain ⟨d1, o1, ed, kc, k⟩ := lz_c (g := 160) (q := 1) (vs := [.ref B, .int (Int32.ofInt 11)]) (rest := []) rfl rfl (by decide) (Or.inr (Or.inl ⟨_, rfl, rfl⟩)) rfl k
      rcases md_opens hP hO hT1 hp1 kc with ⟨h10, J2, e1, hT2⟩ | ⟨h10, J2, e1, hT2⟩
      · subst e1
        have k : nt_rn X _ 159 (29, [(2, .int (lb_g f t (lb_s f t q))), (1, .int (Int32.ofInt 0)), (0, .ref B)], [.int (Int32.ofInt 0)], me_w M J2) _ := k
        have k := ly_revb 1 (c' := (if (Int32.ofInt 0) = 0 then 32 else 34, [(2, .int (lb_g f t (lb_s f t q))), (1, .int (Int32.ofInt 0)), (0, .ref B)], [], me_w M J2)) rfl k
        rw [if_pos (show (Int32.ofInt 0) = 0 from by decide)] at k
        have k := ly_revb 1 (c' := (33, [(2, .int (lb_g f t (lb_s f t q))), (1, .int (Int32.ofInt 0)), (0, .ref B)], [.int (Int32.ofInt 0)], me_w M J2)) rfl k
        have k := lz_ri rfl (by decide) k
        exact ⟨_, _, k, Or.inl ⟨rfl, _, _, _, _, _, _, (lb_c_ne (by omega) (by decide) (by decide)), hT2, hp1, 1, Or.inl ⟨g15, h10, rfl⟩⟩⟩
      · subst e1
        have k : nt_rn X _ 159 (29, [(2, .int (lb_g f t (lb_s f t q))), (1, .int (Int32.ofInt 0)), (0, .ref B)], [.int (Int32.ofInt 1)], me_w M J2) _ := k
        have k := ly_revb 1 (c' := (if (Int32.ofInt 1) = 0 then 32 else 34, [(2, .int (lb_g f t (lb_s f t q))), (1, .int (Int32.ofInt 0)), (0, .ref B)], [], me_w M J2)) rfl k
        rw [if_neg (show ¬ ((Int32.ofInt 1) = 0) from by decide)] at k
        have k := ly_revb 1 (c' := (35, [(2, .int (lb_g f t (lb_s f t q))), (1, .int (Int32.ofInt 0)), (0, .ref B)], [.ref B], me_w M J2)) rfl k
        obtain ⟨d1, o1, ed, kc, k⟩ := lz_c (g := 142) (q := 1) (vs := [.ref B]) (rest := []) rfl rfl (by decide) (Or.inr (Or.inl ⟨_, rfl, rfl⟩)) rfl k
        have e1 := md_pass (md_TP hP hO hT2) hT2.1 hp1 kc
        rw [lb_at_l g15] at e1
        subst e1
        have hT3 := md_Tup hP hO hT2 (md_Sq (y := lb_s f t q + (lb_W (nt_sp + 1 + 15)).length) (md_TP hP hO hT2) hT2.1)
        have hp3 : lb_s f t q + (lb_W (nt_sp + 1 + 15)).length ≤ t := g15.1
        have k : nt_rn X _ 159 (38, [(2, .int (lb_g f t (lb_s f t q))), (1, .int (Int32.ofInt 0)), (0, .ref B)], [], me_w M (nt_u J2 B 15 (nI (lb_s f t q + (lb_W (nt_sp + 1 + 15)).length)))) _ := k
        have k := ly_revb 4 (c' := (2, [(1, .int (Int32.ofInt 1)), (2, .int (lb_g f t (lb_s f t q))), (0, .ref B)], [], me_w M (nt_u J2 B 15 (nI (lb_s f t q + (lb_W (nt_sp + 1 + 15)).length))))) rfl k
        have wl := lb_Wp 15 (by decide)
        have hsl := lb_s_le (f := f) (t := t) (t - (lb_s f t q + (lb_W (nt_sp + 1 + 15)).length)) (lb_s f t q + (lb_W (nt_sp + 1 + 15)).length) (by omega)
        obtain ⟨a, J', e9, hF⟩ := ih _ _ _ _ _ (by omega) hT3 hp3 k
        exact ⟨a, J', e9, md_Fs (show lb_s f t q ≤ lb_s f t (lb_s f t q + (lb_W (nt_sp + 1 + 15)).length) by omega) (fun r ⟨k1, hk⟩ => ⟨k1 + 1, Or.inr (Or.inl ⟨g15, h10, hk⟩)⟩) hF⟩
    · have k : nt_rn X _ 159 (20, [(2, .int (lb_g f t (lb_s f t q))), (1, .int (Int32.ofInt 0)), (0, .ref B)], [.int (Int32.ofInt 0)], me_w M (nt_u J B 15 (nI (lb_s f t q)))) _ := k
      have k := ly_revb 1 (c' := (if (Int32.ofInt 0) = 0 then 43 else 23, [(2, .int (lb_g f t (lb_s f t q))), (1, .int (Int32.ofInt 0)), (0, .ref B)], [], me_w M (nt_u J B 15 (nI (lb_s f t q))))) rfl k
      rw [if_pos (show (Int32.ofInt 0) = 0 from by decide)] at k
      have k := ly_revb 3 (c' := (if (lb_g f t (lb_s f t q)) = (Int32.ofInt 91) then 49 else 72, [(2, .int (lb_g f t (lb_s f t q))), (1, .int (Int32.ofInt 0)), (0, .ref B)], [], me_w M (nt_u J B 15 (nI (lb_s f t q))))) rfl k
      by_cases h46 : lb_g f t (lb_s f t q) = Int32.ofInt 91
      · rw [if_pos (show (lb_g f t (lb_s f t q)) = (Int32.ofInt 91) from h46)] at k
        have k := ly_revb 2 (c' := (52, [(2, .int (lb_g f t (lb_s f t q))), (1, .int (Int32.ofInt 0)), (0, .ref B)], [.int (Int32.ofInt 91), .ref B], me_w M (nt_u J B 15 (nI (lb_s f t q))))) rfl k
        obtain ⟨d1, o1, ed, kc, k⟩ := lz_c (g := 160) (q := 1) (vs := [.ref B, .int (Int32.ofInt 91)]) (rest := []) rfl rfl (by decide) (Or.inr (Or.inl ⟨_, rfl, rfl⟩)) rfl k
        rcases md_opens hP hO hT1 hp1 kc with ⟨h10, J2, e1, hT2⟩ | ⟨h10, J2, e1, hT2⟩
        · subst e1
          have k : nt_rn X _ 159 (55, [(2, .int (lb_g f t (lb_s f t q))), (1, .int (Int32.ofInt 0)), (0, .ref B)], [.int (Int32.ofInt 0)], me_w M J2) _ := k
          have k := ly_revb 1 (c' := (if (Int32.ofInt 0) = 0 then 58 else 60, [(2, .int (lb_g f t (lb_s f t q))), (1, .int (Int32.ofInt 0)), (0, .ref B)], [], me_w M J2)) rfl k
          rw [if_pos (show (Int32.ofInt 0) = 0 from by decide)] at k
          have k := ly_revb 1 (c' := (59, [(2, .int (lb_g f t (lb_s f t q))), (1, .int (Int32.ofInt 0)), (0, .ref B)], [.int (Int32.ofInt 0)], me_w M J2)) rfl k
          have k := lz_ri rfl (by decide) k
          exact ⟨_, _, k, Or.inl ⟨rfl, _, _, _, _, _, _, (lb_c_ne (by omega) (by decide) (by decide)), hT2, hp1, 1, Or.inr (Or.inr (Or.inl ⟨g15, h46, h10, rfl⟩))⟩⟩
        · subst e1
          have k : nt_rn X _ 159 (55, [(2, .int (lb_g f t (lb_s f t q))), (1, .int (Int32.ofInt 0)), (0, .ref B)], [.int (Int32.ofInt 1)], me_w M J2) _ := k
          have k := ly_revb 1 (c' := (if (Int32.ofInt 1) = 0 then 58 else 60, [(2, .int (lb_g f t (lb_s f t q))), (1, .int (Int32.ofInt 0)), (0, .ref B)], [], me_w M J2)) rfl k
          rw [if_neg (show ¬ ((Int32.ofInt 1) = 0) from by decide)] at k
          have k := ly_revb 2 (c' := (62, [(2, .int (lb_g f t (lb_s f t q))), (1, .int (Int32.ofInt 0)), (0, .ref B)], [.ref B, .ref B], me_w M J2)) rfl k
          have k := lz_get (a := B) (g := 1115) (M := me_w M J2) (v := .int (nI (lb_s f t q))) rfl (congrArg Value.int (hT2.1.1)) k
          have k := ly_revb 2 (c' := (67, [(2, .int (lb_g f t (lb_s f t q))), (1, .int (Int32.ofInt 0)), (0, .ref B)], [.int ((nI (lb_s f t q)) + (Int32.ofInt 1)), .ref B], me_w M J2)) rfl k
          rw [show ((nI (lb_s f t q)) + (Int32.ofInt 1) : Int32) = nI ((lb_s f t q) + 1) from me_add (k := 1)] at k
          have k := me_put rfl (by decide) k
          have k : nt_rn X _ 159 (70, [(2, .int (lb_g f t (lb_s f t q))), (1, .int (Int32.ofInt 0)), (0, .ref B)], [], me_w M (nt_u J2 B 15 (nI ((lb_s f t q) + 1)))) _ := k
          have hlt : lb_s f t q < t := lb_g_lt (by rw [h46]; decide)
          have hT3 := md_Tup hP hO hT2 (md_Sq (y := lb_s f t q + 1) (md_TP hP hO hT2) hT2.1)
          have hp3 : lb_s f t q + 1 ≤ t := hlt
          have k := ly_revb 3 (c' := (2, [(1, .int (Int32.ofInt 1)), (2, .int (lb_g f t (lb_s f t q))), (0, .ref B)], [], me_w M (nt_u J2 B 15 (nI ((lb_s f t q) + 1))))) rfl k
          have hsl := lb_s_le (f := f) (t := t) (t - (lb_s f t q + 1)) (lb_s f t q + 1) (by omega)
          obtain ⟨a, J', e9, hF⟩ := ih _ _ _ _ _ (by omega) hT3 hp3 k
          exact ⟨a, J', e9, md_Fs (show lb_s f t q ≤ lb_s f t (lb_s f t q + 1) by omega) (fun r ⟨k1, hk⟩ => ⟨k1 + 1, Or.inr (Or.inr (Or.inr (Or.inl ⟨g15, h46, h10, hk⟩)))⟩) hF⟩
      · rw [if_neg (show ¬ ((lb_g f t (lb_s f t q)) = (Int32.ofInt 91)) from h46)] at k
        have k := ly_revb 1 (c' := (2, [(2, .int (lb_g f t (lb_s f t q))), (1, .int (Int32.ofInt 0)), (0, .ref B)], [], me_w M (nt_u J B 15 (nI (lb_s f t q))))) rfl k
        have k := ly_revb 2 (c' := (if (Int32.ofInt 0) = 0 then 75 else 6, [(2, .int (lb_g f t (lb_s f t q))), (1, .int (Int32.ofInt 0)), (0, .ref B)], [], me_w M (nt_u J B 15 (nI (lb_s f t q))))) rfl k
        rw [if_pos (show (Int32.ofInt 0) = 0 from by decide)] at k
        have k := ly_revb 1 (c' := (76, [(2, .int (lb_g f t (lb_s f t q))), (1, .int (Int32.ofInt 0)), (0, .ref B)], [.ref B], me_w M (nt_u J B 15 (nI (lb_s f t q))))) rfl k
        obtain ⟨d1, o1, ed, kc, k⟩ := lz_c (g := 161) (q := 1) (vs := [.ref B]) (rest := []) rfl rfl (by decide) (Or.inr (Or.inl ⟨_, rfl, rfl⟩)) rfl k
        obtain ⟨r1, a1, J4, e1, hfa, hQ⟩ := md_cmp (s0 := s0) (md_TP hP hO hT1) hB hT1.1 hp1 kc
        rw [hss] at hfa
        subst e1
        rcases r1 with c | z1
        · obtain ⟨hc, rfl, q4, m4, e4, hS4, hq4⟩ := hQ
          have k : nt_rn X _ 159 (79, [(2, .int (lb_g f t (lb_s f t q))), (1, .int (Int32.ofInt 0)), (0, .ref B)], [.int (Int32.ofInt 0)], me_w M J4) _ := k
          have k := lz_ri rfl (by decide) k
          exact ⟨_, _, k, Or.inl ⟨rfl, c, _, _, _, _, _, hc, md_Tup hP hO hT1 hS4, hq4, 1, Or.inr (Or.inr (Or.inr (Or.inr ⟨g15, h46, _, hfa, Or.inl ⟨c, rfl, rfl⟩⟩)))⟩⟩
        · obtain ⟨rfl, q4, hz4, hq4, hS4⟩ := hQ
          have k : nt_rn X _ 159 (79, [(2, .int (lb_g f t (lb_s f t q))), (1, .int (Int32.ofInt 0)), (0, .ref B)], [.int (Int32.ofInt 1)], me_w M J4) _ := k
          have k := lz_ri rfl (by decide) k
          exact ⟨_, _, k, Or.inr ⟨rfl, z1, q4, _, _, hz4, hq4, (lb_fa_up hp1 hfa).1, md_Tup hP hO hT1 hS4, fun r ⟨k1, hk⟩ => ⟨k1 + 1, Or.inr (Or.inr (Or.inr (Or.inr ⟨g15, h46, _, hfa, Or.inr ⟨z1, rfl, hk⟩⟩)))⟩⟩⟩
theorem md_fact {X : nt_X} {d t x B Tb Sg Ln Op q m : Nat} {f : Nat → Int32} {M : nt_M} {J0 J : Nat → Nat → Int32} {o : Option Value × nt_M} {dd : Int32} {e : Nat × (Nat → Int32)} {S : List Int32} {s0 : Nat × (Nat → Int32)} (hP : md_P M J0 f t x B Tb Sg Ln) (hO : md_O M B Tb Sg Ln Op) (hB : lb_by f t) (hT : md_T J0 B Sg Ln Op x q 0 m e dd S J) (hp : q ≤ t) (k : nt_ev X d 159 [.ref B] (me_w M J) o) : ∃ a J', o = (some (.int a), me_w M J') ∧ md_F J0 B Sg Ln Op x t f (lb_s f t q, m, (s0, e)) dd S a J' := by
  have k : nt_rn X d 159 (0, [(0, .ref B)], [], me_w M J) o := k
  have t4 : t ≤ 400 := hP.2.2.2.2.2.1
  have hss : lb_s f t (lb_s f t q) = lb_s f t q := lb_ss hp
  have k := ly_revb 2 (c' := (2, [(1, .int (Int32.ofInt 1)), (0, .ref B)], [], me_w M J)) rfl k
  have k := ly_revb 2 (c' := (if (Int32.ofInt 1) = 0 then 75 else 6, [(1, .int (Int32.ofInt 1)), (0, .ref B)], [], me_w M J)) rfl k
  rw [if_neg (show ¬ ((Int32.ofInt 1) = 0) from by decide)] at k
  have k := ly_revb 3 (c' := (9, [(1, .int (Int32.ofInt 0)), (0, .ref B)], [.ref B], me_w M J)) rfl k
  obtain ⟨d1, o1, ed, kc, k⟩ := lz_c (g := 136) (q := 1) (vs := [.ref B]) (rest := []) rfl rfl (by decide) (Or.inr (Or.inl ⟨_, rfl, rfl⟩)) rfl k
  have e1 := md_see (md_TP hP hO hT) hT.1 hp kc
  subst e1
  have hT1 := md_Tup hP hO hT (md_Sq (y := lb_s f t q) (md_TP hP hO hT) hT.1)
  have k : nt_rn X _ 159 (12, [(1, .int (Int32.ofInt 0)), (0, .ref B)], [.int (lb_g f t (lb_s f t q))], me_w M (nt_u J B 15 (nI (lb_s f t q)))) _ := k
  have hp1 : lb_s f t q ≤ t := (lb_s_le (t - q) q (by omega)).2
  have k := ly_revb 3 (c' := (17, [(2, .int (lb_g f t (lb_s f t q))), (1, .int (Int32.ofInt 0)), (0, .ref B)], [.long (7237492), .ref B], me_w M (nt_u J B 15 (nI (lb_s f t q))))) rfl k
  obtain ⟨d1, o1, ed, kc, k⟩ := lz_c (g := 137) (q := 1) (vs := [.ref B, .long (7237492)]) (rest := []) rfl rfl (by decide) (Or.inr (Or.inl ⟨_, rfl, rfl⟩)) rfl k
  obtain ⟨r, e1, hr⟩ := md_isWord (md_TP hP hO hT1) hT1.1 hp1 kc
  rw [hss, me_uu] at e1
  rw [hss] at hr
  subst e1
  rw [lb_w_not] at hr
  rcases hr with ⟨rfl, g15⟩ | ⟨rfl, g15⟩
  · have k : nt_rn X _ 159 (20, [(2, .int (lb_g f t (lb_s f t q))), (1, .int (Int32.ofInt 0)), (0, .ref B)], [.int (Int32.ofInt 1)], me_w M (nt_u J B 15 (nI (lb_s f t q)))) _ := k
    have k := ly_revb 1 (c' := (if (Int32.ofInt 1) = 0 then 43 else 23, [(2, .int (lb_g f t (lb_s f t q))), (1, .int (Int32.ofInt 0)), (0, .ref B)], [], me_w M (nt_u J B 15 (nI (lb_s f t q))))) rfl k
    rw [if_neg (show ¬ ((Int32.ofInt 1) = 0) from by decide)] at k
    have k := ly_revb 2 (c' := (26, [(2, .int (lb_g f t (lb_s f t q))), (1, .int (Int32.ofInt 0)), (0, .ref B)], [.int (Int32.ofInt 11), .ref B], me_w M (nt_u J B 15 (nI (lb_s f t q))))) rfl k
    obtain ⟨d1, o1, ed, kc, k⟩ := lz_c (g := 160) (q := 1) (vs := [.ref B, .int (Int32.ofInt 11)]) (rest := []) rfl rfl (by decide) (Or.inr (Or.inl ⟨_, rfl, rfl⟩)) rfl k
    rcases md_opens hP hO hT1 hp1 kc with ⟨h10, J2, e1, hT2⟩ | ⟨h10, J2, e1, hT2⟩
    · subst e1
      have k : nt_rn X _ 159 (29, [(2, .int (lb_g f t (lb_s f t q))), (1, .int (Int32.ofInt 0)), (0, .ref B)], [.int (Int32.ofInt 0)], me_w M J2) _ := k
      have k := ly_revb 1 (c' := (if (Int32.ofInt 0) = 0 then 32 else 34, [(2, .int (lb_g f t (lb_s f t q))), (1, .int (Int32.ofInt 0)), (0, .ref B)], [], me_w M J2)) rfl k
      rw [if_pos (show (Int32.ofInt 0) = 0 from by decide)] at k
      have k := ly_revb 1 (c' := (33, [(2, .int (lb_g f t (lb_s f t q))), (1, .int (Int32.ofInt 0)), (0, .ref B)], [.int (Int32.ofInt 0)], me_w M J2)) rfl k
      have k := lz_ri rfl (by decide) k
      exact ⟨_, _, k, Or.inl ⟨rfl, _, _, _, _, _, _, (lb_c_ne (by omega) (by decide) (by decide)), hT2, hp1, 1, Or.inl ⟨g15, h10, rfl⟩⟩⟩
    · subst e1
      have k : nt_rn X _ 159 (29, [(2, .int (lb_g f t (lb_s f t q))), (1, .int (Int32.ofInt 0)), (0, .ref B)], [.int (Int32.ofInt 1)], me_w M J2) _ := k
      have k := ly_revb 1 (c' := (if (Int32.ofInt 1) = 0 then 32 else 34, [(2, .int (lb_g f t (lb_s f t q))), (1, .int (Int32.ofInt 0)), (0, .ref B)], [], me_w M J2)) rfl k
      rw [if_neg (show ¬ ((Int32.ofInt 1) = 0) from by decide)] at k
      have k := ly_revb 1 (c' := (35, [(2, .int (lb_g f t (lb_s f t q))), (1, .int (Int32.ofInt 0)), (0, .ref B)], [.ref B], me_w M J2)) rfl k
      obtain ⟨d1, o1, ed, kc, k⟩ := lz_c (g := 142) (q := 1) (vs := [.ref B]) (rest := []) rfl rfl (by decide) (Or.inr (Or.inl ⟨_, rfl, rfl⟩)) rfl k
      have e1 := md_pass (md_TP hP hO hT2) hT2.1 hp1 kc
      rw [lb_at_l g15] at e1
      subst e1
      have hT3 := md_Tup hP hO hT2 (md_Sq (y := lb_s f t q + (lb_W (nt_sp + 1 + 15)).length) (md_TP hP hO hT2) hT2.1)
      have hp3 : lb_s f t q + (lb_W (nt_sp + 1 + 15)).length ≤ t := g15.1
      have k : nt_rn X _ 159 (38, [(2, .int (lb_g f t (lb_s f t q))), (1, .int (Int32.ofInt 0)), (0, .ref B)], [], me_w M (nt_u J2 B 15 (nI (lb_s f t q + (lb_W (nt_sp + 1 + 15)).length)))) _ := k
      have k := ly_revb 4 (c' := (2, [(1, .int (Int32.ofInt 1)), (2, .int (lb_g f t (lb_s f t q))), (0, .ref B)], [], me_w M (nt_u J2 B 15 (nI (lb_s f t q + (lb_W (nt_sp + 1 + 15)).length))))) rfl k
      have wl := lb_Wp 15 (by decide)
      have hsl := lb_s_le (f := f) (t := t) (t - (lb_s f t q + (lb_W (nt_sp + 1 + 15)).length)) (lb_s f t q + (lb_W (nt_sp + 1 + 15)).length) (by omega)
      obtain ⟨a, J', e9, hF⟩ := md_factl (m := m) (e := e) (s0 := s0) hP hO hB (t - (lb_s f t q) + 1) _ _ _ _ _ (by omega) hT3 hp3 k
      exact ⟨a, J', e9, md_Fs (show lb_s f t q ≤ lb_s f t (lb_s f t q + (lb_W (nt_sp + 1 + 15)).length) by omega) (fun r ⟨k1, hk⟩ => ⟨k1 + 1, Or.inr (Or.inl ⟨g15, h10, hk⟩)⟩) hF⟩
  · have k : nt_rn X _ 159 (20, [(2, .int (lb_g f t (lb_s f t q))), (1, .int (Int32.ofInt 0)), (0, .ref B)], [.int (Int32.ofInt 0)], me_w M (nt_u J B 15 (nI (lb_s f t q)))) _ := k
    have k := ly_revb 1 (c' := (if (Int32.ofInt 0) = 0 then 43 else 23, [(2, .int (lb_g f t (lb_s f t q))), (1, .int (Int32.ofInt 0)), (0, .ref B)], [], me_w M (nt_u J B 15 (nI (lb_s f t q))))) rfl k
    rw [if_pos (show (Int32.ofInt 0) = 0 from by decide)] at k
    have k := ly_revb 3 (c' := (if (lb_g f t (lb_s f t q)) = (Int32.ofInt 91) then 49 else 72, [(2, .int (lb_g f t (lb_s f t q))), (1, .int (Int32.ofInt 0)), (0, .ref B)], [], me_w M (nt_u J B 15 (nI (lb_s f t q))))) rfl k
    by_cases h46 : lb_g f t (lb_s f t q) = Int32.ofInt 91
    · rw [if_pos (show (lb_g f t (lb_s f t q)) = (Int32.ofInt 91) from h46)] at k
      have k := ly_revb 2 (c' := (52, [(2, .int (lb_g f t (lb_s f t q))), (1, .int (Int32.ofInt 0)), (0, .ref B)], [.int (Int32.ofInt 91), .ref B], me_w M (nt_u J B 15 (nI (lb_s f t q))))) rfl k
      obtain ⟨d1, o1, ed, kc, k⟩ := lz_c (g := 160) (q := 1) (vs := [.ref B, .int (Int32.ofInt 91)]) (rest := []) rfl rfl (by decide) (Or.inr (Or.inl ⟨_, rfl, rfl⟩)) rfl k
      rcases md_opens hP hO hT1 hp1 kc with ⟨h10, J2, e1, hT2⟩ | ⟨h10, J2, e1, hT2⟩
      · subst e1
        have k : nt_rn X _ 159 (55, [(2, .int (lb_g f t (lb_s f t q))), (1, .int (Int32.ofInt 0)), (0, .ref B)], [.int (Int32.ofInt 0)], me_w M J2) _ := k
        have k := ly_revb 1 (c' := (if (Int32.ofInt 0) = 0 then 58 else 60, [(2, .int (lb_g f t (lb_s f t q))), (1, .int (Int32.ofInt 0)), (0, .ref B)], [], me_w M J2)) rfl k
        rw [if_pos (show (Int32.ofInt 0) = 0 from by decide)] at k
        have k := ly_revb 1 (c' := (59, [(2, .int (lb_g f t (lb_s f t q))), (1, .int (Int32.ofInt 0)), (0, .ref B)], [.int (Int32.ofInt 0)], me_w M J2)) rfl k
        have k := lz_ri rfl (by decide) k
        exact ⟨_, _, k, Or.inl ⟨rfl, _, _, _, _, _, _, (lb_c_ne (by omega) (by decide) (by decide)), hT2, hp1, 1, Or.inr (Or.inr (Or.inl ⟨g15, h46, h10, rfl⟩))⟩⟩
      · subst e1
        have k : nt_rn X _ 159 (55, [(2, .int (lb_g f t (lb_s f t q))), (1, .int (Int32.ofInt 0)), (0, .ref B)], [.int (Int32.ofInt 1)], me_w M J2) _ := k
        have k := ly_revb 1 (c' := (if (Int32.ofInt 1) = 0 then 58 else 60, [(2, .int (lb_g f t (lb_s f t q))), (1, .int (Int32.ofInt 0)), (0, .ref B)], [], me_w M J2)) rfl k
        rw [if_neg (show ¬ ((Int32.ofInt 1) = 0) from by decide)] at k
        have k := ly_revb 2 (c' := (62, [(2, .int (lb_g f t (lb_s f t q))), (1, .int (Int32.ofInt 0)), (0, .ref B)], [.ref B, .ref B], me_w M J2)) rfl k
        have k := lz_get (a := B) (g := 1115) (M := me_w M J2) (v := .int (nI (lb_s f t q))) rfl (congrArg Value.int (hT2.1.1)) k
        have k := ly_revb 2 (c' := (67, [(2, .int (lb_g f t (lb_s f t q))), (1, .int (Int32.ofInt 0)), (0, .ref B)], [.int ((nI (lb_s f t q)) + (Int32.ofInt 1)), .ref B], me_w M J2)) rfl k
        rw [show ((nI (lb_s f t q)) + (Int32.ofInt 1) : Int32) = nI ((lb_s f t q) + 1) from me_add (k := 1)] at k
        have k := me_put rfl (by decide) k
        have k : nt_rn X _ 159 (70, [(2, .int (lb_g f t (lb_s f t q))), (1, .int (Int32.ofInt 0)), (0, .ref B)], [], me_w M (nt_u J2 B 15 (nI ((lb_s f t q) + 1)))) _ := k
        have hlt : lb_s f t q < t := lb_g_lt (by rw [h46]; decide)
        have hT3 := md_Tup hP hO hT2 (md_Sq (y := lb_s f t q + 1) (md_TP hP hO hT2) hT2.1)
        have hp3 : lb_s f t q + 1 ≤ t := hlt
        have k := ly_revb 3 (c' := (2, [(1, .int (Int32.ofInt 1)), (2, .int (lb_g f t (lb_s f t q))), (0, .ref B)], [], me_w M (nt_u J2 B 15 (nI ((lb_s f t q) + 1))))) rfl k
        have hsl := lb_s_le (f := f) (t := t) (t - (lb_s f t q + 1)) (lb_s f t q + 1) (by omega)
        obtain ⟨a, J', e9, hF⟩ := md_factl (m := m) (e := e) (s0 := s0) hP hO hB (t - (lb_s f t q) + 1) _ _ _ _ _ (by omega) hT3 hp3 k
        exact ⟨a, J', e9, md_Fs (show lb_s f t q ≤ lb_s f t (lb_s f t q + 1) by omega) (fun r ⟨k1, hk⟩ => ⟨k1 + 1, Or.inr (Or.inr (Or.inr (Or.inl ⟨g15, h46, h10, hk⟩)))⟩) hF⟩
    · rw [if_neg (show ¬ ((lb_g f t (lb_s f t q)) = (Int32.ofInt 91)) from h46)] at k
      have k := ly_revb 1 (c' := (2, [(2, .int (lb_g f t (lb_s f t q))), (1, .int (Int32.ofInt 0)), (0, .ref B)], [], me_w M (nt_u J B 15 (nI (lb_s f t q))))) rfl k
      have k := ly_revb 2 (c' := (if (Int32.ofInt 0) = 0 then 75 else 6, [(2, .int (lb_g f t (lb_s f t q))), (1, .int (Int32.ofInt 0)), (0, .ref B)], [], me_w M (nt_u J B 15 (nI (lb_s f t q))))) rfl k
      rw [if_pos (show (Int32.ofInt 0) = 0 from by decide)] at k
      have k := ly_revb 1 (c' := (76, [(2, .int (lb_g f t (lb_s f t q))), (1, .int (Int32.ofInt 0)), (0, .ref B)], [.ref B], me_w M (nt_u J B 15 (nI (lb_s f t q))))) rfl k
      obtain ⟨d1, o1, ed, kc, k⟩ := lz_c (g := 161) (q := 1) (vs := [.ref B]) (rest := []) rfl rfl (by decide) (Or.inr (Or.inl ⟨_, rfl, rfl⟩)) rfl k
      obtain ⟨r1, a1, J4, e1, hfa, hQ⟩ := md_cmp (s0 := s0) (md_TP hP hO hT1) hB hT1.1 hp1 kc
      rw [hss] at hfa
      subst e1
      rcases r1 with c | z1
      · obtain ⟨hc, rfl, q4, m4, e4, hS4, hq4⟩ := hQ
        have k : nt_rn X _ 159 (79, [(2, .int (lb_g f t (lb_s f t q))), (1, .int (Int32.ofInt 0)), (0, .ref B)], [.int (Int32.ofInt 0)], me_w M J4) _ := k
        have k := lz_ri rfl (by decide) k
        exact ⟨_, _, k, Or.inl ⟨rfl, c, _, _, _, _, _, hc, md_Tup hP hO hT1 hS4, hq4, 1, Or.inr (Or.inr (Or.inr (Or.inr ⟨g15, h46, _, hfa, Or.inl ⟨c, rfl, rfl⟩⟩)))⟩⟩
      · obtain ⟨rfl, q4, hz4, hq4, hS4⟩ := hQ
        have k : nt_rn X _ 159 (79, [(2, .int (lb_g f t (lb_s f t q))), (1, .int (Int32.ofInt 0)), (0, .ref B)], [.int (Int32.ofInt 1)], me_w M J4) _ := k
        have k := lz_ri rfl (by decide) k
        exact ⟨_, _, k, Or.inr ⟨rfl, z1, q4, _, _, hz4, hq4, (lb_fa_up hp1 hfa).1, md_Tup hP hO hT1 hS4, fun r ⟨k1, hk⟩ => ⟨k1 + 1, Or.inr (Or.inr (Or.inr (Or.inr ⟨g15, h46, _, hfa, Or.inr ⟨z1, rfl, hk⟩⟩)))⟩⟩⟩
theorem md_clol {X : nt_X} {d t x B Tb Sg Ln Op m : Nat} {f : Nat → Int32} {M : nt_M} {J0 : Nat → Nat → Int32} {o : Option Value × nt_M} (hP : md_P M J0 f t x B Tb Sg Ln) (hO : md_O M B Tb Sg Ln Op) : ∀ (c q : Nat) (e : lb_E) (dd : Int32) (S : List Int32) (J : Nat → Nat → Int32), t - lb_s f t q < c → md_T J0 B Sg Ln Op x q 0 m e.2 dd S J → q ≤ t → nt_rn X d 162 (5, [(0, .ref B)], [], me_w M J) o → ∃ (J' : Nat → Nat → Int32) (z1 : lb_Z) (q1 : Nat) (dd1 : Int32) (S1 : List Int32), o = (none, me_w M J') ∧ lb_s f t q1 = z1.1 ∧ q1 ≤ t ∧ lb_s f t q ≤ z1.1 ∧ md_T J0 B Sg Ln Op x q1 0 z1.2.1 z1.2.2.2 dd1 S1 J' ∧ ∀ r, (∃ k, lb_ma f t k 3 dd1 S1 z1 r) → ∃ k, lb_ma f t k 2 dd S (lb_s f t q, m, e) r := by
  have t4 : t ≤ 400 := hP.2.2.2.2.2.1
  intro cc
  induction cc with
  | zero => intro q e dd S J hc; omega
  | succ cc ih =>
    intro q e dd S J hcc hT hp k
    have hss : lb_s f t (lb_s f t q) = lb_s f t q := lb_ss hp
    have k := ly_revb 1 (c' := (6, [(0, .ref B)], [.ref B], me_w M J)) rfl k
    obtain ⟨d1, o1, ed, kc, k⟩ := lz_c (g := 136) (q := 1) (vs := [.ref B]) (rest := []) rfl rfl (by decide) (Or.inr (Or.inl ⟨_, rfl, rfl⟩)) rfl k
    have e1 := md_see (md_TP hP hO hT) hT.1 hp kc
    subst e1
    have hT1 := md_Tup hP hO hT (md_Sq (y := lb_s f t q) (md_TP hP hO hT) hT.1)
    have k : nt_rn X _ 162 (9, [(0, .ref B)], [.int (lb_g f t (lb_s f t q))], me_w M (nt_u J B 15 (nI (lb_s f t q)))) _ := k
    have hp1 : lb_s f t q ≤ t := (lb_s_le (t - q) q (by omega)).2
    have k := ly_revb 2 (c' := (if (lb_g f t (lb_s f t q)) = (Int32.ofInt 93) then 14 else 64, [(0, .ref B)], [], me_w M (nt_u J B 15 (nI (lb_s f t q))))) rfl k
    by_cases h11 : lb_g f t (lb_s f t q) = Int32.ofInt 93
    · rw [if_pos (show (lb_g f t (lb_s f t q)) = (Int32.ofInt 93) from h11)] at k
      have k := ly_revb 1 (c' := (15, [(0, .ref B)], [.ref B], me_w M (nt_u J B 15 (nI (lb_s f t q))))) rfl k
      obtain ⟨d1, o1, ed, kc, k⟩ := lz_c (g := 165) (q := 1) (vs := [.ref B]) (rest := []) rfl rfl (by decide) (Or.inr (Or.inl ⟨_, rfl, rfl⟩)) rfl k
      obtain ⟨r, e1, hin⟩ := md_inside hP hO hT1 kc
      subst e1
      rcases hin with ⟨rfl, hin⟩ | ⟨rfl, hin⟩
      · have k : nt_rn X _ 162 (18, [(0, .ref B)], [.int (Int32.ofInt 1)], me_w M (nt_u J B 15 (nI (lb_s f t q)))) _ := k
        have k := ly_revb 1 (c' := (if (Int32.ofInt 1) = 0 then 64 else 21, [(0, .ref B)], [], me_w M (nt_u J B 15 (nI (lb_s f t q))))) rfl k
        rw [if_neg (show ¬ ((Int32.ofInt 1) = 0) from by decide)] at k
        have k := ly_revb 2 (c' := (23, [(0, .ref B)], [.int (Int32.ofInt 1), .ref B], me_w M (nt_u J B 15 (nI (lb_s f t q))))) rfl k
        obtain ⟨d1, o1, ed, kc, k⟩ := lz_c (g := 163) (q := 1) (vs := [.ref B, .int (Int32.ofInt 1)]) (rest := []) rfl rfl (by decide) (Or.inr (Or.inl ⟨_, rfl, rfl⟩)) rfl k
        obtain ⟨J2, e1, hT2⟩ := md_settles (l := 1) hP hO (by decide) hp1 S dd e _ hT1 kc
        subst e1
        obtain ⟨y, S2, hS2⟩ := lb_st_ne (l := 1) (by decide) S dd e hin
        rw [hS2] at hT2
        have s4 : S2.length + 1 ≤ 400 := hT2.2.2.2.2.2
        have k : nt_rn X _ 162 (26, [(0, .ref B)], [], me_w M J2) _ := k
        have k := ly_revb 2 (c' := (28, [(0, .ref B)], [.ref B, .ref B], me_w M J2)) rfl k
        have k := lz_get (a := B) (g := 1123) (M := me_w M J2) (v := .int (nI (S2.length + 1))) rfl (congrArg Value.int (hT2.2.2.2.1)) k
        have k := ly_revb 2 (c' := (33, [(0, .ref B)], [.int ((nI (S2.length + 1)) - (Int32.ofInt 1)), .ref B], me_w M J2)) rfl k
        rw [show ((nI (S2.length + 1)) - (Int32.ofInt 1) : Int32) = nI S2.length from (me_subn (b := 1) (by omega)).trans (congrArg nI (by omega))] at k
        have k := me_put rfl (by decide) k
        have k : nt_rn X _ 162 (36, [(0, .ref B)], [], me_w M (nt_u J2 B 23 (nI S2.length))) _ := k
        have hT3 := md_Tpop hP hO hT2
        have k := ly_revb 2 (c' := (38, [(0, .ref B)], [.ref B, .ref B], me_w M (nt_u J2 B 23 (nI S2.length)))) rfl k
        have k := lz_get (a := B) (g := 1120) (M := me_w M (nt_u J2 B 23 (nI S2.length))) (v := .int ((lb_st 1 S dd e).1)) rfl (congrArg Value.int (hT3.2.2.1)) k
        have k := ly_revb 2 (c' := (43, [(0, .ref B)], [.int (((lb_st 1 S dd e).1) - (Int32.ofInt 1)), .ref B], me_w M (nt_u J2 B 23 (nI S2.length)))) rfl k
        have k := me_put rfl (by decide) k
        have k : nt_rn X _ 162 (46, [(0, .ref B)], [], me_w M (nt_u (nt_u J2 B 23 (nI S2.length)) B 20 (((lb_st 1 S dd e).1) - (Int32.ofInt 1)))) _ := k
        have hT4 := md_Td (y := (lb_st 1 S dd e).1 - Int32.ofInt 1) hP hO hT3
        have k := ly_revb 2 (c' := (48, [(0, .ref B)], [.ref B, .ref B], me_w M (nt_u (nt_u J2 B 23 (nI S2.length)) B 20 (((lb_st 1 S dd e).1) - (Int32.ofInt 1))))) rfl k
        have k := lz_get (a := B) (g := 1115) (M := me_w M (nt_u (nt_u J2 B 23 (nI S2.length)) B 20 (((lb_st 1 S dd e).1) - (Int32.ofInt 1)))) (v := .int (nI (lb_s f t q))) rfl (congrArg Value.int (hT4.1.1)) k
        have k := ly_revb 2 (c' := (53, [(0, .ref B)], [.int ((nI (lb_s f t q)) + (Int32.ofInt 1)), .ref B], me_w M (nt_u (nt_u J2 B 23 (nI S2.length)) B 20 (((lb_st 1 S dd e).1) - (Int32.ofInt 1))))) rfl k
        rw [show ((nI (lb_s f t q)) + (Int32.ofInt 1) : Int32) = nI ((lb_s f t q) + 1) from me_add (k := 1)] at k
        have k := me_put rfl (by decide) k
        have k : nt_rn X _ 162 (56, [(0, .ref B)], [], me_w M (nt_u (nt_u (nt_u J2 B 23 (nI S2.length)) B 20 (((lb_st 1 S dd e).1) - (Int32.ofInt 1))) B 15 (nI ((lb_s f t q) + 1)))) _ := k
        have hlt : lb_s f t q < t := lb_g_lt (by rw [h11]; decide)
        have hp5 : lb_s f t q + 1 ≤ t := hlt
        have hT5 := md_Tup hP hO hT4 (md_Sq (y := lb_s f t q + 1) (md_TP hP hO hT4) hT4.1)
        have k := ly_revb 2 (c' := (58, [(0, .ref B)], [.int (Int32.ofInt 3), .ref B], me_w M (nt_u (nt_u (nt_u J2 B 23 (nI S2.length)) B 20 (((lb_st 1 S dd e).1) - (Int32.ofInt 1))) B 15 (nI ((lb_s f t q) + 1))))) rfl k
        obtain ⟨d1, o1, ed, kc, k⟩ := lz_c (g := 163) (q := 1) (vs := [.ref B, .int (Int32.ofInt 3)]) (rest := []) rfl rfl (by decide) (Or.inr (Or.inl ⟨_, rfl, rfl⟩)) rfl k
        obtain ⟨J6, e1, hT6⟩ := md_settles (l := 3) hP hO (by decide) hp5 S2 ((lb_st 1 S dd e).1 - Int32.ofInt 1) (lb_st 1 S dd e).2.2 _ hT5 kc
        subst e1
        have k : nt_rn X _ 162 (61, [(0, .ref B)], [], me_w M J6) _ := k
        have k := ly_revb 1 (c' := (5, [(0, .ref B)], [], me_w M J6)) rfl k
        have hsl := lb_s_le (f := f) (t := t) (t - (lb_s f t q + 1)) (lb_s f t q + 1) (by omega)
        obtain ⟨J', z1, q1, dd1, S1, e9, hz1, hq1, hle, hT9, hr⟩ := ih _ _ _ _ _ (by omega) hT6 hp5 k
        refine ⟨J', z1, q1, dd1, S1, e9, hz1, hq1, by omega, hT9, fun r hh => ?_⟩
        obtain ⟨k1, hk⟩ := hr r hh
        refine ⟨k1 + 2, Or.inl ⟨⟨h11, hin⟩, ?_⟩⟩
        dsimp only
        rw [hS2]
        exact hk
      · have k : nt_rn X _ 162 (18, [(0, .ref B)], [.int (Int32.ofInt 0)], me_w M (nt_u J B 15 (nI (lb_s f t q)))) _ := k
        have k := ly_revb 1 (c' := (if (Int32.ofInt 0) = 0 then 64 else 21, [(0, .ref B)], [], me_w M (nt_u J B 15 (nI (lb_s f t q))))) rfl k
        rw [if_pos (show (Int32.ofInt 0) = 0 from by decide)] at k
        have k := lz_rv rfl rfl k
        exact ⟨_, (lb_s f t q, m, e), lb_s f t q, dd, S, k, hss, hp1, Nat.le_refl _, hT1, fun r ⟨k1, hk⟩ => ⟨k1 + 1, Or.inr ⟨fun c => hin c.2, hk⟩⟩⟩
    · rw [if_neg (show ¬ ((lb_g f t (lb_s f t q)) = (Int32.ofInt 93)) from h11)] at k
      have k := lz_rv rfl rfl k
      exact ⟨_, (lb_s f t q, m, e), lb_s f t q, dd, S, k, hss, hp1, Nat.le_refl _, hT1, fun r ⟨k1, hk⟩ => ⟨k1 + 1, Or.inr ⟨fun c => h11 c.1, hk⟩⟩⟩
theorem md_closes {X : nt_X} {d t x B Tb Sg Ln Op q m : Nat} {f : Nat → Int32} {M : nt_M} {J0 J : Nat → Nat → Int32} {o : Option Value × nt_M} {dd : Int32} {e : lb_E} {S : List Int32} (hP : md_P M J0 f t x B Tb Sg Ln) (hO : md_O M B Tb Sg Ln Op) (hT : md_T J0 B Sg Ln Op x q 0 m e.2 dd S J) (hp : q ≤ t) (k : nt_ev X d 162 [.ref B] (me_w M J) o) : ∃ (J' : Nat → Nat → Int32) (z1 : lb_Z) (q1 : Nat) (dd1 : Int32) (S1 : List Int32), o = (none, me_w M J') ∧ lb_s f t q1 = z1.1 ∧ q1 ≤ t ∧ lb_s f t q ≤ z1.1 ∧ md_T J0 B Sg Ln Op x q1 0 z1.2.1 z1.2.2.2 dd1 S1 J' ∧ ∀ r, (∃ k, lb_ma f t k 3 dd1 S1 z1 r) → ∃ k, lb_ma f t k 1 dd S (lb_s f t q, m, e) r := by
  have k : nt_rn X d 162 (0, [(0, .ref B)], [], me_w M J) o := k
  have t4 : t ≤ 400 := hP.2.2.2.2.2.1
  have k := ly_revb 2 (c' := (2, [(0, .ref B)], [.int (Int32.ofInt 3), .ref B], me_w M J)) rfl k
  obtain ⟨d1, o1, ed, kc, k⟩ := lz_c (g := 163) (q := 1) (vs := [.ref B, .int (Int32.ofInt 3)]) (rest := []) rfl rfl (by decide) (Or.inr (Or.inl ⟨_, rfl, rfl⟩)) rfl k
  obtain ⟨J6, e1, hT6⟩ := md_settles (l := 3) hP hO (by decide) hp S dd e _ hT kc
  subst e1
  have k : nt_rn X _ 162 (5, [(0, .ref B)], [], me_w M J6) _ := k
  obtain ⟨J', z1, q1, dd1, S1, e9, hz1, hq1, hle, hT9, hr⟩ := md_clol hP hO (t - lb_s f t q + 1) _ _ _ _ _ (by omega) hT6 hp k
  refine ⟨J', z1, q1, dd1, S1, e9, hz1, hq1, hle, hT9, fun r hh => ?_⟩
  obtain ⟨k1, hk⟩ := hr r hh
  exact ⟨k1 + 1, hk⟩
theorem md_tesl {X : nt_X} {d t x B Tb Sg Ln Op : Nat} {f : Nat → Int32} {M : nt_M} {J0 : Nat → Nat → Int32} {o : Option Value × nt_M} (hP : md_P M J0 f t x B Tb Sg Ln) (hO : md_O M B Tb Sg Ln Op) (hB : lb_by f t) : ∀ (c q m : Nat) (e : lb_E) (dd : Int32) (S : List Int32) (J : Nat → Nat → Int32) (s9 : Int32), t - lb_s f t q < c → md_T J0 B Sg Ln Op x q 0 m e.2 dd S J → q ≤ t → nt_rn X d 158 (12, [(2, .int s9), (1, .int (Int32.ofInt 1)), (0, .ref B)], [], me_w M J) o → ∃ r a J', o = (some (.int a), me_w M J') ∧ (∃ k, lb_ma f t k 0 dd S (lb_s f t q, m, e) r) ∧ md_QT J0 B Sg Ln Op x t f r a J' := by
  have t4 : t ≤ 400 := hP.2.2.2.2.2.1
  intro cc
  induction cc with
  | zero => intro q m e dd S J s9 hc; omega
  | succ cc ih =>
    intro q m e dd S J s9 hcc hT hp k
    have k := ly_revb 2 (c' := (if (Int32.ofInt 1) = 0 then 112 else 16, [(2, .int (s9)), (1, .int (Int32.ofInt 1)), (0, .ref B)], [], me_w M J)) rfl k
    rw [if_neg (show ¬ ((Int32.ofInt 1) = 0) from by decide)] at k
    have k := ly_revb 1 (c' := (17, [(2, .int (s9)), (1, .int (Int32.ofInt 1)), (0, .ref B)], [.ref B], me_w M J)) rfl k
    obtain ⟨d1, o1, ed, kc, k⟩ := lz_c (g := 159) (q := 1) (vs := [.ref B]) (rest := []) rfl rfl (by decide) (Or.inr (Or.inl ⟨_, rfl, rfl⟩)) rfl k
    obtain ⟨a1, J1, e1, hF⟩ := md_fact (s0 := e.1) hP hO hB hT hp kc
    subst e1
    rcases hF with ⟨rfl, c, q1, m1, e1, dd1, S1, hc, hT1, hq1, hk1⟩ | ⟨rfl, z1, q1, dd1, S1, hz1, hq1, hlt1, hT1, hr1⟩
    · have k : nt_rn X _ 158 (20, [(2, .int (s9)), (1, .int (Int32.ofInt 1)), (0, .ref B)], [.int (Int32.ofInt 0)], me_w M J1) _ := k
      have k := ly_revb 1 (c' := (if (Int32.ofInt 0) = 0 then 23 else 25, [(2, .int (s9)), (1, .int (Int32.ofInt 1)), (0, .ref B)], [], me_w M J1)) rfl k
      rw [if_pos (show (Int32.ofInt 0) = 0 from by decide)] at k
      have k := ly_revb 1 (c' := (24, [(2, .int (s9)), (1, .int (Int32.ofInt 1)), (0, .ref B)], [.int (Int32.ofInt 0)], me_w M J1)) rfl k
      have k := lz_ri rfl (by decide) k
      exact ⟨.inl c, _, _, k, hk1, hc, rfl, _, _, _, _, _, hT1, hq1⟩
    · have k : nt_rn X _ 158 (20, [(2, .int (s9)), (1, .int (Int32.ofInt 1)), (0, .ref B)], [.int (Int32.ofInt 1)], me_w M J1) _ := k
      have k := ly_revb 1 (c' := (if (Int32.ofInt 1) = 0 then 23 else 25, [(2, .int (s9)), (1, .int (Int32.ofInt 1)), (0, .ref B)], [], me_w M J1)) rfl k
      rw [if_neg (show ¬ ((Int32.ofInt 1) = 0) from by decide)] at k
      have k := ly_revb 1 (c' := (26, [(2, .int (s9)), (1, .int (Int32.ofInt 1)), (0, .ref B)], [.ref B], me_w M J1)) rfl k
      obtain ⟨d1, o1, ed, kc, k⟩ := lz_c (g := 162) (q := 1) (vs := [.ref B]) (rest := []) rfl rfl (by decide) (Or.inr (Or.inl ⟨_, rfl, rfl⟩)) rfl k
      obtain ⟨J2, z2, q2, dd2, S2, e1, hz2, hq2, hle2, hT2, hr2⟩ := md_closes (e := z1.2.2) hP hO hT1 hq1 kc
      subst e1
      rw [show (lb_s f t q1, z1.2.1, z1.2.2) = z1 from by rw [hz1]] at hr2
      rw [hz1] at hle2
      have hp2 : z2.1 ≤ t := by rw [← hz2]; exact (lb_s_le (t - q2) q2 (by omega)).2
      have hs2 : lb_s f t z2.1 = z2.1 := by rw [← hz2]; exact lb_ss hq2
      have k : nt_rn X _ 158 (29, [(2, .int (s9)), (1, .int (Int32.ofInt 1)), (0, .ref B)], [], me_w M J2) _ := k
      have k := ly_revb 2 (c' := (33, [(2, .int (s9)), (1, .int (Int32.ofInt 1)), (0, .ref B)], [.long (6385252), .ref B], me_w M J2)) rfl k
      obtain ⟨d1, o1, ed, kc, k⟩ := lz_c (g := 137) (q := 1) (vs := [.ref B, .long (6385252)]) (rest := []) rfl rfl (by decide) (Or.inr (Or.inl ⟨_, rfl, rfl⟩)) rfl k
      obtain ⟨r, e1, hr⟩ := md_isWord (md_TP hP hO hT2) hT2.1 hq2 kc
      rw [hz2] at e1
      rw [hz2] at hr
      have hT3 := md_Tup hP hO hT2 (md_Sq (y := z2.1) (md_TP hP hO hT2) hT2.1)
      subst e1
      rw [lb_w_and] at hr
      rcases hr with ⟨rfl, g16⟩ | ⟨rfl, g16⟩
      · have k : nt_rn X _ 158 (36, [(2, .int (s9)), (1, .int (Int32.ofInt 1)), (0, .ref B)], [.int (Int32.ofInt 1)], me_w M (nt_u J2 B 15 (nI z2.1))) _ := k
        have k := ly_revb 1 (c' := (if (Int32.ofInt 1) = 0 then 39 else 49, [(2, .int (s9)), (1, .int (Int32.ofInt 1)), (0, .ref B)], [], me_w M (nt_u J2 B 15 (nI z2.1)))) rfl k
        rw [if_neg (show ¬ ((Int32.ofInt 1) = 0) from by decide)] at k
        have k := ly_revb 5 (c' := (if (Int32.ofInt 1) = 0 then 12 else 59, [(1, .int (Int32.ofInt 1)), (2, .int (s9)), (0, .ref B)], [], me_w M (nt_u J2 B 15 (nI z2.1)))) rfl k
        rw [if_neg (show ¬ ((Int32.ofInt 1) = 0) from by decide)] at k
        have k := ly_revb 2 (c' := (63, [(1, .int (Int32.ofInt 1)), (2, .int (s9)), (0, .ref B)], [.long (6385252), .ref B], me_w M (nt_u J2 B 15 (nI z2.1)))) rfl k
        obtain ⟨d1, o1, ed, kc, k⟩ := lz_c (g := 137) (q := 1) (vs := [.ref B, .long (6385252)]) (rest := []) rfl rfl (by decide) (Or.inr (Or.inl ⟨_, rfl, rfl⟩)) rfl k
        obtain ⟨r, e1, hr⟩ := md_isWord (md_TP hP hO hT3) hT3.1 hp2 kc
        rw [hs2, me_uu] at e1
        rw [hs2] at hr
        subst e1
        rw [lb_w_and] at hr
        rcases hr with ⟨rfl, g16b⟩ | ⟨rfl, g16b⟩
        · have k : nt_rn X _ 158 (66, [(1, .int (Int32.ofInt 1)), (2, .int (s9)), (0, .ref B)], [.int (Int32.ofInt 1)], me_w M (nt_u J2 B 15 (nI z2.1))) _ := k
          have k := ly_revb 1 (c' := (if (Int32.ofInt 1) = 0 then 74 else 69, [(1, .int (Int32.ofInt 1)), (2, .int (s9)), (0, .ref B)], [], me_w M (nt_u J2 B 15 (nI z2.1)))) rfl k
          rw [if_neg (show ¬ ((Int32.ofInt 1) = 0) from by decide)] at k
          have k := ly_revb 4 (c' := (78, [(2, .int (Int32.ofInt 12)), (1, .int (Int32.ofInt 1)), (0, .ref B)], [.ref B], me_w M (nt_u J2 B 15 (nI z2.1)))) rfl k
          obtain ⟨d1, o1, ed, kc, k⟩ := lz_c (g := 142) (q := 1) (vs := [.ref B]) (rest := []) rfl rfl (by decide) (Or.inr (Or.inl ⟨_, rfl, rfl⟩)) rfl k
          have e1 := md_pass (md_TP hP hO hT3) hT3.1 hp2 kc
          rw [lb_at_l g16] at e1
          subst e1
          have hT4 := md_Tup hP hO hT3 (md_Sq (y := z2.1 + (lb_W (nt_sp + 1 + 16)).length) (md_TP hP hO hT3) hT3.1)
          have hp4 : z2.1 + (lb_W (nt_sp + 1 + 16)).length ≤ t := g16.1
          have k : nt_rn X _ 158 (81, [(2, .int (Int32.ofInt 12)), (1, .int (Int32.ofInt 1)), (0, .ref B)], [], me_w M (nt_u (nt_u J2 B 15 (nI z2.1)) B 15 (nI (z2.1 + (lb_W (nt_sp + 1 + 16)).length)))) _ := k
          have k := ly_revb 2 (c' := (83, [(2, .int (Int32.ofInt 12)), (1, .int (Int32.ofInt 1)), (0, .ref B)], [.int (Int32.ofInt 12), .ref B], me_w M (nt_u (nt_u J2 B 15 (nI z2.1)) B 15 (nI (z2.1 + (lb_W (nt_sp + 1 + 16)).length))))) rfl k
          obtain ⟨d1, o1, ed, kc, k⟩ := lz_c (g := 164) (q := 0) (vs := [.int (Int32.ofInt 12)]) (rest := [.ref B]) rfl rfl (by decide) (Or.inl ⟨_, rfl, rfl⟩) rfl k
          have e1 := md_strength kc
          rw [show lb_sg (Int32.ofInt 12) = 2 from by decide] at e1
          subst e1
          have k : nt_rn X _ 158 (86, [(2, .int (Int32.ofInt 12)), (1, .int (Int32.ofInt 1)), (0, .ref B)], [.int (nI 2), .ref B], me_w M (nt_u (nt_u J2 B 15 (nI z2.1)) B 15 (nI (z2.1 + (lb_W (nt_sp + 1 + 16)).length)))) _ := k
          obtain ⟨d1, o1, ed, kc, k⟩ := lz_c (g := 163) (q := 1) (vs := [.ref B, .int (nI 2)]) (rest := []) rfl rfl (by decide) (Or.inr (Or.inl ⟨_, rfl, rfl⟩)) rfl k
          obtain ⟨J5, e1, hT5⟩ := md_settles (l := 2) hP hO (by decide) hp4 S2 dd2 z2.2.2 _ hT4 kc
          subst e1
          have s5 : (lb_st 2 S2 dd2 z2.2.2).2.1.length ≤ 400 := hT5.2.2.2.2.2
          have k : nt_rn X _ 158 (89, [(2, .int (Int32.ofInt 12)), (1, .int (Int32.ofInt 1)), (0, .ref B)], [], me_w M J5) _ := k
          have k := ly_revb 1 (c' := (90, [(2, .int (Int32.ofInt 12)), (1, .int (Int32.ofInt 1)), (0, .ref B)], [.ref B], me_w M J5)) rfl k
          have k := lz_get (a := B) (g := 1122) (M := me_w M J5) (v := .ref Op) rfl (nt_gfR rfl hO.1) k
          have k := ly_revb 1 (c' := (94, [(2, .int (Int32.ofInt 12)), (1, .int (Int32.ofInt 1)), (0, .ref B)], [.ref B, .ref Op], me_w M J5)) rfl k
          have k := lz_get (a := B) (g := 1123) (M := me_w M J5) (v := .int (nI ((lb_st 2 S2 dd2 z2.2.2).2.1.length))) rfl (congrArg Value.int (hT5.2.2.2.1)) k
          have k := ly_revb 1 (c' := (98, [(2, .int (Int32.ofInt 12)), (1, .int (Int32.ofInt 1)), (0, .ref B)], [.int (Int32.ofInt 12), .int (nI ((lb_st 2 S2 dd2 z2.2.2).2.1.length)), .ref Op], me_w M J5)) rfl k
          have hb : ((lb_st 2 S2 dd2 z2.2.2).2.1.length) < nt_l M Op := me_iastb (q := ((lb_st 2 S2 dd2 z2.2.2).2.1.length)) rfl rfl (by omega) k
          rw [hO.2.2.1] at hb
          have k := me_iast (q := ((lb_st 2 S2 dd2 z2.2.2).2.1.length)) rfl (rfl) (by omega) k
          have k := ly_revb 2 (c' := (101, [(2, .int (Int32.ofInt 12)), (1, .int (Int32.ofInt 1)), (0, .ref B)], [.ref B, .ref B], me_w M (nt_u J5 Op (((lb_st 2 S2 dd2 z2.2.2).2.1.length)) (Int32.ofInt 12)))) rfl k
          have k := lz_get (a := B) (g := 1123) (M := me_w M (nt_u J5 Op (((lb_st 2 S2 dd2 z2.2.2).2.1.length)) (Int32.ofInt 12))) (v := .int (nI ((lb_st 2 S2 dd2 z2.2.2).2.1.length))) rfl (congrArg Value.int ((me_uj (Ne.symm (hO.2.1.1))).trans (hT5.2.2.2.1))) k
          have k := ly_revb 2 (c' := (106, [(2, .int (Int32.ofInt 12)), (1, .int (Int32.ofInt 1)), (0, .ref B)], [.int ((nI ((lb_st 2 S2 dd2 z2.2.2).2.1.length)) + (Int32.ofInt 1)), .ref B], me_w M (nt_u J5 Op (((lb_st 2 S2 dd2 z2.2.2).2.1.length)) (Int32.ofInt 12)))) rfl k
          rw [show ((nI ((lb_st 2 S2 dd2 z2.2.2).2.1.length)) + (Int32.ofInt 1) : Int32) = nI (((lb_st 2 S2 dd2 z2.2.2).2.1.length) + 1) from me_add (k := 1)] at k
          have k := me_put rfl (by decide) k
          have k : nt_rn X _ 158 (109, [(2, .int (Int32.ofInt 12)), (1, .int (Int32.ofInt 1)), (0, .ref B)], [], me_w M (nt_u (nt_u J5 Op (((lb_st 2 S2 dd2 z2.2.2).2.1.length)) (Int32.ofInt 12)) B 23 (nI (((lb_st 2 S2 dd2 z2.2.2).2.1.length) + 1)))) _ := k
          have k := ly_revb 1 (c' := (12, [(2, .int (Int32.ofInt 12)), (1, .int (Int32.ofInt 1)), (0, .ref B)], [], me_w M (nt_u (nt_u J5 Op (((lb_st 2 S2 dd2 z2.2.2).2.1.length)) (Int32.ofInt 12)) B 23 (nI (((lb_st 2 S2 dd2 z2.2.2).2.1.length) + 1))))) rfl k
          have hT6 := md_Tpush (y := Int32.ofInt 12) hP hO hT5 hb
          have wl := lb_Wp 16 (by decide)
          have hsl := lb_s_le (f := f) (t := t) (t - (z2.1 + (lb_W (nt_sp + 1 + 16)).length)) (z2.1 + (lb_W (nt_sp + 1 + 16)).length) (by omega)
          dsimp only at hlt1
          obtain ⟨r, a, J9, e9, ⟨k1, hk⟩, hQ⟩ := ih _ _ (lb_st 2 S2 dd2 z2.2.2).2.2 _ _ _ _ (by omega) hT6 hp4 k
          exact ⟨r, a, J9, e9, hr1 r (hr2 r ⟨k1 + 1, Or.inl ⟨g16, hk⟩⟩), hQ⟩
        · exact absurd g16 g16b
      · have k : nt_rn X _ 158 (36, [(2, .int (s9)), (1, .int (Int32.ofInt 1)), (0, .ref B)], [.int (Int32.ofInt 0)], me_w M (nt_u J2 B 15 (nI z2.1))) _ := k
        have k := ly_revb 1 (c' := (if (Int32.ofInt 0) = 0 then 39 else 49, [(2, .int (s9)), (1, .int (Int32.ofInt 1)), (0, .ref B)], [], me_w M (nt_u J2 B 15 (nI z2.1)))) rfl k
        rw [if_pos (show (Int32.ofInt 0) = 0 from by decide)] at k
        have k := ly_revb 2 (c' := (43, [(2, .int (s9)), (1, .int (Int32.ofInt 1)), (0, .ref B)], [.long (28530), .ref B], me_w M (nt_u J2 B 15 (nI z2.1)))) rfl k
        obtain ⟨d1, o1, ed, kc, k⟩ := lz_c (g := 137) (q := 1) (vs := [.ref B, .long (28530)]) (rest := []) rfl rfl (by decide) (Or.inr (Or.inl ⟨_, rfl, rfl⟩)) rfl k
        obtain ⟨r, e1, hr⟩ := md_isWord (md_TP hP hO hT3) hT3.1 hp2 kc
        rw [hs2, me_uu] at e1
        rw [hs2] at hr
        subst e1
        rw [lb_w_or] at hr
        rcases hr with ⟨rfl, g17⟩ | ⟨rfl, g17⟩
        · have k : nt_rn X _ 158 (46, [(2, .int (s9)), (1, .int (Int32.ofInt 1)), (0, .ref B)], [.int (Int32.ofInt 1)], me_w M (nt_u J2 B 15 (nI z2.1))) _ := k
          have k := ly_revb 1 (c' := (if (Int32.ofInt 1) = 0 then 53 else 49, [(2, .int (s9)), (1, .int (Int32.ofInt 1)), (0, .ref B)], [], me_w M (nt_u J2 B 15 (nI z2.1)))) rfl k
          rw [if_neg (show ¬ ((Int32.ofInt 1) = 0) from by decide)] at k
          have k := ly_revb 5 (c' := (if (Int32.ofInt 1) = 0 then 12 else 59, [(1, .int (Int32.ofInt 1)), (2, .int (s9)), (0, .ref B)], [], me_w M (nt_u J2 B 15 (nI z2.1)))) rfl k
          rw [if_neg (show ¬ ((Int32.ofInt 1) = 0) from by decide)] at k
          have k := ly_revb 2 (c' := (63, [(1, .int (Int32.ofInt 1)), (2, .int (s9)), (0, .ref B)], [.long (6385252), .ref B], me_w M (nt_u J2 B 15 (nI z2.1)))) rfl k
          obtain ⟨d1, o1, ed, kc, k⟩ := lz_c (g := 137) (q := 1) (vs := [.ref B, .long (6385252)]) (rest := []) rfl rfl (by decide) (Or.inr (Or.inl ⟨_, rfl, rfl⟩)) rfl k
          obtain ⟨r, e1, hr⟩ := md_isWord (md_TP hP hO hT3) hT3.1 hp2 kc
          rw [hs2, me_uu] at e1
          rw [hs2] at hr
          subst e1
          rw [lb_w_and] at hr
          rcases hr with ⟨rfl, g16b⟩ | ⟨rfl, g16b⟩
          · exact absurd g16b g16
          · have k : nt_rn X _ 158 (66, [(1, .int (Int32.ofInt 1)), (2, .int (s9)), (0, .ref B)], [.int (Int32.ofInt 0)], me_w M (nt_u J2 B 15 (nI z2.1))) _ := k
            have k := ly_revb 1 (c' := (if (Int32.ofInt 0) = 0 then 74 else 69, [(1, .int (Int32.ofInt 1)), (2, .int (s9)), (0, .ref B)], [], me_w M (nt_u J2 B 15 (nI z2.1)))) rfl k
            rw [if_pos (show (Int32.ofInt 0) = 0 from by decide)] at k
            have k := ly_revb 3 (c' := (78, [(2, .int (Int32.ofInt 13)), (1, .int (Int32.ofInt 1)), (0, .ref B)], [.ref B], me_w M (nt_u J2 B 15 (nI z2.1)))) rfl k
            obtain ⟨d1, o1, ed, kc, k⟩ := lz_c (g := 142) (q := 1) (vs := [.ref B]) (rest := []) rfl rfl (by decide) (Or.inr (Or.inl ⟨_, rfl, rfl⟩)) rfl k
            have e1 := md_pass (md_TP hP hO hT3) hT3.1 hp2 kc
            rw [lb_at_l g17] at e1
            subst e1
            have hT4 := md_Tup hP hO hT3 (md_Sq (y := z2.1 + (lb_W (nt_sp + 1 + 17)).length) (md_TP hP hO hT3) hT3.1)
            have hp4 : z2.1 + (lb_W (nt_sp + 1 + 17)).length ≤ t := g17.1
            have k : nt_rn X _ 158 (81, [(2, .int (Int32.ofInt 13)), (1, .int (Int32.ofInt 1)), (0, .ref B)], [], me_w M (nt_u (nt_u J2 B 15 (nI z2.1)) B 15 (nI (z2.1 + (lb_W (nt_sp + 1 + 17)).length)))) _ := k
            have k := ly_revb 2 (c' := (83, [(2, .int (Int32.ofInt 13)), (1, .int (Int32.ofInt 1)), (0, .ref B)], [.int (Int32.ofInt 13), .ref B], me_w M (nt_u (nt_u J2 B 15 (nI z2.1)) B 15 (nI (z2.1 + (lb_W (nt_sp + 1 + 17)).length))))) rfl k
            obtain ⟨d1, o1, ed, kc, k⟩ := lz_c (g := 164) (q := 0) (vs := [.int (Int32.ofInt 13)]) (rest := [.ref B]) rfl rfl (by decide) (Or.inl ⟨_, rfl, rfl⟩) rfl k
            have e1 := md_strength kc
            rw [show lb_sg (Int32.ofInt 13) = 1 from by decide] at e1
            subst e1
            have k : nt_rn X _ 158 (86, [(2, .int (Int32.ofInt 13)), (1, .int (Int32.ofInt 1)), (0, .ref B)], [.int (nI 1), .ref B], me_w M (nt_u (nt_u J2 B 15 (nI z2.1)) B 15 (nI (z2.1 + (lb_W (nt_sp + 1 + 17)).length)))) _ := k
            obtain ⟨d1, o1, ed, kc, k⟩ := lz_c (g := 163) (q := 1) (vs := [.ref B, .int (nI 1)]) (rest := []) rfl rfl (by decide) (Or.inr (Or.inl ⟨_, rfl, rfl⟩)) rfl k
            obtain ⟨J5, e1, hT5⟩ := md_settles (l := 1) hP hO (by decide) hp4 S2 dd2 z2.2.2 _ hT4 kc
            subst e1
            have s5 : (lb_st 1 S2 dd2 z2.2.2).2.1.length ≤ 400 := hT5.2.2.2.2.2
            have k : nt_rn X _ 158 (89, [(2, .int (Int32.ofInt 13)), (1, .int (Int32.ofInt 1)), (0, .ref B)], [], me_w M J5) _ := k
            have k := ly_revb 1 (c' := (90, [(2, .int (Int32.ofInt 13)), (1, .int (Int32.ofInt 1)), (0, .ref B)], [.ref B], me_w M J5)) rfl k
            have k := lz_get (a := B) (g := 1122) (M := me_w M J5) (v := .ref Op) rfl (nt_gfR rfl hO.1) k
            have k := ly_revb 1 (c' := (94, [(2, .int (Int32.ofInt 13)), (1, .int (Int32.ofInt 1)), (0, .ref B)], [.ref B, .ref Op], me_w M J5)) rfl k
            have k := lz_get (a := B) (g := 1123) (M := me_w M J5) (v := .int (nI ((lb_st 1 S2 dd2 z2.2.2).2.1.length))) rfl (congrArg Value.int (hT5.2.2.2.1)) k
            have k := ly_revb 1 (c' := (98, [(2, .int (Int32.ofInt 13)), (1, .int (Int32.ofInt 1)), (0, .ref B)], [.int (Int32.ofInt 13), .int (nI ((lb_st 1 S2 dd2 z2.2.2).2.1.length)), .ref Op], me_w M J5)) rfl k
            have hb : ((lb_st 1 S2 dd2 z2.2.2).2.1.length) < nt_l M Op := me_iastb (q := ((lb_st 1 S2 dd2 z2.2.2).2.1.length)) rfl rfl (by omega) k
            rw [hO.2.2.1] at hb
            have k := me_iast (q := ((lb_st 1 S2 dd2 z2.2.2).2.1.length)) rfl (rfl) (by omega) k
            have k := ly_revb 2 (c' := (101, [(2, .int (Int32.ofInt 13)), (1, .int (Int32.ofInt 1)), (0, .ref B)], [.ref B, .ref B], me_w M (nt_u J5 Op (((lb_st 1 S2 dd2 z2.2.2).2.1.length)) (Int32.ofInt 13)))) rfl k
            have k := lz_get (a := B) (g := 1123) (M := me_w M (nt_u J5 Op (((lb_st 1 S2 dd2 z2.2.2).2.1.length)) (Int32.ofInt 13))) (v := .int (nI ((lb_st 1 S2 dd2 z2.2.2).2.1.length))) rfl (congrArg Value.int ((me_uj (Ne.symm (hO.2.1.1))).trans (hT5.2.2.2.1))) k
            have k := ly_revb 2 (c' := (106, [(2, .int (Int32.ofInt 13)), (1, .int (Int32.ofInt 1)), (0, .ref B)], [.int ((nI ((lb_st 1 S2 dd2 z2.2.2).2.1.length)) + (Int32.ofInt 1)), .ref B], me_w M (nt_u J5 Op (((lb_st 1 S2 dd2 z2.2.2).2.1.length)) (Int32.ofInt 13)))) rfl k
            rw [show ((nI ((lb_st 1 S2 dd2 z2.2.2).2.1.length)) + (Int32.ofInt 1) : Int32) = nI (((lb_st 1 S2 dd2 z2.2.2).2.1.length) + 1) from me_add (k := 1)] at k
            have k := me_put rfl (by decide) k
            have k : nt_rn X _ 158 (109, [(2, .int (Int32.ofInt 13)), (1, .int (Int32.ofInt 1)), (0, .ref B)], [], me_w M (nt_u (nt_u J5 Op (((lb_st 1 S2 dd2 z2.2.2).2.1.length)) (Int32.ofInt 13)) B 23 (nI (((lb_st 1 S2 dd2 z2.2.2).2.1.length) + 1)))) _ := k
            have k := ly_revb 1 (c' := (12, [(2, .int (Int32.ofInt 13)), (1, .int (Int32.ofInt 1)), (0, .ref B)], [], me_w M (nt_u (nt_u J5 Op (((lb_st 1 S2 dd2 z2.2.2).2.1.length)) (Int32.ofInt 13)) B 23 (nI (((lb_st 1 S2 dd2 z2.2.2).2.1.length) + 1))))) rfl k
            have hT6 := md_Tpush (y := Int32.ofInt 13) hP hO hT5 hb
            have wl := lb_Wp 17 (by decide)
            have hsl := lb_s_le (f := f) (t := t) (t - (z2.1 + (lb_W (nt_sp + 1 + 17)).length)) (z2.1 + (lb_W (nt_sp + 1 + 17)).length) (by omega)
            dsimp only at hlt1
            obtain ⟨r, a, J9, e9, ⟨k1, hk⟩, hQ⟩ := ih _ _ (lb_st 1 S2 dd2 z2.2.2).2.2 _ _ _ _ (by omega) hT6 hp4 k
            exact ⟨r, a, J9, e9, hr1 r (hr2 r ⟨k1 + 1, Or.inr (Or.inl ⟨g16, g17, hk⟩)⟩), hQ⟩
        · have k : nt_rn X _ 158 (46, [(2, .int (s9)), (1, .int (Int32.ofInt 1)), (0, .ref B)], [.int (Int32.ofInt 0)], me_w M (nt_u J2 B 15 (nI z2.1))) _ := k
          have k := ly_revb 1 (c' := (if (Int32.ofInt 0) = 0 then 53 else 49, [(2, .int (s9)), (1, .int (Int32.ofInt 1)), (0, .ref B)], [], me_w M (nt_u J2 B 15 (nI z2.1)))) rfl k
          rw [if_pos (show (Int32.ofInt 0) = 0 from by decide)] at k
          have k := ly_revb 4 (c' := (if (Int32.ofInt 0) = 0 then 12 else 59, [(1, .int (Int32.ofInt 0)), (2, .int (s9)), (0, .ref B)], [], me_w M (nt_u J2 B 15 (nI z2.1)))) rfl k
          rw [if_pos (show (Int32.ofInt 0) = 0 from by decide)] at k
          have k := ly_revb 2 (c' := (if (Int32.ofInt 0) = 0 then 112 else 16, [(1, .int (Int32.ofInt 0)), (2, .int (s9)), (0, .ref B)], [], me_w M (nt_u J2 B 15 (nI z2.1)))) rfl k
          rw [if_pos (show (Int32.ofInt 0) = 0 from by decide)] at k
          have k := ly_revb 1 (c' := (113, [(1, .int (Int32.ofInt 0)), (2, .int (s9)), (0, .ref B)], [.ref B], me_w M (nt_u J2 B 15 (nI z2.1)))) rfl k
          obtain ⟨d1, o1, ed, kc, k⟩ := lz_c (g := 165) (q := 1) (vs := [.ref B]) (rest := []) rfl rfl (by decide) (Or.inr (Or.inl ⟨_, rfl, rfl⟩)) rfl k
          obtain ⟨r, e1, hin⟩ := md_inside hP hO hT3 kc
          subst e1
          rcases hin with ⟨rfl, hin⟩ | ⟨rfl, hin⟩
          · have k : nt_rn X _ 158 (116, [(1, .int (Int32.ofInt 0)), (2, .int (s9)), (0, .ref B)], [.int (Int32.ofInt 1)], me_w M (nt_u J2 B 15 (nI z2.1))) _ := k
            have k := ly_revb 1 (c' := (if (Int32.ofInt 1) = 0 then 134 else 119, [(1, .int (Int32.ofInt 0)), (2, .int (s9)), (0, .ref B)], [], me_w M (nt_u J2 B 15 (nI z2.1)))) rfl k
            rw [if_neg (show ¬ ((Int32.ofInt 1) = 0) from by decide)] at k
            have k := ly_revb 1 (c' := (120, [(1, .int (Int32.ofInt 0)), (2, .int (s9)), (0, .ref B)], [.ref B], me_w M (nt_u J2 B 15 (nI z2.1)))) rfl k
            obtain ⟨d1, o1, ed, kc, k⟩ := lz_c (g := 136) (q := 1) (vs := [.ref B]) (rest := []) rfl rfl (by decide) (Or.inr (Or.inl ⟨_, rfl, rfl⟩)) rfl k
            have e1 := md_see (md_TP hP hO hT3) hT3.1 hp2 kc
            rw [hs2, me_uu] at e1
            subst e1
            have k : nt_rn X _ 158 (123, [(1, .int (Int32.ofInt 0)), (2, .int (s9)), (0, .ref B)], [.int (lb_g f t z2.1)], me_w M (nt_u J2 B 15 (nI z2.1))) _ := k
            have k := ly_revb 4 (c' := (127, [(1, .int (Int32.ofInt 0)), (2, .int (s9)), (0, .ref B)], [.ref B, .int (Int32.ofInt 0), .ref B], me_w M (nt_u J2 B 15 (nI z2.1)))) rfl k
            have k := lz_get (a := B) (g := 1115) (M := me_w M (nt_u J2 B 15 (nI z2.1))) (v := .int (nI z2.1)) rfl (congrArg Value.int (hT3.1.1)) k
            obtain ⟨d1, o1, ed, kc, k⟩ := lz_c (g := 139) (q := 1) (vs := [.ref B, .int (Int32.ofInt 0), .int (nI z2.1)]) (rest := []) rfl rfl (by decide) (Or.inr (Or.inl ⟨_, rfl, rfl⟩)) rfl k
            obtain ⟨hf, e1⟩ := (md_fails (a := z2.1) (md_TP hP hO hT3) hT3.1 hp2 kc).resolve_right (fun c => c.1 rfl)
            subst e1
            have hT9 := md_Tup hP hO hT3 (md_Sw (y := lb_c z2.1 (Int32.ofInt 0)) (md_TP hP hO hT3) hT3.1)
            have k : nt_rn X _ 158 (133, [(1, .int (Int32.ofInt 0)), (2, .int (s9)), (0, .ref B)], [.int (Int32.ofInt 0)], me_w M (nt_u (nt_u J2 B 15 (nI z2.1)) B 16 (lb_c z2.1 (Int32.ofInt 0)))) _ := k
            have k := lz_ri rfl (by decide) k
            exact ⟨.inl (lb_c z2.1 (Int32.ofInt 0)), _, _, k, hr1 _ (hr2 _ ⟨1, Or.inr (Or.inr (Or.inl ⟨g16, g17, hin, rfl⟩))⟩), (lb_c_ne (by omega) (by decide) (by decide)), rfl, _, _, _, _, _, hT9, hp2⟩
          · have k : nt_rn X _ 158 (116, [(1, .int (Int32.ofInt 0)), (2, .int (s9)), (0, .ref B)], [.int (Int32.ofInt 0)], me_w M (nt_u J2 B 15 (nI z2.1))) _ := k
            have k := ly_revb 1 (c' := (if (Int32.ofInt 0) = 0 then 134 else 119, [(1, .int (Int32.ofInt 0)), (2, .int (s9)), (0, .ref B)], [], me_w M (nt_u J2 B 15 (nI z2.1)))) rfl k
            rw [if_pos (show (Int32.ofInt 0) = 0 from by decide)] at k
            have k := ly_revb 2 (c' := (136, [(1, .int (Int32.ofInt 0)), (2, .int (s9)), (0, .ref B)], [.int (Int32.ofInt 1), .ref B], me_w M (nt_u J2 B 15 (nI z2.1)))) rfl k
            obtain ⟨d1, o1, ed, kc, k⟩ := lz_c (g := 163) (q := 1) (vs := [.ref B, .int (Int32.ofInt 1)]) (rest := []) rfl rfl (by decide) (Or.inr (Or.inl ⟨_, rfl, rfl⟩)) rfl k
            obtain ⟨J5, e1, hT5⟩ := md_settles (l := 1) hP hO (by decide) hp2 S2 dd2 z2.2.2 _ hT3 kc
            subst e1
            have s5 : (lb_st 1 S2 dd2 z2.2.2).2.1.length ≤ 400 := hT5.2.2.2.2.2
            have k : nt_rn X _ 158 (139, [(1, .int (Int32.ofInt 0)), (2, .int (s9)), (0, .ref B)], [], me_w M J5) _ := k
            have k := ly_revb 1 (c' := (140, [(1, .int (Int32.ofInt 0)), (2, .int (s9)), (0, .ref B)], [.int (Int32.ofInt 1)], me_w M J5)) rfl k
            have k := lz_ri rfl (by decide) k
            exact ⟨.inr (z2.1, z2.2.1, (lb_st 1 S2 dd2 z2.2.2).2.2), _, _, k, hr1 _ (hr2 _ ⟨1, Or.inr (Or.inr (Or.inr ⟨g16, g17, hin, rfl⟩))⟩), rfl, _, _, _, hs2, hp2, hT5⟩
theorem md_tested {X : nt_X} {d t x B Tb Sg Ln Op q m : Nat} {f : Nat → Int32} {M : nt_M} {J0 J : Nat → Nat → Int32} {o : Option Value × nt_M} {e : lb_E} (hP : md_P M J0 f t x B Tb Sg Ln) (hO : md_O M B Tb Sg Ln Op) (hB : lb_by f t) (hS : md_S J0 B Sg Ln x q 0 m e.2 J) (hp : q ≤ t) (k : nt_ev X d 158 [.ref B] (me_w M J) o) : ∃ r a J', o = (some (.int a), me_w M J') ∧ (∃ k, lb_ma f t k 0 (Int32.ofInt 0) [] (lb_s f t q, m, e) r) ∧ md_QT J0 B Sg Ln Op x t f r a J' := by
  have k : nt_rn X d 158 (0, [(0, .ref B)], [], me_w M J) o := k
  have t4 : t ≤ 400 := hP.2.2.2.2.2.1
  have k := ly_revb 2 (c' := (2, [(0, .ref B)], [.int (Int32.ofInt 0), .ref B], me_w M J)) rfl k
  have k := me_put rfl (by decide) k
  have k : nt_rn X _ 158 (5, [(0, .ref B)], [], me_w M (nt_u J B 23 (Int32.ofInt 0))) _ := k
  have k := ly_revb 2 (c' := (7, [(0, .ref B)], [.int (Int32.ofInt 0), .ref B], me_w M (nt_u J B 23 (Int32.ofInt 0)))) rfl k
  have k := me_put rfl (by decide) k
  have k : nt_rn X _ 158 (10, [(0, .ref B)], [], me_w M (nt_u (nt_u J B 23 (Int32.ofInt 0)) B 20 (Int32.ofInt 0))) _ := k
  have k := ly_revb 2 (c' := (12, [(1, .int (Int32.ofInt 1)), (0, .ref B)], [], me_w M (nt_u (nt_u J B 23 (Int32.ofInt 0)) B 20 (Int32.ofInt 0)))) rfl k
  have hT := md_T0 hP hO hS
  have k := ly_revb 2 (c' := (if (Int32.ofInt 1) = 0 then 112 else 16, [(1, .int (Int32.ofInt 1)), (0, .ref B)], [], me_w M (nt_u (nt_u J B 23 (Int32.ofInt 0)) B 20 (Int32.ofInt 0)))) rfl k
  rw [if_neg (show ¬ ((Int32.ofInt 1) = 0) from by decide)] at k
  have k := ly_revb 1 (c' := (17, [(1, .int (Int32.ofInt 1)), (0, .ref B)], [.ref B], me_w M (nt_u (nt_u J B 23 (Int32.ofInt 0)) B 20 (Int32.ofInt 0)))) rfl k
  obtain ⟨d1, o1, ed, kc, k⟩ := lz_c (g := 159) (q := 1) (vs := [.ref B]) (rest := []) rfl rfl (by decide) (Or.inr (Or.inl ⟨_, rfl, rfl⟩)) rfl k
  obtain ⟨a1, J1, e1, hF⟩ := md_fact (s0 := e.1) hP hO hB hT hp kc
  subst e1
  rcases hF with ⟨rfl, c, q1, m1, e1, dd1, S1, hc, hT1, hq1, hk1⟩ | ⟨rfl, z1, q1, dd1, S1, hz1, hq1, hlt1, hT1, hr1⟩
  · have k : nt_rn X _ 158 (20, [(1, .int (Int32.ofInt 1)), (0, .ref B)], [.int (Int32.ofInt 0)], me_w M J1) _ := k
    have k := ly_revb 1 (c' := (if (Int32.ofInt 0) = 0 then 23 else 25, [(1, .int (Int32.ofInt 1)), (0, .ref B)], [], me_w M J1)) rfl k
    rw [if_pos (show (Int32.ofInt 0) = 0 from by decide)] at k
    have k := ly_revb 1 (c' := (24, [(1, .int (Int32.ofInt 1)), (0, .ref B)], [.int (Int32.ofInt 0)], me_w M J1)) rfl k
    have k := lz_ri rfl (by decide) k
    exact ⟨.inl c, _, _, k, hk1, hc, rfl, _, _, _, _, _, hT1, hq1⟩
  · have k : nt_rn X _ 158 (20, [(1, .int (Int32.ofInt 1)), (0, .ref B)], [.int (Int32.ofInt 1)], me_w M J1) _ := k
    have k := ly_revb 1 (c' := (if (Int32.ofInt 1) = 0 then 23 else 25, [(1, .int (Int32.ofInt 1)), (0, .ref B)], [], me_w M J1)) rfl k
    rw [if_neg (show ¬ ((Int32.ofInt 1) = 0) from by decide)] at k
    have k := ly_revb 1 (c' := (26, [(1, .int (Int32.ofInt 1)), (0, .ref B)], [.ref B], me_w M J1)) rfl k
    obtain ⟨d1, o1, ed, kc, k⟩ := lz_c (g := 162) (q := 1) (vs := [.ref B]) (rest := []) rfl rfl (by decide) (Or.inr (Or.inl ⟨_, rfl, rfl⟩)) rfl k
    obtain ⟨J2, z2, q2, dd2, S2, e1, hz2, hq2, hle2, hT2, hr2⟩ := md_closes (e := z1.2.2) hP hO hT1 hq1 kc
    subst e1
    rw [show (lb_s f t q1, z1.2.1, z1.2.2) = z1 from by rw [hz1]] at hr2
    rw [hz1] at hle2
    have hp2 : z2.1 ≤ t := by rw [← hz2]; exact (lb_s_le (t - q2) q2 (by omega)).2
    have hs2 : lb_s f t z2.1 = z2.1 := by rw [← hz2]; exact lb_ss hq2
    have k : nt_rn X _ 158 (29, [(1, .int (Int32.ofInt 1)), (0, .ref B)], [], me_w M J2) _ := k
    have k := ly_revb 2 (c' := (33, [(1, .int (Int32.ofInt 1)), (0, .ref B)], [.long (6385252), .ref B], me_w M J2)) rfl k
    obtain ⟨d1, o1, ed, kc, k⟩ := lz_c (g := 137) (q := 1) (vs := [.ref B, .long (6385252)]) (rest := []) rfl rfl (by decide) (Or.inr (Or.inl ⟨_, rfl, rfl⟩)) rfl k
    obtain ⟨r, e1, hr⟩ := md_isWord (md_TP hP hO hT2) hT2.1 hq2 kc
    rw [hz2] at e1
    rw [hz2] at hr
    have hT3 := md_Tup hP hO hT2 (md_Sq (y := z2.1) (md_TP hP hO hT2) hT2.1)
    subst e1
    rw [lb_w_and] at hr
    rcases hr with ⟨rfl, g16⟩ | ⟨rfl, g16⟩
    · have k : nt_rn X _ 158 (36, [(1, .int (Int32.ofInt 1)), (0, .ref B)], [.int (Int32.ofInt 1)], me_w M (nt_u J2 B 15 (nI z2.1))) _ := k
      have k := ly_revb 1 (c' := (if (Int32.ofInt 1) = 0 then 39 else 49, [(1, .int (Int32.ofInt 1)), (0, .ref B)], [], me_w M (nt_u J2 B 15 (nI z2.1)))) rfl k
      rw [if_neg (show ¬ ((Int32.ofInt 1) = 0) from by decide)] at k
      have k := ly_revb 5 (c' := (if (Int32.ofInt 1) = 0 then 12 else 59, [(1, .int (Int32.ofInt 1)), (0, .ref B)], [], me_w M (nt_u J2 B 15 (nI z2.1)))) rfl k
      rw [if_neg (show ¬ ((Int32.ofInt 1) = 0) from by decide)] at k
      have k := ly_revb 2 (c' := (63, [(1, .int (Int32.ofInt 1)), (0, .ref B)], [.long (6385252), .ref B], me_w M (nt_u J2 B 15 (nI z2.1)))) rfl k
      obtain ⟨d1, o1, ed, kc, k⟩ := lz_c (g := 137) (q := 1) (vs := [.ref B, .long (6385252)]) (rest := []) rfl rfl (by decide) (Or.inr (Or.inl ⟨_, rfl, rfl⟩)) rfl k
      obtain ⟨r, e1, hr⟩ := md_isWord (md_TP hP hO hT3) hT3.1 hp2 kc
      rw [hs2, me_uu] at e1
      rw [hs2] at hr
      subst e1
      rw [lb_w_and] at hr
      rcases hr with ⟨rfl, g16b⟩ | ⟨rfl, g16b⟩
      · have k : nt_rn X _ 158 (66, [(1, .int (Int32.ofInt 1)), (0, .ref B)], [.int (Int32.ofInt 1)], me_w M (nt_u J2 B 15 (nI z2.1))) _ := k
        have k := ly_revb 1 (c' := (if (Int32.ofInt 1) = 0 then 74 else 69, [(1, .int (Int32.ofInt 1)), (0, .ref B)], [], me_w M (nt_u J2 B 15 (nI z2.1)))) rfl k
        rw [if_neg (show ¬ ((Int32.ofInt 1) = 0) from by decide)] at k
        have k := ly_revb 4 (c' := (78, [(2, .int (Int32.ofInt 12)), (1, .int (Int32.ofInt 1)), (0, .ref B)], [.ref B], me_w M (nt_u J2 B 15 (nI z2.1)))) rfl k
        obtain ⟨d1, o1, ed, kc, k⟩ := lz_c (g := 142) (q := 1) (vs := [.ref B]) (rest := []) rfl rfl (by decide) (Or.inr (Or.inl ⟨_, rfl, rfl⟩)) rfl k
        have e1 := md_pass (md_TP hP hO hT3) hT3.1 hp2 kc
        rw [lb_at_l g16] at e1
        subst e1
        have hT4 := md_Tup hP hO hT3 (md_Sq (y := z2.1 + (lb_W (nt_sp + 1 + 16)).length) (md_TP hP hO hT3) hT3.1)
        have hp4 : z2.1 + (lb_W (nt_sp + 1 + 16)).length ≤ t := g16.1
        have k : nt_rn X _ 158 (81, [(2, .int (Int32.ofInt 12)), (1, .int (Int32.ofInt 1)), (0, .ref B)], [], me_w M (nt_u (nt_u J2 B 15 (nI z2.1)) B 15 (nI (z2.1 + (lb_W (nt_sp + 1 + 16)).length)))) _ := k
        have k := ly_revb 2 (c' := (83, [(2, .int (Int32.ofInt 12)), (1, .int (Int32.ofInt 1)), (0, .ref B)], [.int (Int32.ofInt 12), .ref B], me_w M (nt_u (nt_u J2 B 15 (nI z2.1)) B 15 (nI (z2.1 + (lb_W (nt_sp + 1 + 16)).length))))) rfl k
        obtain ⟨d1, o1, ed, kc, k⟩ := lz_c (g := 164) (q := 0) (vs := [.int (Int32.ofInt 12)]) (rest := [.ref B]) rfl rfl (by decide) (Or.inl ⟨_, rfl, rfl⟩) rfl k
        have e1 := md_strength kc
        rw [show lb_sg (Int32.ofInt 12) = 2 from by decide] at e1
        subst e1
        have k : nt_rn X _ 158 (86, [(2, .int (Int32.ofInt 12)), (1, .int (Int32.ofInt 1)), (0, .ref B)], [.int (nI 2), .ref B], me_w M (nt_u (nt_u J2 B 15 (nI z2.1)) B 15 (nI (z2.1 + (lb_W (nt_sp + 1 + 16)).length)))) _ := k
        obtain ⟨d1, o1, ed, kc, k⟩ := lz_c (g := 163) (q := 1) (vs := [.ref B, .int (nI 2)]) (rest := []) rfl rfl (by decide) (Or.inr (Or.inl ⟨_, rfl, rfl⟩)) rfl k
        obtain ⟨J5, e1, hT5⟩ := md_settles (l := 2) hP hO (by decide) hp4 S2 dd2 z2.2.2 _ hT4 kc
        subst e1
        have s5 : (lb_st 2 S2 dd2 z2.2.2).2.1.length ≤ 400 := hT5.2.2.2.2.2
        have k : nt_rn X _ 158 (89, [(2, .int (Int32.ofInt 12)), (1, .int (Int32.ofInt 1)), (0, .ref B)], [], me_w M J5) _ := k
        have k := ly_revb 1 (c' := (90, [(2, .int (Int32.ofInt 12)), (1, .int (Int32.ofInt 1)), (0, .ref B)], [.ref B], me_w M J5)) rfl k
        have k := lz_get (a := B) (g := 1122) (M := me_w M J5) (v := .ref Op) rfl (nt_gfR rfl hO.1) k
        have k := ly_revb 1 (c' := (94, [(2, .int (Int32.ofInt 12)), (1, .int (Int32.ofInt 1)), (0, .ref B)], [.ref B, .ref Op], me_w M J5)) rfl k
        have k := lz_get (a := B) (g := 1123) (M := me_w M J5) (v := .int (nI ((lb_st 2 S2 dd2 z2.2.2).2.1.length))) rfl (congrArg Value.int (hT5.2.2.2.1)) k
        have k := ly_revb 1 (c' := (98, [(2, .int (Int32.ofInt 12)), (1, .int (Int32.ofInt 1)), (0, .ref B)], [.int (Int32.ofInt 12), .int (nI ((lb_st 2 S2 dd2 z2.2.2).2.1.length)), .ref Op], me_w M J5)) rfl k
        have hb : ((lb_st 2 S2 dd2 z2.2.2).2.1.length) < nt_l M Op := me_iastb (q := ((lb_st 2 S2 dd2 z2.2.2).2.1.length)) rfl rfl (by omega) k
        rw [hO.2.2.1] at hb
        have k := me_iast (q := ((lb_st 2 S2 dd2 z2.2.2).2.1.length)) rfl (rfl) (by omega) k
        have k := ly_revb 2 (c' := (101, [(2, .int (Int32.ofInt 12)), (1, .int (Int32.ofInt 1)), (0, .ref B)], [.ref B, .ref B], me_w M (nt_u J5 Op (((lb_st 2 S2 dd2 z2.2.2).2.1.length)) (Int32.ofInt 12)))) rfl k
        have k := lz_get (a := B) (g := 1123) (M := me_w M (nt_u J5 Op (((lb_st 2 S2 dd2 z2.2.2).2.1.length)) (Int32.ofInt 12))) (v := .int (nI ((lb_st 2 S2 dd2 z2.2.2).2.1.length))) rfl (congrArg Value.int ((me_uj (Ne.symm (hO.2.1.1))).trans (hT5.2.2.2.1))) k
        have k := ly_revb 2 (c' := (106, [(2, .int (Int32.ofInt 12)), (1, .int (Int32.ofInt 1)), (0, .ref B)], [.int ((nI ((lb_st 2 S2 dd2 z2.2.2).2.1.length)) + (Int32.ofInt 1)), .ref B], me_w M (nt_u J5 Op (((lb_st 2 S2 dd2 z2.2.2).2.1.length)) (Int32.ofInt 12)))) rfl k
        rw [show ((nI ((lb_st 2 S2 dd2 z2.2.2).2.1.length)) + (Int32.ofInt 1) : Int32) = nI (((lb_st 2 S2 dd2 z2.2.2).2.1.length) + 1) from me_add (k := 1)] at k
        have k := me_put rfl (by decide) k
        have k : nt_rn X _ 158 (109, [(2, .int (Int32.ofInt 12)), (1, .int (Int32.ofInt 1)), (0, .ref B)], [], me_w M (nt_u (nt_u J5 Op (((lb_st 2 S2 dd2 z2.2.2).2.1.length)) (Int32.ofInt 12)) B 23 (nI (((lb_st 2 S2 dd2 z2.2.2).2.1.length) + 1)))) _ := k
        have k := ly_revb 1 (c' := (12, [(2, .int (Int32.ofInt 12)), (1, .int (Int32.ofInt 1)), (0, .ref B)], [], me_w M (nt_u (nt_u J5 Op (((lb_st 2 S2 dd2 z2.2.2).2.1.length)) (Int32.ofInt 12)) B 23 (nI (((lb_st 2 S2 dd2 z2.2.2).2.1.length) + 1))))) rfl k
        have hT6 := md_Tpush (y := Int32.ofInt 12) hP hO hT5 hb
        have wl := lb_Wp 16 (by decide)
        have hsl := lb_s_le (f := f) (t := t) (t - (z2.1 + (lb_W (nt_sp + 1 + 16)).length)) (z2.1 + (lb_W (nt_sp + 1 + 16)).length) (by omega)
        dsimp only at hlt1
        obtain ⟨r, a, J9, e9, ⟨k1, hk⟩, hQ⟩ := md_tesl hP hO hB (t - lb_s f t q + 1) _ _ (lb_st 2 S2 dd2 z2.2.2).2.2 _ _ _ _ (by omega) hT6 hp4 k
        exact ⟨r, a, J9, e9, hr1 r (hr2 r ⟨k1 + 1, Or.inl ⟨g16, hk⟩⟩), hQ⟩
      · exact absurd g16 g16b
    · have k : nt_rn X _ 158 (36, [(1, .int (Int32.ofInt 1)), (0, .ref B)], [.int (Int32.ofInt 0)], me_w M (nt_u J2 B 15 (nI z2.1))) _ := k
      have k := ly_revb 1 (c' := (if (Int32.ofInt 0) = 0 then 39 else 49, [(1, .int (Int32.ofInt 1)), (0, .ref B)], [], me_w M (nt_u J2 B 15 (nI z2.1)))) rfl k
      rw [if_pos (show (Int32.ofInt 0) = 0 from by decide)] at k
      have k := ly_revb 2 (c' := (43, [(1, .int (Int32.ofInt 1)), (0, .ref B)], [.long (28530), .ref B], me_w M (nt_u J2 B 15 (nI z2.1)))) rfl k
      obtain ⟨d1, o1, ed, kc, k⟩ := lz_c (g := 137) (q := 1) (vs := [.ref B, .long (28530)]) (rest := []) rfl rfl (by decide) (Or.inr (Or.inl ⟨_, rfl, rfl⟩)) rfl k
      obtain ⟨r, e1, hr⟩ := md_isWord (md_TP hP hO hT3) hT3.1 hp2 kc
      rw [hs2, me_uu] at e1
      rw [hs2] at hr
      subst e1
      rw [lb_w_or] at hr
      rcases hr with ⟨rfl, g17⟩ | ⟨rfl, g17⟩
      · have k : nt_rn X _ 158 (46, [(1, .int (Int32.ofInt 1)), (0, .ref B)], [.int (Int32.ofInt 1)], me_w M (nt_u J2 B 15 (nI z2.1))) _ := k
        have k := ly_revb 1 (c' := (if (Int32.ofInt 1) = 0 then 53 else 49, [(1, .int (Int32.ofInt 1)), (0, .ref B)], [], me_w M (nt_u J2 B 15 (nI z2.1)))) rfl k
        rw [if_neg (show ¬ ((Int32.ofInt 1) = 0) from by decide)] at k
        have k := ly_revb 5 (c' := (if (Int32.ofInt 1) = 0 then 12 else 59, [(1, .int (Int32.ofInt 1)), (0, .ref B)], [], me_w M (nt_u J2 B 15 (nI z2.1)))) rfl k
        rw [if_neg (show ¬ ((Int32.ofInt 1) = 0) from by decide)] at k
        have k := ly_revb 2 (c' := (63, [(1, .int (Int32.ofInt 1)), (0, .ref B)], [.long (6385252), .ref B], me_w M (nt_u J2 B 15 (nI z2.1)))) rfl k
        obtain ⟨d1, o1, ed, kc, k⟩ := lz_c (g := 137) (q := 1) (vs := [.ref B, .long (6385252)]) (rest := []) rfl rfl (by decide) (Or.inr (Or.inl ⟨_, rfl, rfl⟩)) rfl k
        obtain ⟨r, e1, hr⟩ := md_isWord (md_TP hP hO hT3) hT3.1 hp2 kc
        rw [hs2, me_uu] at e1
        rw [hs2] at hr
        subst e1
        rw [lb_w_and] at hr
        rcases hr with ⟨rfl, g16b⟩ | ⟨rfl, g16b⟩
        · exact absurd g16b g16
        · have k : nt_rn X _ 158 (66, [(1, .int (Int32.ofInt 1)), (0, .ref B)], [.int (Int32.ofInt 0)], me_w M (nt_u J2 B 15 (nI z2.1))) _ := k
          have k := ly_revb 1 (c' := (if (Int32.ofInt 0) = 0 then 74 else 69, [(1, .int (Int32.ofInt 1)), (0, .ref B)], [], me_w M (nt_u J2 B 15 (nI z2.1)))) rfl k
          rw [if_pos (show (Int32.ofInt 0) = 0 from by decide)] at k
          have k := ly_revb 3 (c' := (78, [(2, .int (Int32.ofInt 13)), (1, .int (Int32.ofInt 1)), (0, .ref B)], [.ref B], me_w M (nt_u J2 B 15 (nI z2.1)))) rfl k
          obtain ⟨d1, o1, ed, kc, k⟩ := lz_c (g := 142) (q := 1) (vs := [.ref B]) (rest := []) rfl rfl (by decide) (Or.inr (Or.inl ⟨_, rfl, rfl⟩)) rfl k
          have e1 := md_pass (md_TP hP hO hT3) hT3.1 hp2 kc
          rw [lb_at_l g17] at e1
          subst e1
          have hT4 := md_Tup hP hO hT3 (md_Sq (y := z2.1 + (lb_W (nt_sp + 1 + 17)).length) (md_TP hP hO hT3) hT3.1)
          have hp4 : z2.1 + (lb_W (nt_sp + 1 + 17)).length ≤ t := g17.1
          have k : nt_rn X _ 158 (81, [(2, .int (Int32.ofInt 13)), (1, .int (Int32.ofInt 1)), (0, .ref B)], [], me_w M (nt_u (nt_u J2 B 15 (nI z2.1)) B 15 (nI (z2.1 + (lb_W (nt_sp + 1 + 17)).length)))) _ := k
          have k := ly_revb 2 (c' := (83, [(2, .int (Int32.ofInt 13)), (1, .int (Int32.ofInt 1)), (0, .ref B)], [.int (Int32.ofInt 13), .ref B], me_w M (nt_u (nt_u J2 B 15 (nI z2.1)) B 15 (nI (z2.1 + (lb_W (nt_sp + 1 + 17)).length))))) rfl k
          obtain ⟨d1, o1, ed, kc, k⟩ := lz_c (g := 164) (q := 0) (vs := [.int (Int32.ofInt 13)]) (rest := [.ref B]) rfl rfl (by decide) (Or.inl ⟨_, rfl, rfl⟩) rfl k
          have e1 := md_strength kc
          rw [show lb_sg (Int32.ofInt 13) = 1 from by decide] at e1
          subst e1
          have k : nt_rn X _ 158 (86, [(2, .int (Int32.ofInt 13)), (1, .int (Int32.ofInt 1)), (0, .ref B)], [.int (nI 1), .ref B], me_w M (nt_u (nt_u J2 B 15 (nI z2.1)) B 15 (nI (z2.1 + (lb_W (nt_sp + 1 + 17)).length)))) _ := k
          obtain ⟨d1, o1, ed, kc, k⟩ := lz_c (g := 163) (q := 1) (vs := [.ref B, .int (nI 1)]) (rest := []) rfl rfl (by decide) (Or.inr (Or.inl ⟨_, rfl, rfl⟩)) rfl k
          obtain ⟨J5, e1, hT5⟩ := md_settles (l := 1) hP hO (by decide) hp4 S2 dd2 z2.2.2 _ hT4 kc
          subst e1
          have s5 : (lb_st 1 S2 dd2 z2.2.2).2.1.length ≤ 400 := hT5.2.2.2.2.2
          have k : nt_rn X _ 158 (89, [(2, .int (Int32.ofInt 13)), (1, .int (Int32.ofInt 1)), (0, .ref B)], [], me_w M J5) _ := k
          have k := ly_revb 1 (c' := (90, [(2, .int (Int32.ofInt 13)), (1, .int (Int32.ofInt 1)), (0, .ref B)], [.ref B], me_w M J5)) rfl k
          have k := lz_get (a := B) (g := 1122) (M := me_w M J5) (v := .ref Op) rfl (nt_gfR rfl hO.1) k
          have k := ly_revb 1 (c' := (94, [(2, .int (Int32.ofInt 13)), (1, .int (Int32.ofInt 1)), (0, .ref B)], [.ref B, .ref Op], me_w M J5)) rfl k
          have k := lz_get (a := B) (g := 1123) (M := me_w M J5) (v := .int (nI ((lb_st 1 S2 dd2 z2.2.2).2.1.length))) rfl (congrArg Value.int (hT5.2.2.2.1)) k
          have k := ly_revb 1 (c' := (98, [(2, .int (Int32.ofInt 13)), (1, .int (Int32.ofInt 1)), (0, .ref B)], [.int (Int32.ofInt 13), .int (nI ((lb_st 1 S2 dd2 z2.2.2).2.1.length)), .ref Op], me_w M J5)) rfl k
          have hb : ((lb_st 1 S2 dd2 z2.2.2).2.1.length) < nt_l M Op := me_iastb (q := ((lb_st 1 S2 dd2 z2.2.2).2.1.length)) rfl rfl (by omega) k
          rw [hO.2.2.1] at hb
          have k := me_iast (q := ((lb_st 1 S2 dd2 z2.2.2).2.1.length)) rfl (rfl) (by omega) k
          have k := ly_revb 2 (c' := (101, [(2, .int (Int32.ofInt 13)), (1, .int (Int32.ofInt 1)), (0, .ref B)], [.ref B, .ref B], me_w M (nt_u J5 Op (((lb_st 1 S2 dd2 z2.2.2).2.1.length)) (Int32.ofInt 13)))) rfl k
          have k := lz_get (a := B) (g := 1123) (M := me_w M (nt_u J5 Op (((lb_st 1 S2 dd2 z2.2.2).2.1.length)) (Int32.ofInt 13))) (v := .int (nI ((lb_st 1 S2 dd2 z2.2.2).2.1.length))) rfl (congrArg Value.int ((me_uj (Ne.symm (hO.2.1.1))).trans (hT5.2.2.2.1))) k
          have k := ly_revb 2 (c' := (106, [(2, .int (Int32.ofInt 13)), (1, .int (Int32.ofInt 1)), (0, .ref B)], [.int ((nI ((lb_st 1 S2 dd2 z2.2.2).2.1.length)) + (Int32.ofInt 1)), .ref B], me_w M (nt_u J5 Op (((lb_st 1 S2 dd2 z2.2.2).2.1.length)) (Int32.ofInt 13)))) rfl k
          rw [show ((nI ((lb_st 1 S2 dd2 z2.2.2).2.1.length)) + (Int32.ofInt 1) : Int32) = nI (((lb_st 1 S2 dd2 z2.2.2).2.1.length) + 1) from me_add (k := 1)] at k
          have k := me_put rfl (by decide) k
          have k : nt_rn X _ 158 (109, [(2, .int (Int32.ofInt 13)), (1, .int (Int32.ofInt 1)), (0, .ref B)], [], me_w M (nt_u (nt_u J5 Op (((lb_st 1 S2 dd2 z2.2.2).2.1.length)) (Int32.ofInt 13)) B 23 (nI (((lb_st 1 S2 dd2 z2.2.2).2.1.length) + 1)))) _ := k
          have k := ly_revb 1 (c' := (12, [(2, .int (Int32.ofInt 13)), (1, .int (Int32.ofInt 1)), (0, .ref B)], [], me_w M (nt_u (nt_u J5 Op (((lb_st 1 S2 dd2 z2.2.2).2.1.length)) (Int32.ofInt 13)) B 23 (nI (((lb_st 1 S2 dd2 z2.2.2).2.1.length) + 1))))) rfl k
          have hT6 := md_Tpush (y := Int32.ofInt 13) hP hO hT5 hb
          have wl := lb_Wp 17 (by decide)
          have hsl := lb_s_le (f := f) (t := t) (t - (z2.1 + (lb_W (nt_sp + 1 + 17)).length)) (z2.1 + (lb_W (nt_sp + 1 + 17)).length) (by omega)
          dsimp only at hlt1
          obtain ⟨r, a, J9, e9, ⟨k1, hk⟩, hQ⟩ := md_tesl hP hO hB (t - lb_s f t q + 1) _ _ (lb_st 1 S2 dd2 z2.2.2).2.2 _ _ _ _ (by omega) hT6 hp4 k
          exact ⟨r, a, J9, e9, hr1 r (hr2 r ⟨k1 + 1, Or.inr (Or.inl ⟨g16, g17, hk⟩)⟩), hQ⟩
      · have k : nt_rn X _ 158 (46, [(1, .int (Int32.ofInt 1)), (0, .ref B)], [.int (Int32.ofInt 0)], me_w M (nt_u J2 B 15 (nI z2.1))) _ := k
        have k := ly_revb 1 (c' := (if (Int32.ofInt 0) = 0 then 53 else 49, [(1, .int (Int32.ofInt 1)), (0, .ref B)], [], me_w M (nt_u J2 B 15 (nI z2.1)))) rfl k
        rw [if_pos (show (Int32.ofInt 0) = 0 from by decide)] at k
        have k := ly_revb 4 (c' := (if (Int32.ofInt 0) = 0 then 12 else 59, [(1, .int (Int32.ofInt 0)), (0, .ref B)], [], me_w M (nt_u J2 B 15 (nI z2.1)))) rfl k
        rw [if_pos (show (Int32.ofInt 0) = 0 from by decide)] at k
        have k := ly_revb 2 (c' := (if (Int32.ofInt 0) = 0 then 112 else 16, [(1, .int (Int32.ofInt 0)), (0, .ref B)], [], me_w M (nt_u J2 B 15 (nI z2.1)))) rfl k
        rw [if_pos (show (Int32.ofInt 0) = 0 from by decide)] at k
        have k := ly_revb 1 (c' := (113, [(1, .int (Int32.ofInt 0)), (0, .ref B)], [.ref B], me_w M (nt_u J2 B 15 (nI z2.1)))) rfl k
        obtain ⟨d1, o1, ed, kc, k⟩ := lz_c (g := 165) (q := 1) (vs := [.ref B]) (rest := []) rfl rfl (by decide) (Or.inr (Or.inl ⟨_, rfl, rfl⟩)) rfl k
        obtain ⟨r, e1, hin⟩ := md_inside hP hO hT3 kc
        subst e1
        rcases hin with ⟨rfl, hin⟩ | ⟨rfl, hin⟩
        · have k : nt_rn X _ 158 (116, [(1, .int (Int32.ofInt 0)), (0, .ref B)], [.int (Int32.ofInt 1)], me_w M (nt_u J2 B 15 (nI z2.1))) _ := k
          have k := ly_revb 1 (c' := (if (Int32.ofInt 1) = 0 then 134 else 119, [(1, .int (Int32.ofInt 0)), (0, .ref B)], [], me_w M (nt_u J2 B 15 (nI z2.1)))) rfl k
          rw [if_neg (show ¬ ((Int32.ofInt 1) = 0) from by decide)] at k
          have k := ly_revb 1 (c' := (120, [(1, .int (Int32.ofInt 0)), (0, .ref B)], [.ref B], me_w M (nt_u J2 B 15 (nI z2.1)))) rfl k
          obtain ⟨d1, o1, ed, kc, k⟩ := lz_c (g := 136) (q := 1) (vs := [.ref B]) (rest := []) rfl rfl (by decide) (Or.inr (Or.inl ⟨_, rfl, rfl⟩)) rfl k
          have e1 := md_see (md_TP hP hO hT3) hT3.1 hp2 kc
          rw [hs2, me_uu] at e1
          subst e1
          have k : nt_rn X _ 158 (123, [(1, .int (Int32.ofInt 0)), (0, .ref B)], [.int (lb_g f t z2.1)], me_w M (nt_u J2 B 15 (nI z2.1))) _ := k
          have k := ly_revb 4 (c' := (127, [(1, .int (Int32.ofInt 0)), (0, .ref B)], [.ref B, .int (Int32.ofInt 0), .ref B], me_w M (nt_u J2 B 15 (nI z2.1)))) rfl k
          have k := lz_get (a := B) (g := 1115) (M := me_w M (nt_u J2 B 15 (nI z2.1))) (v := .int (nI z2.1)) rfl (congrArg Value.int (hT3.1.1)) k
          obtain ⟨d1, o1, ed, kc, k⟩ := lz_c (g := 139) (q := 1) (vs := [.ref B, .int (Int32.ofInt 0), .int (nI z2.1)]) (rest := []) rfl rfl (by decide) (Or.inr (Or.inl ⟨_, rfl, rfl⟩)) rfl k
          obtain ⟨hf, e1⟩ := (md_fails (a := z2.1) (md_TP hP hO hT3) hT3.1 hp2 kc).resolve_right (fun c => c.1 rfl)
          subst e1
          have hT9 := md_Tup hP hO hT3 (md_Sw (y := lb_c z2.1 (Int32.ofInt 0)) (md_TP hP hO hT3) hT3.1)
          have k : nt_rn X _ 158 (133, [(1, .int (Int32.ofInt 0)), (0, .ref B)], [.int (Int32.ofInt 0)], me_w M (nt_u (nt_u J2 B 15 (nI z2.1)) B 16 (lb_c z2.1 (Int32.ofInt 0)))) _ := k
          have k := lz_ri rfl (by decide) k
          exact ⟨.inl (lb_c z2.1 (Int32.ofInt 0)), _, _, k, hr1 _ (hr2 _ ⟨1, Or.inr (Or.inr (Or.inl ⟨g16, g17, hin, rfl⟩))⟩), (lb_c_ne (by omega) (by decide) (by decide)), rfl, _, _, _, _, _, hT9, hp2⟩
        · have k : nt_rn X _ 158 (116, [(1, .int (Int32.ofInt 0)), (0, .ref B)], [.int (Int32.ofInt 0)], me_w M (nt_u J2 B 15 (nI z2.1))) _ := k
          have k := ly_revb 1 (c' := (if (Int32.ofInt 0) = 0 then 134 else 119, [(1, .int (Int32.ofInt 0)), (0, .ref B)], [], me_w M (nt_u J2 B 15 (nI z2.1)))) rfl k
          rw [if_pos (show (Int32.ofInt 0) = 0 from by decide)] at k
          have k := ly_revb 2 (c' := (136, [(1, .int (Int32.ofInt 0)), (0, .ref B)], [.int (Int32.ofInt 1), .ref B], me_w M (nt_u J2 B 15 (nI z2.1)))) rfl k
          obtain ⟨d1, o1, ed, kc, k⟩ := lz_c (g := 163) (q := 1) (vs := [.ref B, .int (Int32.ofInt 1)]) (rest := []) rfl rfl (by decide) (Or.inr (Or.inl ⟨_, rfl, rfl⟩)) rfl k
          obtain ⟨J5, e1, hT5⟩ := md_settles (l := 1) hP hO (by decide) hp2 S2 dd2 z2.2.2 _ hT3 kc
          subst e1
          have s5 : (lb_st 1 S2 dd2 z2.2.2).2.1.length ≤ 400 := hT5.2.2.2.2.2
          have k : nt_rn X _ 158 (139, [(1, .int (Int32.ofInt 0)), (0, .ref B)], [], me_w M J5) _ := k
          have k := ly_revb 1 (c' := (140, [(1, .int (Int32.ofInt 0)), (0, .ref B)], [.int (Int32.ofInt 1)], me_w M J5)) rfl k
          have k := lz_ri rfl (by decide) k
          exact ⟨.inr (z2.1, z2.2.1, (lb_st 1 S2 dd2 z2.2.2).2.2), _, _, k, hr1 _ (hr2 _ ⟨1, Or.inr (Or.inr (Or.inr ⟨g16, g17, hin, rfl⟩))⟩), rfl, _, _, _, hs2, hp2, hT5⟩
