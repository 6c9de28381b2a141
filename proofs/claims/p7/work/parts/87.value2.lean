/-! a value, the other side -/
theorem lb_d_all {f : Nat → Int32} {t : Nat} : ∀ (n p : Nat), lb_d f t p = n → ∀ i, i < n → lb_dig f t (p + i) := by
  intro n
  induction n with
  | zero => intro p h i hi; omega
  | succ n ih =>
    intro p h i hi
    obtain ⟨a, b⟩ := lb_d_dig h
    by_cases c : i = 0
    · rw [c]; exact a
    · have q := ih (p + 1) b (i - 1) (by omega)
      rw [show p + 1 + (i - 1) = p + i from by omega] at q
      exact q
theorem lb_v_s {v c : Int32} {X : Nat} (hv : v = nI X) (hX : X < 100000) (h0 : 48 ≤ c.toInt) (h1 : c.toInt ≤ 57) : v * Int32.ofInt 10 + c - Int32.ofInt 48 = nI (X * 10 + (c.toInt.toNat - 48)) := by
  have ec : c = nI c.toInt.toNat := by
    apply Int32.toInt_inj.mp
    rw [nI_toInt (by omega)]
    omega
  have e10 : v * Int32.ofInt 10 = nI (X * 10) := by
    rw [hv]
    exact (Int32.ofNat_mul X 10).symm
  rw [e10]
  have e2 : nI (X * 10) + c = nI (X * 10 + c.toInt.toNat) := by
    rw [← me_addn, ← ec]
  rw [e2]
  have e3 : nI (X * 10 + c.toInt.toNat) - nI 48 = nI (X * 10 + c.toInt.toNat - 48) := me_subn (by omega)
  rw [show Int32.ofInt 48 = nI 48 from rfl, e3]
  congr 1
  omega
theorem lb_v_b {f : Nat → Int32} {t p : Nat} : ∀ n, n ≤ 5 → (∀ i, i < n → lb_dig f t (p + i)) → ∃ X, lb_v f p n = nI X ∧ X < 10 ^ n := by
  intro n
  induction n with
  | zero => intro _ _; exact ⟨0, rfl, by decide⟩
  | succ n ih =>
    intro hn h
    obtain ⟨X, a, b⟩ := ih (by omega) (fun i hi => h i (by omega))
    have c := h n (by omega)
    have c1 : (48 : Int) ≤ (f (p + n)).toInt := Int32.le_iff_toInt_le.mp c.2.1
    have c2 : (f (p + n)).toInt ≤ 57 := Int32.le_iff_toInt_le.mp c.2.2
    have hb : (10 : Nat) ^ n ≤ 10 ^ 4 := Nat.pow_le_pow_right (by decide) (by omega)
    have hb2 : (10 : Nat) ^ 4 = 10000 := by decide
    refine ⟨X * 10 + ((f (p + n)).toInt.toNat - 48), lb_v_s a (by omega) c1 c2, ?_⟩
    rw [Nat.pow_succ]
    omega
theorem lb_v_in {f : Nat → Int32} {t p : Nat} (h : lb_d f t p ≤ 5) : (Int32.ofInt 0).toInt ≤ (lb_v f p (lb_d f t p)).toInt ∧ (lb_v f p (lb_d f t p)).toInt ≤ (Int32.ofInt 99999).toInt := by
  obtain ⟨X, a, b⟩ := lb_v_b (lb_d f t p) h (lb_d_all _ p rfl)
  have hb : (10 : Nat) ^ (lb_d f t p) ≤ 10 ^ 5 := Nat.pow_le_pow_right (by decide) h
  have hb2 : (10 : Nat) ^ 5 = 100000 := by decide
  rw [a, nI_toInt (by omega)]
  have e0 : (Int32.ofInt 0).toInt = 0 := by decide
  have e9 : (Int32.ofInt 99999).toInt = 99999 := by decide
  rw [e0, e9]
  omega
theorem lb_W_lets : nt_SB.all (fun l => l.all (fun c => decide (Int32.ofInt 97 ≤ c ∧ c ≤ Int32.ofInt 122))) = true := by decide +kernel
theorem lb_at_l {f : Nat → Int32} {t p a : Nat} (h : lb_at f t (lb_W a) p) : lb_l f t p = (lb_W a).length := by
  refine lb_l_eq _ p (fun i hi => ?_) h.2.2
  have h1 := h.1
  refine ⟨by omega, ?_⟩
  rw [h.2.1 i hi]
  have hm : lb_W a ∈ nt_SB := by
    unfold lb_W at hi ⊢
    rw [List.getD_eq_getElem?_getD] at hi ⊢
    cases hc : nt_SB[nt_si a]? with
    | none => rw [hc] at hi; exact absurd hi (Nat.not_lt_zero _)
    | some l => exact List.mem_of_getElem? hc
  have q := List.all_eq_true.mp lb_W_lets _ hm
  have q2 := List.all_eq_true.mp q ((lb_W a).getD i 0) (by rw [List.getD_eq_getElem?_getD, List.getElem?_eq_getElem hi]; exact List.getElem_mem hi)
  exact of_decide_eq_true q2
def md_Q (J0 : Nat → Nat → Int32) (B Sg Ln x t : Nat) (f : Nat → Int32) (r : lb_Y) (a : Int32) (J : Nat → Nat → Int32) : Prop := match r with
  | .inl c => c ≠ 0 ∧ a = Int32.ofInt 0 ∧ ∃ q m e, md_S J0 B Sg Ln x q c m e J ∧ q ≤ t
  | .inr z => a = Int32.ofInt 1 ∧ ∃ q, lb_s f t q = z.1 ∧ q ≤ t ∧ md_S J0 B Sg Ln x q 0 z.2.1 z.2.2.2 J
theorem md_value {X : nt_X} {d t x B Tb Sg Ln q m : Nat} {f : Nat → Int32} {M : nt_M} {J0 J : Nat → Nat → Int32} {o : Option Value × nt_M} {e : Nat × (Nat → Int32)} {s0 : Nat × (Nat → Int32)} (hP : md_P M J0 f t x B Tb Sg Ln) (hS : md_S J0 B Sg Ln x q 0 m e J) (hp : q ≤ t) (k : nt_ev X d 153 [.ref B] (me_w M J) o) : ∃ r a J', o = (some (.int a), me_w M J') ∧ lb_val f t (lb_s f t q, m, (s0, e)) r ∧ md_Q J0 B Sg Ln x t f r a J' := by
  have k : nt_rn X d 153 (0, [(0, .ref B)], [], me_w M J) o := k
  have t4 : t ≤ 400 := hP.2.2.2.2.2.1
  have hD : lb_s f t q + lb_d f t (lb_s f t q) ≤ t := by
    have := (lb_s_le (f := f) (t := t) (t - q) q (by omega)).2
    exact lb_d_le (t - lb_s f t q) (lb_s f t q) (by omega)
  have hss : lb_s f t (lb_s f t q) = lb_s f t q := lb_ss hp
  have m6 : m ≤ 60 := hS.2.2.2.2.2.2.2.2
  have k := ly_revb 1 (c' := (1, [(0, .ref B)], [.ref B], me_w M J)) rfl k
  obtain ⟨d1, o1, ed, kc, k⟩ := lz_c (g := 136) (q := 1) (vs := [.ref B]) (rest := []) rfl rfl (by decide) (Or.inr (Or.inl ⟨_, rfl, rfl⟩)) rfl k
  have e1 := md_see hP hS hp kc
  subst e1
  have hS1 := md_Sq (y := lb_s f t q) hP hS
  have hp1 : lb_s f t q ≤ t := (lb_s_le (t - q) q (by omega)).2
  have k : nt_rn X _ 153 (4, [(0, .ref B)], [.int (lb_g f t (lb_s f t q))], me_w M (nt_u J B 15 (nI (lb_s f t q)))) _ := k
  have k := ly_revb 2 (c' := (6, [(0, .ref B)], [.ref B], me_w M (nt_u J B 15 (nI (lb_s f t q))))) rfl k
  have k := lz_get (a := B) (g := 1115) (M := me_w M (nt_u J B 15 (nI (lb_s f t q)))) (v := .int (nI (lb_s f t q))) rfl (congrArg Value.int (hS1.1)) k
  have k := ly_revb 3 (c' := (12, [(1, .int (nI (lb_s f t q))), (0, .ref B)], [.ref B, .ref B], me_w M (nt_u J B 15 (nI (lb_s f t q))))) rfl k
  have k := lz_get (a := B) (g := 1115) (M := me_w M (nt_u J B 15 (nI (lb_s f t q)))) (v := .int (nI (lb_s f t q))) rfl (congrArg Value.int (hS1.1)) k
  obtain ⟨d1, o1, ed, kc, k⟩ := lz_c (g := 144) (q := 1) (vs := [.ref B, .int (nI (lb_s f t q))]) (rest := []) rfl rfl (by decide) (Or.inr (Or.inl ⟨_, rfl, rfl⟩)) rfl k
  obtain ⟨r, e1, hr⟩ := md_isDigit hP hS1 hp1 (by omega) kc
  subst e1
  rcases hr with ⟨rfl, hr⟩ | ⟨rfl, hr⟩
  · have k : nt_rn X _ 153 (18, [(1, .int (nI (lb_s f t q))), (0, .ref B)], [.int (Int32.ofInt 1)], me_w M (nt_u J B 15 (nI (lb_s f t q)))) _ := k
    have k := ly_revb 1 (c' := (if (Int32.ofInt 1) = 0 then 52 else 21, [(1, .int (nI (lb_s f t q))), (0, .ref B)], [], me_w M (nt_u J B 15 (nI (lb_s f t q))))) rfl k
    rw [if_neg (show ¬ ((Int32.ofInt 1) = 0) from by decide)] at k
    have k := ly_revb 3 (c' := (25, [(1, .int (nI (lb_s f t q))), (0, .ref B)], [.int (Int32.ofInt 99999), .int (Int32.ofInt 0), .ref B], me_w M (nt_u J B 15 (nI (lb_s f t q))))) rfl k
    obtain ⟨d1, o1, ed, kc, k⟩ := lz_c (g := 143) (q := 1) (vs := [.ref B, .int (Int32.ofInt 0), .int (Int32.ofInt 99999)]) (rest := []) rfl rfl (by decide) (Or.inr (Or.inl ⟨_, rfl, rfl⟩)) rfl k
    obtain ⟨r, J5, e1, hn⟩ := md_num hP hS1 hp1 kc
    rw [hss] at hn
    subst e1
    rcases hn with ⟨h0, _⟩ | ⟨hd0, hbad, rfl, hS5⟩ | ⟨hd0, hd5, hin, rfl, hS5, h17⟩
    · rw [lb_d1 hr] at h0
      omega
    · have k : nt_rn X _ 153 (28, [(1, .int (nI (lb_s f t q))), (0, .ref B)], [.int (Int32.ofInt 0)], me_w M J5) _ := k
      have k := ly_revb 1 (c' := (if (Int32.ofInt 0) = 0 then 39 else 31, [(1, .int (nI (lb_s f t q))), (0, .ref B)], [], me_w M J5)) rfl k
      rw [if_pos (show (Int32.ofInt 0) = 0 from by decide)] at k
      have k := ly_revb 1 (c' := (40, [(1, .int (nI (lb_s f t q))), (0, .ref B)], [.int (Int32.ofInt 0)], me_w M J5)) rfl k
      have k := lz_ri rfl (by decide) k
      refine ⟨.inl (lb_c (lb_s f t q) (Int32.ofInt 1)), _, _, k, ?_, (lb_c_ne (by omega) (by decide) (by decide)), rfl, _, _, _, hS5, hD⟩
      unfold lb_val
      dsimp only
      exact Or.inl ⟨Classical.byContradiction (fun c => hbad.elim c (fun c2 => c2 (lb_v_in (by omega)))), rfl⟩
    · have k : nt_rn X _ 153 (28, [(1, .int (nI (lb_s f t q))), (0, .ref B)], [.int (Int32.ofInt 1)], me_w M J5) _ := k
      have k := ly_revb 1 (c' := (if (Int32.ofInt 1) = 0 then 39 else 31, [(1, .int (nI (lb_s f t q))), (0, .ref B)], [], me_w M J5)) rfl k
      rw [if_neg (show ¬ ((Int32.ofInt 1) = 0) from by decide)] at k
      have k := ly_revb 2 (c' := (33, [(1, .int (nI (lb_s f t q))), (0, .ref B)], [.int (nI (lb_s f t q)), .ref B], me_w M J5)) rfl k
      obtain ⟨d1, o1, ed, kc, k⟩ := lz_c (g := 154) (q := 1) (vs := [.ref B, .int (nI (lb_s f t q))]) (rest := []) rfl rfl (by decide) (Or.inr (Or.inl ⟨_, rfl, rfl⟩)) rfl k
      rcases md_makes (a := lb_s f t q) hP hS5 hD rfl kc with ⟨hm, e1⟩ | ⟨hm, e1⟩
      · subst e1
        have hS6 := md_Sw (y := lb_c (lb_s f t q) (Int32.ofInt 3)) hP hS5
        have k : nt_rn X _ 153 (36, [(1, .int (nI (lb_s f t q))), (0, .ref B)], [.int (Int32.ofInt 0)], me_w M (nt_u J5 B 16 (lb_c (lb_s f t q) (Int32.ofInt 3)))) _ := k
        have k := ly_revb 1 (c' := (if (Int32.ofInt 0) = 0 then 39 else 41, [(1, .int (nI (lb_s f t q))), (0, .ref B)], [], me_w M (nt_u J5 B 16 (lb_c (lb_s f t q) (Int32.ofInt 3))))) rfl k
        rw [if_pos (show (Int32.ofInt 0) = 0 from by decide)] at k
        have k := ly_revb 1 (c' := (40, [(1, .int (nI (lb_s f t q))), (0, .ref B)], [.int (Int32.ofInt 0)], me_w M (nt_u J5 B 16 (lb_c (lb_s f t q) (Int32.ofInt 3))))) rfl k
        have k := lz_ri rfl (by decide) k
        refine ⟨.inl (lb_c (lb_s f t q) (Int32.ofInt 3)), _, _, k, ?_, (lb_c_ne (by omega) (by decide) (by decide)), rfl, _, _, _, hS6, hD⟩
        unfold lb_val
        dsimp only
        exact Or.inr (Or.inl ⟨hd0, hd5, hm, rfl⟩)
      · subst e1
        have hS6 := md_Sm (y := m + 1) hP hS5 (by omega)
        have k : nt_rn X _ 153 (36, [(1, .int (nI (lb_s f t q))), (0, .ref B)], [.int (Int32.ofInt 1)], me_w M (nt_u J5 B 19 (nI (m + 1)))) _ := k
        have k := ly_revb 1 (c' := (if (Int32.ofInt 1) = 0 then 39 else 41, [(1, .int (nI (lb_s f t q))), (0, .ref B)], [], me_w M (nt_u J5 B 19 (nI (m + 1))))) rfl k
        rw [if_neg (show ¬ ((Int32.ofInt 1) = 0) from by decide)] at k
        have k := ly_revb 3 (c' := (44, [(1, .int (nI (lb_s f t q))), (0, .ref B)], [.ref B, .int (Int32.ofInt 0), .ref B], me_w M (nt_u J5 B 19 (nI (m + 1))))) rfl k
        have k := lz_get (a := B) (g := 1117) (M := me_w M (nt_u J5 B 19 (nI (m + 1)))) (v := .int (lb_v f (lb_s f t q) (lb_d f t (lb_s f t q)))) rfl (congrArg Value.int ((me_uk (by decide)).trans h17)) k
        obtain ⟨d1, o1, ed, kc, k⟩ := lz_c (g := 155) (q := 1) (vs := [.ref B, .int (Int32.ofInt 0), .int (lb_v f (lb_s f t q) (lb_d f t (lb_s f t q)))]) (rest := []) rfl rfl (by decide) (Or.inr (Or.inl ⟨_, rfl, rfl⟩)) rfl k
        obtain ⟨hb, e1⟩ := md_puts hP hS6 hD kc
        subst e1
        have hS8 := md_Se (y := (Int32.ofInt 0) + Int32.ofInt 16 * (lb_v f (lb_s f t q) (lb_d f t (lb_s f t q)))) hP hS6 hb
        have k : nt_rn X _ 153 (50, [(1, .int (nI (lb_s f t q))), (0, .ref B)], [], me_w M (nt_u (nt_u (nt_u J5 B 19 (nI (m + 1))) Sg (400 * x + e.1) ((Int32.ofInt 0) + Int32.ofInt 16 * (lb_v f (lb_s f t q) (lb_d f t (lb_s f t q))))) Ln x (nI (e.1 + 1)))) _ := k
        have k := ly_revb 1 (c' := (51, [(1, .int (nI (lb_s f t q))), (0, .ref B)], [.int (Int32.ofInt 1)], me_w M (nt_u (nt_u (nt_u J5 B 19 (nI (m + 1))) Sg (400 * x + e.1) ((Int32.ofInt 0) + Int32.ofInt 16 * (lb_v f (lb_s f t q) (lb_d f t (lb_s f t q))))) Ln x (nI (e.1 + 1))))) rfl k
        have k := lz_ri rfl (by decide) k
        refine ⟨.inr (lb_s f t (lb_s f t q + lb_d f t (lb_s f t q)), m + 1, lb_em (s0, e) (Int32.ofInt 100 + lb_v f (lb_s f t q) (lb_d f t (lb_s f t q))) (Int32.ofInt 0 + Int32.ofInt 16 * lb_v f (lb_s f t q) (lb_d f t (lb_s f t q)))), _, _, k, ?_, ?_⟩
        · unfold lb_val
          dsimp only
          exact Or.inr (Or.inr (Or.inl ⟨hd0, hd5, hm, rfl⟩))
        · unfold md_Q lb_em
          dsimp only
          exact ⟨rfl, lb_s f t q + lb_d f t (lb_s f t q), rfl, hD, hS8⟩
  · have k : nt_rn X _ 153 (18, [(1, .int (nI (lb_s f t q))), (0, .ref B)], [.int (Int32.ofInt 0)], me_w M (nt_u J B 15 (nI (lb_s f t q)))) _ := k
    have k := ly_revb 1 (c' := (if (Int32.ofInt 0) = 0 then 52 else 21, [(1, .int (nI (lb_s f t q))), (0, .ref B)], [], me_w M (nt_u J B 15 (nI (lb_s f t q))))) rfl k
    rw [if_pos (show (Int32.ofInt 0) = 0 from by decide)] at k
    have k := ly_revb 1 (c' := (53, [(1, .int (nI (lb_s f t q))), (0, .ref B)], [.ref B], me_w M (nt_u J B 15 (nI (lb_s f t q))))) rfl k
    obtain ⟨d1, o1, ed, kc, k⟩ := lz_c (g := 156) (q := 1) (vs := [.ref B]) (rest := []) rfl rfl (by decide) (Or.inr (Or.inl ⟨_, rfl, rfl⟩)) rfl k
    obtain ⟨r, e1, hw⟩ := md_wordHere hP hS1 hp1 kc
    rw [hss] at hw
    rw [hss, me_uu] at e1
    subst e1
    rcases hw with ⟨w, hw, e1, hat, hbe⟩ | ⟨e1, hno⟩
    · subst e1
      have k : nt_rn X _ 153 (56, [(1, .int (nI (lb_s f t q))), (0, .ref B)], [.int (nI w)], me_w M (nt_u J B 15 (nI (lb_s f t q)))) _ := k
      have k := ly_revb 3 (c' := (if 0 ≤ (nI w) then 68 else 61, [(2, .int (nI w)), (1, .int (nI (lb_s f t q))), (0, .ref B)], [], me_w M (nt_u J B 15 (nI (lb_s f t q))))) rfl k
      rw [if_pos (show 0 ≤ (nI w) from nI_pos' (by omega))] at k
      have k := ly_revb 2 (c' := (70, [(2, .int (nI w)), (1, .int (nI (lb_s f t q))), (0, .ref B)], [.int (nI (lb_s f t q)), .ref B], me_w M (nt_u J B 15 (nI (lb_s f t q))))) rfl k
      obtain ⟨d1, o1, ed, kc, k⟩ := lz_c (g := 154) (q := 1) (vs := [.ref B, .int (nI (lb_s f t q))]) (rest := []) rfl rfl (by decide) (Or.inr (Or.inl ⟨_, rfl, rfl⟩)) rfl k
      rcases md_makes (a := lb_s f t q) hP hS1 hp1 rfl kc with ⟨hm, e1⟩ | ⟨hm, e1⟩
      · subst e1
        have hS6 := md_Sw (y := lb_c (lb_s f t q) (Int32.ofInt 3)) hP hS1
        have k : nt_rn X _ 153 (73, [(2, .int (nI w)), (1, .int (nI (lb_s f t q))), (0, .ref B)], [.int (Int32.ofInt 0)], me_w M (nt_u (nt_u J B 15 (nI (lb_s f t q))) B 16 (lb_c (lb_s f t q) (Int32.ofInt 3)))) _ := k
        have k := ly_revb 1 (c' := (if (Int32.ofInt 0) = 0 then 76 else 78, [(2, .int (nI w)), (1, .int (nI (lb_s f t q))), (0, .ref B)], [], me_w M (nt_u (nt_u J B 15 (nI (lb_s f t q))) B 16 (lb_c (lb_s f t q) (Int32.ofInt 3))))) rfl k
        rw [if_pos (show (Int32.ofInt 0) = 0 from by decide)] at k
        have k := ly_revb 1 (c' := (77, [(2, .int (nI w)), (1, .int (nI (lb_s f t q))), (0, .ref B)], [.int (Int32.ofInt 0)], me_w M (nt_u (nt_u J B 15 (nI (lb_s f t q))) B 16 (lb_c (lb_s f t q) (Int32.ofInt 3))))) rfl k
        have k := lz_ri rfl (by decide) k
        refine ⟨.inl (lb_c (lb_s f t q) (Int32.ofInt 3)), _, _, k, ?_, (lb_c_ne (by omega) (by decide) (by decide)), rfl, _, _, _, hS6, hp1⟩
        unfold lb_val
        dsimp only
        exact Or.inr (Or.inr (Or.inr (Or.inr ⟨lb_d0 hr, w, hw, hat, hbe, Or.inl ⟨hm, rfl⟩⟩)))
      · subst e1
        have hS6 := md_Sm (y := m + 1) hP hS1 (by omega)
        have k : nt_rn X _ 153 (73, [(2, .int (nI w)), (1, .int (nI (lb_s f t q))), (0, .ref B)], [.int (Int32.ofInt 1)], me_w M (nt_u (nt_u J B 15 (nI (lb_s f t q))) B 19 (nI (m + 1)))) _ := k
        have k := ly_revb 1 (c' := (if (Int32.ofInt 1) = 0 then 76 else 78, [(2, .int (nI w)), (1, .int (nI (lb_s f t q))), (0, .ref B)], [], me_w M (nt_u (nt_u J B 15 (nI (lb_s f t q))) B 19 (nI (m + 1))))) rfl k
        rw [if_neg (show ¬ ((Int32.ofInt 1) = 0) from by decide)] at k
        have k := ly_revb 1 (c' := (79, [(2, .int (nI w)), (1, .int (nI (lb_s f t q))), (0, .ref B)], [.ref B], me_w M (nt_u (nt_u J B 15 (nI (lb_s f t q))) B 19 (nI (m + 1))))) rfl k
        obtain ⟨d1, o1, ed, kc, k⟩ := lz_c (g := 142) (q := 1) (vs := [.ref B]) (rest := []) rfl rfl (by decide) (Or.inr (Or.inl ⟨_, rfl, rfl⟩)) rfl k
        have e1 := md_pass hP hS6 hp1 kc
        rw [lb_at_l hat] at e1
        subst e1
        have hS7 := md_Sq (y := lb_s f t q + (lb_W (lb_wd w)).length) hP hS6
        have hpw : lb_s f t q + (lb_W (lb_wd w)).length ≤ t := hat.1
        have k : nt_rn X _ 153 (82, [(2, .int (nI w)), (1, .int (nI (lb_s f t q))), (0, .ref B)], [], me_w M (nt_u (nt_u (nt_u J B 15 (nI (lb_s f t q))) B 19 (nI (m + 1))) B 15 (nI (lb_s f t q + (lb_W (lb_wd w)).length)))) _ := k
        have k := ly_revb 3 (c' := (85, [(2, .int (nI w)), (1, .int (nI (lb_s f t q))), (0, .ref B)], [.int (nI w), .int (Int32.ofInt 1), .ref B], me_w M (nt_u (nt_u (nt_u J B 15 (nI (lb_s f t q))) B 19 (nI (m + 1))) B 15 (nI (lb_s f t q + (lb_W (lb_wd w)).length))))) rfl k
        obtain ⟨d1, o1, ed, kc, k⟩ := lz_c (g := 155) (q := 1) (vs := [.ref B, .int (Int32.ofInt 1), .int (nI w)]) (rest := []) rfl rfl (by decide) (Or.inr (Or.inl ⟨_, rfl, rfl⟩)) rfl k
        obtain ⟨hb, e1⟩ := md_puts hP hS7 hpw kc
        subst e1
        have hS8 := md_Se (y := (Int32.ofInt 1) + Int32.ofInt 16 * (nI w)) hP hS7 hb
        have k : nt_rn X _ 153 (88, [(2, .int (nI w)), (1, .int (nI (lb_s f t q))), (0, .ref B)], [], me_w M (nt_u (nt_u (nt_u (nt_u (nt_u J B 15 (nI (lb_s f t q))) B 19 (nI (m + 1))) B 15 (nI (lb_s f t q + (lb_W (lb_wd w)).length))) Sg (400 * x + e.1) ((Int32.ofInt 1) + Int32.ofInt 16 * (nI w))) Ln x (nI (e.1 + 1)))) _ := k
        have k := ly_revb 1 (c' := (89, [(2, .int (nI w)), (1, .int (nI (lb_s f t q))), (0, .ref B)], [.int (Int32.ofInt 1)], me_w M (nt_u (nt_u (nt_u (nt_u (nt_u J B 15 (nI (lb_s f t q))) B 19 (nI (m + 1))) B 15 (nI (lb_s f t q + (lb_W (lb_wd w)).length))) Sg (400 * x + e.1) ((Int32.ofInt 1) + Int32.ofInt 16 * (nI w))) Ln x (nI (e.1 + 1))))) rfl k
        have k := lz_ri rfl (by decide) k
        refine ⟨.inr (lb_s f t (lb_s f t q + (lb_W (lb_wd w)).length), m + 1, lb_em (s0, e) (nI w) (Int32.ofInt 1 + Int32.ofInt 16 * nI w)), _, _, k, ?_, ?_⟩
        · unfold lb_val
          dsimp only
          exact Or.inr (Or.inr (Or.inr (Or.inr ⟨lb_d0 hr, w, hw, hat, hbe, Or.inr ⟨hm, rfl⟩⟩)))
        · unfold md_Q lb_em
          dsimp only
          exact ⟨rfl, lb_s f t q + (lb_W (lb_wd w)).length, rfl, hpw, hS8⟩
    · subst e1
      have k : nt_rn X _ 153 (56, [(1, .int (nI (lb_s f t q))), (0, .ref B)], [.int (Int32.ofInt (-1))], me_w M (nt_u J B 15 (nI (lb_s f t q)))) _ := k
      have k := ly_revb 3 (c' := (if 0 ≤ (Int32.ofInt (-1)) then 68 else 61, [(2, .int (Int32.ofInt (-1))), (1, .int (nI (lb_s f t q))), (0, .ref B)], [], me_w M (nt_u J B 15 (nI (lb_s f t q))))) rfl k
      rw [if_neg (show ¬ (0 ≤ (Int32.ofInt (-1))) from by decide)] at k
      have k := ly_revb 3 (c' := (64, [(2, .int (Int32.ofInt (-1))), (1, .int (nI (lb_s f t q))), (0, .ref B)], [.int (nI (lb_s f t q)), .int (Int32.ofInt 0), .ref B], me_w M (nt_u J B 15 (nI (lb_s f t q))))) rfl k
      obtain ⟨d1, o1, ed, kc, k⟩ := lz_c (g := 139) (q := 1) (vs := [.ref B, .int (Int32.ofInt 0), .int (nI (lb_s f t q))]) (rest := []) rfl rfl (by decide) (Or.inr (Or.inl ⟨_, rfl, rfl⟩)) rfl k
      obtain ⟨hf, e1⟩ := (md_fails (a := lb_s f t q) hP hS1 hp1 kc).resolve_right (fun c => c.1 rfl)
      subst e1
      have hS9 := md_Sw (y := lb_c (lb_s f t q) (Int32.ofInt 0)) hP hS1
      have k : nt_rn X _ 153 (67, [(2, .int (Int32.ofInt (-1))), (1, .int (nI (lb_s f t q))), (0, .ref B)], [.int (Int32.ofInt 0)], me_w M (nt_u (nt_u J B 15 (nI (lb_s f t q))) B 16 (lb_c (lb_s f t q) (Int32.ofInt 0)))) _ := k
      have k := lz_ri rfl (by decide) k
      refine ⟨.inl (lb_c (lb_s f t q) (Int32.ofInt 0)), _, _, k, ?_, (lb_c_ne (by omega) (by decide) (by decide)), rfl, _, _, _, hS9, hp1⟩
      unfold lb_val
      dsimp only
      exact Or.inr (Or.inr (Or.inr (Or.inl ⟨lb_d0 hr, hno, rfl⟩)))
