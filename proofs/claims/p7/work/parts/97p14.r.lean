/-! a day -/
theorem zhc_fr {q : Nat → Nat} {a : Nat} (h : ∀ i, i < 17 → a ≠ q i) : ∀ (c : Nat) (i : Int32) (J : Nat → Nat → Int32), zhc q c i J a = J a := by
  intro c
  induction c with
  | zero => intro i J; rfl
  | succ c ih =>
    intro i J
    rw [zhc]
    split
    · rfl
    · split
      · split
        · exact ih _ _
        · exact (ih _ _).trans (x3_frJ (h 0 (by omega)) (h 10 (by omega)) (h 11 (by omega)) (h 12 (by omega)) (h 16 (by omega)))
      · exact ih _ _
theorem zhr_fr {p : Nat → Nat} {a : Nat} (h : a ≠ p 4) : ∀ (c : Nat) (i : Int32) (J : Nat → Nat → Int32), zhr p c i J a = J a := by
  intro c
  induction c with
  | zero => intro i J; rfl
  | succ c ih =>
    intro i J
    rw [zhr]
    split
    · rfl
    · split
      · split
        · exact (ih _ _).trans (x191_frJ h)
        · exact ih _ _
      · exact ih _ _
theorem zthird {p q : Nat → Nat} {sp ln : Nat} {b : Int} {Lc Lr : Nat → Nat → Int64} (X : zX p q) : ∀ (c : Nat) (i : Int32) (Jc Jr : Nat → Nat → Int32), 0 ≤ i.toInt → zR q Jc (Jr (p 4)) → zW (Jr (p 4)) b → (Jr (p 4) 4).toInt ≤ 900 → zR q ((x1_111 p q sp ln Lc c i Jc).1) ((x190_108 p Lr c i Jr).1 (p 4)) ∧ zW ((x190_108 p Lr c i Jr).1 (p 4)) b ∧ zKp p q 0 Jc Jr ((x1_111 p q sp ln Lc c i Jc).1) (x190_108 p Lr c i Jr).1 ∧ ((x190_108 p Lr c i Jr).1 (p 4) 4).toInt = (Jr (p 4) 4).toInt + 1 := by
  intro c
  induction c with
  | zero =>
    intro i Jc Jr i0 hR hW h9
    exact zday X hR hW h9
  | succ c ih =>
    intro i Jc Jr i0 hR hW h9
    rw [x1_111, x190_108, zR_n hR (by omega)]
    by_cases h1 : Jr (p 4) 1 ≤ i
    · rw [if_pos h1, if_pos h1]
      exact zday X hR hW h9
    · rw [if_neg h1, if_neg h1]
      have lt := z_lt h1
      have s := zS hR hW.w i0 lt
      rw [s.2.2.1, s.2.2.2.2.2.1]
      by_cases h2 : Jr (p 4) (10 + 7 * i.toNatClampNeg + 4) = Int32.ofInt 1
      · rw [if_pos h2, if_pos h2]
        have z := zrot X.hq hR hW ⟨i0, lt⟩ h2
        have k := xw_202 hW.w (xi_l5 hW.w h1 i0)
        have e4 := k.2 4 (by omega)
        have g := ih (i + Int32.ofInt 1) _ _ (zi_i h1 i0) z.1 z.2 (by rw [e4]; exact h9)
        refine ⟨g.1, g.2.1, zKp_t ⟨fun a _ h3 => ?_, fun a _ h3 => ?_⟩ g.2.2.1, by rw [g.2.2.2, e4]⟩
        · exact x9_frJ (h3 10 (by omega)) (h3 12 (by omega)) (h3 13 (by omega)) (h3 15 (by omega)) (h3 16 (by omega))
        · exact x202_frJ h3
      · rw [if_neg h2, if_neg h2]
        exact ih _ _ _ (zi_i h1 i0) hR hW h9
theorem zsec {p q : Nat → Nat} {sp ln T : Nat} {t : Int32} {d : Int} (hsq : ∀ i, i < 17 → sp ≠ q i) (ht : t.toInt = (T : Nat)) (X : zX p q) : ∀ (c : Nat) (i : Int32) (Jc Jr : Nat → Nat → Int32) (Lc Lr : Nat → Nat → Int64), 0 ≤ i.toInt → zR q Jc (Jr (p 4)) → zW (Jr (p 4)) (d + 1) → zRQ p sp ln T Jc Jr → (Jr (p 4) 4).toInt = d → (Jr (p 4) 4).toInt ≤ 900 → zR q ((x1_48 p q sp ln c i Jc Lc).1) ((x190_50 p t c i Jr Lr).1 (p 4)) ∧ zW ((x190_50 p t c i Jr Lr).1 (p 4)) (d + 1) ∧ zKp p q sp Jc Jr ((x1_48 p q sp ln c i Jc Lc).1) (x190_50 p t c i Jr Lr).1 ∧ ((x190_50 p t c i Jr Lr).1 (p 4) 4).toInt = (Jr (p 4) 4).toInt + 1 := by
  intro c
  induction c with
  | zero =>
    intro i Jc Jr Lc Lr i0 hR hW hQ ed h9
    rw [x1_48, x190_50, zR_n hR (by omega)]
    exact (by
        have z := zthird (b := d + 1) (Lr := Lr) (sp := sp) (ln := ln) (Lc := Lc) X ((Jr (p 4) 1).toNatClampNeg) (Int32.ofInt 0) Jc Jr (by decide) hR hW h9
        exact ⟨z.1, z.2.1, zKp_s z.2.2.1, z.2.2.2⟩)
  | succ c ih =>
    intro i Jc Jr Lc Lr i0 hR hW hQ ed h9
    rw [x1_48, x190_50, zR_n hR (by omega), zR_n hR (by omega)]
    by_cases h1 : Jr (p 4) 3 ≤ i
    · rw [if_pos h1, if_pos h1]
      exact (by
        have z := zthird (b := d + 1) (Lr := Lr) (sp := sp) (ln := ln) (Lc := Lc) X ((Jr (p 4) 1).toNatClampNeg) (Int32.ofInt 0) Jc Jr (by decide) hR hW h9
        exact ⟨z.1, z.2.1, zKp_s z.2.2.1, z.2.2.2⟩)
    · rw [if_neg h1, if_neg h1]
      obtain ⟨vn, vi, d0, d1, d2, d3, d4, s0, s1, s2, s3, s4⟩ := zV hR hW.w i0 h1
      have vo := hW.a.vo _ vn
      have sS := zS hR hW.w vo.1 vo.2.1
      rw [d0, d1, s0, s1, zR_4 hR, sS.2.2.1]
      by_cases h2 : Jr (p 4) (172 + 5 * i.toNatClampNeg + 1) = Jr (p 4) 4
      · rw [if_pos h2, if_pos h2]
        have e182 : x182 p (Jr (p 4) (172 + 5 * i.toNatClampNeg + 0)) Jr = if Jr (p 4) (10 + 7 * (Jr (p 4) (172 + 5 * i.toNatClampNeg + 0)).toNatClampNeg + 4) = 0 then Int32.ofInt 1 else Int32.ofInt 0 := by
          unfold x182
          rw [sS.2.2.2.2.2.1]
        rw [e182]
        by_cases h3 : Jr (p 4) (10 + 7 * (Jr (p 4) (172 + 5 * i.toNatClampNeg + 0)).toNatClampNeg + 4) = 0
        · rw [if_pos h3, if_pos h3, if_neg (show ¬ Int32.ofInt 1 = 0 from by decide)]
          have hb : d + 1 ≤ (Jr (p 4) (172 + 5 * i.toNatClampNeg + 2)).toInt := by
            have := congrArg Int32.toInt h2
            omega
          have z := zset (Lc := Lc) (Lr := Lr) X hsq ht i0 hR hW hQ h1 h3 hb
          have e4 := z.2.2.2 4 (by omega)
          have g := ih (i + Int32.ofInt 1) _ _ (x4 p q sp ln i Jc Lc).2 (x192 p t (Jr (p 4) (172 + 5 * i.toNatClampNeg + 0)) i Jr Lr).2 (zi_i h1 i0) z.1 z.2.1 (zKp_Q X hsq z.2.2.1 hQ) (by rw [e4]; exact ed) (by rw [e4]; exact h9)
          exact ⟨g.1, g.2.1, zKp_t z.2.2.1 g.2.2.1, by rw [g.2.2.2, e4]⟩
        · rw [if_neg h3, if_neg h3, if_pos (show Int32.ofInt 0 = 0 from rfl)]
          exact ih _ _ _ _ _ (zi_i h1 i0) hR hW hQ ed h9
      · rw [if_neg h2, if_neg h2]
        exact ih _ _ _ _ _ (zi_i h1 i0) hR hW hQ ed h9
/-- a day goes by by a rule -/
theorem zpass {p q : Nat → Nat} {sp ln T : Nat} {t : Int32} {Jc Jr : Nat → Nat → Int32} {Lc Lr : Nat → Nat → Int64} (hsq : ∀ i, i < 17 → sp ≠ q i) (ht : t.toInt = (T : Nat)) (hQ : zRQ p sp ln T Jc Jr) (X : zX p q) (hR : zR q Jc (Jr (p 4))) (hW : zW (Jr (p 4)) (Jr (p 4) 4).toInt) (h9 : (Jr (p 4) 4).toInt ≤ 900) : zR q ((x1 p q sp ln Jc Lc).1) ((x190 p t Jr Lr).1 (p 4)) ∧ zW ((x190 p t Jr Lr).1 (p 4)) ((x190 p t Jr Lr).1 (p 4) 4).toInt ∧ zKp p q sp Jc Jr ((x1 p q sp ln Jc Lc).1) (x190 p t Jr Lr).1 ∧ ((x190 p t Jr Lr).1 (p 4) 4).toInt = (Jr (p 4) 4).toInt + 1 := by
  have h := zhome X.hq hR hW
  have kh : zKp p q sp Jc Jr (zhc q ((Jc (q 1) 1).toNatClampNeg) (Int32.ofInt 0) Jc) (zhr p ((Jr (p 4) 3).toNatClampNeg) (Int32.ofInt 0) Jr) := ⟨fun a _ h2 => zhc_fr h2 _ _ _, fun a _ h2 => zhr_fr h2 _ _ _⟩
  unfold x1 x190
  rw [zhc_1, zhr_1]
  have e3 := zR_n h.1 (i := 3) (by omega)
  rw [e3]
  have g := zsec (d := (Jr (p 4) 4).toInt) hsq ht X ((zhr p ((Jr (p 4) 3).toNatClampNeg) (Int32.ofInt 0) Jr (p 4) 3).toNatClampNeg) (Int32.ofInt 0) _ _ Lc Lr (by decide) h.1 h.2.1 (zKp_Q X hsq kh hQ) (by rw [h.2.2]) (by rw [h.2.2]; exact h9)
  rw [h.2.2] at g
  refine ⟨g.1, ?_, zKp_t kh g.2.2.1, g.2.2.2⟩
  rw [g.2.2.2]
  exact g.2.1
theorem zthirdN {p q : Nat → Nat} {b : Int} {Lr : Nat → Nat → Int64} (X : zX p q) : ∀ (c : Nat) (i : Int32) (Jc Jr : Nat → Nat → Int32), 0 ≤ i.toInt → zR q Jc (Jr (p 4)) → zW (Jr (p 4)) b → (Jr (p 4) 4).toInt ≤ 900 → zR q (x1N_111 p q c i Jc) ((x190_108 p Lr c i Jr).1 (p 4)) ∧ zW ((x190_108 p Lr c i Jr).1 (p 4)) b ∧ zKp p q 0 Jc Jr (x1N_111 p q c i Jc) (x190_108 p Lr c i Jr).1 ∧ ((x190_108 p Lr c i Jr).1 (p 4) 4).toInt = (Jr (p 4) 4).toInt + 1 := by
  intro c
  induction c with
  | zero =>
    intro i Jc Jr i0 hR hW h9
    exact zday X hR hW h9
  | succ c ih =>
    intro i Jc Jr i0 hR hW h9
    rw [x1N_111, x190_108, zR_n hR (by omega)]
    by_cases h1 : Jr (p 4) 1 ≤ i
    · rw [if_pos h1, if_pos h1]
      exact zday X hR hW h9
    · rw [if_neg h1, if_neg h1]
      have lt := z_lt h1
      have s := zS hR hW.w i0 lt
      rw [s.2.2.1, s.2.2.2.2.2.1]
      by_cases h2 : Jr (p 4) (10 + 7 * i.toNatClampNeg + 4) = Int32.ofInt 1
      · rw [if_pos h2, if_pos h2]
        have z := zrot X.hq hR hW ⟨i0, lt⟩ h2
        have k := xw_202 hW.w (xi_l5 hW.w h1 i0)
        have e4 := k.2 4 (by omega)
        have g := ih (i + Int32.ofInt 1) _ _ (zi_i h1 i0) z.1 z.2 (by rw [e4]; exact h9)
        refine ⟨g.1, g.2.1, zKp_t ⟨fun a _ h3 => ?_, fun a _ h3 => ?_⟩ g.2.2.1, by rw [g.2.2.2, e4]⟩
        · exact x9_frJ (h3 10 (by omega)) (h3 12 (by omega)) (h3 13 (by omega)) (h3 15 (by omega)) (h3 16 (by omega))
        · exact x202_frJ h3
      · rw [if_neg h2, if_neg h2]
        exact ih _ _ _ (zi_i h1 i0) hR hW h9
theorem zsecN {p q : Nat → Nat} {d : Int} (X : zX p q) : ∀ (c : Nat) (i : Int32) (Jc Jr : Nat → Nat → Int32) (Lr : Nat → Nat → Int64), 0 ≤ i.toInt → zR q Jc (Jr (p 4)) → zW (Jr (p 4)) (d + 1) → (Jr (p 4) 4).toInt = d → (Jr (p 4) 4).toInt ≤ 900 → zR q (x1N_48 p q c i Jc) ((x190_50 p (Int32.ofInt (-1)) c i Jr Lr).1 (p 4)) ∧ zW ((x190_50 p (Int32.ofInt (-1)) c i Jr Lr).1 (p 4)) (d + 1) ∧ zKp p q 0 Jc Jr (x1N_48 p q c i Jc) (x190_50 p (Int32.ofInt (-1)) c i Jr Lr).1 ∧ ((x190_50 p (Int32.ofInt (-1)) c i Jr Lr).1 (p 4) 4).toInt = (Jr (p 4) 4).toInt + 1 := by
  intro c
  induction c with
  | zero =>
    intro i Jc Jr Lr i0 hR hW ed h9
    rw [x1N_48, x190_50, zR_n hR (by omega)]
    exact (by
        have z := zthirdN (b := d + 1) (Lr := Lr) X ((Jr (p 4) 1).toNatClampNeg) (Int32.ofInt 0) Jc Jr (by decide) hR hW h9
        exact ⟨z.1, z.2.1, zKp_s z.2.2.1, z.2.2.2⟩)
  | succ c ih =>
    intro i Jc Jr Lr i0 hR hW ed h9
    rw [x1N_48, x190_50, zR_n hR (by omega), zR_n hR (by omega)]
    by_cases h1 : Jr (p 4) 3 ≤ i
    · rw [if_pos h1, if_pos h1]
      exact (by
        have z := zthirdN (b := d + 1) (Lr := Lr) X ((Jr (p 4) 1).toNatClampNeg) (Int32.ofInt 0) Jc Jr (by decide) hR hW h9
        exact ⟨z.1, z.2.1, zKp_s z.2.2.1, z.2.2.2⟩)
    · rw [if_neg h1, if_neg h1]
      obtain ⟨vn, vi, d0, d1, d2, d3, d4, s0, s1, s2, s3, s4⟩ := zV hR hW.w i0 h1
      have vo := hW.a.vo _ vn
      have sS := zS hR hW.w vo.1 vo.2.1
      rw [d0, d1, s0, s1, zR_4 hR, sS.2.2.1]
      by_cases h2 : Jr (p 4) (172 + 5 * i.toNatClampNeg + 1) = Jr (p 4) 4
      · rw [if_pos h2, if_pos h2]
        have e182 : x182 p (Jr (p 4) (172 + 5 * i.toNatClampNeg + 0)) Jr = if Jr (p 4) (10 + 7 * (Jr (p 4) (172 + 5 * i.toNatClampNeg + 0)).toNatClampNeg + 4) = 0 then Int32.ofInt 1 else Int32.ofInt 0 := by
          unfold x182
          rw [sS.2.2.2.2.2.1]
        rw [e182]
        by_cases h3 : Jr (p 4) (10 + 7 * (Jr (p 4) (172 + 5 * i.toNatClampNeg + 0)).toNatClampNeg + 4) = 0
        · rw [if_pos h3, if_pos h3, if_neg (show ¬ Int32.ofInt 1 = 0 from by decide)]
          have hb : d + 1 ≤ (Jr (p 4) (172 + 5 * i.toNatClampNeg + 2)).toInt := by
            have := congrArg Int32.toInt h2
            omega
          have z := zsetN (Lr := Lr) X i0 hR hW h1 h3 hb
          have e4 := z.2.2.2 4 (by omega)
          have g := ih (i + Int32.ofInt 1) _ _ (x192 p (Int32.ofInt (-1)) (Jr (p 4) (172 + 5 * i.toNatClampNeg + 0)) i Jr Lr).2 (zi_i h1 i0) z.1 z.2.1 (by rw [e4]; exact ed) (by rw [e4]; exact h9)
          exact ⟨g.1, g.2.1, zKp_t z.2.2.1 g.2.2.1, by rw [g.2.2.2, e4]⟩
        · rw [if_neg h3, if_neg h3, if_pos (show Int32.ofInt 0 = 0 from rfl)]
          exact ih _ _ _ _ (zi_i h1 i0) hR hW ed h9
      · rw [if_neg h2, if_neg h2]
        exact ih _ _ _ _ (zi_i h1 i0) hR hW ed h9
/-- a day goes by by none -/
theorem zpassN {p q : Nat → Nat} {Jc Jr : Nat → Nat → Int32} {Lr : Nat → Nat → Int64} (X : zX p q) (hR : zR q Jc (Jr (p 4))) (hW : zW (Jr (p 4)) (Jr (p 4) 4).toInt) (h9 : (Jr (p 4) 4).toInt ≤ 900) : zR q (x1N p q Jc) ((x190 p (Int32.ofInt (-1)) Jr Lr).1 (p 4)) ∧ zW ((x190 p (Int32.ofInt (-1)) Jr Lr).1 (p 4)) ((x190 p (Int32.ofInt (-1)) Jr Lr).1 (p 4) 4).toInt ∧ zKp p q 0 Jc Jr (x1N p q Jc) (x190 p (Int32.ofInt (-1)) Jr Lr).1 ∧ ((x190 p (Int32.ofInt (-1)) Jr Lr).1 (p 4) 4).toInt = (Jr (p 4) 4).toInt + 1 := by
  have h := zhome X.hq hR hW
  have kh : zKp p q 0 Jc Jr (zhc q ((Jc (q 1) 1).toNatClampNeg) (Int32.ofInt 0) Jc) (zhr p ((Jr (p 4) 3).toNatClampNeg) (Int32.ofInt 0) Jr) := ⟨fun a _ h2 => zhc_fr h2 _ _ _, fun a _ h2 => zhr_fr h2 _ _ _⟩
  unfold x1N x190
  rw [zhc_N, zhr_1]
  have e3 := zR_n h.1 (i := 3) (by omega)
  rw [e3]
  have g := zsecN (d := (Jr (p 4) 4).toInt) X ((zhr p ((Jr (p 4) 3).toNatClampNeg) (Int32.ofInt 0) Jr (p 4) 3).toNatClampNeg) (Int32.ofInt 0) _ _ Lr (by decide) h.1 h.2.1 (by rw [h.2.2]) (by rw [h.2.2]; exact h9)
  rw [h.2.2] at g
  refine ⟨g.1, ?_, zKp_t kh g.2.2.1, g.2.2.2⟩
  rw [g.2.2.2]
  exact g.2.1
