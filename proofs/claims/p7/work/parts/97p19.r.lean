/-! plank, voyage, move, count, seed: both sides -/
theorem z_lgl {x y : Int64} : lg_cmp x y < 0 ↔ x.toInt < y.toInt := by
  unfold lg_cmp
  by_cases h : x > y
  · rw [if_pos h]
    have h : y.toInt < x.toInt := Int64.lt_iff_toInt_lt.mp h
    exact ⟨fun c => absurd c (by decide), fun c => by omega⟩
  · rw [if_neg h]
    have h : ¬ y.toInt < x.toInt := fun c => h (Int64.lt_iff_toInt_lt.mpr c)
    by_cases e : x = y
    · rw [if_pos e, e]
      exact ⟨fun c => absurd c (by decide), fun c => by omega⟩
    · rw [if_neg e]
      have : x.toInt ≠ y.toInt := fun c => e (Int64.toInt_inj.mp c)
      exact ⟨fun _ => by omega, fun _ => by decide⟩
theorem z_lgg {x y : Int64} : 0 < lg_cmp x y ↔ y.toInt < x.toInt := by
  unfold lg_cmp
  by_cases h : x > y
  · rw [if_pos h]
    exact ⟨fun _ => Int64.lt_iff_toInt_lt.mp h, fun _ => by decide⟩
  · rw [if_neg h]
    have h : ¬ y.toInt < x.toInt := fun c => h (Int64.lt_iff_toInt_lt.mpr c)
    split
    · exact ⟨fun c => absurd c (by decide), fun c => absurd c h⟩
    · exact ⟨fun c => absurd c (by decide), fun c => absurd c h⟩
theorem z_145 {v : Int32} {a b : Int64} : x145 v.toInt64 a b = if v.toInt < a.toInt ∨ b.toInt < v.toInt then Int32.ofInt 0 else Int32.ofInt 1 := by
  unfold x145
  have e : v.toInt64.toInt = v.toInt := Int32.toInt_toInt64 v
  by_cases h1 : v.toInt < a.toInt
  · rw [if_pos (z_lgl.mpr (by rw [e]; exact h1)), if_pos (Or.inl h1)]
  · rw [if_neg (fun c => h1 (by rw [← e]; exact z_lgl.mp c))]
    by_cases h2 : b.toInt < v.toInt
    · rw [if_pos (z_lgg.mpr (by rw [e]; exact h2)), if_pos (Or.inr h2)]
    · rw [if_neg (fun c => h2 (by rw [← e]; exact z_lgg.mp c)), if_neg (fun c => by rcases c with c | c; exact h1 c; exact h2 c)]
theorem z_cs5 {v : Int32} (h : ¬ (v.toInt < 0 ∨ 4 < v.toInt)) : v = Int32.ofInt 0 ∨ v = Int32.ofInt 1 ∨ v = Int32.ofInt 2 ∨ v = Int32.ofInt 3 ∨ v = Int32.ofInt 4 := by
  have k : ∀ n : Nat, n < 1000 → v.toInt = n → v = Int32.ofInt (n : Int) := fun n hn e => (zi_n hn).mpr e
  rcases (by omega : v.toInt = 0 ∨ v.toInt = 1 ∨ v.toInt = 2 ∨ v.toInt = 3 ∨ v.toInt = 4) with e | e | e | e | e
  · exact Or.inl (k 0 (by omega) e)
  · exact Or.inr (Or.inl (k 1 (by omega) e))
  · exact Or.inr (Or.inr (Or.inl (k 2 (by omega) e)))
  · exact Or.inr (Or.inr (Or.inr (Or.inl (k 3 (by omega) e))))
  · exact Or.inr (Or.inr (Or.inr (Or.inr (k 4 (by omega) e))))
theorem zq_107 {p : Nat → Nat} {Jc Jr : Nat → Nat → Int32} {v1 v2 : Int32} {b : Int} (hR : zR (fun i => p (31 + i)) Jc (Jr (p 4))) (hW : zW (Jr (p 4)) b) : x107 p v1 v2 Jc = x176 p v1 v2 Jr := by
  unfold x107 x176 x70 x177
  rw [show Jc ((fun i => p (31 + i)) 1) 2 = Jr (p 4) 2 from zR_n hR (by omega), z_145]
  by_cases h0 : v1 < 0
  · rw [if_pos h0, if_pos (show Int32.ofInt 0 = 0 from rfl), if_pos (show Int32.ofInt 0 = 0 from rfl)]
  · rw [if_neg h0]
    by_cases h1 : Jr (p 4) 2 ≤ v1
    · rw [if_pos h1, if_pos (show Int32.ofInt 0 = 0 from rfl), if_pos (show Int32.ofInt 0 = 0 from rfl)]
    · rw [if_neg h1, if_neg (show ¬ Int32.ofInt 1 = 0 from by decide), if_neg (show ¬ Int32.ofInt 1 = 0 from by decide)]
      have n0 : 0 ≤ v1.toInt := by
        have : ¬ v1.toInt < 0 := fun c => h0 (z_le0.mpr c)
        omega
      obtain ⟨hn, hi, c0, c1, c2, c3, c4, r0, r1, r2, r3, r4⟩ := zP hR hW.w n0 h1
      rw [show (Int64.ofNat 0).toInt = 0 from by decide, show (4 : Int64).toInt = 4 from by decide]
      by_cases h2 : v2.toInt < 0 ∨ 4 < v2.toInt
      · rw [if_pos h2, if_pos h2, if_pos (show Int32.ofInt 0 = 0 from rfl)]
      · rw [if_neg h2, if_neg h2, if_neg (show ¬ Int32.ofInt 1 = 0 from by decide)]
        rcases z_cs5 h2 with rfl | rfl | rfl | rfl | rfl
        · rw [if_pos rfl, r0]
          exact c0
        · rw [if_neg (by decide), if_pos rfl, r1]
          exact c1
        · rw [if_neg (by decide), if_neg (by decide), if_pos rfl, r2]
          exact c2
        · rw [if_neg (by decide), if_neg (by decide), if_neg (by decide), if_pos rfl, r3]
          exact c3
        · rw [if_neg (by decide), if_neg (by decide), if_neg (by decide), if_neg (by decide), r4, show Jc (p 46) v1.toNatClampNeg = Jr (p 4) (52 + 5 * v1.toNatClampNeg + 4) from c4, hW.b.lo _ hn]
          split <;> rfl
theorem zq_108 {p : Nat → Nat} {Jc Jr : Nat → Nat → Int32} {v1 v2 : Int32} {b : Int} (hR : zR (fun i => p (31 + i)) Jc (Jr (p 4))) (hW : zW (Jr (p 4)) b) : x108 p v1 v2 Jc = x178 p v1 v2 Jr := by
  unfold x108 x178 x71 x179
  rw [show Jc ((fun i => p (31 + i)) 1) 3 = Jr (p 4) 3 from zR_n hR (by omega), z_145]
  by_cases h0 : v1 < 0
  · rw [if_pos h0, if_pos (show Int32.ofInt 0 = 0 from rfl), if_pos (show Int32.ofInt 0 = 0 from rfl)]
  · rw [if_neg h0]
    by_cases h1 : Jr (p 4) 3 ≤ v1
    · rw [if_pos h1, if_pos (show Int32.ofInt 0 = 0 from rfl), if_pos (show Int32.ofInt 0 = 0 from rfl)]
    · rw [if_neg h1, if_neg (show ¬ Int32.ofInt 1 = 0 from by decide), if_neg (show ¬ Int32.ofInt 1 = 0 from by decide)]
      have n0 : 0 ≤ v1.toInt := by
        have : ¬ v1.toInt < 0 := fun c => h0 (z_le0.mpr c)
        omega
      obtain ⟨hn, hi, c0, c1, c2, c3, c4, r0, r1, r2, r3, r4⟩ := zV hR hW.w n0 h1
      rw [show (Int64.ofNat 0).toInt = 0 from by decide, show (4 : Int64).toInt = 4 from by decide]
      by_cases h2 : v2.toInt < 0 ∨ 4 < v2.toInt
      · rw [if_pos h2, if_pos h2, if_pos (show Int32.ofInt 0 = 0 from rfl)]
      · rw [if_neg h2, if_neg h2, if_neg (show ¬ Int32.ofInt 1 = 0 from by decide)]
        rcases z_cs5 h2 with rfl | rfl | rfl | rfl | rfl
        · rw [if_pos rfl, r0]
          exact c0
        · rw [if_neg (by decide), if_pos rfl, r1]
          exact c1
        · rw [if_neg (by decide), if_neg (by decide), if_pos rfl, r2]
          exact c2
        · rw [if_neg (by decide), if_neg (by decide), if_neg (by decide), if_pos rfl, r3]
          exact c3
        · rw [if_neg (by decide), if_neg (by decide), if_neg (by decide), if_neg (by decide), r4]
          exact c4
theorem zq_233 {p : Nat → Nat} {J : Nat → Nat → Int32} : ∀ (c : Nat) (a i : Int32), x233_108 p J c a i = x170_4 p (Int32.ofInt (-1)) J c a i := by
  intro c
  induction c with
  | zero => intro a i; rfl
  | succ c ih =>
    intro a i
    rw [x233_108, x170_4, ih, ih]
/-- hands left -/
theorem zq_72 {q p : Nat → Nat} {Jc Jr : Nat → Nat → Int32} (hR : zR q Jc (Jr (p 4))) (hz : Jr (p 4) 0 = 0 → Jr (p 4) 5 = Jr (p 4) 6) : x72 q Jc = Jr (p 4) 5 - Jr (p 4) 6 := by
  unfold x72
  rw [hR.2]
  by_cases h : Jr (p 4) 0 = 0
  · rw [if_pos h, if_pos rfl, hz h]
    grind
  · rw [if_neg h, if_neg (by decide), zR_5 hR, zR_6 hR]
theorem zq_126 {p : Nat → Nat} {Jc Jr : Nat → Nat → Int32} {v1 : Int32} {b : Int} (hR : zR (fun i => p (31 + i)) Jc (Jr (p 4))) (hW : zW (Jr (p 4)) b) (hz : Jr (p 4) 0 = 0 → Jr (p 4) 5 = Jr (p 4) 6) (h4 : Jc (p 16) 4 = Jr (p 0) 2) (h1 : Jc (p 17) 1 = Jr (p 0) 1) (h9 : Jc (p 31) 6 = Jr (p 4) 9) : x126 p v1 Jc = x233 p v1 Jr := by
  unfold x126 x233
  have e66 : x66 (fun i => p (31 + i)) (Int32.ofInt (-1)) Jc = x170 p (Int32.ofInt (-1)) Jr := zq_66 hR hW.w (zl_of hW (fun c => by rw [xi_m1] at c; omega))
  have n : ∀ i, i < 4 → Jc (p 32) i = Jr (p 4) i := fun i hi => zR_n hR hi
  rw [n 0 (by omega), n 1 (by omega), n 2 (by omega), n 3 (by omega), h4, h1, zq_72 hR hz, e66, show Jc (p 31) 2 = Jr (p 4) 4 from zR_4 hR, show Jc (p 31) 5 = Jr (p 4) 7 from zR_7 hR, show Jc (p 31) 4 = Jr (p 4) 8 from zR_8 hR, h9, zq_233]
  by_cases h : v1.toInt < 0 ∨ 11 < v1.toInt
  · rw [if_pos h, if_pos h]
  · rw [if_neg h, if_neg h]
    by_cases c0 : v1 = Int32.ofInt 0
    · subst c0
      rfl
    · rw [if_neg c0, if_neg c0]
      by_cases c1 : v1 = Int32.ofInt 1
      · subst c1
        rfl
      · rw [if_neg c1, if_neg c1]
        by_cases c2 : v1 = Int32.ofInt 2
        · subst c2
          rfl
        · rw [if_neg c2, if_neg c2]
          by_cases c3 : v1 = Int32.ofInt 3
          · subst c3
            rfl
          · rw [if_neg c3, if_neg c3]
            rfl
/-- seed -/
theorem zq_124 {p : Nat → Nat} {Jc Jr : Nat → Nat → Int32} {v1 : Int32} {b : Int} (X : zX p (fun i => p (31 + i))) (hR : zR (fun i => p (31 + i)) Jc (Jr (p 4))) (hW : zW (Jr (p 4)) b) (h9 : Jc (p 31) 6 = Jr (p 4) 9) : (x124 p v1 Jc).1 = (x230 p v1 Jr).1 ∧ zR (fun i => p (31 + i)) (x124 p v1 Jc).2 ((x230 p v1 Jr).2 (p 4)) ∧ zW ((x230 p v1 Jr).2 (p 4)) b ∧ ∀ i, i < 9 → (x230 p v1 Jr).2 (p 4) i = Jr (p 4) i := by
  unfold x124 x230
  by_cases h : 0 ≤ v1
  · rw [if_pos h, if_pos h]
    refine ⟨h9, ?_, ?_, fun i hi => me_uk (by omega)⟩
    · show zR _ (nt_u Jc (p 31) 6 v1) (nt_u Jr (p 4) 9 v1 (p 4))
      rw [zu_r]
      exact zR_up X.hq hR (by omega) (by omega) rfl
    · show zW (nt_u Jr (p 4) 9 v1 (p 4)) b
      have fo : ∀ j, j ≠ 9 → nt_u Jr (p 4) 9 v1 (p 4) j = Jr (p 4) j := fun j hj => me_uk hj
      exact ⟨xr_up hW.w (xr_any rfl), zA_ag hW.a hW.w (fun i hi _ => fo i (by omega)) (fun s hs k hk => fo _ (by omega)) (fun p hp => ⟨fo _ (by omega), fo _ (by omega)⟩) (fun u hu k hk => fo _ (by omega)), zB_ag hW.b hW.w (fo 1 (by omega)) (fo 2 (by omega)) (fun s hs => fo _ (by omega)) (fun p hp => ⟨fo _ (by omega), fo _ (by omega)⟩), zC_ag hW.c hW.w (fo 1 (by omega)) (fo 3 (by omega)) (fun s hs => ⟨fo _ (by omega), fo _ (by omega)⟩) (fun v hv => ⟨fo _ (by omega), fo _ (by omega), fo _ (by omega)⟩), zD_ag hW.d hW.w (fo 2 (by omega)) (fo 4 (by omega)) (fo 5 (by omega)) (fo 6 (by omega)) (fun p hp => fo _ (by omega))⟩
  · rw [if_neg h, if_neg h]
    exact ⟨rfl, hR, hW, fun _ _ => rfl⟩
/-- move -/
theorem zq_109 {p : Nat → Nat} {Jc Jr : Nat → Nat → Int32} {v1 v2 : Int32} {b : Int} (X : zX p (fun i => p (31 + i))) (hR : zR (fun i => p (31 + i)) Jc (Jr (p 4))) (hW : zW (Jr (p 4)) b) : (x109 p v1 v2 Jc).1 = (x181 p v1 v2 Jr).1 ∧ zR (fun i => p (31 + i)) (x109 p v1 v2 Jc).2 ((x181 p v1 v2 Jr).2 (p 4)) ∧ zW ((x181 p v1 v2 Jr).2 (p 4)) b ∧ ∀ i, i < 6 → (x181 p v1 v2 Jr).2 (p 4) i = Jr (p 4) i := by
  have no : ∀ (a : Int32 × (Nat → Nat → Int32)) (r : Int32 × (Nat → Nat → Int32)), a = (Int32.ofInt 0, Jc) → r = (Int32.ofInt 0, Jr) → a.1 = r.1 ∧ zR (fun i => p (31 + i)) a.2 (r.2 (p 4)) ∧ zW (r.2 (p 4)) b ∧ ∀ i, i < 6 → r.2 (p 4) i = Jr (p 4) i := by
    intro a r ea er
    subst ea
    subst er
    exact ⟨rfl, hR, hW, fun _ _ => rfl⟩
  have o0 : Int32.ofInt 0 = 0 := rfl
  have o1 : ¬ Int32.ofInt 1 = 0 := by decide
  have e70 : x70 (fun i => p (31 + i)) v1 Jc = x177 p v1 Jr := by
    unfold x70 x177
    rw [show Jc ((fun i => p (31 + i)) 1) 2 = Jr (p 4) 2 from zR_n hR (by omega)]
  have e65 : x65 (fun i => p (31 + i)) v2 Jc = x168 p v2 Jr := by
    unfold x65 x168
    rw [show Jc ((fun i => p (31 + i)) 1) 1 = Jr (p 4) 1 from zR_n hR (by omega)]
  by_cases hP : x177 p v1 Jr = 0
  · refine no _ _ ?_ ?_
    · unfold x109
      rw [e70, if_pos hP]
    · unfold x181
      rw [if_pos hP]
  have h0 : 0 ≤ v1.toInt ∧ ¬ Jr (p 4) 2 ≤ v1 := by
    unfold x177 at hP
    by_cases c : v1 < 0
    · rw [if_pos c] at hP
      exact absurd rfl hP
    · rw [if_neg c] at hP
      by_cases d : Jr (p 4) 2 ≤ v1
      · rw [if_pos d] at hP
        exact absurd rfl hP
      · have : ¬ v1.toInt < 0 := fun z => c (z_le0.mpr z)
        exact ⟨by omega, d⟩
  obtain ⟨hn, hi, c0, c1, c2, c3, c4, r0, r1, r2, r3, r4⟩ := zP hR hW.w h0.1 h0.2
  have bb := zn_b hW.w
  have hd := hW.a.hd
  have h6 := hW.d.h6
  have n0 : ¬ Jr (p 4) 0 = 0 := by
    have kn := hW.a.kn _ hn
    intro c
    rw [c, show (0 : Int32).toInt = 0 from by decide] at kn
    omega
  have e72 : x72 (fun i => p (31 + i)) Jc = Jr (p 4) 5 - Jr (p 4) 6 := zq_72 hR (fun c => absurd c n0)
  have e72i : (Jr (p 4) 5 - Jr (p 4) 6).toInt = (Jr (p 4) 5).toInt - (Jr (p 4) 6).toInt := by
    rw [Int32.toInt_sub, Int.bmod_eq_of_le (by omega) (by omega)]
  have e73 : x73 (fun i => p (31 + i)) v1 Jc = x183 p v1 Jr := zq_73 hR hW h0.1 h0.2
  have c3 : Jc (p 45) v1.toNatClampNeg = Jr (p 4) (52 + 5 * v1.toNatClampNeg + 3) := c3
  by_cases hH : Jr (p 4) 5 - Jr (p 4) 6 ≤ 0
  · have h184 : x184 p Jr = 0 := by
      unfold x184
      have := z_ge.mp hH
      rw [e72i, show (0 : Int32).toInt = 0 from by decide] at this
      rw [if_pos (z_ge.mpr (by omega))]
      rfl
    refine no _ _ ?_ ?_
    · unfold x109
      rw [e70, if_neg hP, e72]
      simp only [if_pos hH, ite_self]
    · unfold x181
      rw [if_neg hP]
      simp only [if_pos h184, ite_self]
  have hlt : (Jr (p 4) 6).toInt < (Jr (p 4) 5).toInt := by
    have : ¬ (Jr (p 4) 5 - Jr (p 4) 6).toInt ≤ 0 := fun z => hH (z_ge.mpr z)
    omega
  have h184 : ¬ x184 p Jr = 0 := by
    unfold x184
    rw [if_neg (fun z => by have := z_ge.mp z; omega)]
    decide
  by_cases hF : x183 p v1 Jr = 0
  · refine no _ _ ?_ ?_
    · unfold x109
      rw [e70, if_neg hP, e72, e73]
      simp only [if_pos hF, ite_self]
    · unfold x181
      rw [if_neg hP]
      simp only [if_pos hF, ite_self]
  by_cases hI : Jr (p 4) (52 + 5 * v1.toNatClampNeg + 3) = v2
  · refine no _ _ ?_ ?_
    · unfold x109
      rw [e70, if_neg hP, e72, c3]
      simp only [if_pos hI, ite_self]
    · unfold x181
      rw [if_neg hP, r3]
      simp only [if_pos hI, ite_self]
  have lost : Jr (p 4) (52 + 5 * v1.toNatClampNeg + 4) = 0 := by
    unfold x183 x172 at hF
    rw [r1, r4] at hF
    by_cases e : Jr (p 4) (52 + 5 * v1.toNatClampNeg + 1) ≤ 0
    · rw [if_pos e, if_pos o0] at hF
      exact absurd rfl hF
    · rw [if_neg e] at hF
      by_cases g : Jr (p 4) (52 + 5 * v1.toNatClampNeg + 4) = 0
      · exact g
      · rw [if_neg g, if_pos o0] at hF
        exact absurd rfl hF
  have yes : (-1 ≤ v2.toInt ∧ v2.toInt < (Jr (p 4) 1).toInt) → (0 ≤ v2.toInt → Jr (p 4) (10 + 7 * v2.toNatClampNeg + 4) ≠ 2) → ∀ (a : Int32 × (Nat → Nat → Int32)) (r : Int32 × (Nat → Nat → Int32)), a = (Int32.ofInt 1, x74 (fun i => p (31 + i)) v1 v2 Jc) → r = (Int32.ofInt 1, x185 p v1 v2 Jr) → a.1 = r.1 ∧ zR (fun i => p (31 + i)) a.2 (r.2 (p 4)) ∧ zW (r.2 (p 4)) b ∧ ∀ i, i < 6 → r.2 (p 4) i = Jr (p 4) i := by
    intro hs hsl a r ea er
    subst ea
    subst er
    have z := zput X.hq hR hW h0.1 h0.2 hs hsl lost hlt
    exact ⟨rfl, z.1, z.2, (xw_185 (xk_r hW.w) ⟨h0.1, by omega⟩ ⟨hs.1, by omega⟩).1.2⟩
  by_cases hA : v2 = Int32.ofInt (-1)
  · refine yes ?_ ?_ _ _ ?_ ?_
    · rw [hA, xi_m1]
      omega
    · intro c
      rw [hA, xi_m1] at c
      omega
    · unfold x109
      rw [e70, if_neg hP, if_pos hA, e72, if_neg hH, c3, if_neg hI, e73, if_neg hF, if_pos hA]
    · unfold x181
      rw [if_neg hP, if_pos hA, if_neg hF, r3, if_neg hI, if_neg h184]
  · by_cases hS : x168 p v2 Jr = 0
    · refine no _ _ ?_ ?_
      · unfold x109
        rw [e70, if_neg hP, if_neg hA, e65, if_pos hS]
      · unfold x181
        rw [if_neg hP, if_neg hA, if_pos hS]
    · have hs : 0 ≤ v2.toInt ∧ v2.toInt < (Jr (p 4) 1).toInt := by
        unfold x168 at hS
        by_cases c : v2 < 0
        · rw [if_pos c] at hS
          exact absurd rfl hS
        · rw [if_neg c] at hS
          by_cases d : Jr (p 4) 1 ≤ v2
          · rw [if_pos d] at hS
            exact absurd rfl hS
          · have : ¬ v2.toInt < 0 := fun z => c (z_le0.mpr z)
            exact ⟨by omega, z_lt d⟩
      have sS := zS hR hW.w hs.1 hs.2
      have e41 : Jc (p 41) v2.toNatClampNeg = Jr (p 4) (10 + 7 * v2.toNatClampNeg + 4) := sS.2.2.1
      have e182 : x182 p v2 Jr = if Jr (p 4) (10 + 7 * v2.toNatClampNeg + 4) = 0 then Int32.ofInt 1 else Int32.ofInt 0 := by
        unfold x182
        rw [sS.2.2.2.2.2.1]
      by_cases hT : Jr (p 4) (10 + 7 * v2.toNatClampNeg + 4) = 0
      · refine yes ⟨by omega, hs.2⟩ (fun _ c => by rw [hT] at c; exact absurd c (by decide)) _ _ ?_ ?_
        · unfold x109
          rw [e70, if_neg hP, if_neg hA, e65, if_neg hS, e72, if_neg hH, c3, if_neg hI, e73, if_neg hF, if_neg hA, e41, if_pos hT]
        · unfold x181
          rw [if_neg hP, if_neg hA, if_neg hS, e182, if_pos hT, if_neg o1, if_neg hF, r3, if_neg hI, if_neg h184]
      · refine no _ _ ?_ ?_
        · unfold x109
          rw [e70, if_neg hP, if_neg hA, e65, if_neg hS, e72, if_neg hH, c3, if_neg hI, e73, if_neg hF, if_neg hA, e41, if_neg hT]
        · unfold x181
          rw [if_neg hP, if_neg hA, if_neg hS, e182, if_neg hT, if_pos o0]
