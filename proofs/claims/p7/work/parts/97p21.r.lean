/-! whose ship is whose: both sides -/
theorem zq_75l {q p : Nat → Nat} {Jc Jr : Nat → Nat → Int32} {s o : Int32} (hR : zR q Jc (Jr (p 4))) (hW : xr_W (Jr (p 4))) (hl : zl (Jr (p 4)) s) : ∀ (c : Nat) (a i : Int32), 0 ≤ i.toInt → x75_5 q s o Jc c a i = x220_5 p s o Jr c a i := by
  intro c
  induction c with
  | zero => intro a i h; rfl
  | succ c ih =>
    intro a i h
    rw [x75_5, x220_5, zR_n hR (by omega)]
    by_cases h1 : Jr (p 4) 2 ≤ i
    · rw [if_pos h1, if_pos h1]
    · rw [if_neg h1, if_neg h1]
      obtain ⟨hn, hi, c0, c1, c2, c3, c4, r0, r1, r2, r3, r4⟩ := zP hR hW h h1
      rw [z_in r1 r3 r4 (hl _ hn), c1, c2, c3, r2]
      by_cases h3 : Jr (p 4) (52 + 5 * i.toNatClampNeg + 3) = s
      · rw [if_pos h3, if_pos h3]
        by_cases h2 : Jr (p 4) (52 + 5 * i.toNatClampNeg + 1) ≤ 0
        · rw [if_pos h2, if_pos h2, if_pos rfl, z_add0]
          exact ih _ _ (zi_i h1 h)
        · rw [if_neg h2, if_neg h2, if_neg (show ¬ (1 : Int32) = 0 from by decide)]
          by_cases h4 : Jr (p 4) (52 + 5 * i.toNatClampNeg + 2) = o
          · rw [if_pos h4, if_pos h4]
            exact ih _ _ (zi_i h1 h)
          · rw [if_neg h4, if_neg h4, z_add0]
            exact ih _ _ (zi_i h1 h)
      · rw [if_neg h3, if_neg h3, if_pos rfl, z_add0]
        exact ih _ _ (zi_i h1 h)
theorem zq_75 {q p : Nat → Nat} {Jc Jr : Nat → Nat → Int32} {s o : Int32} (hR : zR q Jc (Jr (p 4))) (hW : xr_W (Jr (p 4))) (hl : zl (Jr (p 4)) s) : x75 q s o Jc = x220 p s o Jr := by
  unfold x75 x220
  rw [zR_n hR (by omega)]
  exact zq_75l hR hW hl _ _ _ (by decide)
theorem zq_77l {q p : Nat → Nat} {Jc Jr : Nat → Nat → Int32} {s : Int32} (hR : zR q Jc (Jr (p 4))) (hW : xr_W (Jr (p 4))) (hl : zl (Jr (p 4)) s) : ∀ (c : Nat) (a m i : Int32), x77_7 q s Jc c a m i = x219_7 p s Jr c a m i := by
  intro c
  induction c with
  | zero => intro a m i; rfl
  | succ c ih =>
    intro a m i
    rw [x77_7, x219_7, zR_n hR (by omega), zq_75 hR hW hl]
    by_cases h1 : Jr (p 4) 1 ≤ i
    · rw [if_pos h1, if_pos h1]
    · rw [if_neg h1, if_neg h1]
      by_cases h2 : x220 p s i Jr ≤ m
      · simp only [if_pos h2]
        exact ih _ _ _
      · simp only [if_neg h2]
        exact ih _ _ _
theorem zq_78l {q p : Nat → Nat} {Jc Jr : Nat → Nat → Int32} {s : Int32} (hR : zR q Jc (Jr (p 4))) (hW : xr_W (Jr (p 4))) (hl : zl (Jr (p 4)) s) : ∀ (c : Nat) (i : Int32), 0 ≤ i.toInt → x78_2 q s Jc c i = x218_20 p s Jr c i := by
  intro c
  induction c with
  | zero => intro i h; rfl
  | succ c ih =>
    intro i h
    rw [x78_2, x218_20, zR_n hR (by omega)]
    by_cases h1 : Jr (p 4) 2 ≤ i
    · rw [if_pos h1, if_pos h1]
    · rw [if_neg h1, if_neg h1]
      obtain ⟨hn, hi, c0, c1, c2, c3, c4, r0, r1, r2, r3, r4⟩ := zP hR hW h h1
      rw [z_in r1 r3 r4 (hl _ hn), c0, c1, c2, c3, r0, r2, ih _ (zi_i h1 h)]
      by_cases h3 : Jr (p 4) (52 + 5 * i.toNatClampNeg + 3) = s
      · rw [if_pos h3, if_pos h3]
        by_cases h2 : Jr (p 4) (52 + 5 * i.toNatClampNeg + 1) ≤ 0
        · rw [if_pos h2, if_pos h2, if_pos rfl]
        · rw [if_neg h2, if_neg h2, if_neg (show ¬ (1 : Int32) = 0 from by decide)]
      · rw [if_neg h3, if_neg h3, if_pos rfl]
/-- nothing is in a lost ship -/
theorem zlo_in {p : Nat → Nat} {J : Nat → Nat → Int32} {s i : Int32} {b : Int} (hW : zW (J (p 4)) b) (hs : 0 ≤ s.toInt) (h2 : J (p 4) (10 + 7 * s.toNatClampNeg + 4) = 2) (h : 0 ≤ i.toInt) (h1 : ¬ J (p 4) 2 ≤ i) : x171 p i s J = 0 := by
  have bb := zn_b hW.w
  have x := zx bb.2.2.2.2.2.2.1 h h1
  have r1 : x173 p i (Int32.ofInt 1) J = _ := zx_p (k := 1) h (by omega) (by omega)
  have r3 : x173 p i (Int32.ofInt 3) J = _ := zx_p (k := 3) h (by omega) (by omega)
  have r4 : x173 p i (Int32.ofInt 4) J = _ := zx_p (k := 4) h (by omega) (by omega)
  have lo := hW.b.lo _ x.1
  unfold x171 x172
  rw [r1, r3, r4]
  by_cases c3 : J (p 4) (52 + 5 * i.toNatClampNeg + 3) = s
  · rw [c3, if_pos ⟨hs, h2⟩] at lo
    rw [lo, if_neg (show ¬ (1 : Int32) = 0 from by decide), ite_self]
    rfl
  · rw [if_neg c3, ite_self]
    rfl
theorem zlo_220 {p : Nat → Nat} {J : Nat → Nat → Int32} {s o : Int32} {b : Int} (hW : zW (J (p 4)) b) (hs : 0 ≤ s.toInt) (h2 : J (p 4) (10 + 7 * s.toNatClampNeg + 4) = 2) : ∀ (c : Nat) (a i : Int32), 0 ≤ i.toInt → x220_5 p s o J c a i = a := by
  intro c
  induction c with
  | zero => intro a i h; rfl
  | succ c ih =>
    intro a i h
    rw [x220_5]
    by_cases h1 : J (p 4) 2 ≤ i
    · rw [if_pos h1]
    · rw [if_neg h1, if_pos (zlo_in hW hs h2 h h1), z_add0]
      exact ih _ _ (zi_i h1 h)
theorem zlo_219 {p : Nat → Nat} {J : Nat → Nat → Int32} {s : Int32} {b : Int} (hW : zW (J (p 4)) b) (hs : 0 ≤ s.toInt) (h2 : J (p 4) (10 + 7 * s.toNatClampNeg + 4) = 2) : ∀ (c : Nat) (a i : Int32), x219_7 p s J c a (Int32.ofInt 0) i = a := by
  intro c
  induction c with
  | zero => intro a i; rfl
  | succ c ih =>
    intro a i
    have e : x220 p s i J = Int32.ofInt 0 := zlo_220 hW hs h2 _ _ _ (by decide)
    rw [x219_7, e]
    split
    · rfl
    · simp only [if_pos (show Int32.ofInt 0 ≤ Int32.ofInt 0 from by decide)]
      exact ih _ _
theorem zlo_218 {p : Nat → Nat} {J : Nat → Nat → Int32} {s : Int32} {b : Int} (hW : zW (J (p 4)) b) (hs : 0 ≤ s.toInt) (h2 : J (p 4) (10 + 7 * s.toNatClampNeg + 4) = 2) : ∀ (c : Nat) (i : Int32), 0 ≤ i.toInt → x218_20 p s J c i = Int32.ofInt (-1) := by
  intro c
  induction c with
  | zero => intro i h; rfl
  | succ c ih =>
    intro i h
    rw [x218_20]
    by_cases h1 : J (p 4) 2 ≤ i
    · rw [if_pos h1]
    · rw [if_neg h1, if_pos (zlo_in hW hs h2 h h1)]
      exact ih _ (zi_i h1 h)
theorem zq_76 {q p : Nat → Nat} {Jc Jr : Nat → Nat → Int32} {l s : Int32} {b : Int} (hR : zR q Jc (Jr (p 4))) (hW : zW (Jr (p 4)) b) (hs : 0 ≤ s.toInt ∧ s.toInt < (Jr (p 4) 1).toInt) : x76 q l s Jc = x218 p l s Jr := by
  have sS := zS hR hW.w hs.1 hs.2
  unfold x76 x218
  rw [sS.2.2.1]
  by_cases h2 : l = Int32.ofInt 2
  · rw [if_pos h2, if_pos h2]
  · rw [if_neg h2, if_neg h2]
    by_cases h3 : Jr (p 4) (10 + 7 * s.toNatClampNeg + 4) = Int32.ofInt 2
    · rw [if_pos h3]
      have e1 : x219 p s Jr = Int32.ofInt (-1) := zlo_219 hW hs.1 h3 _ _ _
      rw [e1, zlo_218 hW hs.1 h3 _ _ (by decide), ite_self]
    · rw [if_neg h3]
      have hl : zl (Jr (p 4)) s := zl_of hW (fun _ c => h3 c)
      have e1 : x77 q s Jc = x219 p s Jr := by
        unfold x77 x219
        rw [zR_n hR (by omega)]
        exact zq_77l hR hW.w hl _ _ _ _
      have e2 : x78 q s Jc = x218_20 p s Jr ((Jr (p 4) 2).toNatClampNeg) (Int32.ofInt 0) := by
        unfold x78
        rw [zR_n hR (by omega)]
        exact zq_78l hR hW.w hl _ _ (by decide)
      rw [e1, e2]
theorem zq_119 {p : Nat → Nat} {Jc Jr : Nat → Nat → Int32} {v1 v2 : Int32} {b : Int} (hR : zR (fun i => p (31 + i)) Jc (Jr (p 4))) (hW : zW (Jr (p 4)) b) : x119 p v1 v2 Jc = x217 p v1 v2 Jr := by
  have e65 : x65 (fun i => p (31 + i)) v2 Jc = x168 p v2 Jr := by
    unfold x65 x168
    rw [show Jc ((fun i => p (31 + i)) 1) 1 = Jr (p 4) 1 from zR_n hR (by omega)]
  have o0 : Int32.ofInt 0 = 0 := rfl
  have o1 : ¬ Int32.ofInt 1 = 0 := by decide
  unfold x119 x217
  rw [z_145, e65, show (Int64.ofNat 0).toInt = 0 from by decide, show (2 : Int64).toInt = 2 from by decide]
  by_cases h0 : v1 < 0
  · rw [if_pos h0, if_pos (Or.inl (z_le0.mp h0)), if_pos o0]
  · rw [if_neg h0]
    have n0 : ¬ v1.toInt < 0 := fun c => h0 (z_le0.mpr c)
    by_cases h1 : Int32.ofInt 2 < v1
    · have h1' := Int32.lt_iff_toInt_lt.mp h1
      rw [show (Int32.ofInt 2).toInt = 2 from by decide] at h1'
      rw [if_pos h1, if_pos (Or.inr h1'), if_pos o0]
    · have h1' : ¬ 2 < v1.toInt := fun c => h1 (Int32.lt_iff_toInt_lt.mpr (by rw [show (Int32.ofInt 2).toInt = 2 from by decide]; exact c))
      have nn : ¬ (v1.toInt < 0 ∨ 2 < v1.toInt) := fun c => by omega
      rw [if_neg h1, if_neg nn, if_neg o1]
      by_cases h2 : x168 p v2 Jr = 0
      · rw [if_pos h2, if_pos h2]
      · rw [if_neg h2, if_neg h2]
        refine zq_76 hR hW ?_
        unfold x168 at h2
        by_cases c : v2 < 0
        · rw [if_pos c] at h2
          exact absurd rfl h2
        · rw [if_neg c] at h2
          by_cases d : Jr (p 4) 1 ≤ v2
          · rw [if_pos d] at h2
            exact absurd rfl h2
          · have : ¬ v2.toInt < 0 := fun z => c (z_le0.mpr z)
            exact ⟨by omega, z_lt d⟩
theorem z_or0 {x : Int32} : x ||| Int32.ofInt 0 = x := Int32.or_zero
theorem zq_120l {p : Nat → Nat} {Jc Jr : Nat → Nat → Int32} {b : Int} (hR : zR (fun i => p (31 + i)) Jc (Jr (p 4))) (hW : zW (Jr (p 4)) b) : ∀ (c : Nat) (a i : Int32), 0 ≤ i.toInt → x120_16 p Jc c a i = x221_13 p Jr c a i := by
  intro c
  induction c with
  | zero => intro a i h; rfl
  | succ c ih =>
    intro a i h
    rw [x120_16, x221_13, show Jc (p 32) 1 = Jr (p 4) 1 from zR_n hR (by omega)]
    by_cases h1 : Jr (p 4) 1 ≤ i
    · rw [if_pos h1, if_pos h1]
    · rw [if_neg h1, if_neg h1, zq_76 hR hW ⟨h, z_lt h1⟩, zq_76 hR hW ⟨h, z_lt h1⟩, z_or0, ih _ _ (zi_i h1 h), ih _ _ (zi_i h1 h)]
theorem z_told {q : Nat → Nat} {p : Nat → Nat} {Jc Jr : Nat → Nat → Int32} (hR : zR q Jc (Jr (p 4))) (hW : xr_W (Jr (p 4))) : (Jc (q 0) 1 = 0 ↔ x188 p Jr = 0) := by
  have b := xr_0 hW
  unfold x188
  rw [hR.2]
  by_cases h : Jr (p 4) 0 = 0
  · rw [if_pos h, h, if_pos (by decide)]
    exact Iff.rfl
  · rw [if_neg h, if_neg]
    · exact ⟨fun c => absurd c (by decide), fun c => absurd c (by decide)⟩
    · intro c
      have c := z_ge.mp c
      rw [show (0 : Int32).toInt = 0 from by decide] at c
      exact h (Int32.toInt_inj.mp (by rw [show (0 : Int32).toInt = 0 from by decide]; omega))
theorem zq_120 {p : Nat → Nat} {Jc Jr : Nat → Nat → Int32} {b : Int} (hR : zR (fun i => p (31 + i)) Jc (Jr (p 4))) (hW : zW (Jr (p 4)) b) : x120 p Jc = x221 p Jr := by
  have t := z_told hR hW.w
  unfold x120 x221
  by_cases h : x188 p Jr = 0
  · rw [if_pos (t.mpr h), if_pos h]
  · rw [if_neg (fun c => h (t.mp c)), if_neg h, show Jc (p 32) 1 = Jr (p 4) 1 from zR_n hR (by omega)]
    exact zq_120l hR hW _ _ _ (by decide)
theorem zq_79l {q p : Nat → Nat} {Jc Jr : Nat → Nat → Int32} (hR : zR q Jc (Jr (p 4))) (hW : xr_W (Jr (p 4))) : ∀ (c : Nat) (a i : Int32), 0 ≤ i.toInt → x79_4 q Jc c a i = x228_4 p Jr c a i := by
  intro c
  induction c with
  | zero => intro a i h; rfl
  | succ c ih =>
    intro a i h
    rw [x79_4, x228_4, zR_n hR (by omega)]
    by_cases h1 : Jr (p 4) 1 ≤ i
    · rw [if_pos h1, if_pos h1]
    · have s := zS hR hW h (z_lt h1)
      rw [if_neg h1, if_neg h1, s.2.2.1, s.2.2.2.2.2.1, z_or0, ih _ _ (zi_i h1 h), ih _ _ (zi_i h1 h)]
theorem zq_79 {q p : Nat → Nat} {Jc Jr : Nat → Nat → Int32} (hR : zR q Jc (Jr (p 4))) (hW : xr_W (Jr (p 4))) : x79 q Jc = x228 p Jr := by
  unfold x79 x228
  rw [zR_n hR (by omega)]
  exact zq_79l hR hW _ _ _ (by decide)
