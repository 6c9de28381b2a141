/-! questions: the class's answer is the reference's -/
theorem zi_i {b i : Int32} (n : ¬ b ≤ i) (h : 0 ≤ i.toInt) : 0 ≤ (i + Int32.ofInt 1).toInt := xi_nn n h
theorem z_o0 : Int32.ofInt 0 = 0 := rfl
theorem z_o1 : Int32.ofInt 1 = 1 := rfl
theorem z_add0 {x : Int32} : x + Int32.ofInt 0 = x := Int32.add_zero x
theorem z_sub0 {x : Int32} : x - Int32.ofInt 0 = x := Int32.sub_zero x
theorem z_sub1 {x : Int32} : x + Int32.ofInt (-1) = x - Int32.ofInt 1 := by
  rw [Int32.sub_eq_add_neg]
  rfl
/-- of the planks in this ship none is lost -/
def zl (e : Nat → Int32) (s : Int32) : Prop := ∀ n, n < zn e 2 → e (52 + 5 * n + 3) = s → e (52 + 5 * n + 4) = 0
theorem z_in {p : Nat → Nat} {Jr : Nat → Nat → Int32} {i s a1 a3 a4 : Int32} (e1 : x173 p i (Int32.ofInt 1) Jr = a1) (e3 : x173 p i (Int32.ofInt 3) Jr = a3) (e4 : x173 p i (Int32.ofInt 4) Jr = a4) (h : a3 = s → a4 = 0) : x171 p i s Jr = if a3 = s then (if a1 ≤ 0 then 0 else 1) else 0 := by
  unfold x171 x172
  rw [e1, e3, e4]
  by_cases c1 : a1 ≤ 0
  · rw [if_pos c1, if_pos (show Int32.ofInt 0 = 0 from rfl), if_pos c1]
    split <;> rfl
  · rw [if_neg c1]
    by_cases c3 : a3 = s
    · rw [if_pos (h c3), if_neg (show ¬ Int32.ofInt 1 = 0 from by decide), if_pos c3, if_pos c3, if_neg c1]
      rfl
    · rw [if_neg c3, if_neg c3]
      split <;> rfl
theorem zq_66l {q p : Nat → Nat} {Jc Jr : Nat → Nat → Int32} {s : Int32} (hR : zR q Jc (Jr (p 4))) (hW : xr_W (Jr (p 4))) (hl : zl (Jr (p 4)) s) : ∀ (c : Nat) (a i : Int32), 0 ≤ i.toInt → x66_4 q s Jc c a i = x170_4 p s Jr c a i := by
  intro c
  induction c with
  | zero => intro a i h; rfl
  | succ c ih =>
    intro a i h
    rw [x66_4, x170_4, zR_n hR (by omega)]
    by_cases h1 : Jr (p 4) 2 ≤ i
    · rw [if_pos h1, if_pos h1]
    · rw [if_neg h1, if_neg h1]
      obtain ⟨hn, hi, c0, c1, c2, c3, c4, r0, r1, r2, r3, r4⟩ := zP hR hW h h1
      rw [z_in r1 r3 r4 (hl _ hn), c1, c3]
      by_cases h3 : Jr (p 4) (52 + 5 * i.toNatClampNeg + 3) = s
      · rw [if_pos h3, if_pos h3]
        by_cases h2 : Jr (p 4) (52 + 5 * i.toNatClampNeg + 1) ≤ 0
        · rw [if_pos h2, if_pos h2, if_pos rfl, z_add0]
          exact ih _ _ (zi_i h1 h)
        · rw [if_neg h2, if_neg h2, if_neg (show ¬ (1 : Int32) = 0 from by decide)]
          exact ih _ _ (zi_i h1 h)
      · rw [if_neg h3, if_neg h3, if_pos rfl, z_add0]
        exact ih _ _ (zi_i h1 h)
theorem zq_66 {q p : Nat → Nat} {Jc Jr : Nat → Nat → Int32} {s : Int32} (hR : zR q Jc (Jr (p 4))) (hW : xr_W (Jr (p 4))) (hl : zl (Jr (p 4)) s) : x66 q s Jc = x170 p s Jr := by
  unfold x66 x170
  rw [zR_n hR (by omega)]
  exact zq_66l hR hW hl _ _ _ (by decide)
theorem z_mx {x : Int32} : (if x < Int32.ofInt 0 then Int32.ofInt 0 else x) = (if 0 ≤ x then x else Int32.ofInt 0) := by
  by_cases h : x < Int32.ofInt 0
  · rw [if_pos h, if_neg]
    intro c
    have c := Int32.le_iff_toInt_le.mp c
    have h := Int32.lt_iff_toInt_lt.mp h
    rw [show (0 : Int32).toInt = (Int32.ofInt 0).toInt from rfl] at c
    omega
  · rw [if_neg h, if_pos]
    apply Int32.le_iff_toInt_le.mpr
    have h : ¬ x.toInt < (Int32.ofInt 0).toInt := fun c => h (Int32.lt_iff_toInt_lt.mpr c)
    rw [show (0 : Int32).toInt = (Int32.ofInt 0).toInt from rfl]
    omega
theorem zq_68l {q p : Nat → Nat} {Jc Jr : Nat → Nat → Int32} {s k : Int32} (hR : zR q Jc (Jr (p 4))) (hW : xr_W (Jr (p 4))) (hl : zl (Jr (p 4)) s) : ∀ (c : Nat) (a i : Int32), 0 ≤ i.toInt → x68_13 q s k Jc c a i = x175_10 p s k Jr c a i := by
  intro c
  induction c with
  | zero =>
    intro a i h
    rw [x68_13, x175_10]
    exact z_mx
  | succ c ih =>
    intro a i h
    rw [x68_13, x175_10, zR_n hR (by omega)]
    by_cases h1 : Jr (p 4) 2 ≤ i
    · rw [if_pos h1, if_pos h1]
      exact z_mx
    · rw [if_neg h1, if_neg h1]
      obtain ⟨hn, hi, c0, c1, c2, c3, c4, r0, r1, r2, r3, r4⟩ := zP hR hW h h1
      rw [z_in r1 r3 r4 (hl _ hn), c0, c1, c3, r0]
      by_cases h3 : Jr (p 4) (52 + 5 * i.toNatClampNeg + 3) = s
      · rw [if_pos h3, if_pos h3]
        by_cases h2 : Jr (p 4) (52 + 5 * i.toNatClampNeg + 1) ≤ 0
        · rw [if_pos h2, if_pos h2, if_pos rfl, z_sub0]
          exact ih _ _ (zi_i h1 h)
        · rw [if_neg h2, if_neg h2, if_neg (show ¬ (1 : Int32) = 0 from by decide)]
          by_cases h4 : Jr (p 4) (52 + 5 * i.toNatClampNeg + 0) = k
          · rw [if_pos h4, if_pos h4, z_sub1]
            exact ih _ _ (zi_i h1 h)
          · rw [if_neg h4, if_neg h4, z_sub0]
            exact ih _ _ (zi_i h1 h)
      · rw [if_neg h3, if_neg h3, if_pos rfl, z_sub0]
        exact ih _ _ (zi_i h1 h)
theorem zq_87 {q p : Nat → Nat} {Jc Jr : Nat → Nat → Int32} {s k : Int32} (hR : zR q Jc (Jr (p 4))) (hW : xr_W (Jr (p 4))) (hs : 0 ≤ s.toInt ∧ s.toInt < (Jr (p 4) 1).toInt) (hk : 0 ≤ k.toInt ∧ k.toInt < (Jr (p 4) 0).toInt) : x87 q s k Jc = Jr (p 4) (10 + 7 * s.toNatClampNeg + k.toNatClampNeg) ∧ x169 p s k Jr = Jr (p 4) (10 + 7 * s.toNatClampNeg + k.toNatClampNeg) := by
  have b := zn_b hW
  have hs' : s.toInt = s.toNatClampNeg := by rw [zn_t]; omega
  have hk' : k.toInt = k.toNatClampNeg := by rw [zn_t]; omega
  have ek : k = Int32.ofInt (k.toNatClampNeg : Int) := by
    rw [← hk']
    exact (Int32.ofInt_toInt k).symm
  refine ⟨?_, ?_⟩
  · unfold x87
    have e1 : (s * Int32.ofInt 4).toInt = 4 * s.toInt := by
      rw [Int32.toInt_mul, show (Int32.ofInt 4).toInt = 4 from by decide, Int.bmod_eq_of_le (by omega) (by omega)]
      omega
    have e2 : (s * Int32.ofInt 4 + k).toNatClampNeg = 4 * s.toNatClampNeg + k.toNatClampNeg := by
      show Int.toNat _ = _
      rw [Int32.toInt_add, e1, Int.bmod_eq_of_le (by omega) (by omega)]
      omega
    rw [e2]
    exact zR_s hR (by omega) (by omega) (by omega) (by omega) (zc_m _ (by omega) _ (by omega))
  · have t := zx_s (p := p) (J := Jr) (i := s) (k := k.toNatClampNeg) hs.1 (by omega) (by omega)
    rw [← ek] at t
    exact t
theorem zq_68 {q p : Nat → Nat} {Jc Jr : Nat → Nat → Int32} {s k : Int32} (hR : zR q Jc (Jr (p 4))) (hW : xr_W (Jr (p 4))) (hl : zl (Jr (p 4)) s) (hs : 0 ≤ s.toInt ∧ s.toInt < (Jr (p 4) 1).toInt) (hk : 0 ≤ k.toInt ∧ k.toInt < (Jr (p 4) 0).toInt) : x68 q s k Jc = x175 p s k Jr := by
  unfold x68 x175
  rw [zR_n hR (by omega), (zq_87 hR hW hs hk).1, (zq_87 hR hW hs hk).2]
  exact zq_68l hR hW hl _ _ _ (by decide)
theorem z_lt {b i : Int32} (n : ¬ b ≤ i) : i.toInt < b.toInt := by
  have : ¬ b.toInt ≤ i.toInt := fun c => n (Int32.le_iff_toInt_le.mpr c)
  omega
theorem zq_67l {q p : Nat → Nat} {Jc Jr : Nat → Nat → Int32} {s : Int32} (hR : zR q Jc (Jr (p 4))) (hW : xr_W (Jr (p 4))) (hl : zl (Jr (p 4)) s) (hs : 0 ≤ s.toInt ∧ s.toInt < (Jr (p 4) 1).toInt) : ∀ (c : Nat) (i : Int32), 0 ≤ i.toInt → x67_2 q s Jc c i = x174_2 p s Jr c i := by
  intro c
  induction c with
  | zero => intro i h; rfl
  | succ c ih =>
    intro i h
    rw [x67_2, x174_2, zR_n hR (by omega)]
    by_cases h1 : Jr (p 4) 0 ≤ i
    · rw [if_pos h1, if_pos h1]
    · rw [if_neg h1, if_neg h1, zq_68 hR hW hl hs ⟨h, z_lt h1⟩, ih _ (zi_i h1 h)]
theorem zq_67 {q p : Nat → Nat} {Jc Jr : Nat → Nat → Int32} {s : Int32} (hR : zR q Jc (Jr (p 4))) (hW : xr_W (Jr (p 4))) (hl : zl (Jr (p 4)) s) (hs : 0 ≤ s.toInt ∧ s.toInt < (Jr (p 4) 1).toInt) : x67 q s Jc = x174 p s Jr := by
  unfold x67 x174
  rw [zR_n hR (by omega)]
  exact zq_67l hR hW hl hs _ _ (by decide)
theorem zq_88l {q p : Nat → Nat} {Jc Jr : Nat → Nat → Int32} {s : Int32} (hR : zR q Jc (Jr (p 4))) (hW : xr_W (Jr (p 4))) : ∀ (c : Nat) (i : Int32), 0 ≤ i.toInt → x88_2 q s (Jr (p 4) 4) Jc c i = x195_2 p s Jr c i := by
  intro c
  induction c with
  | zero => intro i h; rfl
  | succ c ih =>
    intro i h
    rw [x88_2, x195_2, zR_n hR (by omega)]
    by_cases h1 : Jr (p 4) 3 ≤ i
    · rw [if_pos h1, if_pos h1]
    · obtain ⟨hn, hi, c0, c1, c2, c3, c4, r0, r1, r2, r3, r4⟩ := zV hR hW h h1
      rw [if_neg h1, if_neg h1, ih _ (zi_i h1 h), c0, c1, r0, r1]
theorem zq_88 {q p : Nat → Nat} {Jc Jr : Nat → Nat → Int32} {s : Int32} (hR : zR q Jc (Jr (p 4))) (hW : xr_W (Jr (p 4))) : x88 q s (Jc (q 0) 2) Jc = x195 p s Jr := by
  unfold x88 x195
  rw [zR_n hR (by omega), zR_4 hR]
  exact zq_88l hR hW _ _ (by decide)
theorem z_le0 {x : Int32} : x < 0 ↔ x.toInt < 0 := by
  rw [Int32.lt_iff_toInt_lt]
  exact Iff.rfl
theorem z_ge {x b : Int32} : b ≤ x ↔ b.toInt ≤ x.toInt := Int32.le_iff_toInt_le
/-- a plank that can be had -/
theorem zq_73 {q p : Nat → Nat} {Jc Jr : Nat → Nat → Int32} {i : Int32} (hR : zR q Jc (Jr (p 4))) {b : Int} (hW : zW (Jr (p 4)) b) (h : 0 ≤ i.toInt) (h1 : ¬ Jr (p 4) 2 ≤ i) : x73 q i Jc = x183 p i Jr := by
  have bb := zn_b hW.w
  obtain ⟨hn, hi, c0, c1, c2, c3, c4, r0, r1, r2, r3, r4⟩ := zP hR hW.w h h1
  unfold x73 x183 x172 x65
  rw [c1, c3, c4, r1, r3, r4, zR_n hR (by omega)]
  generalize ha1 : Jr (p 4) (52 + 5 * i.toNatClampNeg + 1) = a1
  have hin := hW.b.inn _ hn
  have hlo := hW.b.lo _ hn
  have o0 : Int32.ofInt 0 = 0 := rfl
  have o1 : ¬ Int32.ofInt 1 = 0 := by decide
  by_cases n3 : (Jr (p 4) (52 + 5 * i.toNatClampNeg + 3)).toInt < 0
  · have hz : Jr (p 4) (52 + 5 * i.toNatClampNeg + 4) = 0 := by
      rw [hlo, if_neg (fun c => by omega)]
    simp only [if_pos (z_le0.mpr n3), if_pos hz, if_pos o0, if_neg o1]
    by_cases c1 : a1 ≤ 0
    · simp only [if_pos c1, if_pos o0]
    · simp only [if_neg c1, if_neg o1]
  · have s1 := zS hR hW.w (i := Jr (p 4) (52 + 5 * i.toNatClampNeg + 3)) (by omega) hin.2
    obtain ⟨sn, si, t4, t5, t6, u4, u5, u6⟩ := s1
    have g1 : ¬ Jr (p 4) 1 ≤ Jr (p 4) (52 + 5 * i.toNatClampNeg + 3) := fun c => by have := z_ge.mp c; omega
    unfold x182
    rw [t4, u4]
    simp only [if_neg (fun c => n3 (z_le0.mp c) : ¬ Jr (p 4) (52 + 5 * i.toNatClampNeg + 3) < 0), if_neg g1, if_neg o1]
    have hst := hW.c.st _ sn
    by_cases c1 : a1 ≤ 0
    · simp only [if_pos c1, if_pos o0, ite_self]
    · simp only [if_neg c1]
      rcases hst with e0 | e1 | e2
      · rw [if_neg (fun c => by rw [e0] at c; exact absurd c.2 (by decide))] at hlo
        rw [hlo, e0]
        rfl
      · rw [if_neg (fun c => by rw [e1] at c; exact absurd c.2 (by decide))] at hlo
        rw [hlo, e1]
        rfl
      · rw [if_pos ⟨by omega, e2⟩] at hlo
        rw [hlo, e2]
        rfl
/-- a plank that can be taken for a ship -/
theorem zq_7 {q p : Nat → Nat} {Jc Jr : Nat → Nat → Int32} {i s k : Int32} (hR : zR q Jc (Jr (p 4))) {b : Int} (hW : zW (Jr (p 4)) b) (h : 0 ≤ i.toInt) (h1 : ¬ Jr (p 4) 2 ≤ i) : (if Jc (q 3) i.toNatClampNeg = k then x7 q i s Jc else Int32.ofInt 0) = x194 p i s k Jr := by
  obtain ⟨hn, hi, c0, c1, c2, c3, c4, r0, r1, r2, r3, r4⟩ := zP hR hW.w h h1
  have hin := hW.b.inn _ hn
  unfold x7 x194
  rw [c0, c3, r0, r3, zq_73 hR hW h h1, zq_88 hR hW.w]
  by_cases f : x183 p i Jr = 0
  · rw [if_pos f, if_pos f]
    split
    · split <;> rfl
    · rfl
  · rw [if_neg f, if_neg f]
    by_cases hk : Jr (p 4) (52 + 5 * i.toNatClampNeg + 0) = k
    · rw [if_pos hk, if_pos hk]
      by_cases h3 : Jr (p 4) (52 + 5 * i.toNatClampNeg + 3) = s
      · rw [if_pos h3, if_pos h3]
      · rw [if_neg h3, if_neg h3]
        by_cases n : Jr (p 4) (52 + 5 * i.toNatClampNeg + 3) = Int32.ofInt (-1)
        · have nl : Jr (p 4) (52 + 5 * i.toNatClampNeg + 3) < 0 := by
            rw [n]
            decide
          rw [if_pos n, if_pos nl]
        · have nl : ¬ Jr (p 4) (52 + 5 * i.toNatClampNeg + 3) < 0 := by
            intro c
            apply n
            have := z_le0.mp c
            apply Int32.toInt_inj.mp
            rw [xi_m1]
            omega
          rw [if_neg n, if_neg nl]
    · rw [if_neg hk, if_neg hk]
