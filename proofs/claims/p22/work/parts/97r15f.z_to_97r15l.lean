section
theorem zdx_p {x v : Int32} : (v ≤ ((zdx x).toInt32 / Int32.ofInt 65536) - ((zdx x).toInt32 / Int32.ofInt 65536) / Int32.ofInt 100 * Int32.ofInt 100) ↔ 0 ≤ lg_cmp ((zdx x / 65536) - (zdx x / 65536) / 100 * 100) v.toInt64 := by
  have b := zdx_b (x := x)
  refine Int32.le_iff_toInt_le.trans (Iff.trans ?_ z_lge.symm)
  rw [zdx_32, zdx_64 b.1 b.2, zdx_i, Int32.toInt_toInt64]
end
section
/-- her first sound plank -/
theorem zq_82l {q p : Nat → Nat} {Jc Jr : Nat → Nat → Int32} {s : Int32} (hR : zR q Jc (Jr (p 4))) (hW : xr_W (Jr (p 4))) (hl : zl (Jr (p 4)) s) : ∀ (c : Nat) (i : Int32), 0 ≤ i.toInt → x82_2 q s Jc c i = x232_2 p s Jr c i := by
  intro c
  induction c with
  | zero => intro i h; rfl
  | succ c ih =>
    intro i h
    rw [x82_2, x232_2, zR_n hR (by omega)]
    by_cases h1 : Jr (p 4) 2 ≤ i
    · rw [if_pos h1, if_pos h1]
    · rw [if_neg h1, if_neg h1]
      obtain ⟨hn, hi, c0, c1, c2, c3, c4, r0, r1, r2, r3, r4⟩ := zP hR hW h h1
      rw [z_in r1 r3 r4 (hl _ hn), c1, c3, ih _ (zi_i h1 h)]
      by_cases h3 : Jr (p 4) (52 + 5 * i.toNatClampNeg + 3) = s
      · rw [if_pos h3, if_pos h3]
        by_cases h2 : Jr (p 4) (52 + 5 * i.toNatClampNeg + 1) ≤ 0
        · rw [if_pos h2, if_pos h2, if_pos rfl]
        · rw [if_neg h2, if_neg h2, if_neg (show ¬ (1 : Int32) = 0 from by decide)]
      · rw [if_neg h3, if_neg h3, if_pos rfl]
theorem zq_82 {q p : Nat → Nat} {Jc Jr : Nat → Nat → Int32} {s : Int32} (hR : zR q Jc (Jr (p 4))) (hW : xr_W (Jr (p 4))) (hl : zl (Jr (p 4)) s) : x82 q s Jc = x232 p s Jr := by
  unfold x82 x232
  rw [zR_n hR (by omega)]
  exact zq_82l hR hW hl _ _ (by decide)
theorem xw_232b {p : Nat → Nat} {s : Int32} {J : Nat → Nat → Int32} : x232 p s J = Int32.ofInt (-1) ∨ (0 ≤ (x232 p s J).toInt ∧ ¬ J (p 4) 2 ≤ x232 p s J) := by
  unfold x232
  refine x232_2_rule (I := fun _ v2 => 0 ≤ v2.toInt) (Q := fun r => r = Int32.ofInt (-1) ∨ (0 ≤ r.toInt ∧ ¬ J (p 4) 2 ≤ r)) ?_ ?_ _ _ (by decide)
  · intro v2 h
    exact Or.inl rfl
  · intro c v2 h
    by_cases h1 : J (p 4) 2 ≤ v2
    · rw [if_pos h1]
      exact Or.inl rfl
    · rw [if_neg h1]
      by_cases h2 : x171 p v2 s J = 0
      · rw [if_pos h2]
        exact xi_nn h1 h
      · rw [if_neg h2]
        exact Or.inr ⟨h, h1⟩
end
section
/-- the draws of one day -/
theorem zdr_l {p q : Nat → Nat} {v1 v2 v3 v4 v5 v8 v9 v10 : Int32} {L : Nat → Nat → Int64} {b : Int} (hq : zq q) : ∀ (c : Nat) (i : Int32) (v6 : Int64) (Jc Jr : Nat → Nat → Int32), 0 ≤ i.toInt → zR q Jc (Jr (p 4)) → zW (Jr (p 4)) b → v6 = (Jc (q 0) 6).toInt64 → zR q (x81_2 q v4 c i Jc) ((x231_101 p v1 v2 v3 v4 v5 v8 v9 v10 L c v6 i Jr).2 (p 4)) ∧ zW ((x231_101 p v1 v2 v3 v4 v5 v8 v9 v10 L c v6 i Jr).2 (p 4)) b ∧ (x231_101 p v1 v2 v3 v4 v5 v8 v9 v10 L c v6 i Jr).1 = (x81_2 q v4 c i Jc (q 0) 6).toInt64 ∧ ∀ j, j < 10 → (x231_101 p v1 v2 v3 v4 v5 v8 v9 v10 L c v6 i Jr).2 (p 4) j = Jr (p 4) j := by
  intro c
  induction c with
  | zero =>
    intro i v6 Jc Jr h hR hW h6
    exact ⟨hR, hW, h6, fun _ _ => rfl⟩
  | succ c ih =>
    intro i v6 Jc Jr h hR hW h6
    have bb := zn_b hW.w
    have e1 : Jc (q 1) 1 = Jr (p 4) 1 := zR_n hR (by omega)
    rw [x81_2, x231_101]
    by_cases h1 : Jr (p 4) 1 ≤ i
    · rw [if_pos (show Jc (q 1) 1 ≤ i from by rw [e1]; exact h1), if_pos h1]
      exact ⟨hR, hW, h6, fun _ _ => rfl⟩
    · rw [if_neg (show ¬ Jc (q 1) 1 ≤ i from by rw [e1]; exact h1), if_neg h1]
      have S := zS hR hW.w h (z_lt h1)
      by_cases h2 : Jr (p 4) (10 + 7 * i.toNatClampNeg + 4) = Int32.ofInt 1
      · rw [if_pos (show Jc (q 10) i.toNatClampNeg = Int32.ofInt 1 from by rw [S.2.2.1]; exact h2), if_pos (show x169 p i (Int32.ofInt 4) Jr = Int32.ofInt 1 from by rw [S.2.2.2.2.2.1]; exact h2)]
        have hl : zl (Jr (p 4)) i := zl_of hW (fun _ c2 => by rw [h2] at c2; exact absurd c2 (by decide))
        rw [zq_82 hR hW.w hl]
        rcases xw_232b (p := p) (s := i) (J := Jr) with m | ⟨m0, m1⟩
        · rw [if_pos m, if_neg (show ¬ 0 ≤ x232 p i Jr from by rw [m]; decide)]
          exact ih _ _ _ _ (zi_i h1 h) hR hW h6
        · rw [if_neg (show ¬ x232 p i Jr = Int32.ofInt (-1) from fun e => by rw [e] at m0; exact absurd m0 (by decide)), if_pos (show 0 ≤ x232 p i Jr from Int32.le_iff_toInt_le.mpr m0)]
          subst h6
          have dz : ((Jc (q 0) 6).toInt64 * 1103515245 + 12345) - ((Jc (q 0) 6).toInt64 * 1103515245 + 12345) / 2147483648 * 2147483648 = zdx (Jc (q 0) 6) := rfl
          rw [dz]
          have R6 : zR q (nt_u Jc (q 0) 6 (zdx (Jc (q 0) 6)).toInt32) (Jr (p 4)) := zR_x6 hq hR
          by_cases h3 : v4 ≤ ((zdx (Jc (q 0) 6)).toInt32 / Int32.ofInt 65536) - ((zdx (Jc (q 0) 6)).toInt32 / Int32.ofInt 65536) / Int32.ofInt 100 * Int32.ofInt 100
          · rw [if_pos h3, if_pos (zdx_p.mp h3)]
            exact ih _ _ _ _ (zi_i h1 h) R6 hW (by rw [me_us, zdx_n])
          · rw [if_neg h3, if_neg (fun k => h3 (zdx_p.mpr k))]
            obtain ⟨hn, hi, c0, c1, c2, c3, c4, r0, r1, r2, r3, r4⟩ := zP hR hW.w m0 m1
            have n24 : (x232 p i Jr).toNatClampNeg < 24 := by omega
            rw [c1, r1]
            by_cases h4 : Jr (p 4) (52 + 5 * (x232 p i Jr).toNatClampNeg + 1) ≤ Int32.ofInt 1
            · rw [if_pos h4, if_pos h4]
              exact ih _ _ _ _ (zi_i h1 h) R6 hW (by rw [me_us, zdx_n])
            · rw [if_neg h4, if_neg h4, zx_p1 m0 (by omega)]
              have ro := hW.d.ro _ hn
              have g4 : ¬ (Jr (p 4) (52 + 5 * (x232 p i Jr).toNatClampNeg + 1)).toInt ≤ 1 := fun k => h4 (Int32.le_iff_toInt_le.mpr (by rw [show (Int32.ofInt 1).toInt = 1 from by decide]; exact k))
              have sb : (Jr (p 4) (52 + 5 * (x232 p i Jr).toNatClampNeg + 1) - Int32.ofInt 1).toInt = (Jr (p 4) (52 + 5 * (x232 p i Jr).toNatClampNeg + 1)).toInt - 1 := by
                rw [Int32.toInt_sub, show (Int32.ofInt 1).toInt = 1 from by decide, Int.bmod_eq_of_le (by omega) (by omega)]
              have R7 := zR_up hq R6 (j := 52 + 5 * (x232 p i Jr).toNatClampNeg + 1) (v := Jr (p 4) (52 + 5 * (x232 p i Jr).toNatClampNeg + 1) - Int32.ofInt 1) (by omega) (by omega) (zc_p1 _ n24)
              rw [← zu_r] at R7
              have W7 : zW (nt_u Jr (p 4) (52 + 5 * (x232 p i Jr).toNatClampNeg + 1) (Jr (p 4) (52 + 5 * (x232 p i Jr).toNatClampNeg + 1) - Int32.ofInt 1) (p 4)) b := zW_rot hW n24 (xr_up hW.w (xr_any (xr_bp (by omega) (by omega) (by omega) (by omega)))) (by rw [me_us, sb]; omega) (fun j hj => me_uk hj)
              have z := ih _ (zdx (Jc (q 0) 6)) _ _ (zi_i h1 h) R7 W7 (by rw [me_uj (hq 0 13 (by omega) (by omega) (by decide)), me_us, zdx_n])
              exact ⟨z.1, z.2.1, z.2.2.1, fun j hj => (z.2.2.2 j hj).trans (me_uk (by omega))⟩
      · rw [if_neg (show ¬ Jc (q 10) i.toNatClampNeg = Int32.ofInt 1 from by rw [S.2.2.1]; exact h2), if_neg (show ¬ x169 p i (Int32.ofInt 4) Jr = Int32.ofInt 1 from by rw [S.2.2.2.2.2.1]; exact h2), if_pos (show Int32.ofInt (-1) = Int32.ofInt (-1) from rfl)]
        exact ih _ _ _ _ (zi_i h1 h) hR hW h6
/-- no draws when all are home -/
theorem zdr_0 {p : Nat → Nat} {v1 v2 v3 v4 v5 v8 v9 v10 : Int32} {L : Nat → Nat → Int64} {b : Int} {J : Nat → Nat → Int32} (hW : zW (J (p 4)) b) (hb : 100 ≤ b) : ∀ (c : Nat) (i : Int32) (v6 : Int64), 0 ≤ i.toInt → x231_101 p v1 v2 v3 v4 v5 v8 v9 v10 L c v6 i J = (v6, J) := by
  have bb := zn_b hW.w
  intro c
  induction c with
  | zero => intro i v6 h; rfl
  | succ c ih =>
    intro i v6 h
    rw [x231_101]
    by_cases h1 : J (p 4) 1 ≤ i
    · rw [if_pos h1]
    · have x := zx bb.2.2.2.2.2.1 h h1
      rw [if_neg h1, show x169 p i (Int32.ofInt 4) J = _ from zx_s (k := 4) h (by omega) (by omega), if_neg]
      · exact ih _ _ (zi_i h1 h)
      · intro c1
        obtain ⟨v, hv, ev, _, _, eb⟩ := hW.c.on _ x.1 c1
        have vo := hW.a.vo v hv
        omega
theorem zyr_idle {p : Nat → Nat} {v1 v2 v3 v4 v5 v8 v9 : Int32} : ∀ (c : Nat) (i : Int32) (v6 : Int64) (J : Nat → Nat → Int32) (L : Nat → Nat → Int64), 0 ≤ i.toInt → i.toInt ≤ v3.toInt → zW (J (p 4)) (J (p 4) 4).toInt → 100 ≤ (J (p 4) 4).toInt → (J (p 4) 4).toInt + (v3.toInt - i.toInt) ≤ 900 → (x231_87 p v1 v2 v3 v4 v5 v8 v9 c v6 i J L).1 = v6 ∧ (x231_87 p v1 v2 v3 v4 v5 v8 v9 c v6 i J L).2.1 (p 4) 7 = J (p 4) 7 ∧ x228 p (x231_87 p v1 v2 v3 v4 v5 v8 v9 c v6 i J L).2.1 = x228 p J := by
  intro c
  induction c with
  | zero => intro i v6 J L h iv hW hd h9; exact ⟨rfl, rfl, rfl⟩
  | succ c ih =>
    intro i v6 J L h iv hW hd h9
    rw [x231_87]
    by_cases h1 : v3 ≤ i
    · rw [if_pos h1]
      exact ⟨rfl, rfl, rfl⟩
    · rw [if_neg h1]
      have lt := z_lt h1
      obtain ⟨_, w2, w3, w4⟩ := zidle (v1 := v1) (L := L) hW hd (by omega)
      rw [zdr_0 w2 (by omega) _ _ _ (by decide)]
      have z := ih (i + Int32.ofInt 1) v6 (x190 p v1 J L).1 (x190 p v1 J L).2 (zi_i h1 h) (by rw [lx_inc h1]; omega) w2 (by omega) (by rw [lx_inc h1, w3]; omega)
      exact ⟨z.1, z.2.1.trans (w4 7 (by decide) (by decide)), z.2.2.trans (z228_ag hW.w w4)⟩
/-- what is asked after so many days -/
def zyE (p : Nat → Nat) (C : Nat → Nat → Int32) (R : Int64 × (Nat → Nat → Int32) × (Nat → Nat → Int64)) : Prop := R.1 = (C (p 48) 6).toInt64 ∧ C (p 48) 5 = R.2.1 (p 4) 7 ∧ x79 (fun i => p (48 + i)) C = x228 p R.2.1
end
section
/-- a day leaves x as it is -/
theorem z6_3 {q : Nat → Nat} {s v : Int32} {J : Nat → Nat → Int32} (hq : zq q) (h : J (q 0) 6 = v) : x3 q s J (q 0) 6 = v := by
  have n : ∀ i, i < 17 → i ≠ 0 → q 0 ≠ q i := fun i hi h0 => hq 0 i (by omega) hi (by omega)
  have fin : ∀ (J1 : Nat → Nat → Int32), J1 (q 0) 6 = v → ∀ (k1 k2 k3 k4 : Nat) (a b c d e : Int32), nt_u (nt_u (nt_u (nt_u (nt_u J1 (q 11) k1 a) (q 0) 5 b) (q 16) k2 c) (q 10) k3 d) (q 12) k4 e (q 0) 6 = v := by
    intro J1 h k1 k2 k3 k4 a b c d e
    rw [me_uj (n 12 (by omega) (by omega)), me_uj (n 10 (by omega) (by omega)), me_uj (n 16 (by omega) (by omega)), me_uk (by decide), me_uj (n 11 (by omega) (by omega))]
    exact h
  unfold x3
  refine x3_34_rule (I := fun _ _ _ J1 => J1 (q 0) 6 = v) (Q := fun r => r (q 0) 6 = v) ?_ ?_ _ _ _ _ h
  · intro v5 v6 J1 h
    exact fin J1 h _ _ _ _ _ _ _ _ _
  · intro c v5 v6 J1 h
    split
    · exact fin J1 h _ _ _ _ _ _ _ _ _
    · exact (me_uj (n 11 (by omega) (by omega))).trans h
theorem z6_9 {q : Nat → Nat} {s : Int32} {J : Nat → Nat → Int32} (hq : zq q) : x9 q s J (q 0) = J (q 0) := x9_frJ (hq 0 10 (by omega) (by omega) (by omega)) (hq 0 12 (by omega) (by omega) (by omega)) (hq 0 13 (by omega) (by omega) (by omega)) (hq 0 15 (by omega) (by omega) (by omega)) (hq 0 16 (by omega) (by omega) (by omega))
theorem z6_74 {q : Nat → Nat} {a s v : Int32} {J : Nat → Nat → Int32} (hq : zq q) (h : J (q 0) 6 = v) : x74 q a s J (q 0) 6 = v := by
  unfold x74
  rw [me_uk (by decide), me_uk (by decide), me_uj (hq 0 14 (by omega) (by omega) (by omega))]
  exact h
theorem z_ite {P A B : Prop} [Decidable P] (h1 : A) (h2 : B) : if P then A else B := by
  by_cases h : P
  · rw [if_pos h]
    exact h1
  · rw [if_neg h]
    exact h2
theorem z6_5 {p q : Nat → Nat} {sp ln : Nat} {a b v : Int32} {J : Nat → Nat → Int32} {L : Nat → Nat → Int64} (X : zX p q) (h : J (q 0) 6 = v) : (x5 p q sp ln a b J L).1 (q 0) 6 = v := by
  have n25 : q 0 ≠ p 25 := X.hx 0 25 (by omega) (by omega)
  unfold x5
  refine x5_31_rule (I := fun _ _ J1 _ => J1 (q 0) 6 = v) (Q := fun r => r.1 (q 0) 6 = v) ?_ ?_ _ _ _ _ h
  · intro v7 J1 L1 h
    exact h
  · intro c v7 J1 L1 h
    have h6 : (x6 p q sp ln a b J1 L1).2.1 (q 0) 6 = v := (congrFun (x6_frJ n25) 6).trans h
    exact z_ite h (z_ite h6 (z6_74 X.hq h6))
theorem z6_4 {p q : Nat → Nat} {sp ln : Nat} {a v : Int32} {J : Nat → Nat → Int32} {L : Nat → Nat → Int64} (X : zX p q) (h : J (q 0) 6 = v) : (x4 p q sp ln a J L).1 (q 0) 6 = v := by
  have n : ∀ i, i < 17 → i ≠ 0 → q 0 ≠ q i := fun i hi h0 => X.hq 0 i (by omega) hi (by omega)
  have fin : ∀ (J1 : Nat → Nat → Int32), J1 (q 0) 6 = v → ∀ (k1 k2 k3 : Nat) (a b c : Int32), nt_u (nt_u (nt_u J1 (q 10) k1 a) (q 12) k2 b) (q 16) k3 c (q 0) 6 = v := by
    intro J1 h k1 k2 k3 a b c
    rw [me_uj (n 16 (by omega) (by omega)), me_uj (n 12 (by omega) (by omega)), me_uj (n 10 (by omega) (by omega))]
    exact h
  unfold x4
  refine x4_18_rule (I := fun _ _ J1 _ => J1 (q 0) 6 = v) (Q := fun r => r.1 (q 0) 6 = v) ?_ ?_ _ _ _ _ h
  · intro v5 J1 L1 h
    split
    · exact h
    · exact fin J1 h _ _ _ _ _ _
  · intro c v5 J1 L1 h
    split
    · split
      · exact h
      · exact fin J1 h _ _ _ _ _ _
    · exact z6_5 X h
theorem z6_4N {p q : Nat → Nat} {a : Int32} {J : Nat → Nat → Int32} (hq : zq q) : x4N p q a J (q 0) = J (q 0) := x4N_frJ (hq 0 10 (by omega) (by omega) (by omega)) (hq 0 12 (by omega) (by omega) (by omega)) (hq 0 16 (by omega) (by omega) (by omega))
theorem z6_111 {p q : Nat → Nat} {sp ln : Nat} {v : Int32} {L : Nat → Nat → Int64} (hq : zq q) : ∀ (c : Nat) (i : Int32) (J : Nat → Nat → Int32), J (q 0) 6 = v → (x1_111 p q sp ln L c i J).1 (q 0) 6 = v := by
  have fin : ∀ (J1 : Nat → Nat → Int32), J1 (q 0) 6 = v → ∀ (a b : Int32), nt_u (nt_u J1 (q 0) 2 a) (q 0) 3 b (q 0) 6 = v := by
    intro J1 h a b
    rw [me_uk (by decide), me_uk (by decide)]
    exact h
  refine x1_111_rule (I := fun _ _ J1 => J1 (q 0) 6 = v) (Q := fun r => r.1 (q 0) 6 = v) ?_ ?_
  · intro v3 J1 h
    exact fin J1 h _ _
  · intro c v3 J1 h
    split
    · exact fin J1 h _ _
    · split
      · exact (congrFun (z6_9 hq) 6).trans h
      · exact h
theorem z6_48 {p q : Nat → Nat} {sp ln : Nat} {v : Int32} (X : zX p q) : ∀ (c : Nat) (i : Int32) (J : Nat → Nat → Int32) (L : Nat → Nat → Int64), J (q 0) 6 = v → (x1_48 p q sp ln c i J L).1 (q 0) 6 = v := by
  refine x1_48_rule (I := fun _ _ J1 _ => J1 (q 0) 6 = v) (Q := fun r => r.1 (q 0) 6 = v) ?_ ?_
  · intro v3 J1 L1 h
    exact z6_111 X.hq _ _ _ h
  · intro c v3 J1 L1 h
    split
    · exact z6_111 X.hq _ _ _ h
    · split
      · split
        · exact z6_4 X h
        · exact h
      · exact h
theorem z6_1 {p q : Nat → Nat} {sp ln : Nat} {J : Nat → Nat → Int32} {L : Nat → Nat → Int64} (X : zX p q) : (x1 p q sp ln J L).1 (q 0) 6 = J (q 0) 6 := by
  unfold x1
  refine x1_2_rule (I := fun _ _ J1 => J1 (q 0) 6 = J (q 0) 6) (Q := fun r => r.1 (q 0) 6 = J (q 0) 6) ?_ ?_ _ _ _ rfl
  · intro v3 J1 h
    exact z6_48 X _ _ _ _ h
  · intro c v3 J1 h
    split
    · exact z6_48 X _ _ _ _ h
    · split
      · split
        · exact h
        · exact z6_3 X.hq h
      · exact h
theorem z6_111N {p q : Nat → Nat} {v : Int32} (hq : zq q) : ∀ (c : Nat) (i : Int32) (J : Nat → Nat → Int32), J (q 0) 6 = v → (x1N_111 p q c i J) (q 0) 6 = v := by
  have fin : ∀ (J1 : Nat → Nat → Int32), J1 (q 0) 6 = v → ∀ (a b : Int32), nt_u (nt_u J1 (q 0) 2 a) (q 0) 3 b (q 0) 6 = v := by
    intro J1 h a b
    rw [me_uk (by decide), me_uk (by decide)]
    exact h
  refine x1N_111_rule (I := fun _ _ J1 => J1 (q 0) 6 = v) (Q := fun r => r (q 0) 6 = v) ?_ ?_
  · intro v3 J1 h
    exact fin J1 h _ _
  · intro c v3 J1 h
    split
    · exact fin J1 h _ _
    · split
      · exact (congrFun (z6_9 hq) 6).trans h
      · exact h
theorem z6_48N {p q : Nat → Nat} {v : Int32} (X : zX p q) : ∀ (c : Nat) (i : Int32) (J : Nat → Nat → Int32), J (q 0) 6 = v → (x1N_48 p q c i J) (q 0) 6 = v := by
  refine x1N_48_rule (I := fun _ _ J1 => J1 (q 0) 6 = v) (Q := fun r => r (q 0) 6 = v) ?_ ?_
  · intro v3 J1 h
    exact z6_111N X.hq _ _ _ h
  · intro c v3 J1 h
    split
    · exact z6_111N X.hq _ _ _ h
    · split
      · split
        · exact (congrFun (z6_4N X.hq) 6).trans h
        · exact h
      · exact h
theorem z6_1N {p q : Nat → Nat} {J : Nat → Nat → Int32} (X : zX p q) : (x1N p q J) (q 0) 6 = J (q 0) 6 := by
  unfold x1N
  refine x1N_2_rule (I := fun _ _ J1 => J1 (q 0) 6 = J (q 0) 6) (Q := fun r => r (q 0) 6 = J (q 0) 6) ?_ ?_ _ _ _ rfl
  · intro v3 J1 h
    exact z6_48N X _ _ _ h
  · intro c v3 J1 h
    split
    · exact z6_48N X _ _ _ h
    · split
      · split
        · exact h
        · exact z6_3 X.hq h
      · exact h
end
section
theorem zyr_l {p : Nat → Nat} {v1 v2 v3 v4 v5 v8 v9 w6 w7 w9 : Int32} {sp ln T : Nat} (hsq : ∀ i, i < 17 → sp ≠ p (48 + i)) (ht : v1.toInt = (T : Nat)) (X : zX p (fun i => p (48 + i))) : ∀ (c : Nat) (i : Int32) (v6 : Int64) (Jc Jr : Nat → Nat → Int32) (Lc Lr : Nat → Nat → Int64), 0 ≤ i.toInt → i.toInt ≤ v3.toInt → v3.toInt - i.toInt ≤ c → (Jr (p 4) 4).toInt + (v3.toInt - i.toInt) ≤ 900 → zR (fun i => p (48 + i)) Jc (Jr (p 4)) → zW (Jr (p 4)) (Jr (p 4) 4).toInt → v6 = (Jc (p 48) 6).toInt64 → zRQ p sp ln T Jc Jr → zyE p (x125_114 p sp ln v1 v2 v3 v4 v5 w6 w7 w9 c i Jc Lc).1 (x231_87 p v1 v2 v3 v4 v5 v8 v9 c v6 i Jr Lr) := by
  intro c
  induction c with
  | zero =>
    intro i v6 Jc Jr Lc Lr i0 iv hc h9 hR hW h6 hQ
    exact ⟨h6, zR_7 hR, zq_79 hR hW.w⟩
  | succ c ih =>
    intro i v6 Jc Jr Lc Lr i0 iv hc h9 hR hW h6 hQ
    by_cases h1 : v3 ≤ i
    · rw [x125_114, x231_87, if_pos h1, if_pos h1]
      exact ⟨h6, zR_7 hR, zq_79 hR hW.w⟩
    · by_cases h2 : Int32.ofInt 99 < Jc (p 48) 2
      · have e4 : Jc (p 48) 2 = Jr (p 4) 4 := zR_4 hR
        have d : 99 < (Jr (p 4) 4).toInt := by
          rw [e4] at h2
          have h2 := Int32.lt_iff_toInt_lt.mp h2
          rw [show (Int32.ofInt 99).toInt = 99 from by decide] at h2
          exact h2
        obtain ⟨k1, k2, k3⟩ := zyr_idle (p := p) (v1 := v1) (v2 := v2) (v3 := v3) (v4 := v4) (v5 := v5) (v8 := v8) (v9 := v9) (c + 1) i v6 Jr Lr i0 iv hW (by omega) h9
        rw [x125_114, if_neg h1, if_pos h2]
        exact ⟨k1.trans h6, (show Jc (p 48) 5 = Jr (p 4) 7 from zR_7 hR).trans k2.symm, (zq_79 hR hW.w).trans k3.symm⟩
      · rw [x125_114, x231_87, if_neg h1, if_neg h1, if_neg h2]
        have lt := z_lt h1
        have z := zpass (Lc := Lc) (Lr := Lr) hsq ht hQ X hR hW (by omega)
        have x6 : (x1 p (fun i => p (48 + i)) sp ln Jc Lc).1 (p 48) 6 = Jc (p 48) 6 := z6_1 X
        have e1 : (x1 p (fun i => p (48 + i)) sp ln Jc Lc).1 (p 49) 1 = (x190 p v1 Jr Lr).1 (p 4) 1 := zR_n z.1 (i := 1) (by omega)
        have D := zdr_l (v1 := v1) (v2 := v2) (v3 := v3) (v4 := v4) (v5 := v5) (v8 := v8) (v9 := v9) (v10 := i) (L := (x190 p v1 Jr Lr).2) X.hq (((x190 p v1 Jr Lr).1 (p 4) 1).toNatClampNeg) (Int32.ofInt 0) v6 (x1 p (fun i => p (48 + i)) sp ln Jc Lc).1 (x190 p v1 Jr Lr).1 (by decide) z.1 z.2.1 (h6.trans (congrArg Int32.toInt64 x6.symm))
        have ex : x81 (fun i => p (48 + i)) v4 (x1 p (fun i => p (48 + i)) sp ln Jc Lc).1 = x81_2 (fun i => p (48 + i)) v4 (((x190 p v1 Jr Lr).1 (p 4) 1).toNatClampNeg) (Int32.ofInt 0) (x1 p (fun i => p (48 + i)) sp ln Jc Lc).1 := (show x81 (fun i => p (48 + i)) v4 (x1 p (fun i => p (48 + i)) sp ln Jc Lc).1 = x81_2 (fun i => p (48 + i)) v4 (((x1 p (fun i => p (48 + i)) sp ln Jc Lc).1 (p 49) 1).toNatClampNeg) (Int32.ofInt 0) (x1 p (fun i => p (48 + i)) sp ln Jc Lc).1 from rfl).trans (congrArg (fun k => x81_2 (fun i => p (48 + i)) v4 k (Int32.ofInt 0) (x1 p (fun i => p (48 + i)) sp ln Jc Lc).1) (congrArg Int32.toNatClampNeg e1))
        rw [← ex] at D
        obtain ⟨D1, D2, D3, D4⟩ := D
        have day := D4 4 (by omega)
        have e4 := z.2.2.2
        have Q1 := zKp_Q X hsq z.2.2.1 hQ
        have Q2 := zRQ_ag (Jc' := x81 (fun i => p (48 + i)) v4 (x1 p (fun i => p (48 + i)) sp ln Jc Lc).1) (Jr' := (x231_101 p v1 v2 v3 v4 v5 v8 v9 i (x190 p v1 Jr Lr).2 (((x190 p v1 Jr Lr).1 (p 4) 1).toNatClampNeg) v6 (Int32.ofInt 0) (x190 p v1 Jr Lr).1).2) Q1 (x81_frJ (hsq 0 (by omega)) (hsq 13 (by omega))) (x231_101_frJ _ _ _ _ (X.hp 1 4 (by omega) (by omega) (by omega))) (x231_101_frJ _ _ _ _ (X.hp 2 4 (by omega) (by omega) (by omega))) (x231_101_frJ _ _ _ _ (X.hp 3 4 (by omega) (by omega) (by omega)))
        exact ih (i + Int32.ofInt 1) _ _ _ (x1 p (fun i => p (48 + i)) sp ln Jc Lc).2 (x190 p v1 Jr Lr).2 (zi_i h1 i0) (by rw [lx_inc h1]; omega) (lx_dec h1 hc) (by rw [day, lx_inc h1]; omega) D1 (by rw [day]; exact D2) D3 Q2
end
section
theorem zyrN_l {p : Nat → Nat} {v1 v2 v3 v4 v5 v8 v9 w6 w7 w9 : Int32} (ev : v1 = Int32.ofInt (-1)) (X : zX p (fun i => p (48 + i))) : ∀ (c : Nat) (i : Int32) (v6 : Int64) (Jc Jr : Nat → Nat → Int32) (Lr : Nat → Nat → Int64), 0 ≤ i.toInt → i.toInt ≤ v3.toInt → v3.toInt - i.toInt ≤ c → (Jr (p 4) 4).toInt + (v3.toInt - i.toInt) ≤ 900 → zR (fun i => p (48 + i)) Jc (Jr (p 4)) → zW (Jr (p 4)) (Jr (p 4) 4).toInt → v6 = (Jc (p 48) 6).toInt64 → zyE p (x125N_114 p v1 v2 v3 v4 v5 w6 w7 w9 c i Jc) (x231_87 p v1 v2 v3 v4 v5 v8 v9 c v6 i Jr Lr) := by
  intro c
  induction c with
  | zero =>
    intro i v6 Jc Jr Lr i0 iv hc h9 hR hW h6
    exact ⟨h6, zR_7 hR, zq_79 hR hW.w⟩
  | succ c ih =>
    intro i v6 Jc Jr Lr i0 iv hc h9 hR hW h6
    by_cases h1 : v3 ≤ i
    · rw [x125N_114, x231_87, if_pos h1, if_pos h1]
      exact ⟨h6, zR_7 hR, zq_79 hR hW.w⟩
    · by_cases h2 : Int32.ofInt 99 < Jc (p 48) 2
      · have e4 : Jc (p 48) 2 = Jr (p 4) 4 := zR_4 hR
        have d : 99 < (Jr (p 4) 4).toInt := by
          rw [e4] at h2
          have h2 := Int32.lt_iff_toInt_lt.mp h2
          rw [show (Int32.ofInt 99).toInt = 99 from by decide] at h2
          exact h2
        obtain ⟨k1, k2, k3⟩ := zyr_idle (p := p) (v1 := v1) (v2 := v2) (v3 := v3) (v4 := v4) (v5 := v5) (v8 := v8) (v9 := v9) (c + 1) i v6 Jr Lr i0 iv hW (by omega) h9
        rw [x125N_114, if_neg h1, if_pos h2]
        exact ⟨k1.trans h6, (show Jc (p 48) 5 = Jr (p 4) 7 from zR_7 hR).trans k2.symm, (zq_79 hR hW.w).trans k3.symm⟩
      · rw [x125N_114, x231_87, if_neg h1, if_neg h1, if_neg h2]
        have lt := z_lt h1
        have z := zpassN (Lr := Lr) X hR hW (by omega)
        rw [← ev] at z
        have x6 : (x1N p (fun i => p (48 + i)) Jc) (p 48) 6 = Jc (p 48) 6 := z6_1N X
        have e1 : (x1N p (fun i => p (48 + i)) Jc) (p 49) 1 = (x190 p v1 Jr Lr).1 (p 4) 1 := zR_n z.1 (i := 1) (by omega)
        have D := zdr_l (v1 := v1) (v2 := v2) (v3 := v3) (v4 := v4) (v5 := v5) (v8 := v8) (v9 := v9) (v10 := i) (L := (x190 p v1 Jr Lr).2) X.hq (((x190 p v1 Jr Lr).1 (p 4) 1).toNatClampNeg) (Int32.ofInt 0) v6 (x1N p (fun i => p (48 + i)) Jc) (x190 p v1 Jr Lr).1 (by decide) z.1 z.2.1 (h6.trans (congrArg Int32.toInt64 x6.symm))
        have ex : x81 (fun i => p (48 + i)) v4 (x1N p (fun i => p (48 + i)) Jc) = x81_2 (fun i => p (48 + i)) v4 (((x190 p v1 Jr Lr).1 (p 4) 1).toNatClampNeg) (Int32.ofInt 0) (x1N p (fun i => p (48 + i)) Jc) := (show x81 (fun i => p (48 + i)) v4 (x1N p (fun i => p (48 + i)) Jc) = x81_2 (fun i => p (48 + i)) v4 (((x1N p (fun i => p (48 + i)) Jc) (p 49) 1).toNatClampNeg) (Int32.ofInt 0) (x1N p (fun i => p (48 + i)) Jc) from rfl).trans (congrArg (fun k => x81_2 (fun i => p (48 + i)) v4 k (Int32.ofInt 0) (x1N p (fun i => p (48 + i)) Jc)) (congrArg Int32.toNatClampNeg e1))
        rw [← ex] at D
        obtain ⟨D1, D2, D3, D4⟩ := D
        have day := D4 4 (by omega)
        have e4 := z.2.2.2
        exact ih (i + Int32.ofInt 1) _ _ _ (x190 p v1 Jr Lr).2 (zi_i h1 i0) (by rw [lx_inc h1]; omega) (lx_dec h1 hc) (by rw [day, lx_inc h1]; omega) D1 (by rw [day]; exact D2) D3
end
section
/-- bits of a set of ships -/
theorem zb_t : ∀ n, n < 256 → x236 (nI n) = x214 (nI n) := by decide +kernel
theorem zb_or : ∀ n, n < 64 → ∀ i, i < 6 → nI n ||| (Int32.ofInt 1 <<< (nI i &&& 31)) = nI (n ||| (1 <<< i)) ∧ n ||| (1 <<< i) < 64 := by decide +kernel
theorem zb_228 {p : Nat → Nat} {J : Nat → Nat → Int32} (hW : xr_W (J (p 4))) : ∃ n, n < 64 ∧ x228 p J = nI n := by
  unfold x228
  refine x228_4_rule (I := fun _ v1 v2 => (∃ n, n < 64 ∧ v1 = nI n) ∧ 0 ≤ v2.toInt) (Q := fun r => ∃ n, n < 64 ∧ r = nI n) ?_ ?_ _ _ _ ⟨⟨0, by omega, rfl⟩, by decide⟩
  · intro v1 v2 h
    exact h.1
  · intro c v1 v2 h
    obtain ⟨⟨n, hn, e⟩, h0⟩ := h
    split
    · exact ⟨n, hn, e⟩
    · rename_i h1
      have l := xi_l5 hW h1 h0
      have tn := z_tn h0
      have ei : v2 = nI v2.toNatClampNeg := Int32.toInt_inj.mp (by rw [nI_toInt (by omega)]; exact tn)
      have lt : v2.toNatClampNeg < 6 := by omega
      have t := zb_or n hn _ lt
      rw [← ei] at t
      split
      · exact ⟨⟨n ||| (1 <<< v2.toNatClampNeg), t.2, by rw [e]; exact t.1⟩, xi_nn h1 h0⟩
      · exact ⟨⟨n, hn, by rw [e, z_or0]⟩, xi_nn h1 h0⟩
theorem zb_eq {p : Nat → Nat} {J : Nat → Nat → Int32} (hW : xr_W (J (p 4))) : x236 (x228 p J) = x214 (x228 p J) := by
  obtain ⟨n, hn, e⟩ := zb_228 hW
  rw [e]
  exact zb_t n (by omega)
end
