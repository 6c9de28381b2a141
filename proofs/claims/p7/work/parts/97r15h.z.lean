/-- the draws of one day -/
theorem zdr_l {p q : Nat → Nat} {v1 v2 v3 v4 v5 v8 v9 v10 : Int32} {L : Nat → Nat → Int64} {b : Int} (hq : zq q) : ∀ (c : Nat) (i : Int32) (v6 : Int64) (Jc Jr : Nat → Nat → Int32), 0 ≤ i.toInt → zR q Jc (Jr (p 4)) → zW (Jr (p 4)) b → v6 = (Jc (q 0) 6).toInt64 → zR q (x81_2 q v4 c i Jc) ((x231_101 p v1 v2 v3 v4 v5 v8 v9 v10 L c v6 i Jr).2 (p 4)) ∧ zW ((x231_101 p v1 v2 v3 v4 v5 v8 v9 v10 L c v6 i Jr).2 (p 4)) b ∧ (x231_101 p v1 v2 v3 v4 v5 v8 v9 v10 L c v6 i Jr).1 = (x81_2 q v4 c i Jc (q 0) 6).toInt64 ∧ ∀ j, j < 10 → (x231_101 p v1 v2 v3 v4 v5 v8 v9 v10 L c v6 i Jr).2 (p 4) j = Jr (p 4) j := by
  intro c
  induction c with
  | zero =>
    intro i v6 Jc Jr h hR hW h6
    exact ⟨hR, hW, h6, fun _ _ => rfl⟩
  | succ c ih =>
    intro i v6 Jc Jr h hR hW h6
    have bb := zn_b hW.w
    have e1 : Jc (q 1) 1 = Jr (p 4) 1 := zR_n hR (by omega)
    rw [x81_2, x231_101]
    by_cases h1 : Jr (p 4) 1 ≤ i
    · rw [if_pos (show Jc (q 1) 1 ≤ i from by rw [e1]; exact h1), if_pos h1]
      exact ⟨hR, hW, h6, fun _ _ => rfl⟩
    · rw [if_neg (show ¬ Jc (q 1) 1 ≤ i from by rw [e1]; exact h1), if_neg h1]
      have S := zS hR hW.w h (z_lt h1)
      by_cases h2 : Jr (p 4) (10 + 7 * i.toNatClampNeg + 4) = Int32.ofInt 1
      · rw [if_pos (show Jc (q 10) i.toNatClampNeg = Int32.ofInt 1 from by rw [S.2.2.1]; exact h2), if_pos (show x169 p i (Int32.ofInt 4) Jr = Int32.ofInt 1 from by rw [S.2.2.2.2.2.1]; exact h2)]
        have hl : zl (Jr (p 4)) i := zl_of hW (fun _ c2 => by rw [h2] at c2; exact absurd c2 (by decide))
        rw [zq_82 hR hW.w hl]
        rcases xw_232b (p := p) (s := i) (J := Jr) with m | ⟨m0, m1⟩
        · rw [if_pos m, if_neg (show ¬ 0 ≤ x232 p i Jr from by rw [m]; decide)]
          exact ih _ _ _ _ (zi_i h1 h) hR hW h6
        · rw [if_neg (show ¬ x232 p i Jr = Int32.ofInt (-1) from fun e => by rw [e] at m0; exact absurd m0 (by decide)), if_pos (show 0 ≤ x232 p i Jr from Int32.le_iff_toInt_le.mpr m0)]
          subst h6
          have dz : ((Jc (q 0) 6).toInt64 * 1103515245 + 12345) - ((Jc (q 0) 6).toInt64 * 1103515245 + 12345) / 2147483648 * 2147483648 = zdx (Jc (q 0) 6) := rfl
          rw [dz]
          have R6 : zR q (nt_u Jc (q 0) 6 (zdx (Jc (q 0) 6)).toInt32) (Jr (p 4)) := zR_x6 hq hR
          by_cases h3 : v4 ≤ ((zdx (Jc (q 0) 6)).toInt32 / Int32.ofInt 65536) - ((zdx (Jc (q 0) 6)).toInt32 / Int32.ofInt 65536) / Int32.ofInt 100 * Int32.ofInt 100
          · rw [if_pos h3, if_pos (zdx_p.mp h3)]
            exact ih _ _ _ _ (zi_i h1 h) R6 hW (by rw [me_us, zdx_n])
          · rw [if_neg h3, if_neg (fun k => h3 (zdx_p.mpr k))]
            obtain ⟨hn, hi, c0, c1, c2, c3, c4, r0, r1, r2, r3, r4⟩ := zP hR hW.w m0 m1
            have n24 : (x232 p i Jr).toNatClampNeg < 24 := by omega
            rw [c1, r1]
            by_cases h4 : Jr (p 4) (52 + 5 * (x232 p i Jr).toNatClampNeg + 1) ≤ Int32.ofInt 1
            · rw [if_pos h4, if_pos h4]
              exact ih _ _ _ _ (zi_i h1 h) R6 hW (by rw [me_us, zdx_n])
            · rw [if_neg h4, if_neg h4, zx_p1 m0 (by omega)]
              have ro := hW.d.ro _ hn
              have g4 : ¬ (Jr (p 4) (52 + 5 * (x232 p i Jr).toNatClampNeg + 1)).toInt ≤ 1 := fun k => h4 (Int32.le_iff_toInt_le.mpr (by rw [show (Int32.ofInt 1).toInt = 1 from by decide]; exact k))
              have sb : (Jr (p 4) (52 + 5 * (x232 p i Jr).toNatClampNeg + 1) - Int32.ofInt 1).toInt = (Jr (p 4) (52 + 5 * (x232 p i Jr).toNatClampNeg + 1)).toInt - 1 := by
                rw [Int32.toInt_sub, show (Int32.ofInt 1).toInt = 1 from by decide, Int.bmod_eq_of_le (by omega) (by omega)]
              have R7 := zR_up hq R6 (j := 52 + 5 * (x232 p i Jr).toNatClampNeg + 1) (v := Jr (p 4) (52 + 5 * (x232 p i Jr).toNatClampNeg + 1) - Int32.ofInt 1) (by omega) (by omega) (zc_p1 _ n24)
              rw [← zu_r] at R7
              have W7 : zW (nt_u Jr (p 4) (52 + 5 * (x232 p i Jr).toNatClampNeg + 1) (Jr (p 4) (52 + 5 * (x232 p i Jr).toNatClampNeg + 1) - Int32.ofInt 1) (p 4)) b := zW_rot hW n24 (xr_up hW.w (xr_any (xr_bp (by omega) (by omega) (by omega) (by omega)))) (by rw [me_us, sb]; omega) (fun j hj => me_uk hj)
              have z := ih _ (zdx (Jc (q 0) 6)) _ _ (zi_i h1 h) R7 W7 (by rw [me_uj (hq 0 13 (by omega) (by omega) (by decide)), me_us, zdx_n])
              exact ⟨z.1, z.2.1, z.2.2.1, fun j hj => (z.2.2.2 j hj).trans (me_uk (by omega))⟩
      · rw [if_neg (show ¬ Jc (q 10) i.toNatClampNeg = Int32.ofInt 1 from by rw [S.2.2.1]; exact h2), if_neg (show ¬ x169 p i (Int32.ofInt 4) Jr = Int32.ofInt 1 from by rw [S.2.2.2.2.2.1]; exact h2), if_pos (show Int32.ofInt (-1) = Int32.ofInt (-1) from rfl)]
        exact ih _ _ _ _ (zi_i h1 h) hR hW h6
/-- no draws when all are home -/
theorem zdr_0 {p : Nat → Nat} {v1 v2 v3 v4 v5 v8 v9 v10 : Int32} {L : Nat → Nat → Int64} {b : Int} {J : Nat → Nat → Int32} (hW : zW (J (p 4)) b) (hb : 100 ≤ b) : ∀ (c : Nat) (i : Int32) (v6 : Int64), 0 ≤ i.toInt → x231_101 p v1 v2 v3 v4 v5 v8 v9 v10 L c v6 i J = (v6, J) := by
  have bb := zn_b hW.w
  intro c
  induction c with
  | zero => intro i v6 h; rfl
  | succ c ih =>
    intro i v6 h
    rw [x231_101]
    by_cases h1 : J (p 4) 1 ≤ i
    · rw [if_pos h1]
    · have x := zx bb.2.2.2.2.2.1 h h1
      rw [if_neg h1, show x169 p i (Int32.ofInt 4) J = _ from zx_s (k := 4) h (by omega) (by omega), if_neg]
      · exact ih _ _ (zi_i h1 h)
      · intro c1
        obtain ⟨v, hv, ev, _, _, eb⟩ := hW.c.on _ x.1 c1
        have vo := hW.a.vo v hv
        omega
theorem zyr_idle {p : Nat → Nat} {v1 v2 v3 v4 v5 v8 v9 : Int32} : ∀ (c : Nat) (i : Int32) (v6 : Int64) (J : Nat → Nat → Int32) (L : Nat → Nat → Int64), 0 ≤ i.toInt → i.toInt ≤ v3.toInt → zW (J (p 4)) (J (p 4) 4).toInt → 100 ≤ (J (p 4) 4).toInt → (J (p 4) 4).toInt + (v3.toInt - i.toInt) ≤ 900 → (x231_87 p v1 v2 v3 v4 v5 v8 v9 c v6 i J L).1 = v6 ∧ (x231_87 p v1 v2 v3 v4 v5 v8 v9 c v6 i J L).2.1 (p 4) 7 = J (p 4) 7 ∧ x228 p (x231_87 p v1 v2 v3 v4 v5 v8 v9 c v6 i J L).2.1 = x228 p J := by
  intro c
  induction c with
  | zero => intro i v6 J L h iv hW hd h9; exact ⟨rfl, rfl, rfl⟩
  | succ c ih =>
    intro i v6 J L h iv hW hd h9
    rw [x231_87]
    by_cases h1 : v3 ≤ i
    · rw [if_pos h1]
      exact ⟨rfl, rfl, rfl⟩
    · rw [if_neg h1]
      have lt := z_lt h1
      obtain ⟨_, w2, w3, w4⟩ := zidle (v1 := v1) (L := L) hW hd (by omega)
      rw [zdr_0 w2 (by omega) _ _ _ (by decide)]
      have z := ih (i + Int32.ofInt 1) v6 (x190 p v1 J L).1 (x190 p v1 J L).2 (zi_i h1 h) (by rw [lx_inc h1]; omega) w2 (by omega) (by rw [lx_inc h1, w3]; omega)
      exact ⟨z.1, z.2.1.trans (w4 7 (by decide) (by decide)), z.2.2.trans (z228_ag hW.w w4)⟩
/-- what is asked after so many days -/
def zyE (p : Nat → Nat) (C : Nat → Nat → Int32) (R : Int64 × (Nat → Nat → Int32) × (Nat → Nat → Int64)) : Prop := R.1 = (C (p 48) 6).toInt64 ∧ C (p 48) 5 = R.2.1 (p 4) 7 ∧ x79 (fun i => p (48 + i)) C = x228 p R.2.1
