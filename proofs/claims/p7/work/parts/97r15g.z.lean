/-- her first sound plank -/
theorem zq_82l {q p : Nat → Nat} {Jc Jr : Nat → Nat → Int32} {s : Int32} (hR : zR q Jc (Jr (p 4))) (hW : xr_W (Jr (p 4))) (hl : zl (Jr (p 4)) s) : ∀ (c : Nat) (i : Int32), 0 ≤ i.toInt → x82_2 q s Jc c i = x232_2 p s Jr c i := by
  intro c
  induction c with
  | zero => intro i h; rfl
  | succ c ih =>
    intro i h
    rw [x82_2, x232_2, zR_n hR (by omega)]
    by_cases h1 : Jr (p 4) 2 ≤ i
    · rw [if_pos h1, if_pos h1]
    · rw [if_neg h1, if_neg h1]
      obtain ⟨hn, hi, c0, c1, c2, c3, c4, r0, r1, r2, r3, r4⟩ := zP hR hW h h1
      rw [z_in r1 r3 r4 (hl _ hn), c1, c3, ih _ (zi_i h1 h)]
      by_cases h3 : Jr (p 4) (52 + 5 * i.toNatClampNeg + 3) = s
      · rw [if_pos h3, if_pos h3]
        by_cases h2 : Jr (p 4) (52 + 5 * i.toNatClampNeg + 1) ≤ 0
        · rw [if_pos h2, if_pos h2, if_pos rfl]
        · rw [if_neg h2, if_neg h2, if_neg (show ¬ (1 : Int32) = 0 from by decide)]
      · rw [if_neg h3, if_neg h3, if_pos rfl]
theorem zq_82 {q p : Nat → Nat} {Jc Jr : Nat → Nat → Int32} {s : Int32} (hR : zR q Jc (Jr (p 4))) (hW : xr_W (Jr (p 4))) (hl : zl (Jr (p 4)) s) : x82 q s Jc = x232 p s Jr := by
  unfold x82 x232
  rw [zR_n hR (by omega)]
  exact zq_82l hR hW hl _ _ (by decide)
theorem xw_232b {p : Nat → Nat} {s : Int32} {J : Nat → Nat → Int32} : x232 p s J = Int32.ofInt (-1) ∨ (0 ≤ (x232 p s J).toInt ∧ ¬ J (p 4) 2 ≤ x232 p s J) := by
  unfold x232
  refine x232_2_rule (I := fun _ v2 => 0 ≤ v2.toInt) (Q := fun r => r = Int32.ofInt (-1) ∨ (0 ≤ r.toInt ∧ ¬ J (p 4) 2 ≤ r)) ?_ ?_ _ _ (by decide)
  · intro v2 h
    exact Or.inl rfl
  · intro c v2 h
    by_cases h1 : J (p 4) 2 ≤ v2
    · rw [if_pos h1]
      exact Or.inl rfl
    · rw [if_neg h1]
      by_cases h2 : x171 p v2 s J = 0
      · rw [if_pos h2]
        exact xi_nn h1 h
      · rw [if_neg h2]
        exact Or.inr ⟨h, h1⟩
