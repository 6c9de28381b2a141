/-! days: both sides -/
theorem zdays_l {p : Nat → Nat} {v1 v2 : Int32} {sp ln T : Nat} (hsq : ∀ i, i < 17 → sp ≠ p (31 + i)) (ht : v1.toInt = (T : Nat)) (X : zX p (fun i => p (31 + i))) : ∀ (c : Nat) (i : Int32) (Jc Jr : Nat → Nat → Int32) (Lc Lr : Nat → Nat → Int64), 0 ≤ i.toInt → v2.toInt - i.toInt ≤ c → (Jr (p 4) 4).toInt + (v2.toInt - i.toInt) ≤ 200 → i.toInt ≤ v2.toInt → zR (fun i => p (31 + i)) Jc (Jr (p 4)) → zW (Jr (p 4)) (Jr (p 4) 4).toInt → zRQ p sp ln T Jc Jr → (x110_48 p sp ln v1 v2 c i Jc Lc).1 = (x186_38 p v1 v2 c i Jr Lr).1 ∧ zR (fun i => p (31 + i)) (x110_48 p sp ln v1 v2 c i Jc Lc).2.1 ((x186_38 p v1 v2 c i Jr Lr).2.1 (p 4)) ∧ zW ((x186_38 p v1 v2 c i Jr Lr).2.1 (p 4)) ((x186_38 p v1 v2 c i Jr Lr).2.1 (p 4) 4).toInt ∧ ((x186_38 p v1 v2 c i Jr Lr).2.1 (p 4) 4).toInt ≤ 200 ∧ zKp p (fun i => p (31 + i)) sp Jc Jr (x110_48 p sp ln v1 v2 c i Jc Lc).2.1 (x186_38 p v1 v2 c i Jr Lr).2.1 := by
  intro c
  induction c with
  | zero =>
    intro i Jc Jr Lc Lr i0 hc h2 hi hR hW hQ
    exact ⟨zR_4 hR, hR, hW, by show (Jr (p 4) 4).toInt ≤ 200; omega, zKp_r⟩
  | succ c ih =>
    intro i Jc Jr Lc Lr i0 hc h2 hi hR hW hQ
    rw [x110_48, x186_38]
    by_cases h1 : v2 ≤ i
    · rw [if_pos h1, if_pos h1]
      exact ⟨zR_4 hR, hR, hW, by show (Jr (p 4) 4).toInt ≤ 200; omega, zKp_r⟩
    · rw [if_neg h1, if_neg h1]
      have lt := z_lt h1
      have z := zpass (Lc := Lc) (Lr := Lr) hsq ht hQ X hR hW (by omega)
      have e4 := z.2.2.2
      have g := ih (i + Int32.ofInt 1) _ _ (x1 p (fun i => p (31 + i)) sp ln Jc Lc).2 (x190 p v1 Jr Lr).2 (zi_i h1 i0) (lx_dec h1 hc) (by rw [e4, lx_inc h1]; omega) (by rw [lx_inc h1]; omega) z.1 z.2.1 (zKp_Q X hsq z.2.2.1 hQ)
      exact ⟨g.1, g.2.1, g.2.2.1, g.2.2.2.1, zKp_t z.2.2.1 g.2.2.2.2⟩
theorem zdaysN_l {p : Nat → Nat} {v1 v2 : Int32} (X : zX p (fun i => p (31 + i))) : ∀ (c : Nat) (i : Int32) (Jc Jr : Nat → Nat → Int32) (Lr : Nat → Nat → Int64), 0 ≤ i.toInt → v2.toInt - i.toInt ≤ c → (Jr (p 4) 4).toInt + (v2.toInt - i.toInt) ≤ 200 → i.toInt ≤ v2.toInt → zR (fun i => p (31 + i)) Jc (Jr (p 4)) → zW (Jr (p 4)) (Jr (p 4) 4).toInt → (x110N_48 p v1 v2 c i Jc).1 = (x186_38 p (Int32.ofInt (-1)) v2 c i Jr Lr).1 ∧ zR (fun i => p (31 + i)) (x110N_48 p v1 v2 c i Jc).2 ((x186_38 p (Int32.ofInt (-1)) v2 c i Jr Lr).2.1 (p 4)) ∧ zW ((x186_38 p (Int32.ofInt (-1)) v2 c i Jr Lr).2.1 (p 4)) ((x186_38 p (Int32.ofInt (-1)) v2 c i Jr Lr).2.1 (p 4) 4).toInt ∧ ((x186_38 p (Int32.ofInt (-1)) v2 c i Jr Lr).2.1 (p 4) 4).toInt ≤ 200 ∧ zKp p (fun i => p (31 + i)) 0 Jc Jr (x110N_48 p v1 v2 c i Jc).2 (x186_38 p (Int32.ofInt (-1)) v2 c i Jr Lr).2.1 := by
  intro c
  induction c with
  | zero =>
    intro i Jc Jr Lr i0 hc h2 hi hR hW
    exact ⟨zR_4 hR, hR, hW, by show (Jr (p 4) 4).toInt ≤ 200; omega, zKp_r⟩
  | succ c ih =>
    intro i Jc Jr Lr i0 hc h2 hi hR hW
    rw [x110N_48, x186_38]
    by_cases h1 : v2 ≤ i
    · rw [if_pos h1, if_pos h1]
      exact ⟨zR_4 hR, hR, hW, by show (Jr (p 4) 4).toInt ≤ 200; omega, zKp_r⟩
    · rw [if_neg h1, if_neg h1]
      have lt := z_lt h1
      have z := zpassN (Lr := Lr) X hR hW (by omega)
      have e4 := z.2.2.2
      have g := ih (i + Int32.ofInt 1) _ _ (x190 p (Int32.ofInt (-1)) Jr Lr).2 (zi_i h1 i0) (lx_dec h1 hc) (by rw [e4, lx_inc h1]; omega) (by rw [lx_inc h1]; omega) z.1 z.2.1
      exact ⟨g.1, g.2.1, g.2.2.1, g.2.2.2.1, zKp_t z.2.2.1 g.2.2.2.2⟩
