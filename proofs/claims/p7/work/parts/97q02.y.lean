/-! what a yard's text says, its numbers -/
abbrev lb_C : Type := Nat → Nat → Int32
theorem lb_ix1 {n : Nat} (h : n < 1000) : (nI n).toNatClampNeg = n := by
  show (nI n).toInt.toNat = n
  rw [nI_toInt (by omega)]; omega
theorem lb_ixm {a b c n : Nat} (ha : a < 1000) (hb : b < 100) (hc : c < 1000) : ((nI b) * (nI a) + (nI c)).toNatClampNeg = b * a + c := by
  have hba : b * a < 100000 := by
    have := Nat.mul_le_mul (show b ≤ 99 by omega) (show a ≤ 999 by omega); omega
  show ((nI b) * (nI a) + (nI c)).toInt.toNat = _
  rw [Int32.toInt_add, Int32.toInt_mul, nI_toInt (by omega), nI_toInt (by omega), nI_toInt (by omega)]
  rw [show (b : Int) * (a : Int) = ((b * a : Nat) : Int) from by push_cast; rfl]
  have e1 : ((b * a : Nat) : Int).bmod (2 ^ 32) = ((b * a : Nat) : Int) := Int.bmod_eq_of_le (by omega) (by omega)
  rw [e1, Int.bmod_eq_of_le (by omega) (by omega)]
  omega
theorem lb_ix4 {s i : Nat} (hs : s ≤ 6) (hi : i ≤ 4) : ((nI s) * (Int32.ofInt 4) + (nI i)).toNatClampNeg = 4 * s + i := by
  rw [Int32.mul_comm]; exact lb_ixm (n := 0) (b := 4) (by omega) (by omega) (by omega)
theorem lb_ix4' {s i : Nat} (hs : s ≤ 8) (hi : i ≤ 4) : ((Int32.ofInt 4) * (nI s) + (nI i)).toNatClampNeg = 4 * s + i := lb_ixm (n := 0) (b := 4) (by omega) (by omega) (by omega)
theorem lb_ix40 {s : Nat} (hs : s ≤ 8) : ((Int32.ofInt 4) * (nI s)).toNatClampNeg = 4 * s + 0 := by
  have h := lb_ixm (n := 0) (a := s) (b := 4) (c := 0) (by omega) (by omega) (by omega)
  rw [show nI 0 = 0 from rfl, Int32.add_zero] at h; exact h
theorem lb_ix3' {s i : Nat} (hs : s ≤ 24) (hi : i ≤ 4) : ((Int32.ofInt 3) * (nI s) + (nI i)).toNatClampNeg = 3 * s + i := lb_ixm (n := 0) (b := 3) (by omega) (by omega) (by omega)
theorem lb_ix30 {s : Nat} (hs : s ≤ 24) : ((Int32.ofInt 3) * (nI s)).toNatClampNeg = 3 * s + 0 := by
  have h := lb_ixm (n := 0) (a := s) (b := 3) (c := 0) (by omega) (by omega) (by omega)
  rw [show nI 0 = 0 from rfl, Int32.add_zero] at h; exact h
def lb_shC (f : Nat → Int32) (t s : Nat) : Nat → Nat → Nat → Nat → lb_C → lb_C → Prop
  | 0, _, p, q, C, D => q = p ∧ D = C
  | j + 1, i, p, q, C, D => ∃ q1 x, lb_nu f t p (Int32.ofInt 0) (Int32.ofInt 5) (.inr (q1, x)) ∧ lb_shC f t s j (i + 1) q1 q (nt_u C 5 (4 * s + i) x) D
def lb_plC (f : Nat → Int32) (t k s p n q : Nat) (C D : lb_C) : Prop := ∃ q1 q2 x1 x2 x3, lb_nu f t p (Int32.ofInt 0) (nI k - Int32.ofInt 1) (.inr (q1, x1)) ∧ lb_nu f t q1 (Int32.ofInt 1) (Int32.ofInt 99) (.inr (q2, x2)) ∧ lb_nu f t q2 (Int32.ofInt 0) (nI s - Int32.ofInt 1) (.inr (q, x3)) ∧ D = nt_u (nt_u (nt_u C 6 n x1) 7 n x2) 8 n x3
def lb_voC (f : Nat → Int32) (t s p n q : Nat) (C D : lb_C) : Prop := ∃ q1 q2 q3 x1 x2 x3 x4, lb_nu f t p (Int32.ofInt 0) (nI s - Int32.ofInt 1) (.inr (q1, x1)) ∧ lb_nu f t q1 (Int32.ofInt 0) (Int32.ofInt 98) (.inr (q2, x2)) ∧ lb_nu f t q2 (x2 + Int32.ofInt 1) (Int32.ofInt 99) (.inr (q3, x3)) ∧ lb_nu f t q3 (Int32.ofInt 0) (Int32.ofInt 999) (.inr (q, x4)) ∧ D = nt_u (nt_u (nt_u (nt_u C 9 n x1) 10 n x2) 11 n x3) 12 n x4
/-- what a clause writes: from q (behind its word) to q' -/
def lb_paC (f : Nat → Int32) (t : Nat) (u : Nat × Nat × Nat × Nat × Nat) (q q' : Nat) : Nat → lb_C → lb_C → Prop
  | 0, C, D => D = C
  | 1, C, D => lb_shC f t u.2.1 u.1 0 q q' C D
  | 2, C, D => lb_plC f t u.1 u.2.1 q u.2.2.1 q' C D
  | 3, C, D => lb_voC f t u.2.1 q u.2.2.2.1 q' C D
  | _ + 4, C, D => D = C
def lb_ycC (f : Nat → Int32) (t : Nat) (u u' : lb_U) (C D : lb_C) : Prop := ∃ w, w < 5 ∧ lb_yw f t u.1 w ∧ (∀ w', w' < w → ¬ lb_yw f t u.1 w') ∧ lb_paC f t u.2 (lb_s f t (u.1 + (lb_W (nt_sp + 1 + w)).length)) u'.1 w C D
def lb_yaC (f : Nat → Int32) (t : Nat) : Nat → Nat → lb_U → lb_U → lb_C → lb_C → Prop
  | 0, _, _, _, _, _ => False
  | k + 1, i, u, v, C, D => ∃ u1 C1, lb_yc f t i u (.inr u1) ∧ lb_ycC f t u u1 C C1 ∧ ((lb_g f t u1.1 = Int32.ofInt 59 ∧ lb_yaC f t k (i + 1) (lb_s f t (u1.1 + 1), u1.2) v C1 D) ∨ (lb_g f t u1.1 = Int32.ofInt (-1) ∧ v = u1 ∧ D = C1))
