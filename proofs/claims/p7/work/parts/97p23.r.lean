/-! rows kept and put back; days and ahead as calls -/
theorem zkp_l {p : Nat → Nat} (hn : p 4 ≠ p 7) : ∀ (c : Nat) (i : Int32) (J : Nat → Nat → Int32), 0 ≤ i.toInt → 212 - i.toInt ≤ c → (∀ j, i.toNatClampNeg ≤ j → j < 212 → x227_2 p c i J (p 7) j = J (p 4) j) ∧ (∀ j, j < i.toNatClampNeg → x227_2 p c i J (p 7) j = J (p 7) j) := by
  intro c
  induction c with
  | zero =>
    intro i J h hc
    have t := z_tn h
    exact ⟨fun j a b => by omega, fun j a => rfl⟩
  | succ c ih =>
    intro i J h hc
    have t := z_tn h
    rw [x227_2]
    by_cases h1 : Int32.ofInt 212 ≤ i
    · rw [if_pos h1]
      have h1 := z_ge.mp h1
      rw [show (Int32.ofInt 212).toInt = 212 from by decide] at h1
      exact ⟨fun j a b => by omega, fun j a => rfl⟩
    · rw [if_neg h1]
      have l := z_lt h1
      rw [show (Int32.ofInt 212).toInt = 212 from by decide] at l
      have hc' : (Int32.ofInt 212).toInt - i.toInt ≤ (c + 1 : Nat) := by
        rw [show (Int32.ofInt 212).toInt = 212 from by decide]
        exact hc
      have d := lx_dec h1 hc'
      rw [show (Int32.ofInt 212).toInt = 212 from by decide] at d
      have z := ih (i + Int32.ofInt 1) (nt_u J (p 7) i.toNatClampNeg (J (p 4) i.toNatClampNeg)) (xi_nn h1 h) d
      have i1 : (i + Int32.ofInt 1).toNatClampNeg = i.toNatClampNeg + 1 := by
        rw [zn_t, zn_t, lx_inc h1]
        omega
      rw [i1] at z
      refine ⟨fun j a b => ?_, fun j a => ?_⟩
      · by_cases e : j = i.toNatClampNeg
        · rw [e, z.2 _ (by omega), me_us]
        · rw [z.1 j (by omega) b, me_uo hn]
      · rw [z.2 j (by omega), me_uk (by omega)]
theorem zkp {p : Nat → Nat} {J : Nat → Nat → Int32} (hn : p 4 ≠ p 7) {j : Nat} (hj : j < 212) : x227 p J (p 7) j = J (p 4) j := (zkp_l hn ((Int32.ofInt 212).toNatClampNeg) (Int32.ofInt 0) J (by decide) (by decide)).1 j (Nat.zero_le _) hj
theorem zpb_l {p : Nat → Nat} (hn : p 7 ≠ p 4) : ∀ (c : Nat) (i : Int32) (J : Nat → Nat → Int32), 0 ≤ i.toInt → 212 - i.toInt ≤ c → (∀ j, i.toNatClampNeg ≤ j → j < 212 → x229_2 p c i J (p 4) j = J (p 7) j) ∧ (∀ j, j < i.toNatClampNeg ∨ 212 ≤ j → x229_2 p c i J (p 4) j = J (p 4) j) := by
  intro c
  induction c with
  | zero =>
    intro i J h hc
    have t := z_tn h
    exact ⟨fun j a b => by omega, fun j a => rfl⟩
  | succ c ih =>
    intro i J h hc
    have t := z_tn h
    rw [x229_2]
    by_cases h1 : Int32.ofInt 212 ≤ i
    · rw [if_pos h1]
      have h1 := z_ge.mp h1
      rw [show (Int32.ofInt 212).toInt = 212 from by decide] at h1
      exact ⟨fun j a b => by omega, fun j a => rfl⟩
    · rw [if_neg h1]
      have l := z_lt h1
      rw [show (Int32.ofInt 212).toInt = 212 from by decide] at l
      have hc' : (Int32.ofInt 212).toInt - i.toInt ≤ (c + 1 : Nat) := by
        rw [show (Int32.ofInt 212).toInt = 212 from by decide]
        exact hc
      have d := lx_dec h1 hc'
      rw [show (Int32.ofInt 212).toInt = 212 from by decide] at d
      have z := ih (i + Int32.ofInt 1) (nt_u J (p 4) i.toNatClampNeg (J (p 7) i.toNatClampNeg)) (xi_nn h1 h) d
      have i1 : (i + Int32.ofInt 1).toNatClampNeg = i.toNatClampNeg + 1 := by
        rw [zn_t, zn_t, lx_inc h1]
        omega
      rw [i1] at z
      refine ⟨fun j a b => ?_, fun j a => ?_⟩
      · by_cases e : j = i.toNatClampNeg
        · rw [e, z.2 _ (by omega), me_us]
        · rw [z.1 j (by omega) b, me_uo hn]
      · rw [z.2 j (by omega), me_uk (by omega)]
theorem zpb {p : Nat → Nat} {J : Nat → Nat → Int32} (hn : p 7 ≠ p 4) : (∀ j, j < 212 → x229 p J (p 4) j = J (p 7) j) ∧ (∀ j, 212 ≤ j → x229 p J (p 4) j = J (p 4) j) := by
  have z := zpb_l hn ((Int32.ofInt 212).toNatClampNeg) (Int32.ofInt 0) J (by decide) (by decide)
  exact ⟨fun j hj => z.1 j (Nat.zero_le _) hj, fun j hj => z.2 j (Or.inr hj)⟩
/-- there is a yard, and the rule -/
theorem zmay {q p : Nat → Nat} {Jc Jr : Nat → Nat → Int32} {v1 : Int32} (hR : zR q Jc (Jr (p 4))) (hW : xr_W (Jr (p 4))) (h4 : Jc (p 16) 4 = Jr (p 0) 2) (h0 : 0 ≤ (Jr (p 0) 2).toInt) : (¬ Jc (q 0) 1 = 0 ∧ ¬ x111 p v1 Jc = 0) ↔ ¬ x187 p v1 Jr = 0 := by
  have t := z_told hR hW
  have m1 : (Int32.ofInt (-1)).toInt = -1 := xi_m1
  unfold x111 x187
  rw [h4]
  by_cases a : x188 p Jr = 0
  · rw [if_pos a]
    exact ⟨fun c => absurd (t.mpr a) c.1, fun c => absurd rfl c⟩
  · rw [if_neg a]
    have ta : ¬ Jc (q 0) 1 = 0 := fun c => a (t.mp c)
    by_cases b : v1 = Int32.ofInt (-1)
    · have n1 : ¬ v1 < Int32.ofInt (-1) := by rw [b]; decide
      have n2 : ¬ Jr (p 0) 2 ≤ v1 := fun c => by
        have c := z_ge.mp c
        rw [b, m1] at c
        omega
      rw [if_pos b, if_neg n1, if_neg n2]
      exact ⟨fun _ => by decide, fun _ => ⟨ta, by decide⟩⟩
    · rw [if_neg b]
      unfold x189
      by_cases c : v1 < 0
      · rw [if_pos c, if_pos (show Int32.ofInt 0 = 0 from rfl)]
        have n1 : v1 < Int32.ofInt (-1) := by
          have c := z_le0.mp c
          have : v1.toInt ≠ -1 := fun e => b (Int32.toInt_inj.mp (e.trans m1.symm))
          exact Int32.lt_iff_toInt_lt.mpr (by rw [m1]; omega)
        rw [if_pos n1]
        exact ⟨fun z => absurd rfl z.2, fun z => absurd rfl z⟩
      · rw [if_neg c]
        have n1 : ¬ v1 < Int32.ofInt (-1) := fun z => by
          have z := Int32.lt_iff_toInt_lt.mp z
          rw [m1] at z
          exact c (z_le0.mpr (by omega))
        rw [if_neg n1]
        by_cases e : Jr (p 0) 2 ≤ v1
        · rw [if_pos e, if_pos (show Int32.ofInt 0 = 0 from rfl)]
          exact ⟨fun z => absurd rfl z.2, fun z => absurd rfl z⟩
        · rw [if_neg e, if_neg (show ¬ Int32.ofInt 1 = 0 from by decide)]
          exact ⟨fun _ => by decide, fun _ => ⟨ta, by decide⟩⟩
