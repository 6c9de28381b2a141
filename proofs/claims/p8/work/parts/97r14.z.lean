/-! sets, told as bits -/
theorem z_ite {P A B : Prop} [Decidable P] (h1 : A) (h2 : B) : if P then A else B := by
  by_cases h : P
  · rw [if_pos h]
    exact h1
  · rw [if_neg h]
    exact h2
theorem zb_t : ∀ n, n < 256 → x236 (nI n) = x214 (nI n) := by decide +kernel
theorem zb_or : ∀ n, n < 64 → ∀ i, i < 6 → nI n ||| (Int32.ofInt 1 <<< (nI i &&& 31)) = nI (n ||| (1 <<< i)) ∧ n ||| (1 <<< i) < 64 := by decide +kernel
theorem zb_228 {p : Nat → Nat} {J : Nat → Nat → Int32} (hW : xr_W (J (p 4))) : ∃ n, n < 64 ∧ x228 p J = nI n := by
  unfold x228
  refine x228_4_rule (I := fun _ v1 v2 => (∃ n, n < 64 ∧ v1 = nI n) ∧ 0 ≤ v2.toInt) (Q := fun r => ∃ n, n < 64 ∧ r = nI n) ?_ ?_ _ _ _ ⟨⟨0, by omega, rfl⟩, by decide⟩
  · intro v1 v2 h
    exact h.1
  · intro c v1 v2 h
    obtain ⟨⟨n, hn, e⟩, h0⟩ := h
    split
    · exact ⟨n, hn, e⟩
    · rename_i h1
      have l := xi_l5 hW h1 h0
      have tn := z_tn h0
      have ei : v2 = nI v2.toNatClampNeg := Int32.toInt_inj.mp (by rw [nI_toInt (by omega)]; exact tn)
      have lt : v2.toNatClampNeg < 6 := by omega
      have t := zb_or n hn _ lt
      rw [← ei] at t
      split
      · exact ⟨⟨n ||| (1 <<< v2.toNatClampNeg), t.2, by rw [e]; exact t.1⟩, xi_nn h1 h0⟩
      · exact ⟨⟨n, hn, by rw [e, z_or0]⟩, xi_nn h1 h0⟩
theorem zb_eq {p : Nat → Nat} {J : Nat → Nat → Int32} (hW : xr_W (J (p 4))) : x236 (x228 p J) = x214 (x228 p J) := by
  obtain ⟨n, hn, e⟩ := zb_228 hW
  rw [e]
  exact zb_t n (by omega)
