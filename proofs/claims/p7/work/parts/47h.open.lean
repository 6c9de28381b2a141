/-! the row open, a step on and a step back -/
theorem kv_ob {p : Nat → Nat → Int32} {i d x : Int} (h2 : nt_ghost 2 p i = d) (h4 : nt_ghost 4 p i = x) (hd : 0 ≤ d) : ∃ q : Nat × Nat, nt_ob (p 9) i.toNat = some q ∧ (q.1 : Int) = d ∧ (q.2 : Int) = x := by
  rw [kw_g2] at h2
  rw [kw_g4] at h4
  cases h : nt_ob (p 9) i.toNat with
  | none =>
    rw [h] at h2
    dsimp only at h2
    omega
  | some q =>
    rw [h] at h2 h4
    exact ⟨q, rfl, h2, h4⟩
theorem kv_of {p : Nat → Nat → Int32} {i : Int} {q : Nat × Nat} (h : nt_ob (p 9) i.toNat = some q) : nt_ghost 2 p i = q.1 ∧ nt_ghost 4 p i = q.2 := by
  rw [kw_g2, kw_g4, h]
  exact ⟨rfl, rfl⟩
theorem kv_is {y k : Int32} (h : y.toInt = k.toInt) : y = k := Int32.toInt_inj.mp h
/-- a step on -/
theorem kv_up {p : Nat → Nat → Int32} {i d x v : Int} (h2 : nt_ghost 2 p i = d) (h4 : nt_ghost 4 p i = x) (hd : 0 ≤ d) (hi : 0 ≤ i) (hv : (p 9 i.toNat).toInt = v) : (v = 11 → nt_ghost 2 p (i + 1) = d ∧ nt_ghost 4 p (i + 1) = x) ∧ (v = 91 → nt_ghost 2 p (i + 1) = d ∧ nt_ghost 4 p (i + 1) = x + 1) ∧ (v = 12 ∨ v = 13 → nt_ghost 2 p (i + 1) = d + 1 ∧ nt_ghost 4 p (i + 1) = x) := by
  obtain ⟨q, hq, q1, q2⟩ := kv_ob h2 h4 hd
  have e : (i + 1).toNat = i.toNat + 1 := by omega
  have key : ∀ q' : Nat × Nat, (if p 9 i.toNat = 12 ∨ p 9 i.toNat = 13 then some (q.1 + 1, q.2) else if p 9 i.toNat = 11 then some q else if p 9 i.toNat = 91 then some (q.1, q.2 + 1) else none) = some q' → nt_ghost 2 p (i + 1) = q'.1 ∧ nt_ghost 4 p (i + 1) = q'.2 := by
    intro q' h
    refine kv_of ?_
    rw [e]
    unfold nt_ob
    rw [hq]
    exact h
  refine ⟨fun h => ?_, fun h => ?_, fun h => ?_⟩
  · have ha : p 9 i.toNat = 11 := kv_is (by rw [hv, h]; rfl)
    have := key q (by rw [ha]; rfl)
    omega
  · have ha : p 9 i.toNat = 91 := kv_is (by rw [hv, h]; rfl)
    have := key (q.1, q.2 + 1) (by rw [ha]; rfl)
    dsimp only at this
    omega
  · have ha : p 9 i.toNat = 12 ∨ p 9 i.toNat = 13 := by
      rcases h with h | h
      · exact Or.inl (kv_is (by rw [hv, h]; rfl))
      · exact Or.inr (kv_is (by rw [hv, h]; rfl))
    have := key (q.1 + 1, q.2) (by rw [if_pos ha])
    dsimp only at this
    omega
/-- a step back -/
theorem kv_dn {p : Nat → Nat → Int32} {i d x v : Int} (h2 : nt_ghost 2 p (i + 1) = d) (h4 : nt_ghost 4 p (i + 1) = x) (hd : 0 ≤ d) (hi : 0 ≤ i) (hv : (p 9 i.toNat).toInt = v) : (v = 11 → nt_ghost 2 p i = d ∧ nt_ghost 4 p i = x) ∧ (v = 12 ∨ v = 13 → 1 ≤ d ∧ nt_ghost 2 p i = d - 1 ∧ nt_ghost 4 p i = x) ∧ (v < 11 ∨ 13 < v → 1 ≤ x ∧ nt_ghost 2 p i = d ∧ nt_ghost 4 p i = x - 1) := by
  obtain ⟨q, hq, q1, q2⟩ := kv_ob h2 h4 hd
  rw [show (i + 1).toNat = i.toNat + 1 from by omega] at hq
  unfold nt_ob at hq
  split at hq
  · cases hq
  · rename_i q0 h0
    obtain ⟨g2, g4⟩ := kv_of (p := p) (i := i) h0
    refine ⟨fun h => ?_, fun h => ?_, fun h => ?_⟩
    · have ha : p 9 i.toNat = 11 := kv_is (by rw [hv, h]; rfl)
      rw [ha] at hq
      have hq : some q0 = some q := hq
      cases hq
      omega
    · have ha : p 9 i.toNat = 12 ∨ p 9 i.toNat = 13 := by
        rcases h with h | h
        · exact Or.inl (kv_is (by rw [hv, h]; rfl))
        · exact Or.inr (kv_is (by rw [hv, h]; rfl))
      rw [if_pos ha] at hq
      cases hq
      dsimp only at q1 q2
      omega
    · have n1 : ¬ (p 9 i.toNat = 12 ∨ p 9 i.toNat = 13) := by
        rintro (e | e)
        · rw [e] at hv; have : (12 : Int) = v := hv; omega
        · rw [e] at hv; have : (13 : Int) = v := hv; omega
      have n2 : ¬ p 9 i.toNat = 11 := fun e => by rw [e] at hv; have : (11 : Int) = v := hv; omega
      rw [if_neg n1, if_neg n2] at hq
      by_cases n3 : p 9 i.toNat = 91
      · rw [if_pos n3] at hq
        cases hq
        dsimp only at q1 q2
        omega
      · rw [if_neg n3] at hq
        cases hq
/-- a ghost's cell, read -/
theorem kv_gc {F : sx_F} {M : nt_M} {g : Nat} {i v : Int} (hg : F.2.2.2 = nt_ghost) (h : sx_rd F M (100 + g) i = v) : nt_ghost g (fun h j => nt_I M (F.1 h) j) i = v := by
  unfold sx_rd at h
  rw [if_pos (by omega), hg, show 100 + g - 100 = g from by omega] at h
  exact h
theorem kv_cg {F : sx_F} {M : nt_M} {g : Nat} {i v : Int} (hg : F.2.2.2 = nt_ghost) (h : nt_ghost g (fun h j => nt_I M (F.1 h) j) i = v) : sx_rd F M (100 + g) i = v := by
  unfold sx_rd
  rw [if_pos (by omega), hg, show 100 + g - 100 = g from by omega]
  exact h
