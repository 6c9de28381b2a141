/-! one result -/
theorem lb_val_det {f : Nat → Int32} {t : Nat} {z : lb_Z} {r r' : lb_Y} (h : lb_val f t z r) (h' : lb_val f t z r') : r = r' := by
  unfold lb_val at h h'
  rcases h with ⟨a, h⟩ | ⟨a, b, c, h⟩ | ⟨a, b, c, h⟩ | ⟨a, b, h⟩ | ⟨a, w, hw, hat, hbe, h⟩ <;> rcases h' with ⟨a', h'⟩ | ⟨a', b', c', h'⟩ | ⟨a', b', c', h'⟩ | ⟨a', b', h'⟩ | ⟨a', w', hw', hat', hbe', h'⟩
  all_goals first
    | (rw [h, h']; done)
    | (exfalso; omega)
    | skip
  · exact absurd hat' (b w' hw')
  · exact absurd hat (b' w hw)
  · have e : w = w' := by
      rcases Nat.lt_trichotomy w w' with q | q | q
      · exact absurd hat (hbe' w q)
      · exact q
      · exact absurd hat' (hbe w' q)
    subst e
    rcases h with ⟨c, h⟩ | ⟨c, h⟩ <;> rcases h' with ⟨c', h'⟩ | ⟨c', h'⟩
    · rw [h, h']
    · omega
    · omega
    · rw [h, h']
theorem lb_sr_det {f : Nat → Int32} {t : Nat} : ∀ (k k' : Nat) (w : Int32) (z : lb_Z) (r r' : lb_Y), lb_sr f t k w z r → lb_sr f t k' w z r' → r = r' := by
  intro k
  induction k with
  | zero => intro k' w z r r' h _; exact h.elim
  | succ k ih =>
    intro k' w z r r' h h'
    cases k' with
    | zero => exact h'.elim
    | succ k' =>
      rcases h with ⟨a, h⟩ | ⟨a, r1, hv, h⟩ | ⟨a, r1, hv, h⟩ <;> rcases h' with ⟨a', h'⟩ | ⟨a', r1', hv', h'⟩ | ⟨a', r1', hv', h'⟩
      · rw [h, h']
      · rw [a] at a'; exact absurd a' (by decide)
      · rw [a] at a'; exact absurd a' (by decide)
      · rw [a'] at a; exact absurd a (by decide)
      · have e := lb_val_det hv hv'
        subst e
        rcases h with ⟨c, e1, e2⟩ | ⟨z1, e1, h⟩ <;> rcases h' with ⟨c', e1', e2'⟩ | ⟨z1', e1', h'⟩
        · rw [e2, e2']; rw [e1] at e1'; cases e1'; rfl
        · rw [e1] at e1'; cases e1'
        · rw [e1] at e1'; cases e1'
        · rw [e1] at e1'; cases e1'; exact ih _ _ _ _ _ h h'
      · rcases a with a | a <;> rw [a] at a' <;> exact absurd a' (by decide)
      · rw [a'] at a; exact absurd a (by decide)
      · rcases a with a | a <;> rw [a] at a' <;> exact absurd a' (by decide)
      · have e := lb_val_det hv hv'
        subst e
        rcases h with ⟨c, e1, e2⟩ | ⟨z1, e1, h⟩ <;> rcases h' with ⟨c', e1', e2'⟩ | ⟨z1', e1', h'⟩
        · rw [e2, e2']; rw [e1] at e1'; cases e1'; rfl
        · rw [e1] at e1'; cases e1'
        · rw [e1] at e1'; cases e1'
        · rw [e1] at e1'; cases e1'; exact ih _ _ _ _ _ h h'
theorem lb_sum_det {f : Nat → Int32} {t : Nat} {z : lb_Z} {r r' : lb_Y} (h : lb_sum f t z r) (h' : lb_sum f t z r') : r = r' := by
  obtain ⟨r1, hv, h⟩ := h
  obtain ⟨r1', hv', h'⟩ := h'
  have e := lb_val_det hv hv'
  subst e
  rcases h with ⟨c, e1, e2⟩ | ⟨z1, k, e1, h⟩ <;> rcases h' with ⟨c', e1', e2'⟩ | ⟨z1', k', e1', h'⟩
  · rw [e2, e2']; rw [e1] at e1'; cases e1'; rfl
  · rw [e1] at e1'; cases e1'
  · rw [e1] at e1'; cases e1'
  · rw [e1] at e1'; cases e1'; exact lb_sr_det _ _ _ _ _ _ h h'
