/-! facts and tests, told purely -/
def lb_th (r1 r : lb_Y) (P : lb_Z → Prop) : Prop := (∃ c, r1 = .inl c ∧ r = .inl c) ∨ ∃ z1, r1 = .inr z1 ∧ P z1
theorem lb_th_up {r1 r : lb_Y} {P Q : lb_Z → Prop} (h : ∀ z, P z → Q z) (k : lb_th r1 r P) : lb_th r1 r Q := by
  rcases k with k | ⟨z, e, k⟩
  · exact Or.inl k
  · exact Or.inr ⟨z, e, h z k⟩
def lb_oe (e : lb_E) : Bool → lb_E
  | true => lb_em e (Int32.ofInt 20) (Int32.ofInt 13)
  | false => e
def lb_fa (f : Nat → Int32) (t : Nat) (z : lb_Z) (r : lb_Y) : Prop := ∃ r1, lb_sum f t z r1 ∧ lb_th r1 r (fun z1 => ∃ x r2, lb_cp f t z1 x r2 ∧ lb_th r2 r (fun z2 => ∃ r3, lb_sum f t z2 r3 ∧ lb_th r3 r (fun z3 => r = .inr (z3.1, z3.2.1, lb_em z3.2.2 x (x - Int32.ofInt 8)))))
/-- so many rounds: a fact (true) at a depth, or what follows a fact (false), an or waiting -/
def lb_ft (f : Nat → Int32) (t : Nat) : Nat → Bool → Nat → Bool → lb_Z → lb_Y → Prop
  | 0, _, _, _, _, _ => False
  | k + 1, true, d, _, z, r =>
    ((lb_at f t (lb_W (nt_sp + 1 + 15)) z.1 ∨ lb_g f t z.1 = Int32.ofInt 91) ∧ 10 ≤ d ∧ r = .inl (lb_c z.1 (Int32.ofInt 2))) ∨
    (lb_at f t (lb_W (nt_sp + 1 + 15)) z.1 ∧ d < 10 ∧ ∃ r1, lb_ft f t k true (d + 1) false (lb_s f t (z.1 + (lb_W (nt_sp + 1 + 15)).length), z.2.1, z.2.2) r1 ∧ lb_th r1 r (fun z1 => r = .inr (z1.1, z1.2.1, lb_em z1.2.2 (Int32.ofInt 21) (Int32.ofInt 11)))) ∨
    (¬ lb_at f t (lb_W (nt_sp + 1 + 15)) z.1 ∧ lb_g f t z.1 = Int32.ofInt 91 ∧ d < 10 ∧ ∃ r1, lb_ft f t k true (d + 1) false (lb_s f t (z.1 + 1), z.2.1, z.2.2) r1 ∧ lb_th r1 r (fun z1 => ∃ r2, lb_ft f t k false (d + 1) false z1 r2 ∧ lb_th r2 r (fun z2 => (lb_g f t z2.1 = Int32.ofInt 93 ∧ r = .inr (lb_s f t (z2.1 + 1), z2.2.1, z2.2.2)) ∨ (¬ lb_g f t z2.1 = Int32.ofInt 93 ∧ r = .inl (lb_c z2.1 (Int32.ofInt 0)))))) ∨
    (¬ lb_at f t (lb_W (nt_sp + 1 + 15)) z.1 ∧ ¬ lb_g f t z.1 = Int32.ofInt 91 ∧ lb_fa f t z r)
  | k + 1, false, d, w, z, r =>
    (lb_at f t (lb_W (nt_sp + 1 + 16)) z.1 ∧ ∃ r1, lb_ft f t k true d false (lb_s f t (z.1 + (lb_W (nt_sp + 1 + 16)).length), z.2.1, z.2.2) r1 ∧ lb_th r1 r (fun z1 => lb_ft f t k false d w (z1.1, z1.2.1, lb_em z1.2.2 (Int32.ofInt 19) (Int32.ofInt 12)) r)) ∨
    (¬ lb_at f t (lb_W (nt_sp + 1 + 16)) z.1 ∧ lb_at f t (lb_W (nt_sp + 1 + 17)) z.1 ∧ ∃ r1, lb_ft f t k true d false (lb_s f t (z.1 + (lb_W (nt_sp + 1 + 17)).length), z.2.1, lb_oe z.2.2 w) r1 ∧ lb_th r1 r (fun z1 => lb_ft f t k false d true z1 r)) ∨
    (¬ lb_at f t (lb_W (nt_sp + 1 + 16)) z.1 ∧ ¬ lb_at f t (lb_W (nt_sp + 1 + 17)) z.1 ∧ r = .inr (z.1, z.2.1, lb_oe z.2.2 w))
theorem lb_ft_1 {f : Nat → Int32} {t : Nat} : ∀ (k : Nat) (b : Bool) (d : Nat) (w : Bool) (z : lb_Z) (r : lb_Y), lb_ft f t k b d w z r → lb_ft f t (k + 1) b d w z r := by
  intro k
  induction k with
  | zero => intro b d w z r h; exact h.elim
  | succ k ih =>
    intro b d w z r h
    cases b with
    | true =>
      rcases h with h | ⟨h1, h2, r1, h3, h4⟩ | ⟨h1, h2, h3, r1, h4, h5⟩ | h
      · exact Or.inl h
      · exact Or.inr (Or.inl ⟨h1, h2, r1, ih _ _ _ _ _ h3, h4⟩)
      · exact Or.inr (Or.inr (Or.inl ⟨h1, h2, h3, r1, ih _ _ _ _ _ h4, lb_th_up (fun z1 ⟨r2, h6, h7⟩ => ⟨r2, ih _ _ _ _ _ h6, h7⟩) h5⟩))
      · exact Or.inr (Or.inr (Or.inr h))
    | false =>
      rcases h with ⟨h1, r1, h3, h4⟩ | ⟨h1, h2, r1, h3, h4⟩ | h
      · exact Or.inl ⟨h1, r1, ih _ _ _ _ _ h3, lb_th_up (fun z1 h => ih _ _ _ _ _ h) h4⟩
      · exact Or.inr (Or.inl ⟨h1, h2, r1, ih _ _ _ _ _ h3, lb_th_up (fun z1 h => ih _ _ _ _ _ h) h4⟩)
      · exact Or.inr (Or.inr h)
theorem lb_ft_le {f : Nat → Int32} {t k n : Nat} {b : Bool} {d : Nat} {w : Bool} {z : lb_Z} {r : lb_Y} (h : lb_ft f t k b d w z r) (hn : k ≤ n) : lb_ft f t n b d w z r := by
  induction hn with
  | refl => exact h
  | step _ ih => exact lb_ft_1 _ _ _ _ _ _ ih
theorem lb_sr_up {f : Nat → Int32} {t : Nat} : ∀ (k : Nat) (w : Int32) (z z1 : lb_Z), z.1 ≤ t → lb_sr f t k w z (.inr z1) → z.1 ≤ z1.1 ∧ z1.1 ≤ t := by
  intro k
  induction k with
  | zero => intro w z z1 hz h; exact h.elim
  | succ k ih =>
    intro w z z1 hz h
    rcases h with ⟨_, h⟩ | ⟨ho, r1, hv, h⟩ | ⟨ho, r1, hv, h⟩
    · have e := Sum.inr.inj h
      subst e
      exact ⟨Nat.le_refl _, hz⟩
    · have hlt : z.1 < t := lb_op_lt (by rcases ho with ho | ho <;> (rw [ho]; decide))
      have hs := lb_s_le (f := f) (t := t) (t - (z.1 + 1)) (z.1 + 1) (by omega)
      rcases h with ⟨c, e1, e2⟩ | ⟨z2, e1, h⟩
      · cases e2
      · subst e1
        have q := lb_val_up hs.2 hv
        have a := ih _ (z2.1, z2.2.1, lb_ew z2.2.2 (lb_op (lb_g f t z.1))) _ q.2 h
        dsimp only at a q
        omega
    · have hlt : z.1 < t := lb_op_lt (by rcases ho with ho | ho <;> (rw [ho]; decide))
      have hs := lb_s_le (f := f) (t := t) (t - (z.1 + 1)) (z.1 + 1) (by omega)
      rcases h with ⟨c, e1, e2⟩ | ⟨z2, e1, h⟩
      · cases e2
      · subst e1
        have q := lb_val_up hs.2 hv
        have a := ih _ _ _ q.2 h
        dsimp only at a q
        omega
theorem lb_sum_up {f : Nat → Int32} {t : Nat} {z z1 : lb_Z} (hz : z.1 ≤ t) (h : lb_sum f t z (.inr z1)) : z.1 < z1.1 ∧ z1.1 ≤ t := by
  obtain ⟨r1, hv, h⟩ := h
  rcases h with ⟨c, e1, e2⟩ | ⟨z2, k, e1, h⟩
  · cases e2
  · subst e1
    have q := lb_val_up hz hv
    have a := lb_sr_up _ _ _ _ q.2 h
    omega
theorem lb_cp_up {f : Nat → Int32} {t : Nat} {z z1 : lb_Z} {x : Int32} (hz : z.1 ≤ t) (h : lb_cp f t z x (.inr z1)) : z.1 < z1.1 ∧ z1.1 ≤ t := by
  obtain ⟨hcm, h⟩ := h
  rcases h with ⟨_, h⟩ | ⟨_, _, h⟩ | ⟨hx, _, h⟩
  · cases h
  · cases h
  · have e := Sum.inr.inj h
    subst e
    dsimp only
    have hl : z.1 + lb_cl x ≤ t ∧ 1 ≤ lb_cl x := by
      unfold lb_cl
      by_cases h1 : x = Int32.ofInt 15
      · rw [if_pos h1]
        exact ⟨lb_cm_2 hcm (Or.inl h1), by omega⟩
      · rw [if_neg h1]
        by_cases h2 : x = Int32.ofInt 17
        · rw [if_pos h2]
          exact ⟨lb_cm_2 hcm (Or.inr h2), by omega⟩
        · rw [if_neg h2]
          exact ⟨lb_cm_1 hcm hx, by omega⟩
    have q := lb_s_le (f := f) (t := t) (t - (z.1 + lb_cl x)) (z.1 + lb_cl x) (by omega)
    omega
theorem lb_fa_up {f : Nat → Int32} {t : Nat} {z z1 : lb_Z} (hz : z.1 ≤ t) (h : lb_fa f t z (.inr z1)) : z.1 < z1.1 ∧ z1.1 ≤ t := by
  obtain ⟨r1, h1, h⟩ := h
  rcases h with ⟨c, e1, e2⟩ | ⟨z2, e1, x, r2, h2, h⟩
  · cases e2
  subst e1
  have q1 := lb_sum_up hz h1
  rcases h with ⟨c, e1, e2⟩ | ⟨z3, e1, r3, h3, h⟩
  · cases e2
  subst e1
  have q2 := lb_cp_up q1.2 h2
  rcases h with ⟨c, e1, e2⟩ | ⟨z4, e1, h⟩
  · cases e2
  subst e1
  have q3 := lb_sum_up q2.2 h3
  have e := Sum.inr.inj h
  subst e
  dsimp only
  omega
theorem lb_ft_up {f : Nat → Int32} {t : Nat} : ∀ (k : Nat) (b : Bool) (d : Nat) (w : Bool) (z z1 : lb_Z), z.1 ≤ t → lb_ft f t k b d w z (.inr z1) → z.1 ≤ z1.1 ∧ z1.1 ≤ t ∧ (b = true → z.1 < z1.1) := by
  intro k
  induction k with
  | zero => intro b d w z z1 hz h; exact h.elim
  | succ k ih =>
    intro b d w z z1 hz h
    cases b with
    | true =>
      rcases h with ⟨_, _, h⟩ | ⟨h1, h2, r1, h3, h4⟩ | ⟨h1, h2, h3, r1, h4, h5⟩ | ⟨_, _, h⟩
      · cases h
      · have a := h1.1
        have b2 := lb_Wp 15 (by decide)
        have q := lb_s_le (f := f) (t := t) (t - (z.1 + (lb_W (nt_sp + 1 + 15)).length)) (z.1 + (lb_W (nt_sp + 1 + 15)).length) (by omega)
        rcases h4 with ⟨c, e1, e2⟩ | ⟨z2, e1, h⟩
        · cases e2
        · subst e1
          have i := ih _ _ _ _ _ q.2 h3
          have e := Sum.inr.inj h
          subst e
          dsimp only at i ⊢
          exact ⟨by omega, i.2.1, fun _ => by omega⟩
      · have a := lb_g_lt (f := f) (t := t) (p := z.1) (by rw [h2]; decide)
        have q := lb_s_le (f := f) (t := t) (t - (z.1 + 1)) (z.1 + 1) (by omega)
        rcases h5 with ⟨c, e1, e2⟩ | ⟨z2, e1, r2, h6, h⟩
        · cases e2
        subst e1
        have i := ih _ _ _ _ _ q.2 h4
        dsimp only at i
        rcases h with ⟨c, e1, e2⟩ | ⟨z3, e1, h⟩
        · cases e2
        subst e1
        have i2 := ih _ _ _ _ _ i.2.1 h6
        rcases h with ⟨h93, h⟩ | ⟨_, h⟩
        · have e := Sum.inr.inj h
          subst e
          have a3 := lb_g_lt (f := f) (t := t) (p := z3.1) (by rw [h93]; decide)
          have q3 := lb_s_le (f := f) (t := t) (t - (z3.1 + 1)) (z3.1 + 1) (by omega)
          dsimp only
          exact ⟨by omega, by omega, fun _ => by omega⟩
        · cases h
      · have q := lb_fa_up hz h
        exact ⟨by omega, q.2, fun _ => q.1⟩
    | false =>
      rcases h with ⟨h1, r1, h3, h4⟩ | ⟨h1, h2, r1, h3, h4⟩ | ⟨_, _, h⟩
      · have a := h1.1
        have q := lb_s_le (f := f) (t := t) (t - (z.1 + (lb_W (nt_sp + 1 + 16)).length)) (z.1 + (lb_W (nt_sp + 1 + 16)).length) (by omega)
        rcases h4 with ⟨c, e1, e2⟩ | ⟨z2, e1, h⟩
        · cases e2
        · subst e1
          have i := ih _ _ _ _ _ q.2 h3
          have i2 := ih _ _ _ _ _ (show (z2.1, z2.2.1, lb_em z2.2.2 (Int32.ofInt 19) (Int32.ofInt 12)).1 ≤ t from i.2.1) h
          dsimp only at i i2
          exact ⟨by omega, i2.2.1, fun h => by cases h⟩
      · have a := h2.1
        have q := lb_s_le (f := f) (t := t) (t - (z.1 + (lb_W (nt_sp + 1 + 17)).length)) (z.1 + (lb_W (nt_sp + 1 + 17)).length) (by omega)
        rcases h4 with ⟨c, e1, e2⟩ | ⟨z2, e1, h⟩
        · cases e2
        · subst e1
          have i := ih _ _ _ _ _ q.2 h3
          have i2 := ih _ _ _ _ _ i.2.1 h
          dsimp only at i i2
          exact ⟨by omega, i2.2.1, fun h => by cases h⟩
      · have e := Sum.inr.inj h
        subst e
        exact ⟨Nat.le_refl _, hz, fun h => by cases h⟩
