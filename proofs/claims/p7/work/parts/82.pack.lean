/-! what a packed number says of the letters -/
theorem lb_l_let {f : Nat → Int32} {t : Nat} : ∀ (n p : Nat), lb_l f t p = n → (∀ i, i < n → lb_let f t (p + i)) ∧ ¬ lb_let f t (p + n) := by
  intro n
  induction n with
  | zero =>
    intro p h
    refine ⟨fun i hi => absurd hi (Nat.not_lt_zero i), fun c => ?_⟩
    rw [Nat.add_zero] at c
    rw [lb_l1 c] at h
    omega
  | succ n ih =>
    intro p h
    by_cases c : lb_let f t p
    · rw [lb_l1 c] at h
      obtain ⟨a, b⟩ := ih (p + 1) (by omega)
      refine ⟨fun i hi => ?_, ?_⟩
      · by_cases e : i = 0
        · rw [e]; exact c
        · have q := a (i - 1) (by omega)
          rw [show p + 1 + (i - 1) = p + i from by omega] at q
          exact q
      · rw [show p + (n + 1) = p + 1 + n from by omega]; exact b
    · rw [lb_l0 c] at h
      omega
theorem lb_l_eq {f : Nat → Int32} {t : Nat} : ∀ (n p : Nat), (∀ i, i < n → lb_let f t (p + i)) → ¬ lb_let f t (p + n) → lb_l f t p = n := by
  intro n
  induction n with
  | zero =>
    intro p _ h
    exact lb_l0 h
  | succ n ih =>
    intro p h1 h2
    have c : lb_let f t p := h1 0 (by omega)
    rw [lb_l1 c, ih (p + 1) (fun i hi => by rw [show p + 1 + i = p + (i + 1) from by omega]; exact h1 (i + 1) (by omega)) (by rw [show p + 1 + n = p + (n + 1) from by omega]; exact h2)]
/-- the letters as a number -/
def lb_pn (f : Nat → Int32) (p : Nat) : Nat → Nat
  | 0 => 0
  | n + 1 => lb_pn f p n * 256 + (f (p + n)).toInt.toNat
theorem lb_let_b {f : Nat → Int32} {t k : Nat} (h : lb_let f t k) : 97 ≤ (f k).toInt ∧ (f k).toInt ≤ 122 := by
  have a := Int32.le_iff_toInt_le.mp h.2.1
  have b := Int32.le_iff_toInt_le.mp h.2.2
  exact ⟨a, b⟩
theorem lb_pk1 {x : Int64} {c : Int32} {X : Nat} (hx : x.toBitVec.toNat = X) (hX : X < 2 ^ 48) (h0 : 0 ≤ c.toInt) (h1 : c.toInt < 256) : ((x <<< ((Int32.ofInt 8).toInt64 &&& 63)) ||| c.toInt64).toBitVec.toNat = X * 256 + c.toInt.toNat := by
  have e8 : ((Int32.ofInt 8).toInt64 &&& 63) = 8 := by decide
  have ec : c.toInt64.toBitVec.toNat = c.toInt.toNat := by
    have q : c.toInt64.toInt = c.toInt := Int32.toInt_toInt64 c
    have q2 : c.toInt64.toBitVec.toInt = c.toInt := q
    rw [BitVec.toInt_eq_toNat_cond] at q2
    split at q2 <;> omega
  rw [e8, Int64.toBitVec_or, Int64.toBitVec_shiftLeft, BitVec.toNat_or, ec]
  have es : (x.toBitVec <<< (8 : Int64).toBitVec.smod 64).toNat = X * 256 := by
    have e : (8 : Int64).toBitVec.smod 64 = 8#64 := by decide
    rw [e, BitVec.shiftLeft_eq', BitVec.toNat_shiftLeft, hx]
    show (X <<< 8) % 2 ^ 64 = X * 256
    rw [Nat.shiftLeft_eq]
    omega
  rw [es]
  have := Nat.shiftLeft_add_eq_or_of_lt (i := 8) (b := c.toInt.toNat) (by omega) X
  rw [Nat.shiftLeft_eq, show (2 : Nat) ^ 8 = 256 from rfl] at this
  exact this.symm
theorem lb_pkn {f : Nat → Int32} {t p : Nat} : ∀ n, n ≤ 7 → (∀ i, i < n → lb_let f t (p + i)) → (lb_pk f p n).toBitVec.toNat = lb_pn f p n ∧ lb_pn f p n < 256 ^ n := by
  intro n
  induction n with
  | zero => intro _ _; exact ⟨rfl, Nat.one_pos⟩
  | succ n ih =>
    intro hn h
    obtain ⟨a, b⟩ := ih (by omega) (fun i hi => h i (by omega))
    have c := lb_let_b (h n (by omega))
    have e : lb_pk f p (n + 1) = (lb_pk f p n <<< ((Int32.ofInt 8).toInt64 &&& 63)) ||| (f (p + n)).toInt64 := if_pos (by omega)
    have hb : (256 : Nat) ^ n ≤ 256 ^ 6 := Nat.pow_le_pow_right (by decide) (by omega)
    have hb2 : (256 : Nat) ^ 6 = 2 ^ 48 := by decide
    refine ⟨?_, ?_⟩
    · rw [e, lb_pk1 a (by omega) (by omega) (by omega)]
      rfl
    · show lb_pn f p n * 256 + (f (p + n)).toInt.toNat < 256 ^ n * 256
      omega
theorem lg_cmp0 {x y : Int64} (h : lg_cmp x y = 0) : x = y := by
  unfold lg_cmp at h
  split at h
  · exact absurd h (by decide)
  · split at h
    · rename_i q
      first | exact q | exact eq_of_beq q
    · exact absurd h (by decide)
theorem lg_cmp1 {x : Int64} : lg_cmp x x = 0 := by
  unfold lg_cmp
  rw [if_neg (by intro c; have := Int64.lt_iff_toInt_lt.mp c; omega)]
  simp
