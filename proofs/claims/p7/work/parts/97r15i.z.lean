/-- a day leaves x as it is -/
theorem z6_3 {q : Nat → Nat} {s v : Int32} {J : Nat → Nat → Int32} (hq : zq q) (h : J (q 0) 6 = v) : x3 q s J (q 0) 6 = v := by
  have n : ∀ i, i < 17 → i ≠ 0 → q 0 ≠ q i := fun i hi h0 => hq 0 i (by omega) hi (by omega)
  have fin : ∀ (J1 : Nat → Nat → Int32), J1 (q 0) 6 = v → ∀ (k1 k2 k3 k4 : Nat) (a b c d e : Int32), nt_u (nt_u (nt_u (nt_u (nt_u J1 (q 11) k1 a) (q 0) 5 b) (q 16) k2 c) (q 10) k3 d) (q 12) k4 e (q 0) 6 = v := by
    intro J1 h k1 k2 k3 k4 a b c d e
    rw [me_uj (n 12 (by omega) (by omega)), me_uj (n 10 (by omega) (by omega)), me_uj (n 16 (by omega) (by omega)), me_uk (by decide), me_uj (n 11 (by omega) (by omega))]
    exact h
  unfold x3
  refine x3_34_rule (I := fun _ _ _ J1 => J1 (q 0) 6 = v) (Q := fun r => r (q 0) 6 = v) ?_ ?_ _ _ _ _ h
  · intro v5 v6 J1 h
    exact fin J1 h _ _ _ _ _ _ _ _ _
  · intro c v5 v6 J1 h
    split
    · exact fin J1 h _ _ _ _ _ _ _ _ _
    · exact (me_uj (n 11 (by omega) (by omega))).trans h
theorem z6_9 {q : Nat → Nat} {s : Int32} {J : Nat → Nat → Int32} (hq : zq q) : x9 q s J (q 0) = J (q 0) := x9_frJ (hq 0 10 (by omega) (by omega) (by omega)) (hq 0 12 (by omega) (by omega) (by omega)) (hq 0 13 (by omega) (by omega) (by omega)) (hq 0 15 (by omega) (by omega) (by omega)) (hq 0 16 (by omega) (by omega) (by omega))
theorem z6_74 {q : Nat → Nat} {a s v : Int32} {J : Nat → Nat → Int32} (hq : zq q) (h : J (q 0) 6 = v) : x74 q a s J (q 0) 6 = v := by
  unfold x74
  rw [me_uk (by decide), me_uk (by decide), me_uj (hq 0 14 (by omega) (by omega) (by omega))]
  exact h
theorem z_ite {P A B : Prop} [Decidable P] (h1 : A) (h2 : B) : if P then A else B := by
  by_cases h : P
  · rw [if_pos h]
    exact h1
  · rw [if_neg h]
    exact h2
theorem z6_5 {p q : Nat → Nat} {sp ln : Nat} {a b v : Int32} {J : Nat → Nat → Int32} {L : Nat → Nat → Int64} (X : zX p q) (h : J (q 0) 6 = v) : (x5 p q sp ln a b J L).1 (q 0) 6 = v := by
  have n25 : q 0 ≠ p 25 := X.hx 0 25 (by omega) (by omega)
  unfold x5
  refine x5_31_rule (I := fun _ _ J1 _ => J1 (q 0) 6 = v) (Q := fun r => r.1 (q 0) 6 = v) ?_ ?_ _ _ _ _ h
  · intro v7 J1 L1 h
    exact h
  · intro c v7 J1 L1 h
    have h6 : (x6 p q sp ln a b J1 L1).2.1 (q 0) 6 = v := (congrFun (x6_frJ n25) 6).trans h
    exact z_ite h (z_ite h6 (z6_74 X.hq h6))
theorem z6_4 {p q : Nat → Nat} {sp ln : Nat} {a v : Int32} {J : Nat → Nat → Int32} {L : Nat → Nat → Int64} (X : zX p q) (h : J (q 0) 6 = v) : (x4 p q sp ln a J L).1 (q 0) 6 = v := by
  have n : ∀ i, i < 17 → i ≠ 0 → q 0 ≠ q i := fun i hi h0 => X.hq 0 i (by omega) hi (by omega)
  have fin : ∀ (J1 : Nat → Nat → Int32), J1 (q 0) 6 = v → ∀ (k1 k2 k3 : Nat) (a b c : Int32), nt_u (nt_u (nt_u J1 (q 10) k1 a) (q 12) k2 b) (q 16) k3 c (q 0) 6 = v := by
    intro J1 h k1 k2 k3 a b c
    rw [me_uj (n 16 (by omega) (by omega)), me_uj (n 12 (by omega) (by omega)), me_uj (n 10 (by omega) (by omega))]
    exact h
  unfold x4
  refine x4_18_rule (I := fun _ _ J1 _ => J1 (q 0) 6 = v) (Q := fun r => r.1 (q 0) 6 = v) ?_ ?_ _ _ _ _ h
  · intro v5 J1 L1 h
    split
    · exact h
    · exact fin J1 h _ _ _ _ _ _
  · intro c v5 J1 L1 h
    split
    · split
      · exact h
      · exact fin J1 h _ _ _ _ _ _
    · exact z6_5 X h
theorem z6_4N {p q : Nat → Nat} {a : Int32} {J : Nat → Nat → Int32} (hq : zq q) : x4N p q a J (q 0) = J (q 0) := x4N_frJ (hq 0 10 (by omega) (by omega) (by omega)) (hq 0 12 (by omega) (by omega) (by omega)) (hq 0 16 (by omega) (by omega) (by omega))
theorem z6_111 {p q : Nat → Nat} {sp ln : Nat} {v : Int32} {L : Nat → Nat → Int64} (hq : zq q) : ∀ (c : Nat) (i : Int32) (J : Nat → Nat → Int32), J (q 0) 6 = v → (x1_111 p q sp ln L c i J).1 (q 0) 6 = v := by
  have fin : ∀ (J1 : Nat → Nat → Int32), J1 (q 0) 6 = v → ∀ (a b : Int32), nt_u (nt_u J1 (q 0) 2 a) (q 0) 3 b (q 0) 6 = v := by
    intro J1 h a b
    rw [me_uk (by decide), me_uk (by decide)]
    exact h
  refine x1_111_rule (I := fun _ _ J1 => J1 (q 0) 6 = v) (Q := fun r => r.1 (q 0) 6 = v) ?_ ?_
  · intro v3 J1 h
    exact fin J1 h _ _
  · intro c v3 J1 h
    split
    · exact fin J1 h _ _
    · split
      · exact (congrFun (z6_9 hq) 6).trans h
      · exact h
theorem z6_48 {p q : Nat → Nat} {sp ln : Nat} {v : Int32} (X : zX p q) : ∀ (c : Nat) (i : Int32) (J : Nat → Nat → Int32) (L : Nat → Nat → Int64), J (q 0) 6 = v → (x1_48 p q sp ln c i J L).1 (q 0) 6 = v := by
  refine x1_48_rule (I := fun _ _ J1 _ => J1 (q 0) 6 = v) (Q := fun r => r.1 (q 0) 6 = v) ?_ ?_
  · intro v3 J1 L1 h
    exact z6_111 X.hq _ _ _ h
  · intro c v3 J1 L1 h
    split
    · exact z6_111 X.hq _ _ _ h
    · split
      · split
        · exact z6_4 X h
        · exact h
      · exact h
theorem z6_1 {p q : Nat → Nat} {sp ln : Nat} {J : Nat → Nat → Int32} {L : Nat → Nat → Int64} (X : zX p q) : (x1 p q sp ln J L).1 (q 0) 6 = J (q 0) 6 := by
  unfold x1
  refine x1_2_rule (I := fun _ _ J1 => J1 (q 0) 6 = J (q 0) 6) (Q := fun r => r.1 (q 0) 6 = J (q 0) 6) ?_ ?_ _ _ _ rfl
  · intro v3 J1 h
    exact z6_48 X _ _ _ _ h
  · intro c v3 J1 h
    split
    · exact z6_48 X _ _ _ _ h
    · split
      · split
        · exact h
        · exact z6_3 X.hq h
      · exact h
theorem z6_111N {p q : Nat → Nat} {v : Int32} (hq : zq q) : ∀ (c : Nat) (i : Int32) (J : Nat → Nat → Int32), J (q 0) 6 = v → (x1N_111 p q c i J) (q 0) 6 = v := by
  have fin : ∀ (J1 : Nat → Nat → Int32), J1 (q 0) 6 = v → ∀ (a b : Int32), nt_u (nt_u J1 (q 0) 2 a) (q 0) 3 b (q 0) 6 = v := by
    intro J1 h a b
    rw [me_uk (by decide), me_uk (by decide)]
    exact h
  refine x1N_111_rule (I := fun _ _ J1 => J1 (q 0) 6 = v) (Q := fun r => r (q 0) 6 = v) ?_ ?_
  · intro v3 J1 h
    exact fin J1 h _ _
  · intro c v3 J1 h
    split
    · exact fin J1 h _ _
    · split
      · exact (congrFun (z6_9 hq) 6).trans h
      · exact h
theorem z6_48N {p q : Nat → Nat} {v : Int32} (X : zX p q) : ∀ (c : Nat) (i : Int32) (J : Nat → Nat → Int32), J (q 0) 6 = v → (x1N_48 p q c i J) (q 0) 6 = v := by
  refine x1N_48_rule (I := fun _ _ J1 => J1 (q 0) 6 = v) (Q := fun r => r (q 0) 6 = v) ?_ ?_
  · intro v3 J1 h
    exact z6_111N X.hq _ _ _ h
  · intro c v3 J1 h
    split
    · exact z6_111N X.hq _ _ _ h
    · split
      · split
        · exact (congrFun (z6_4N X.hq) 6).trans h
        · exact h
      · exact h
theorem z6_1N {p q : Nat → Nat} {J : Nat → Nat → Int32} (X : zX p q) : (x1N p q J) (q 0) 6 = J (q 0) 6 := by
  unfold x1N
  refine x1N_2_rule (I := fun _ _ J1 => J1 (q 0) 6 = J (q 0) 6) (Q := fun r => r (q 0) 6 = J (q 0) 6) ?_ ?_ _ _ _ rfl
  · intro v3 J1 h
    exact z6_48N X _ _ _ h
  · intro c v3 J1 h
    split
    · exact z6_48N X _ _ _ h
    · split
      · split
        · exact h
        · exact z6_3 X.hq h
      · exact h
