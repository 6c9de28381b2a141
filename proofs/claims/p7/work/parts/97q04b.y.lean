/-! what a yard's text says is the same, whoever reads it; how large its numbers are -/
theorem lb_nu_b {f : Nat → Int32} {t p : Nat} {lo hi : Int32} {q : Nat} {x : Int32} (h : lb_nu f t p lo hi (.inr (q, x))) : lo.toInt ≤ x.toInt ∧ x.toInt ≤ hi.toInt := by
  rcases h with ⟨a, h⟩ | ⟨a, b, h⟩ | ⟨a, b, c, h⟩
  · cases h
  · cases h
  · have e := Sum.inr.inj h
    have e2 : x = lb_v f p (lb_d f t p) := congrArg Prod.snd e
    rw [e2]
    exact c
theorem lb_nu_e {f : Nat → Int32} {t p : Nat} {lo hi : Int32} {q q' : Nat} {x x' : Int32} (h : lb_nu f t p lo hi (.inr (q, x))) (h' : lb_nu f t p lo hi (.inr (q', x'))) : q' = q ∧ x' = x := by
  have e := Sum.inr.inj (lb_nu_det h' h)
  exact ⟨congrArg Prod.fst e, congrArg Prod.snd e⟩
theorem lb_shC2 {f : Nat → Int32} {t s : Nat} : ∀ (j i p q q' : Nat) (C C' D D' : lb_C), lb_shC f t s j i p q C D → lb_shC f t s j i p q' C' D' → q' = q ∧ (∀ m, i ≤ m → m < i + j → D 5 (4 * s + m) = D' 5 (4 * s + m) ∧ 0 ≤ (D 5 (4 * s + m)).toInt ∧ (D 5 (4 * s + m)).toInt ≤ 5) ∧ (∀ n, n < 4 * s + i ∨ 4 * s + i + j ≤ n → D 5 n = C 5 n ∧ D' 5 n = C' 5 n) ∧ (∀ a, a ≠ 5 → D a = C a ∧ D' a = C' a) := by
  intro j
  induction j with
  | zero =>
    intro i p q q' C C' D D' h h'
    obtain ⟨e1, e2⟩ := h
    obtain ⟨e3, e4⟩ := h'
    subst e2
    subst e4
    exact ⟨e3.trans e1.symm, fun m a b => by omega, fun _ _ => ⟨rfl, rfl⟩, fun _ _ => ⟨rfl, rfl⟩⟩
  | succ j ih =>
    intro i p q q' C C' D D' h h'
    obtain ⟨q1, x, hn, h⟩ := h
    obtain ⟨q1', x', hn', h'⟩ := h'
    obtain ⟨e1, e2⟩ := lb_nu_e hn hn'
    subst e1
    subst e2
    have hb := lb_nu_b hn
    obtain ⟨a1, a2, a3, a4⟩ := ih (i + 1) _ _ _ _ _ _ _ h h'
    have z0 : (Int32.ofInt 0).toInt = 0 := by decide
    have z5 : (Int32.ofInt 5).toInt = 5 := by decide
    refine ⟨a1, fun m m1 m2 => ?_, fun n hn => ?_, fun a ha => ?_⟩
    · by_cases e : m = i
      · subst e
        obtain ⟨b1, b2⟩ := a3 (4 * s + m) (Or.inl (by omega))
        rw [b1, b2, me_us, me_us]
        exact ⟨rfl, by omega, by omega⟩
      · exact a2 m (by omega) (by omega)
    · obtain ⟨b1, b2⟩ := a3 n (by omega)
      rw [b1, b2, me_uk (by omega), me_uk (by omega)]
      exact ⟨rfl, rfl⟩
    · obtain ⟨b1, b2⟩ := a4 a ha
      rw [b1, b2, me_uo ha, me_uo ha]
      exact ⟨rfl, rfl⟩
def yz (u : Nat × Nat × Nat × Nat × Nat) (C C' : lb_C) : Prop := (∀ s k, s < u.2.1 → k < u.1 → C 5 (4 * s + k) = C' 5 (4 * s + k)) ∧ (∀ n, n < u.2.2.1 → C 6 n = C' 6 n ∧ C 7 n = C' 7 n ∧ C 8 n = C' 8 n) ∧ (∀ n, n < u.2.2.2.1 → C 9 n = C' 9 n ∧ C 10 n = C' 10 n ∧ C 11 n = C' 11 n ∧ C 12 n = C' 12 n)
def yb (u : Nat × Nat × Nat × Nat × Nat) (C : lb_C) : Prop := (∀ s k, s < u.2.1 → k < u.1 → 0 ≤ (C 5 (4 * s + k)).toInt ∧ (C 5 (4 * s + k)).toInt ≤ 5) ∧ (∀ n, n < u.2.2.1 → (0 ≤ (C 6 n).toInt ∧ (C 6 n).toInt < u.1) ∧ (1 ≤ (C 7 n).toInt ∧ (C 7 n).toInt ≤ 99) ∧ (0 ≤ (C 8 n).toInt ∧ (C 8 n).toInt < u.2.1)) ∧ (∀ n, n < u.2.2.2.1 → (0 ≤ (C 9 n).toInt ∧ (C 9 n).toInt < u.2.1) ∧ 0 ≤ (C 10 n).toInt ∧ (C 10 n).toInt < (C 11 n).toInt ∧ (C 11 n).toInt ≤ 99 ∧ 0 ≤ (C 12 n).toInt ∧ (C 12 n).toInt ≤ 999)
def yk (u : Nat × Nat × Nat × Nat × Nat) (C C' : lb_C) : Prop := yz u C C' ∧ yb u C
theorem yk_0 {k h : Nat} {C C' : lb_C} : yk (k, 0, 0, 0, h) C C' := ⟨⟨fun s k hs => absurd hs (Nat.not_lt_zero _), fun n hn => absurd hn (Nat.not_lt_zero _), fun n hn => absurd hn (Nat.not_lt_zero _)⟩, fun s k hs => absurd hs (Nat.not_lt_zero _), fun n hn => absurd hn (Nat.not_lt_zero _), fun n hn => absurd hn (Nat.not_lt_zero _)⟩
theorem yn1 {k : Nat} {x : Int32} (hk : k ≤ 1000) (h0 : (Int32.ofInt 0).toInt ≤ x.toInt) (h1 : x.toInt ≤ (nI k - Int32.ofInt 1).toInt) : 0 ≤ x.toInt ∧ x.toInt < k := by
  have z0 : (Int32.ofInt 0).toInt = 0 := by decide
  have z1 : (Int32.ofInt 1).toInt = 1 := by decide
  rw [Int32.toInt_sub, z1, nI_toInt (by omega), Int.bmod_eq_of_le (by omega) (by omega)] at h1
  omega
/-- one clause -/
theorem yk_1 {f : Nat → Int32} {t i : Nat} {u u1 : lb_U} {C C' D D' : lb_C} (h0 : i = 0 → u.2.2.1 = 0 ∧ u.2.2.2.1 = 0 ∧ u.2.2.2.2.1 = 0) (hk4 : u.2.1 ≤ 4) (hs6 : u.2.2.1 ≤ 6) (hk : yk u.2 C C') (hy : lb_yc f t i u (.inr u1)) (hC : lb_ycC f t u u1 C D) (hC' : lb_ycC f t u u1 C' D') : yk u1.2 D D' ∧ u1.2.1 ≤ 4 ∧ u1.2.2.1 ≤ 6 ∧ (i = 0 → 1 ≤ u1.2.1) ∧ (i ≠ 0 → u1.2.1 = u.2.1) := by
  rcases hy with ⟨_, e⟩ | ⟨w, hw, a, b, hy⟩
  · cases e
  rcases hy with ⟨_, e⟩ | ⟨hx, hy⟩
  · cases e
  obtain ⟨w1, hw1, a1, b1, hC⟩ := hC
  obtain ⟨w2, hw2, a2, b2, hC'⟩ := hC'
  have e1 : w1 = w := by
    rcases Nat.lt_trichotomy w1 w with q | q | q
    · exact absurd a1 (b _ q)
    · exact q
    · exact absurd a (b1 _ q)
  have e2 : w2 = w := by
    rcases Nat.lt_trichotomy w2 w with q | q | q
    · exact absurd a2 (b _ q)
    · exact q
    · exact absurd a (b2 _ q)
  subst e1
  subst e2
  have hxi : i = 0 ↔ w2 = 0 := Classical.byContradiction fun c => hx (Or.inr (Or.inl c))
  have hxf : ¬ lb_fu u w2 := fun c => hx (Or.inr (Or.inr c))
  obtain ⟨⟨k1, k2, k3⟩, l1, l2, l3⟩ := hk
  obtain ⟨p, uk, us, up, uv, uh⟩ := u
  dsimp only at h0 hk4 hs6 k1 k2 k3 l1 l2 l3 hC hC' hy hxf
  have z0 : (Int32.ofInt 0).toInt = 0 := by decide
  have z1 : (Int32.ofInt 1).toInt = 1 := by decide
  have z4 : (Int32.ofInt 4).toInt = 4 := by decide
  have z98 : (Int32.ofInt 98).toInt = 98 := by decide
  have z99 : (Int32.ofInt 99).toInt = 99 := by decide
  have z999 : (Int32.ofInt 999).toInt = 999 := by decide
  rcases (by omega : w2 = 0 ∨ w2 = 1 ∨ w2 = 2 ∨ w2 = 3 ∨ w2 = 4) with rfl | rfl | rfl | rfl | rfl
  · obtain ⟨r1, hn, hr⟩ := hy
    rcases hr with ⟨c, _, e⟩ | ⟨q, x, er, e⟩
    · cases e
    subst er
    have hb := lb_nu_b hn
    have e := Sum.inr.inj e
    subst e
    obtain ⟨g1, g2, g3⟩ := h0 (hxi.mpr rfl)
    subst g1
    subst g2
    subst g3
    have eD : D = C := hC
    have eD' : D' = C' := hC'
    dsimp only
    exact ⟨yk_0, by omega, by omega, fun _ => by omega, fun c => absurd (hxi.mpr rfl) c⟩
  · obtain ⟨r1, hn, hr⟩ := hy
    rcases hr with ⟨c, _, e⟩ | ⟨q, er, e⟩
    · cases e
    subst er
    have e := Sum.inr.inj e
    subst e
    dsimp only at hC hC' ⊢
    have hC : lb_shC f t us uk 0 _ q C D := hC
    have hC' : lb_shC f t us uk 0 _ q C' D' := hC'
    obtain ⟨_, c1, c2, c3⟩ := lb_shC2 _ _ _ _ _ _ _ _ _ hC hC'
    have hf : ¬ 6 ≤ us := hxf
    refine ⟨⟨⟨fun s k hs hk => ?_, fun n hn => ?_, fun n hn => ?_⟩, fun s k hs hk => ?_, fun n hn => ?_, fun n hn => ?_⟩, hk4, by omega, fun c => absurd (hxi.mp c) (by decide), fun _ => rfl⟩
    · dsimp only at hs hk
      by_cases e : s = us
      · subst e
        exact (c1 k (by omega) (by omega)).1
      · obtain ⟨d1, d2⟩ := c2 (4 * s + k) (Or.inl (by omega))
        rw [d1, d2]
        exact k1 s k (by omega) hk
    · rw [(c3 6 (by decide)).1, (c3 6 (by decide)).2, (c3 7 (by decide)).1, (c3 7 (by decide)).2, (c3 8 (by decide)).1, (c3 8 (by decide)).2]
      exact k2 n hn
    · rw [(c3 9 (by decide)).1, (c3 9 (by decide)).2, (c3 10 (by decide)).1, (c3 10 (by decide)).2, (c3 11 (by decide)).1, (c3 11 (by decide)).2, (c3 12 (by decide)).1, (c3 12 (by decide)).2]
      exact k3 n hn
    · dsimp only at hs hk
      by_cases e : s = us
      · subst e
        exact (c1 k (by omega) (by omega)).2
      · obtain ⟨d1, d2⟩ := c2 (4 * s + k) (Or.inl (by omega))
        rw [d1]
        exact l1 s k (by omega) hk
    · rw [(c3 6 (by decide)).1, (c3 7 (by decide)).1, (c3 8 (by decide)).1]
      have := l2 n hn
      dsimp only at this ⊢
      omega
    · rw [(c3 9 (by decide)).1, (c3 10 (by decide)).1, (c3 11 (by decide)).1, (c3 12 (by decide)).1]
      have := l3 n hn
      dsimp only at this ⊢
      omega
  · obtain ⟨r1, hn, hr⟩ := hy
    rcases hr with ⟨c, _, e⟩ | ⟨q, er, e⟩
    · cases e
    subst er
    have e := Sum.inr.inj e
    subst e
    dsimp only at hC hC' ⊢
    obtain ⟨q1, q2, x1, x2, x3, m1, m2, m3, eD⟩ := hC
    obtain ⟨q1', q2', x1', x2', x3', m1', m2', m3', eD'⟩ := hC'
    obtain ⟨f1, f2⟩ := lb_nu_e m1 m1'
    subst f1
    subst f2
    obtain ⟨f1, f2⟩ := lb_nu_e m2 m2'
    subst f1
    subst f2
    obtain ⟨_, f2⟩ := lb_nu_e m3 m3'
    subst f2
    have y1 := lb_nu_b m1
    have y2 := lb_nu_b m2
    have y3 := lb_nu_b m3
    have yy1 := yn1 (k := uk) (by omega) y1.1 y1.2
    have yy3 := yn1 (k := us) (by omega) y3.1 y3.2
    have F : ∀ (E : lb_C), (∀ a, a ≠ 6 → a ≠ 7 → a ≠ 8 → nt_u (nt_u (nt_u E 6 up x1') 7 up x2') 8 up x3' a = E a) ∧ (∀ n, n ≠ up → nt_u (nt_u (nt_u E 6 up x1') 7 up x2') 8 up x3' 6 n = E 6 n ∧ nt_u (nt_u (nt_u E 6 up x1') 7 up x2') 8 up x3' 7 n = E 7 n ∧ nt_u (nt_u (nt_u E 6 up x1') 7 up x2') 8 up x3' 8 n = E 8 n) ∧ nt_u (nt_u (nt_u E 6 up x1') 7 up x2') 8 up x3' 6 up = x1' ∧ nt_u (nt_u (nt_u E 6 up x1') 7 up x2') 8 up x3' 7 up = x2' ∧ nt_u (nt_u (nt_u E 6 up x1') 7 up x2') 8 up x3' 8 up = x3' := by
      intro E
      refine ⟨fun a g1 g2 g3 => ?_, fun n g => ⟨?_, ?_, ?_⟩, ?_, ?_, me_us⟩
      · rw [me_uo g3, me_uo g2, me_uo g1]
      · rw [me_uo (by decide), me_uo (by decide), me_uk g]
      · rw [me_uo (by decide), me_uk g, me_uo (by decide)]
      · rw [me_uk g, me_uo (by decide), me_uo (by decide)]
      · rw [me_uo (by decide), me_uo (by decide), me_us]
      · rw [me_uo (by decide), me_us]
    obtain ⟨F1, F2, F3, F4, F5⟩ := F C
    obtain ⟨G1, G2, G3, G4, G5⟩ := F C'
    rw [← eD] at F1 F2 F3 F4 F5
    rw [← eD'] at G1 G2 G3 G4 G5
    refine ⟨⟨⟨fun s k hs hk => ?_, fun n hn => ?_, fun n hn => ?_⟩, fun s k hs hk => ?_, fun n hn => ?_, fun n hn => ?_⟩, hk4, hs6, fun c => absurd (hxi.mp c) (by decide), fun _ => rfl⟩
    · rw [F1 5 (by decide) (by decide) (by decide), G1 5 (by decide) (by decide) (by decide)]
      exact k1 s k hs hk
    · dsimp only at hn
      by_cases e : n = up
      · subst e
        rw [F3, F4, F5, G3, G4, G5]
        exact ⟨rfl, rfl, rfl⟩
      · rw [(F2 n e).1, (F2 n e).2.1, (F2 n e).2.2, (G2 n e).1, (G2 n e).2.1, (G2 n e).2.2]
        exact k2 n (by omega)
    · rw [F1 9 (by decide) (by decide) (by decide), G1 9 (by decide) (by decide) (by decide), F1 10 (by decide) (by decide) (by decide), G1 10 (by decide) (by decide) (by decide), F1 11 (by decide) (by decide) (by decide), G1 11 (by decide) (by decide) (by decide), F1 12 (by decide) (by decide) (by decide), G1 12 (by decide) (by decide) (by decide)]
      exact k3 n hn
    · rw [F1 5 (by decide) (by decide) (by decide)]
      exact l1 s k hs hk
    · dsimp only at hn
      by_cases e : n = up
      · subst e
        rw [F3, F4, F5]
        dsimp only
        exact ⟨yy1, by omega, yy3⟩
      · rw [(F2 n e).1, (F2 n e).2.1, (F2 n e).2.2]
        exact l2 n (by omega)
    · rw [F1 9 (by decide) (by decide) (by decide), F1 10 (by decide) (by decide) (by decide), F1 11 (by decide) (by decide) (by decide), F1 12 (by decide) (by decide) (by decide)]
      exact l3 n hn
  · obtain ⟨r1, hn, hr⟩ := hy
    rcases hr with ⟨c, _, e⟩ | ⟨q, er, e⟩
    · cases e
    subst er
    have e := Sum.inr.inj e
    subst e
    dsimp only at hC hC' ⊢
    obtain ⟨q1, q2, q3, x1, x2, x3, x4, m1, m2, m3, m4, eD⟩ := hC
    obtain ⟨q1', q2', q3', x1', x2', x3', x4', m1', m2', m3', m4', eD'⟩ := hC'
    obtain ⟨f1, f2⟩ := lb_nu_e m1 m1'
    subst f1
    subst f2
    obtain ⟨f1, f2⟩ := lb_nu_e m2 m2'
    subst f1
    subst f2
    obtain ⟨f1, f2⟩ := lb_nu_e m3 m3'
    subst f1
    subst f2
    obtain ⟨_, f2⟩ := lb_nu_e m4 m4'
    subst f2
    have y1 := lb_nu_b m1
    have y2 := lb_nu_b m2
    have y3 := lb_nu_b m3
    have y4 := lb_nu_b m4
    have yy1 := yn1 (k := us) (by omega) y1.1 y1.2
    have ex : (x2' + Int32.ofInt 1).toInt = x2'.toInt + 1 := by
      rw [Int32.toInt_add, z1, Int.bmod_eq_of_le (by omega) (by omega)]
    have F : ∀ (E : lb_C), (∀ a, a ≠ 9 → a ≠ 10 → a ≠ 11 → a ≠ 12 → nt_u (nt_u (nt_u (nt_u E 9 uv x1') 10 uv x2') 11 uv x3') 12 uv x4' a = E a) ∧ (∀ n, n ≠ uv → nt_u (nt_u (nt_u (nt_u E 9 uv x1') 10 uv x2') 11 uv x3') 12 uv x4' 9 n = E 9 n ∧ nt_u (nt_u (nt_u (nt_u E 9 uv x1') 10 uv x2') 11 uv x3') 12 uv x4' 10 n = E 10 n ∧ nt_u (nt_u (nt_u (nt_u E 9 uv x1') 10 uv x2') 11 uv x3') 12 uv x4' 11 n = E 11 n ∧ nt_u (nt_u (nt_u (nt_u E 9 uv x1') 10 uv x2') 11 uv x3') 12 uv x4' 12 n = E 12 n) ∧ nt_u (nt_u (nt_u (nt_u E 9 uv x1') 10 uv x2') 11 uv x3') 12 uv x4' 9 uv = x1' ∧ nt_u (nt_u (nt_u (nt_u E 9 uv x1') 10 uv x2') 11 uv x3') 12 uv x4' 10 uv = x2' ∧ nt_u (nt_u (nt_u (nt_u E 9 uv x1') 10 uv x2') 11 uv x3') 12 uv x4' 11 uv = x3' ∧ nt_u (nt_u (nt_u (nt_u E 9 uv x1') 10 uv x2') 11 uv x3') 12 uv x4' 12 uv = x4' := by
      intro E
      refine ⟨fun a g1 g2 g3 g4 => ?_, fun n g => ⟨?_, ?_, ?_, ?_⟩, ?_, ?_, ?_, me_us⟩
      · rw [me_uo g4, me_uo g3, me_uo g2, me_uo g1]
      · rw [me_uo (by decide), me_uo (by decide), me_uo (by decide), me_uk g]
      · rw [me_uo (by decide), me_uo (by decide), me_uk g, me_uo (by decide)]
      · rw [me_uo (by decide), me_uk g, me_uo (by decide), me_uo (by decide)]
      · rw [me_uk g, me_uo (by decide), me_uo (by decide), me_uo (by decide)]
      · rw [me_uo (by decide), me_uo (by decide), me_uo (by decide), me_us]
      · rw [me_uo (by decide), me_uo (by decide), me_us]
      · rw [me_uo (by decide), me_us]
    obtain ⟨F1, F2, F3, F4, F5, F6⟩ := F C
    obtain ⟨G1, G2, G3, G4, G5, G6⟩ := F C'
    rw [← eD] at F1 F2 F3 F4 F5 F6
    rw [← eD'] at G1 G2 G3 G4 G5 G6
    refine ⟨⟨⟨fun s k hs hk => ?_, fun n hn => ?_, fun n hn => ?_⟩, fun s k hs hk => ?_, fun n hn => ?_, fun n hn => ?_⟩, hk4, hs6, fun c => absurd (hxi.mp c) (by decide), fun _ => rfl⟩
    · rw [F1 5 (by decide) (by decide) (by decide) (by decide), G1 5 (by decide) (by decide) (by decide) (by decide)]
      exact k1 s k hs hk
    · rw [F1 6 (by decide) (by decide) (by decide) (by decide), G1 6 (by decide) (by decide) (by decide) (by decide), F1 7 (by decide) (by decide) (by decide) (by decide), G1 7 (by decide) (by decide) (by decide) (by decide), F1 8 (by decide) (by decide) (by decide) (by decide), G1 8 (by decide) (by decide) (by decide) (by decide)]
      exact k2 n hn
    · dsimp only at hn
      by_cases e : n = uv
      · subst e
        rw [F3, F4, F5, F6, G3, G4, G5, G6]
        exact ⟨rfl, rfl, rfl, rfl⟩
      · rw [(F2 n e).1, (F2 n e).2.1, (F2 n e).2.2.1, (F2 n e).2.2.2, (G2 n e).1, (G2 n e).2.1, (G2 n e).2.2.1, (G2 n e).2.2.2]
        exact k3 n (by omega)
    · rw [F1 5 (by decide) (by decide) (by decide) (by decide)]
      exact l1 s k hs hk
    · rw [F1 6 (by decide) (by decide) (by decide) (by decide), F1 7 (by decide) (by decide) (by decide) (by decide), F1 8 (by decide) (by decide) (by decide) (by decide)]
      exact l2 n hn
    · dsimp only at hn
      by_cases e : n = uv
      · subst e
        rw [F3, F4, F5, F6]
        dsimp only
        exact ⟨yy1, by omega, by omega, by omega, by omega, by omega⟩
      · rw [(F2 n e).1, (F2 n e).2.1, (F2 n e).2.2.1, (F2 n e).2.2.2]
        exact l3 n (by omega)
  · obtain ⟨r1, hn, hr⟩ := hy
    rcases hr with ⟨c, _, e⟩ | ⟨q, x, er, e⟩
    · cases e
    have e := Sum.inr.inj e
    subst e
    have eD : D = C := hC
    have eD' : D' = C' := hC'
    rw [eD, eD']
    exact ⟨⟨⟨k1, k2, k3⟩, l1, l2, l3⟩, hk4, hs6, fun c => absurd (hxi.mp c) (by decide), fun _ => rfl⟩
theorem lb_yaC2 {f : Nat → Int32} {t : Nat} : ∀ (k k' i : Nat) (u v v' : lb_U) (C C' D D' : lb_C), (i = 0 → u.2.2.1 = 0 ∧ u.2.2.2.1 = 0 ∧ u.2.2.2.2.1 = 0) → (i ≠ 0 → 1 ≤ u.2.1) → u.2.1 ≤ 4 → u.2.2.1 ≤ 6 → yk u.2 C C' → lb_yaC f t k i u v C D → lb_yaC f t k' i u v' C' D' → v' = v ∧ yk v.2 D D' ∧ 1 ≤ v.2.1 := by
  intro k
  induction k with
  | zero => intro k' i u v v' C C' D D' _ _ _ _ _ h; exact h.elim
  | succ k ih =>
    intro k' i u v v' C C' D D' h0 h1 h4 h6 hk h h'
    cases k' with
    | zero => exact h'.elim
    | succ k' =>
      obtain ⟨u1, C1, hy, hC, h⟩ := h
      obtain ⟨u1', C1', hy', hC', h'⟩ := h'
      have e := Sum.inr.inj (lb_yc_det hy' hy)
      subst e
      obtain ⟨g1, g2, g3, g4, g5⟩ := yk_1 h0 h4 h6 hk hy hC hC'
      have g6 : 1 ≤ u1'.2.1 := by
        by_cases e : i = 0
        · exact g4 e
        · rw [g5 e]
          exact h1 e
      rcases h with ⟨a, h⟩ | ⟨a, h, hD⟩ <;> rcases h' with ⟨a', h'⟩ | ⟨a', h', hD'⟩
      · exact ih k' (i + 1) (lb_s f t (u1'.1 + 1), u1'.2) v v' C1 C1' D D' (fun c => absurd c (Nat.succ_ne_zero _)) (fun _ => g6) g2 g3 g1 h h'
      · rw [a] at a'
        exact absurd a' (by decide)
      · rw [a] at a'
        exact absurd a' (by decide)
      · subst h
        subst hD
        subst hD'
        exact ⟨h', g1, g6⟩
