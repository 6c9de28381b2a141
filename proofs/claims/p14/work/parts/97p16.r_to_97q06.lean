section
/-! sums, facts, tests: the same code -/
theorem zJ_jn {e e1 : lb_E} {x y : Int32} {k : Nat} {B B' : List Int64 → Prop} (h : zJ e e1 k B) (h4 : e1.1.1 < 400) (ho : (x ≠ Int32.ofInt 22 ∧ x ≠ Int32.ofInt 23) ∧ zwk y ∧ ¬ zpu x ∧ ∀ w (a b : Int64) st, zcs w x (b :: a :: st) = some (x44 x a b :: st) ∧ zrs w y (b :: a :: st) = some (x44 x a b :: st)) (hB : ∀ vs, B vs → ∃ a b r, vs = b :: a :: r ∧ B' (x44 x a b :: r)) : zJ e (lb_em e1 x y) k B' := by
  have z := zJ_1 (B' := B') h h4 ho.1 ho.2.1 (fun w vs hb => by
    obtain ⟨a, b, r, e, q⟩ := hB vs hb
    subst e
    exact ⟨_, q, fun st => ho.2.2.2 w a b (r ++ st)⟩)
  rw [if_neg ho.2.2.1] at z
  exact z
theorem zsr_op {w : Int32} (h : w = Int32.ofInt 10 ∨ w = Int32.ofInt 11 ∨ w = Int32.ofInt 12 ∨ w = Int32.ofInt 13) : (w ≠ Int32.ofInt 22 ∧ w ≠ Int32.ofInt 23) ∧ zwk (w - Int32.ofInt 8) ∧ ¬ zpu w ∧ ∀ u (a b : Int64) st, zcs u w (b :: a :: st) = some (x44 w a b :: st) ∧ zrs u (w - Int32.ofInt 8) (b :: a :: st) = some (x44 w a b :: st) := by
  apply zop
  rcases h with rfl | rfl | rfl | rfl
  · exact Or.inl ⟨rfl, by decide⟩
  · exact Or.inr (Or.inl ⟨rfl, by decide⟩)
  · exact Or.inr (Or.inr (Or.inl ⟨rfl, by decide⟩))
  · exact Or.inr (Or.inr (Or.inr (Or.inl ⟨rfl, by decide⟩)))
theorem zew {e : lb_E} {w : Int32} (h : w = Int32.ofInt 10 ∨ w = Int32.ofInt 11 ∨ w = Int32.ofInt 12 ∨ w = Int32.ofInt 13) : lb_ew e w = lb_em e w (w - Int32.ofInt 8) := by
  unfold lb_ew
  rw [if_neg]
  rcases h with rfl | rfl | rfl | rfl <;> decide
theorem zeml {e : lb_E} {x y : Int32} (h : e.1.1 < 400) : (lb_em e x y).1.1 = e.1.1 + 1 := by rw [zem h]
theorem zJ_sr {f : Nat → Int32} {t : Nat} (ht : t ≤ 400) : ∀ (k : Nat) (w : Int32) (z z' : lb_Z) (e0 : lb_E) (k0 : Nat), z.1 ≤ t → z.2.1 ≤ 60 → ((w = Int32.ofInt (-1) ∧ zJ e0 z.2.2 k0 z1v ∧ z.2.2.1.1 ≤ z.1) ∨ ((w = Int32.ofInt 10 ∨ w = Int32.ofInt 11) ∧ zJ e0 z.2.2 k0 z2v ∧ z.2.2.1.1 + 1 ≤ z.1)) → lb_sr f t k w z (.inr z') → zJ e0 z'.2.2 (k0 + (z'.2.1 - z.2.1)) z1v ∧ z.2.1 ≤ z'.2.1 ∧ z'.2.1 ≤ 60 ∧ z'.2.2.1.1 + z.1 ≤ z'.1 + z.2.2.1.1 + (if w = Int32.ofInt (-1) then 0 else 1) := by
  intro k
  induction k with
  | zero => intro w z z' e0 k0 _ _ _ h; exact h.elim
  | succ k ih =>
    intro w z z' e0 k0 hz hm hw h
    rcases h with ⟨_, h⟩ | ⟨ho, r1, hv, h⟩ | ⟨ho, r1, hv, h⟩
    · have e := Sum.inr.inj h
      subst e
      dsimp only
      rcases hw with ⟨w1, hJ, hl⟩ | ⟨w1, hJ, hl⟩
      · have e : lb_ew z.2.2 w = z.2.2 := by unfold lb_ew; rw [if_pos w1]
        rw [e, if_pos w1]
        exact ⟨zJ_w hJ (by omega) (fun _ h => h), Nat.le_refl _, hm, by omega⟩
      · have w4 : w = Int32.ofInt 10 ∨ w = Int32.ofInt 11 ∨ w = Int32.ofInt 12 ∨ w = Int32.ofInt 13 := by
          rcases w1 with h | h
          · exact Or.inl h
          · exact Or.inr (Or.inl h)
        rw [zew w4, if_neg (by rcases w1 with rfl | rfl <;> decide), zeml (by omega)]
        refine ⟨zJ_w (zJ_jn (B' := z1v) hJ (by omega) (zsr_op w4) (fun vs ⟨a, b, e⟩ => ⟨a, b, [], e, _, rfl⟩)) (by omega) (fun _ h => h), Nat.le_refl _, hm, by omega⟩
    · have w4 : lb_op (lb_g f t z.1) = Int32.ofInt 10 ∨ lb_op (lb_g f t z.1) = Int32.ofInt 11 ∨ lb_op (lb_g f t z.1) = Int32.ofInt 12 ∨ lb_op (lb_g f t z.1) = Int32.ofInt 13 := by
        rcases ho with h | h
        · exact Or.inr (Or.inr (Or.inl h))
        · exact Or.inr (Or.inr (Or.inr h))
      have hlt : z.1 < t := lb_op_lt (by rcases ho with ho | ho <;> (rw [ho]; decide))
      have hs := lb_s_le (f := f) (t := t) (t - (z.1 + 1)) (z.1 + 1) (by omega)
      rcases h with ⟨c, e1, e2⟩ | ⟨z2, e1, h⟩
      · cases e2
      subst e1
      have q := lb_val_up hs.2 hv
      have l0 : z.2.2.1.1 ≤ z.1 := by rcases hw with ⟨_, _, l⟩ | ⟨_, _, l⟩ <;> omega
      obtain ⟨vJ, vm, vl, v6⟩ := zJ_val hv (by dsimp only; omega)
      dsimp only at vJ vm vl q
      have l1 : z2.2.2.1.1 < 400 := by omega
      have lw := zeml (x := lb_op (lb_g f t z.1)) (y := lb_op (lb_g f t z.1) - Int32.ofInt 8) l1
      rw [zew w4] at h
      rcases hw with ⟨w1, hJ, hl⟩ | ⟨w1, hJ, hl⟩
      · have a := zJ_jn (B' := z1v) (zJ_t hJ vJ) l1 (zsr_op w4) (fun vs ⟨v1, v2, ⟨a, ea⟩, ⟨b, eb⟩, e⟩ => ⟨a, b, [], by rw [e, ea, eb]; rfl, _, rfl⟩)
        have g := ih w _ z' e0 (k0 + 1) (by dsimp only; omega) (by dsimp only; omega) (Or.inl ⟨w1, a, by dsimp only; omega⟩) h
        dsimp only at g
        rw [if_pos w1] at g ⊢
        exact ⟨zJ_w g.1 (by omega) (fun _ h => h), by omega, g.2.2.1, by omega⟩
      · have a := zJ_jn (B' := z2v) (zJ_t hJ vJ) l1 (zsr_op w4) (fun vs ⟨v1, v2, ⟨c, a, ea⟩, ⟨b, eb⟩, e⟩ => ⟨a, b, [c], by rw [e, ea, eb]; rfl, _, _, rfl⟩)
        have g := ih w _ z' e0 (k0 + 1) (by dsimp only; omega) (by dsimp only; omega) (Or.inr ⟨w1, a, by dsimp only; omega⟩) h
        dsimp only at g
        have wn : ¬ w = Int32.ofInt (-1) := by rcases w1 with rfl | rfl <;> decide
        rw [if_neg wn] at g ⊢
        exact ⟨zJ_w g.1 (by omega) (fun _ h => h), by omega, g.2.2.1, by omega⟩
    · have hlt : z.1 < t := lb_op_lt (by rcases ho with ho | ho <;> (rw [ho]; decide))
      have hs := lb_s_le (f := f) (t := t) (t - (z.1 + 1)) (z.1 + 1) (by omega)
      rcases h with ⟨c, e1, e2⟩ | ⟨z2, e1, h⟩
      · cases e2
      subst e1
      have q := lb_val_up hs.2 hv
      have wn2 : ¬ lb_op (lb_g f t z.1) = Int32.ofInt (-1) := by rcases ho with h | h <;> (rw [h]; decide)
      obtain ⟨e1, ee, hJ1, hl1, he1⟩ : ∃ e1, lb_ew z.2.2 w = e1 ∧ zJ e0 e1 k0 z1v ∧ e1.1.1 ≤ z.2.2.1.1 + (if w = Int32.ofInt (-1) then 0 else 1) ∧ e1.1.1 ≤ z.1 := by
        rcases hw with ⟨w1, hJ, hl⟩ | ⟨w1, hJ, hl⟩
        · have e : lb_ew z.2.2 w = z.2.2 := by unfold lb_ew; rw [if_pos w1]
          rw [e, if_pos w1]
          exact ⟨_, rfl, hJ, by omega, hl⟩
        · have w4 : w = Int32.ofInt 10 ∨ w = Int32.ofInt 11 ∨ w = Int32.ofInt 12 ∨ w = Int32.ofInt 13 := by
            rcases w1 with h | h
            · exact Or.inl h
            · exact Or.inr (Or.inl h)
          rw [zew w4, if_neg (by rcases w1 with rfl | rfl <;> decide)]
          exact ⟨_, rfl, zJ_jn (B' := z1v) hJ (by omega) (zsr_op w4) (fun vs ⟨a, b, e⟩ => ⟨a, b, [], e, _, rfl⟩), by rw [zeml (by omega)]; omega, by rw [zeml (by omega)]; omega⟩
      rw [ee] at hv
      obtain ⟨vJ, vm, vl, v6⟩ := zJ_val hv (by dsimp only; omega)
      dsimp only at vJ vm vl q
      have a := zJ_w (B' := z2v) (zJ_t hJ1 vJ) (Nat.le_refl _) (fun vs ⟨v1, v2, ⟨a, ea⟩, ⟨b, eb⟩, e⟩ => ⟨a, b, by rw [e, ea, eb]; rfl⟩)
      have g := ih _ z2 z' e0 (k0 + 1) q.2 v6 (Or.inr ⟨ho, a, by omega⟩) h
      rw [if_neg wn2] at g
      refine ⟨zJ_w g.1 (by omega) (fun _ h => h), by omega, g.2.2.1, ?_⟩
      by_cases c : w = Int32.ofInt (-1)
      · rw [if_pos c] at hl1 ⊢
        omega
      · rw [if_neg c] at hl1 ⊢
        omega
theorem zJ_sum {f : Nat → Int32} {t : Nat} {z z' : lb_Z} (ht : t ≤ 400) (hz : z.1 ≤ t) (hm : z.2.1 ≤ 60) (hl : z.2.2.1.1 ≤ z.1) (h : lb_sum f t z (.inr z')) : zJ z.2.2 z'.2.2 (z'.2.1 - z.2.1) z1v ∧ z.2.1 ≤ z'.2.1 ∧ z'.2.1 ≤ 60 ∧ z'.2.2.1.1 + z.1 ≤ z'.1 + z.2.2.1.1 ∧ z.1 < z'.1 ∧ z'.1 ≤ t := by
  have up := lb_sum_up hz h
  obtain ⟨r1, hv, h⟩ := h
  rcases h with ⟨c, e1, e2⟩ | ⟨z1, k, e1, h⟩
  · cases e2
  subst e1
  have q := lb_val_up hz hv
  obtain ⟨vJ, vm, vl, v6⟩ := zJ_val hv (by omega)
  have g := zJ_sr ht k _ z1 z' z.2.2 1 q.2 v6 (Or.inl ⟨rfl, vJ, by omega⟩) h
  rw [if_pos rfl] at g
  exact ⟨zJ_w g.1 (by omega) (fun _ h => h), by omega, g.2.2.1, by omega, up⟩
theorem zcm {f : Nat → Int32} {t p : Nat} {x : Int32} (h : lb_cm f t p x) (hx : ¬ x = Int32.ofInt (-1)) : x = Int32.ofInt 14 ∨ x = Int32.ofInt 15 ∨ x = Int32.ofInt 16 ∨ x = Int32.ofInt 17 ∨ x = Int32.ofInt 18 := by
  rcases h with ⟨_, _, h⟩ | ⟨_, _, h⟩ | ⟨_, h⟩ | ⟨_, _, h⟩ | ⟨_, _, h⟩ | ⟨_, h⟩
  · exact Or.inr (Or.inl h)
  · exact Or.inl h
  · exact Or.inr (Or.inr (Or.inl h))
  · exact Or.inr (Or.inr (Or.inr (Or.inl h)))
  · exact Or.inr (Or.inr (Or.inr (Or.inr h)))
  · exact absurd h hx
theorem zcm_op {x : Int32} (h : x = Int32.ofInt 14 ∨ x = Int32.ofInt 15 ∨ x = Int32.ofInt 16 ∨ x = Int32.ofInt 17 ∨ x = Int32.ofInt 18) : (x ≠ Int32.ofInt 22 ∧ x ≠ Int32.ofInt 23) ∧ zwk (x - Int32.ofInt 8) ∧ ¬ zpu x ∧ ∀ u (a b : Int64) st, zcs u x (b :: a :: st) = some (x44 x a b :: st) ∧ zrs u (x - Int32.ofInt 8) (b :: a :: st) = some (x44 x a b :: st) := by
  apply zop
  rcases h with rfl | rfl | rfl | rfl | rfl
  · exact Or.inr (Or.inr (Or.inr (Or.inr (Or.inl ⟨rfl, by decide⟩))))
  · exact Or.inr (Or.inr (Or.inr (Or.inr (Or.inr (Or.inl ⟨rfl, by decide⟩)))))
  · exact Or.inr (Or.inr (Or.inr (Or.inr (Or.inr (Or.inr (Or.inl ⟨rfl, by decide⟩))))))
  · exact Or.inr (Or.inr (Or.inr (Or.inr (Or.inr (Or.inr (Or.inr (Or.inl ⟨rfl, by decide⟩)))))))
  · exact Or.inr (Or.inr (Or.inr (Or.inr (Or.inr (Or.inr (Or.inr (Or.inr (Or.inl ⟨rfl, by decide⟩))))))))
theorem zJ_fa {f : Nat → Int32} {t : Nat} {z z' : lb_Z} (ht : t ≤ 400) (hz : z.1 ≤ t) (hm : z.2.1 ≤ 60) (hl : z.2.2.1.1 ≤ z.1) (h : lb_fa f t z (.inr z')) : zJ z.2.2 z'.2.2 (z'.2.1 - z.2.1) z1b ∧ z.2.1 ≤ z'.2.1 ∧ z'.2.1 ≤ 60 ∧ z'.2.2.1.1 + z.1 ≤ z'.1 + z.2.2.1.1 := by
  obtain ⟨r1, h1, h⟩ := h
  rcases h with ⟨c, e1, e2⟩ | ⟨z1, e1, x, r2, h2, h⟩
  · cases e2
  subst e1
  obtain ⟨a1, a2, a3, a4, a5, a6⟩ := zJ_sum ht hz hm hl h1
  rcases h with ⟨c, e1, e2⟩ | ⟨z2, e1, r3, h3, h⟩
  · cases e2
  subst e1
  have q2 := lb_cp_up a6 h2
  obtain ⟨hcm, hcp⟩ := h2
  rcases hcp with ⟨_, h2⟩ | ⟨_, _, h2⟩ | ⟨hx, h60, h2⟩
  · cases h2
  · cases h2
  have e := Sum.inr.inj h2
  have e21 : z2.2.1 = z1.2.1 + 1 := by rw [e]
  have e22 : z2.2.2 = z1.2.2 := by rw [e]
  rcases h with ⟨c, e1, e2⟩ | ⟨z3, e1, h⟩
  · cases e2
  subst e1
  obtain ⟨b1, b2, b3, b4, b5, b6⟩ := zJ_sum ht q2.2 (by omega) (by rw [e22]; omega) h3
  rw [e22] at b1 b4
  have e := Sum.inr.inj h
  subst e
  dsimp only
  have x5 := zcm hcm hx
  have l3 : z3.2.2.1.1 < 400 := by omega
  rw [zeml l3]
  exact ⟨zJ_w (zJ_jn (B' := z1b) (zJ_t a1 b1) l3 (zcm_op x5) (fun vs ⟨v1, v2, ⟨a, ea⟩, ⟨b, eb⟩, e⟩ => ⟨a, b, [], by rw [e, ea, eb]; rfl, _, zbool x5, rfl⟩)) (by omega) (fun _ h => h), by omega, b3, by omega⟩
theorem zand : (Int32.ofInt 19 ≠ Int32.ofInt 22 ∧ Int32.ofInt 19 ≠ Int32.ofInt 23) ∧ zwk (Int32.ofInt 12) ∧ ¬ zpu (Int32.ofInt 19) ∧ ∀ u (a b : Int64) st, zcs u (Int32.ofInt 19) (b :: a :: st) = some (x44 (Int32.ofInt 19) a b :: st) ∧ zrs u (Int32.ofInt 12) (b :: a :: st) = some (x44 (Int32.ofInt 19) a b :: st) := zop (Or.inr (Or.inr (Or.inr (Or.inr (Or.inr (Or.inr (Or.inr (Or.inr (Or.inr (Or.inl ⟨rfl, rfl⟩))))))))))
theorem zor : (Int32.ofInt 20 ≠ Int32.ofInt 22 ∧ Int32.ofInt 20 ≠ Int32.ofInt 23) ∧ zwk (Int32.ofInt 13) ∧ ¬ zpu (Int32.ofInt 20) ∧ ∀ u (a b : Int64) st, zcs u (Int32.ofInt 20) (b :: a :: st) = some (x44 (Int32.ofInt 20) a b :: st) ∧ zrs u (Int32.ofInt 13) (b :: a :: st) = some (x44 (Int32.ofInt 20) a b :: st) := zop (Or.inr (Or.inr (Or.inr (Or.inr (Or.inr (Or.inr (Or.inr (Or.inr (Or.inr (Or.inr ⟨rfl, rfl⟩))))))))))
theorem zJ_not {e e1 : lb_E} {k : Nat} (h : zJ e e1 k z1b) (h4 : e1.1.1 < 400) : zJ e (lb_em e1 (Int32.ofInt 21) (Int32.ofInt 11)) k z1b := by
  have z := zJ_1 (x := Int32.ofInt 21) (y := Int32.ofInt 11) (B' := z1b) h h4 (by decide) (fun c => absurd c (by decide)) (fun w vs ⟨v, hv, e⟩ => ⟨[Int64.ofNat 1 - v], ⟨_, by rcases hv with rfl | rfl <;> decide, rfl⟩, fun st => by subst e; exact ⟨rfl, rfl⟩⟩)
  rw [if_neg (by decide)] at z
  exact z
theorem zoe {e e1 : lb_E} {k : Nat} {w : Bool} (h : (w = false ∧ zJ e e1 k z1b) ∨ (w = true ∧ zJ e e1 k z2b ∧ e1.1.1 < 400)) : zJ e (lb_oe e1 w) k z1b ∧ (lb_oe e1 w).1.1 = e1.1.1 + (if w = true then 1 else 0) := by
  rcases h with ⟨rfl, h⟩ | ⟨rfl, h, h4⟩
  · exact ⟨h, rfl⟩
  · exact ⟨zJ_jn (B' := z1b) h h4 zor (fun vs ⟨a, b, ha, hb, e⟩ => ⟨a, b, [], e, _, zbool2 (Or.inr rfl) ha hb, rfl⟩), zeml h4⟩
/-- facts and tests -/
theorem zJ_ft {f : Nat → Int32} {t : Nat} (ht : t ≤ 400) : ∀ (k : Nat) (b : Bool) (d : Nat) (w : Bool) (z z' : lb_Z), z.1 ≤ t → z.2.1 ≤ 60 → lb_ft f t k b d w z (.inr z') →
    (b = true → z.2.2.1.1 ≤ z.1 → zJ z.2.2 z'.2.2 (z'.2.1 - z.2.1) z1b ∧ z.2.1 ≤ z'.2.1 ∧ z'.2.1 ≤ 60 ∧ z'.2.2.1.1 + z.1 ≤ z'.1 + z.2.2.1.1) ∧
    (b = false → ∀ (e0 : lb_E) (k0 : Nat), ((w = false ∧ zJ e0 z.2.2 k0 z1b ∧ z.2.2.1.1 ≤ z.1) ∨ (w = true ∧ zJ e0 z.2.2 k0 z2b ∧ z.2.2.1.1 + 1 ≤ z.1)) → zJ e0 z'.2.2 (k0 + (z'.2.1 - z.2.1)) z1b ∧ z.2.1 ≤ z'.2.1 ∧ z'.2.1 ≤ 60 ∧ z'.2.2.1.1 + z.1 ≤ z'.1 + z.2.2.1.1 + (if w = true then 1 else 0)) := by
  intro k
  induction k with
  | zero => intro b d w z z' _ _ h; exact h.elim
  | succ k ih =>
    intro b d w z z' hz hm h
    cases b with
    | true =>
      refine ⟨fun _ hl => ?_, fun c => (by cases c)⟩
      rcases h with ⟨_, _, h⟩ | ⟨h1, h2, r1, h3, h4⟩ | ⟨h1, h2, h3, r1, h4, h5⟩ | ⟨_, _, h⟩
      · cases h
      · have a := h1.1
        have b2 := lb_Wp 15 (by decide)
        have q := lb_s_le (f := f) (t := t) (t - (z.1 + (lb_W (nt_sp + 1 + 15)).length)) (z.1 + (lb_W (nt_sp + 1 + 15)).length) (by omega)
        rcases h4 with ⟨c, e1, e2⟩ | ⟨z2, e1, h⟩
        · cases e2
        subst e1
        have up := lb_ft_up _ _ _ _ _ _ q.2 h3
        obtain ⟨i1, i2, i3, i4⟩ := (ih true _ _ _ z2 q.2 (by exact hm) h3).1 rfl (by dsimp only; omega)
        dsimp only at i1 i2 i4 up
        have e := Sum.inr.inj h
        subst e
        dsimp only
        have l2 : z2.2.2.1.1 < 400 := by omega
        rw [zeml l2]
        exact ⟨zJ_not i1 l2, i2, i3, by omega⟩
      · have a := lb_g_lt (f := f) (t := t) (p := z.1) (by rw [h2]; decide)
        have q := lb_s_le (f := f) (t := t) (t - (z.1 + 1)) (z.1 + 1) (by omega)
        rcases h5 with ⟨c, e1, e2⟩ | ⟨z2, e1, r2, h6, h⟩
        · cases e2
        subst e1
        have up := lb_ft_up _ _ _ _ _ _ q.2 h4
        obtain ⟨i1, i2, i3, i4⟩ := (ih true _ _ _ z2 q.2 (by exact hm) h4).1 rfl (by dsimp only; omega)
        dsimp only at i1 i2 i4 up
        rcases h with ⟨c, e1, e2⟩ | ⟨z3, e1, h⟩
        · cases e2
        subst e1
        have up2 := lb_ft_up _ _ _ _ _ _ up.2.1 h6
        obtain ⟨j1, j2, j3, j4⟩ := (ih false _ _ z2 z3 up.2.1 i3 h6).2 rfl z.2.2 (z2.2.1 - z.2.1) (Or.inl ⟨rfl, i1, by omega⟩)
        rw [if_neg (by decide)] at j4
        rcases h with ⟨h93, h⟩ | ⟨_, h⟩
        · have e := Sum.inr.inj h
          subst e
          have a3 := lb_g_lt (f := f) (t := t) (p := z3.1) (by rw [h93]; decide)
          have q3 := lb_s_le (f := f) (t := t) (t - (z3.1 + 1)) (z3.1 + 1) (by omega)
          dsimp only
          exact ⟨zJ_w j1 (by omega) (fun _ h => h), by omega, j3, by omega⟩
        · cases h
      · exact zJ_fa ht hz hm hl h
    | false =>
      refine ⟨fun c => (by cases c), fun _ e0 k0 hw => ?_⟩
      have l0 : z.2.2.1.1 + (if w = true then 1 else 0) ≤ z.1 := by
        rcases hw with ⟨rfl, _, l⟩ | ⟨rfl, _, l⟩
        · exact l
        · exact l
      rcases h with ⟨h1, r1, h3, h4⟩ | ⟨h1, h2, r1, h3, h4⟩ | ⟨_, _, h⟩
      · have a := h1.1
        have b2 := lb_Wp 16 (by decide)
        have q := lb_s_le (f := f) (t := t) (t - (z.1 + (lb_W (nt_sp + 1 + 16)).length)) (z.1 + (lb_W (nt_sp + 1 + 16)).length) (by omega)
        rcases h4 with ⟨c, e1, e2⟩ | ⟨z2, e1, h⟩
        · cases e2
        subst e1
        have up := lb_ft_up _ _ _ _ _ _ q.2 h3
        obtain ⟨i1, i2, i3, i4⟩ := (ih true _ _ _ z2 q.2 (by exact hm) h3).1 rfl (by dsimp only; omega)
        dsimp only at i1 i2 i4 up
        have l2 : z2.2.2.1.1 < 400 := by omega
        have lw := zeml (x := Int32.ofInt 19) (y := Int32.ofInt 12) l2
        have step : (w = false ∧ zJ e0 (lb_em z2.2.2 (Int32.ofInt 19) (Int32.ofInt 12)) (k0 + (z2.2.1 - z.2.1)) z1b ∧ (lb_em z2.2.2 (Int32.ofInt 19) (Int32.ofInt 12)).1.1 ≤ z2.1) ∨ (w = true ∧ zJ e0 (lb_em z2.2.2 (Int32.ofInt 19) (Int32.ofInt 12)) (k0 + (z2.2.1 - z.2.1)) z2b ∧ (lb_em z2.2.2 (Int32.ofInt 19) (Int32.ofInt 12)).1.1 + 1 ≤ z2.1) := by
          rcases hw with ⟨w1, hJ, hl⟩ | ⟨w1, hJ, hl⟩
          · exact Or.inl ⟨w1, zJ_jn (B' := z1b) (zJ_t hJ i1) l2 zand (fun vs ⟨v1, v2, ⟨a, ha, ea⟩, ⟨b, hb, eb⟩, e⟩ => ⟨a, b, [], by rw [e, ea, eb]; rfl, _, zbool2 (Or.inl rfl) ha hb, rfl⟩), by omega⟩
          · exact Or.inr ⟨w1, zJ_jn (B' := z2b) (zJ_t hJ i1) l2 zand (fun vs ⟨v1, v2, ⟨c, a, hc, ha, ea⟩, ⟨b, hb, eb⟩, e⟩ => ⟨a, b, [c], by rw [e, ea, eb]; rfl, _, _, hc, zbool2 (Or.inl rfl) ha hb, rfl⟩), by omega⟩
        have g := (ih false _ _ _ z' (by dsimp only; omega) (by dsimp only; omega) h).2 rfl e0 (k0 + (z2.2.1 - z.2.1)) step
        dsimp only at g
        exact ⟨zJ_w g.1 (by omega) (fun _ h => h), by omega, g.2.2.1, by omega⟩
      · have a := h2.1
        have b2 := lb_Wp 17 (by decide)
        have q := lb_s_le (f := f) (t := t) (t - (z.1 + (lb_W (nt_sp + 1 + 17)).length)) (z.1 + (lb_W (nt_sp + 1 + 17)).length) (by omega)
        rcases h4 with ⟨c, e1, e2⟩ | ⟨z2, e1, h⟩
        · cases e2
        subst e1
        have oo := zoe (e := e0) (e1 := z.2.2) (k := k0) (w := w) (by
          rcases hw with ⟨w1, hJ, hl⟩ | ⟨w1, hJ, hl⟩
          · exact Or.inl ⟨w1, hJ⟩
          · exact Or.inr ⟨w1, hJ, by omega⟩)
        have up := lb_ft_up _ _ _ _ _ _ q.2 h3
        obtain ⟨i1, i2, i3, i4⟩ := (ih true _ _ _ z2 q.2 (by exact hm) h3).1 rfl (by dsimp only; rw [oo.2]; omega)
        dsimp only at i1 i2 i4 up
        rw [oo.2] at i4
        have g := (ih false _ _ z2 z' up.2.1 i3 h).2 rfl e0 (k0 + (z2.2.1 - z.2.1)) (Or.inr ⟨rfl, zJ_w (B' := z2b) (zJ_t oo.1 i1) (Nat.le_refl _) (fun vs ⟨v1, v2, ⟨a, ha, ea⟩, ⟨b, hb, eb⟩, e⟩ => ⟨a, b, ha, hb, by rw [e, ea, eb]; rfl⟩), by omega⟩)
        rw [if_pos rfl] at g
        exact ⟨zJ_w g.1 (by omega) (fun _ h => h), by omega, g.2.2.1, by omega⟩
      · have e := Sum.inr.inj h
        subst e
        dsimp only
        have oo := zoe (e := e0) (e1 := z.2.2) (k := k0) (w := w) (by
          rcases hw with ⟨w1, hJ, hl⟩ | ⟨w1, hJ, hl⟩
          · exact Or.inl ⟨w1, hJ⟩
          · exact Or.inr ⟨w1, hJ, by omega⟩)
        rw [oo.2]
        exact ⟨zJ_w oo.1 (by omega) (fun _ h => h), Nat.le_refl _, hm, by omega⟩
end
section
/-! a rule read by both sides is the same rule -/
theorem zLL_ag {g h g' h' : Nat → Int32} {m a n b : Nat} {B : List Int64 → Prop} (z : zLL g h m a n b B) (hg : ∀ j, j < a + m → g' j = g j) (hh : ∀ j, j < b + n → h' j = h j) : zLL g' h' m a n b B := by
  refine ⟨fun w => ?_, fun j h1 h2 => ?_, fun j h1 h2 => ?_⟩
  · obtain ⟨vs, c, d⟩ := z.1 w
    exact ⟨vs, c, fun st => by rw [zcr_ag (g := g) _ _ _ (fun j h1 h2 => hg j h2), zrr_ag (g := h) _ _ _ (fun j h1 h2 => hh j h2)]; exact d st⟩
  · rw [hg j h2]
    exact z.2.1 j h1 h2
  · rw [hh j h2]
    exact z.2.2 j h1 h2
theorem zLL_1 {g h : Nat → Int32} {m a n b : Nat} (z : zLL g h m a n b z1v) : zsg g h m a n b (fun _ => True) :=
  ⟨fun w => by obtain ⟨vs, ⟨v, e⟩, d⟩ := z.1 w; subst e; exact ⟨v, trivial, d⟩, z.2⟩
theorem zLL_b {g h : Nat → Int32} {m a n b : Nat} (z : zLL g h m a n b z1b) : zsg g h m a n b (fun v => v = 0 ∨ v = 1) :=
  ⟨fun w => by obtain ⟨vs, ⟨v, hv, e⟩, d⟩ := z.1 w; subst e; exact ⟨v, hv, d⟩, z.2⟩
/-- a clause, below L in the reference's stream -/
def zCb (g h : Nat → Int32) (cl : Nat → Int32) (a a' L : Nat) : Prop := ∃ m1 n0 n1 : Nat, (cl 0).toInt = n0 ∧ (cl 1).toInt = n1 ∧ n0 ≤ n1 ∧ n1 ≤ L ∧ zLL g h m1 a (n1 - n0) n0 z1v ∧
  ((cl 2 < 0 ∧ g (a + m1) = Int32.ofInt 22 ∧ a' = a + m1 + 1 ∧ zpc g m1 a ≤ 60) ∨
   (∃ m2 n2 n3 : Nat, (cl 2).toInt = n2 ∧ (cl 3).toInt = n3 ∧ n2 ≤ n3 ∧ n3 ≤ L ∧ zLL g h m2 (a + m1) (n3 - n2) n2 z1b ∧ g (a + m1 + m2) = Int32.ofInt 23 ∧ a' = a + m1 + m2 + 1 ∧ zpc g m1 a + zpc g m2 (a + m1) ≤ 60))
theorem zCb_ag {g h g' h' cl cl' : Nat → Int32} {a a' L L' : Nat} (z : zCb g h cl a a' L) (hg : ∀ j, j < a' → g' j = g j) (hh : ∀ j, j < L → h' j = h j) (hc : ∀ r, r < 4 → cl' r = cl r) (hL : L ≤ L') : zCb g' h' cl' a a' L' := by
  obtain ⟨m1, n0, n1, e0, e1, l1, l2, s, q⟩ := z
  rcases q with ⟨c2, g22, ea, hp⟩ | ⟨m2, n2, n3, e2, e3, l3, l4, s2, g23, ea, hp⟩
  · refine ⟨m1, n0, n1, by rw [hc 0 (by omega)]; exact e0, by rw [hc 1 (by omega)]; exact e1, l1, by omega, zLL_ag s (fun j hj => hg j (by omega)) (fun j hj => hh j (by omega)), Or.inl ⟨by rw [hc 2 (by omega)]; exact c2, by rw [hg _ (by omega)]; exact g22, ea, ?_⟩⟩
    rw [zpc_ag (g := g) _ _ (fun j h1 h2 => hg j (by omega))]
    exact hp
  · refine ⟨m1, n0, n1, by rw [hc 0 (by omega)]; exact e0, by rw [hc 1 (by omega)]; exact e1, l1, by omega, zLL_ag s (fun j hj => hg j (by omega)) (fun j hj => hh j (by omega)), Or.inr ⟨m2, n2, n3, by rw [hc 2 (by omega)]; exact e2, by rw [hc 3 (by omega)]; exact e3, l3, by omega, zLL_ag s2 (fun j hj => hg j (by omega)) (fun j hj => hh j (by omega)), by rw [hg _ (by omega)]; exact g23, ea, ?_⟩⟩
    rw [zpc_ag (g := g) _ _ (fun j h1 h2 => hg j (by omega)), zpc_ag (g := g) _ _ (fun j h1 h2 => hg j (by omega))]
    exact hp
theorem zCb_l {g h cl : Nat → Int32} {a a' L : Nat} (z : zCb g h cl a a' L) (hL : L ≤ 400) : zCl g h cl a a' ∧ a < a' := by
  obtain ⟨m1, n0, n1, e0, e1, l1, l2, s, q⟩ := z
  rcases q with ⟨c2, g22, ea, hp⟩ | ⟨m2, n2, n3, e2, e3, l3, l4, s2, g23, ea, hp⟩
  · exact ⟨⟨m1, n0, n1, e0, e1, l1, by omega, zLL_1 s, Or.inl ⟨c2, g22, ea, hp⟩⟩, by omega⟩
  · exact ⟨⟨m1, n0, n1, e0, e1, l1, by omega, zLL_1 s, Or.inr ⟨m2, n2, n3, e2, e3, l3, by omega, zLL_b s2, g23, ea, hp⟩⟩, by omega⟩
/-- so many clauses stand -/
def zIv (t x : Nat) (z : lb_Z) (cl : Nat → Int32) (cc : Nat) : Prop := (z.1 ≤ t) ∧ (z.2.1 ≤ 60) ∧ (z.2.2.1.1 ≤ z.1) ∧ (z.2.2.2.1 ≤ z.2.2.1.1) ∧ (∃ pos : Nat → Nat, pos 0 = 0 ∧ pos cc = z.2.2.1.1 ∧ (∀ i, i < cc → pos (i + 1) ≤ z.2.2.1.1 ∧ zCb z.2.2.1.2 z.2.2.2.2 (fun r => cl (48 * x + 4 * i + r)) (pos i) (pos (i + 1)) z.2.2.2.1))
theorem zIv.pl {t x : Nat} {z : lb_Z} {cl : Nat → Int32} {cc : Nat} (h_ : zIv t x z cl cc) : z.1 ≤ t := h_.1
theorem zIv.m {t x : Nat} {z : lb_Z} {cl : Nat → Int32} {cc : Nat} (h_ : zIv t x z cl cc) : z.2.1 ≤ 60 := h_.2.1
theorem zIv.l {t x : Nat} {z : lb_Z} {cl : Nat → Int32} {cc : Nat} (h_ : zIv t x z cl cc) : z.2.2.1.1 ≤ z.1 := h_.2.2.1
theorem zIv.d {t x : Nat} {z : lb_Z} {cl : Nat → Int32} {cc : Nat} (h_ : zIv t x z cl cc) : z.2.2.2.1 ≤ z.2.2.1.1 := h_.2.2.2.1
theorem zIv.p {t x : Nat} {z : lb_Z} {cl : Nat → Int32} {cc : Nat} (h_ : zIv t x z cl cc) : ∃ pos : Nat → Nat, pos 0 = 0 ∧ pos cc = z.2.2.1.1 ∧ (∀ i, i < cc → pos (i + 1) ≤ z.2.2.1.1 ∧ zCb z.2.2.1.2 z.2.2.2.2 (fun r => cl (48 * x + 4 * i + r)) (pos i) (pos (i + 1)) z.2.2.2.1) := h_.2.2.2.2
theorem zin {n : Nat} (h : n ≤ 2400) : (nI n).toInt = n := nI_toInt (by omega)
theorem zIv_1 {f : Nat → Int32} {t x : Nat} {z z1 z2 : lb_Z} {cl cl' : Nat → Int32} {cc : Nat} (ht : t ≤ 400) (hI : zIv t x z cl cc) (hat : lb_at f t (lb_W (nt_sp + 1 + 5)) z.1) (hs : lb_sum f t (lb_s f t (z.1 + (lb_W (nt_sp + 1 + 5)).length), z.2.1, z.2.2) (.inr z1)) (hi : lb_if f t z1 (.inr z2)) (hD : mg_D f t x z cl cc z2 cl') : zIv t x z2 cl' (cc + 1) := by
  have b2 := lb_Wp 5 (by decide)
  have a := hat.1
  have q := lb_s_le (f := f) (t := t) (t - (z.1 + (lb_W (nt_sp + 1 + 5)).length)) (z.1 + (lb_W (nt_sp + 1 + 5)).length) (by omega)
  obtain ⟨pl, hm, hl, hd, pos, p0, pc, hp⟩ := hI
  obtain ⟨s1, s2, s3, s4, s5, s6⟩ := zJ_sum (z := (lb_s f t (z.1 + (lb_W (nt_sp + 1 + 5)).length), z.2.1, z.2.2)) ht q.2 hm (by dsimp only; omega) hs
  dsimp only at s1 s2 s4 s5
  obtain ⟨z1', hs', _, k0, k1, k2, k3, ko⟩ := hD
  have e1 := Sum.inr.inj (lb_sum_det hs hs')
  subst e1
  have d1 := s1.d
  have l1 := s1.l1
  have l2 := s1.l2
  rcases hi with ⟨ha, k, r1, r2, h1, h2, h⟩ | ⟨ha, h⟩
  · have b3 := lb_Wp 14 (by decide)
    have a3 := ha.1
    have q3 := lb_s_le (f := f) (t := t) (t - (z1.1 + (lb_W (nt_sp + 1 + 14)).length)) (z1.1 + (lb_W (nt_sp + 1 + 14)).length) (by omega)
    rcases h with ⟨c, e1, e2⟩ | ⟨z4, e1, h⟩
    · cases e2
    subst e1
    rcases h2 with ⟨c, e1, e2⟩ | ⟨z3, e1, h2⟩
    · cases e2
    subst e1
    have up := lb_ft_up _ _ _ _ _ _ q3.2 h1
    obtain ⟨t1, t2, t3, t4⟩ := (zJ_ft ht _ true _ _ _ z3 q3.2 (by exact s3) h1).1 rfl (by dsimp only; omega)
    dsimp only at t1 t2 t4 up
    have up2 := lb_ft_up _ _ _ _ _ _ up.2.1 h2
    obtain ⟨v1, v2, v3, v4⟩ := (zJ_ft ht _ false _ _ z3 z4 up.2.1 t3 h2).2 rfl z1.2.2 _ (Or.inl ⟨rfl, t1, by omega⟩)
    rw [if_neg (by decide)] at v4
    have e := Sum.inr.inj h
    subst e
    have l4 : z4.2.2.1.1 < 400 := by omega
    have ee : lb_e z4.2.2.1 (Int32.ofInt 23) = (z4.2.2.1.1 + 1, fun j => if j = z4.2.2.1.1 then Int32.ofInt 23 else z4.2.2.1.2 j) := if_pos l4
    dsimp only at k3
    rw [if_pos ha] at k2
    have dv := v1.d
    have w1 := v1.l1
    have w2 := v1.l2
    have c1 := s1.c
    have c2 := v1.c
    refine ⟨up2.2.1, v3, ?_, ?_, fun i => if i = cc + 1 then z4.2.2.1.1 + 1 else pos i, ?_, ?_, fun i hi => ?_⟩
    · dsimp only
      rw [ee]
      dsimp only
      omega
    · dsimp only
      rw [ee]
      dsimp only
      omega
    · dsimp only
      rw [if_neg (by omega)]
      exact p0
    · dsimp only
      rw [if_pos rfl, ee]
    · dsimp only
      rw [ee]
      dsimp only
      by_cases ci : i = cc
      · subst ci
        rw [if_pos rfl, if_neg (by omega), pc]
        refine ⟨Nat.le_refl _, z1.2.2.1.1 - z.2.2.1.1, z.2.2.2.1, z1.2.2.2.1, ?_, ?_, l2, by omega, ?_, Or.inr ⟨z4.2.2.1.1 - z1.2.2.1.1, z1.2.2.2.1, z4.2.2.2.1, ?_, ?_, w2, Nat.le_refl _, ?_, ?_, by omega, ?_⟩⟩
        · show (cl' (48 * x + 4 * i)).toInt = _
          rw [k0]
          exact zin (by omega)
        · show (cl' (48 * x + 4 * i + 1)).toInt = _
          rw [k1]
          exact zin (by omega)
        · refine zLL_ag s1.s (fun j hj => ?_) (fun j hj => ?_)
          · exact (if_neg (by omega)).trans (v1.p1 j (by omega))
          · exact v1.p2 j (by omega)
        · show (cl' (48 * x + 4 * i + 2)).toInt = _
          rw [k2]
          exact zin (by omega)
        · show (cl' (48 * x + 4 * i + 3)).toInt = _
          rw [k3]
          exact zin (by omega)
        · rw [show z.2.2.1.1 + (z1.2.2.1.1 - z.2.2.1.1) = z1.2.2.1.1 from by omega]
          refine zLL_ag v1.s (fun j hj => ?_) (fun j hj => rfl)
          exact if_neg (by omega)
        · exact if_pos (by omega)
        · rw [show z.2.2.1.1 + (z1.2.2.1.1 - z.2.2.1.1) = z1.2.2.1.1 from by omega, zpc_ag (g := z1.2.2.1.2) _ _ (fun j h1 h2 => (if_neg (by omega)).trans (v1.p1 j (by omega))), zpc_ag (g := z4.2.2.1.2) _ _ (fun j h1 h2 => if_neg (by omega))]
          omega
      · have hpi := hp i (by omega)
        rw [if_neg (by omega), if_neg (by omega)]
        refine ⟨by omega, zCb_ag hpi.2 (fun j hj => ?_) (fun j hj => ?_) (fun r hr => ?_) (by omega)⟩
        · exact (if_neg (by omega)).trans ((v1.p1 j (by omega)).trans (s1.p1 j (by omega)))
        · rw [v1.p2 j (by omega)]
          exact s1.p2 j (by omega)
        · exact ko _ (by omega)
  · have e := Sum.inr.inj h
    subst e
    have l4 : z1.2.2.1.1 < 400 := by omega
    have ee : lb_e z1.2.2.1 (Int32.ofInt 22) = (z1.2.2.1.1 + 1, fun j => if j = z1.2.2.1.1 then Int32.ofInt 22 else z1.2.2.1.2 j) := if_pos l4
    dsimp only at k3
    rw [if_neg ha] at k2
    have c1 := s1.c
    refine ⟨s6, s3, ?_, ?_, fun i => if i = cc + 1 then z1.2.2.1.1 + 1 else pos i, ?_, ?_, fun i hi => ?_⟩
    · dsimp only
      rw [ee]
      dsimp only
      omega
    · dsimp only
      rw [ee]
      dsimp only
      omega
    · dsimp only
      rw [if_neg (by omega)]
      exact p0
    · dsimp only
      rw [if_pos rfl, ee]
    · dsimp only
      rw [ee]
      dsimp only
      by_cases ci : i = cc
      · subst ci
        rw [if_pos rfl, if_neg (by omega), pc]
        refine ⟨Nat.le_refl _, z1.2.2.1.1 - z.2.2.1.1, z.2.2.2.1, z1.2.2.2.1, ?_, ?_, l2, Nat.le_refl _, ?_, Or.inl ⟨?_, ?_, by omega, ?_⟩⟩
        · show (cl' (48 * x + 4 * i)).toInt = _
          rw [k0]
          exact zin (by omega)
        · show (cl' (48 * x + 4 * i + 1)).toInt = _
          rw [k1]
          exact zin (by omega)
        · refine zLL_ag s1.s (fun j hj => ?_) (fun j hj => rfl)
          exact if_neg (by omega)
        · show cl' (48 * x + 4 * i + 2) < 0
          rw [k2]
          decide
        · exact if_pos (by omega)
        · rw [zpc_ag (g := z1.2.2.1.2) _ _ (fun j h1 h2 => if_neg (by omega))]
          omega
      · have hpi := hp i (by omega)
        rw [if_neg (by omega), if_neg (by omega)]
        refine ⟨by omega, zCb_ag hpi.2 (fun j hj => ?_) (fun j hj => ?_) (fun r hr => ?_) (by omega)⟩
        · exact (if_neg (by omega)).trans (s1.p1 j (by omega))
        · exact s1.p2 j (by omega)
        · exact ko _ (by omega)
theorem zIv_k {f : Nat → Int32} {t x : Nat} (ht : t ≤ 400) : ∀ (k i : Nat) (z zf : lb_Z) (r1 : lb_Y) (cl cl1 cl' : Nat → Int32) (cc cc1 cc' : Nat), zIv t x z cl cc → lb_cs f t k i z (.inr zf) → mg_c1 f t x i z r1 cl cc cl1 cc1 → lb_th r1 (.inr zf) (fun z1 => ∃ k, mg_c2 f t x k (i + 1) z1 (.inr zf) cl1 cc1 cl' cc') → zIv t x zf cl' cc' := by
  intro k
  induction k with
  | zero => intro i z zf r1 cl cl1 cl' cc cc1 cc' _ h; exact h.elim
  | succ k ih =>
    intro i z zf r1 cl cl1 cl' cc cc1 cc' hI h h1 h2
    rcases h2 with ⟨c, _, e⟩ | ⟨z2, er, k2, h2⟩
    · cases e
    subst er
    obtain ⟨hc1, hc2⟩ := h1
    obtain ⟨ecc, hD⟩ := hc2 z2 rfl
    subst ecc
    rcases h with ⟨_, e⟩ | ⟨_, _, e⟩ | ⟨a, b, ra, hs, h⟩
    · cases e
    · cases e
    rcases h with ⟨c, _, e⟩ | ⟨z1, er, rb, hi, h⟩
    · cases e
    subst er
    rcases h with ⟨c, _, e⟩ | ⟨z2', er, h⟩
    · cases e
    subst er
    have ez : z2' = z2 := by
      rcases hc1 with ⟨a', _⟩ | ⟨_, b', _⟩ | ⟨_, _, ra', hs', hh⟩
      · exact absurd a a'
      · omega
      · have e := lb_sum_det hs hs'
        subst e
        rcases hh with ⟨c, e, _⟩ | ⟨z1', e, hh⟩
        · cases e
        · cases e
          exact Sum.inr.inj (lb_if_det hi hh)
    subst ez
    have hI1 := zIv_1 ht hI a hs hi hD
    cases k2 with
    | zero => exact h2.elim
    | succ k2 =>
      rcases h with ⟨g, h⟩ | ⟨g, h⟩ | ⟨_, _, h⟩
      · rcases h2 with ⟨g', rc, cl2, cc2, h3, h2⟩ | ⟨g', _⟩ | ⟨g', _, _⟩
        · have hlt := lb_g_lt (f := f) (t := t) (p := z2'.1) (by rw [g]; decide)
          have q := lb_s_le (f := f) (t := t) (t - (z2'.1 + 1)) (z2'.1 + 1) (by omega)
          have pl := hI1.l
          exact ih (i + 1) (lb_s f t (z2'.1 + 1), z2'.2.1, z2'.2.2) zf rc cl1 cl2 cl' (cc + 1) cc2 cc' ⟨q.2, hI1.m, by dsimp only; omega, hI1.d, hI1.p⟩ h h3 (lb_th_up (fun z1 q => ⟨k2, q⟩) h2)
        · rw [g] at g'
          exact absurd g' (by decide)
        · exact absurd g g'
      · have e := Sum.inr.inj h
        subst e
        rcases h2 with ⟨g', _⟩ | ⟨_, _, e1, e2⟩ | ⟨_, g', _⟩
        · rw [g] at g'
          exact absurd g' (by decide)
        · subst e1
          subst e2
          exact hI1
        · exact absurd g g'
      · cases h
/-- the rule both hold -/
theorem zIv_ru {f : Nat → Int32} {t x k : Nat} {zf : lb_Z} {cl0 cl' : Nat → Int32} {cc' : Nat} (ht : t ≤ 400) (h : lb_cs f t k 0 (lb_s f t 0, 0, ((0, fun _ => 0), (0, fun _ => 0))) (.inr zf)) (h3 : mg_c3 f t x (lb_s f t 0, 0, ((0, fun _ => 0), (0, fun _ => 0))) (.inr zf) cl0 cl' cc') : zRu zf.2.2.1.2 zf.2.2.2.2 (fun j => cl' (48 * x + j)) cc' zf.2.2.1.1 ∧ zf.2.2.1.1 ≤ 400 ∧ zf.2.2.2.1 ≤ zf.2.2.1.1 := by
  obtain ⟨r1, cl1, cc1, h1, h2⟩ := h3
  have q := lb_s_le (f := f) (t := t) t 0 (by omega)
  have hI : zIv t x (lb_s f t 0, 0, ((0, fun _ => 0), (0, fun _ => 0))) cl0 0 := ⟨q.2, Nat.zero_le _, Nat.zero_le _, Nat.le_refl _, fun _ => 0, rfl, rfl, fun i hi => by omega⟩
  have z := zIv_k ht k 0 _ zf r1 cl0 cl1 cl' 0 cc1 cc' hI h h1 h2
  obtain ⟨pl, hm, hl, hd, pos, p0, pc, hp⟩ := z
  refine ⟨⟨pos, p0, pc, fun i hi => ?_⟩, by omega, hd⟩
  have := (zCb_l (hp i hi).2 (by omega)).1
  have e : (fun r => cl' (48 * x + 4 * i + r)) = (fun r => (fun j => cl' (48 * x + j)) (4 * i + r)) := by
    funext r
    show _ = cl' (48 * x + (4 * i + r))
    rw [Nat.add_assoc]
  rw [e] at this
  exact this
end
section
/-! days: both sides -/
theorem zdays_l {p : Nat → Nat} {v1 v2 : Int32} {sp ln T : Nat} (hsq : ∀ i, i < 17 → sp ≠ p (31 + i)) (ht : v1.toInt = (T : Nat)) (X : zX p (fun i => p (31 + i))) : ∀ (c : Nat) (i : Int32) (Jc Jr : Nat → Nat → Int32) (Lc Lr : Nat → Nat → Int64), 0 ≤ i.toInt → v2.toInt - i.toInt ≤ c → (Jr (p 4) 4).toInt + (v2.toInt - i.toInt) ≤ 200 → i.toInt ≤ v2.toInt → zR (fun i => p (31 + i)) Jc (Jr (p 4)) → zW (Jr (p 4)) (Jr (p 4) 4).toInt → zRQ p sp ln T Jc Jr → (x110_48 p sp ln v1 v2 c i Jc Lc).1 = (x186_38 p v1 v2 c i Jr Lr).1 ∧ zR (fun i => p (31 + i)) (x110_48 p sp ln v1 v2 c i Jc Lc).2.1 ((x186_38 p v1 v2 c i Jr Lr).2.1 (p 4)) ∧ zW ((x186_38 p v1 v2 c i Jr Lr).2.1 (p 4)) ((x186_38 p v1 v2 c i Jr Lr).2.1 (p 4) 4).toInt ∧ ((x186_38 p v1 v2 c i Jr Lr).2.1 (p 4) 4).toInt ≤ 200 ∧ zKp p (fun i => p (31 + i)) sp Jc Jr (x110_48 p sp ln v1 v2 c i Jc Lc).2.1 (x186_38 p v1 v2 c i Jr Lr).2.1 := by
  intro c
  induction c with
  | zero =>
    intro i Jc Jr Lc Lr i0 hc h2 hi hR hW hQ
    exact ⟨zR_4 hR, hR, hW, by show (Jr (p 4) 4).toInt ≤ 200; omega, zKp_r⟩
  | succ c ih =>
    intro i Jc Jr Lc Lr i0 hc h2 hi hR hW hQ
    rw [x110_48, x186_38]
    by_cases h1 : v2 ≤ i
    · rw [if_pos h1, if_pos h1]
      exact ⟨zR_4 hR, hR, hW, by show (Jr (p 4) 4).toInt ≤ 200; omega, zKp_r⟩
    · rw [if_neg h1, if_neg h1]
      have lt := z_lt h1
      have z := zpass (Lc := Lc) (Lr := Lr) hsq ht hQ X hR hW (by omega)
      have e4 := z.2.2.2
      have g := ih (i + Int32.ofInt 1) _ _ (x1 p (fun i => p (31 + i)) sp ln Jc Lc).2 (x190 p v1 Jr Lr).2 (zi_i h1 i0) (lx_dec h1 hc) (by rw [e4, lx_inc h1]; omega) (by rw [lx_inc h1]; omega) z.1 z.2.1 (zKp_Q X hsq z.2.2.1 hQ)
      exact ⟨g.1, g.2.1, g.2.2.1, g.2.2.2.1, zKp_t z.2.2.1 g.2.2.2.2⟩
theorem zdaysN_l {p : Nat → Nat} {v1 v2 : Int32} (X : zX p (fun i => p (31 + i))) : ∀ (c : Nat) (i : Int32) (Jc Jr : Nat → Nat → Int32) (Lr : Nat → Nat → Int64), 0 ≤ i.toInt → v2.toInt - i.toInt ≤ c → (Jr (p 4) 4).toInt + (v2.toInt - i.toInt) ≤ 200 → i.toInt ≤ v2.toInt → zR (fun i => p (31 + i)) Jc (Jr (p 4)) → zW (Jr (p 4)) (Jr (p 4) 4).toInt → (x110N_48 p v1 v2 c i Jc).1 = (x186_38 p (Int32.ofInt (-1)) v2 c i Jr Lr).1 ∧ zR (fun i => p (31 + i)) (x110N_48 p v1 v2 c i Jc).2 ((x186_38 p (Int32.ofInt (-1)) v2 c i Jr Lr).2.1 (p 4)) ∧ zW ((x186_38 p (Int32.ofInt (-1)) v2 c i Jr Lr).2.1 (p 4)) ((x186_38 p (Int32.ofInt (-1)) v2 c i Jr Lr).2.1 (p 4) 4).toInt ∧ ((x186_38 p (Int32.ofInt (-1)) v2 c i Jr Lr).2.1 (p 4) 4).toInt ≤ 200 ∧ zKp p (fun i => p (31 + i)) 0 Jc Jr (x110N_48 p v1 v2 c i Jc).2 (x186_38 p (Int32.ofInt (-1)) v2 c i Jr Lr).2.1 := by
  intro c
  induction c with
  | zero =>
    intro i Jc Jr Lr i0 hc h2 hi hR hW
    exact ⟨zR_4 hR, hR, hW, by show (Jr (p 4) 4).toInt ≤ 200; omega, zKp_r⟩
  | succ c ih =>
    intro i Jc Jr Lr i0 hc h2 hi hR hW
    rw [x110N_48, x186_38]
    by_cases h1 : v2 ≤ i
    · rw [if_pos h1, if_pos h1]
      exact ⟨zR_4 hR, hR, hW, by show (Jr (p 4) 4).toInt ≤ 200; omega, zKp_r⟩
    · rw [if_neg h1, if_neg h1]
      have lt := z_lt h1
      have z := zpassN (Lr := Lr) X hR hW (by omega)
      have e4 := z.2.2.2
      have g := ih (i + Int32.ofInt 1) _ _ (x190 p (Int32.ofInt (-1)) Jr Lr).2 (zi_i h1 i0) (lx_dec h1 hc) (by rw [e4, lx_inc h1]; omega) (by rw [lx_inc h1]; omega) z.1 z.2.1
      exact ⟨g.1, g.2.1, g.2.2.1, g.2.2.2.1, zKp_t z.2.2.1 g.2.2.2.2⟩
end
section
/-! plank, voyage, move, count, seed: both sides -/
theorem z_lgl {x y : Int64} : lg_cmp x y < 0 ↔ x.toInt < y.toInt := by
  unfold lg_cmp
  by_cases h : x > y
  · rw [if_pos h]
    have h : y.toInt < x.toInt := Int64.lt_iff_toInt_lt.mp h
    exact ⟨fun c => absurd c (by decide), fun c => by omega⟩
  · rw [if_neg h]
    have h : ¬ y.toInt < x.toInt := fun c => h (Int64.lt_iff_toInt_lt.mpr c)
    by_cases e : x = y
    · rw [if_pos e, e]
      exact ⟨fun c => absurd c (by decide), fun c => by omega⟩
    · rw [if_neg e]
      have : x.toInt ≠ y.toInt := fun c => e (Int64.toInt_inj.mp c)
      exact ⟨fun _ => by omega, fun _ => by decide⟩
theorem z_lgg {x y : Int64} : 0 < lg_cmp x y ↔ y.toInt < x.toInt := by
  unfold lg_cmp
  by_cases h : x > y
  · rw [if_pos h]
    exact ⟨fun _ => Int64.lt_iff_toInt_lt.mp h, fun _ => by decide⟩
  · rw [if_neg h]
    have h : ¬ y.toInt < x.toInt := fun c => h (Int64.lt_iff_toInt_lt.mpr c)
    split
    · exact ⟨fun c => absurd c (by decide), fun c => absurd c h⟩
    · exact ⟨fun c => absurd c (by decide), fun c => absurd c h⟩
theorem z_145 {v : Int32} {a b : Int64} : x145 v.toInt64 a b = if v.toInt < a.toInt ∨ b.toInt < v.toInt then Int32.ofInt 0 else Int32.ofInt 1 := by
  unfold x145
  have e : v.toInt64.toInt = v.toInt := Int32.toInt_toInt64 v
  by_cases h1 : v.toInt < a.toInt
  · rw [if_pos (z_lgl.mpr (by rw [e]; exact h1)), if_pos (Or.inl h1)]
  · rw [if_neg (fun c => h1 (by rw [← e]; exact z_lgl.mp c))]
    by_cases h2 : b.toInt < v.toInt
    · rw [if_pos (z_lgg.mpr (by rw [e]; exact h2)), if_pos (Or.inr h2)]
    · rw [if_neg (fun c => h2 (by rw [← e]; exact z_lgg.mp c)), if_neg (fun c => by rcases c with c | c; exact h1 c; exact h2 c)]
theorem z_cs5 {v : Int32} (h : ¬ (v.toInt < 0 ∨ 4 < v.toInt)) : v = Int32.ofInt 0 ∨ v = Int32.ofInt 1 ∨ v = Int32.ofInt 2 ∨ v = Int32.ofInt 3 ∨ v = Int32.ofInt 4 := by
  have k : ∀ n : Nat, n < 1000 → v.toInt = n → v = Int32.ofInt (n : Int) := fun n hn e => (zi_n hn).mpr e
  rcases (by omega : v.toInt = 0 ∨ v.toInt = 1 ∨ v.toInt = 2 ∨ v.toInt = 3 ∨ v.toInt = 4) with e | e | e | e | e
  · exact Or.inl (k 0 (by omega) e)
  · exact Or.inr (Or.inl (k 1 (by omega) e))
  · exact Or.inr (Or.inr (Or.inl (k 2 (by omega) e)))
  · exact Or.inr (Or.inr (Or.inr (Or.inl (k 3 (by omega) e))))
  · exact Or.inr (Or.inr (Or.inr (Or.inr (k 4 (by omega) e))))
theorem zq_107 {p : Nat → Nat} {Jc Jr : Nat → Nat → Int32} {v1 v2 : Int32} {b : Int} (hR : zR (fun i => p (31 + i)) Jc (Jr (p 4))) (hW : zW (Jr (p 4)) b) : x107 p v1 v2 Jc = x176 p v1 v2 Jr := by
  unfold x107 x176 x70 x177
  rw [show Jc ((fun i => p (31 + i)) 1) 2 = Jr (p 4) 2 from zR_n hR (by omega), z_145]
  by_cases h0 : v1 < 0
  · rw [if_pos h0, if_pos (show Int32.ofInt 0 = 0 from rfl), if_pos (show Int32.ofInt 0 = 0 from rfl)]
  · rw [if_neg h0]
    by_cases h1 : Jr (p 4) 2 ≤ v1
    · rw [if_pos h1, if_pos (show Int32.ofInt 0 = 0 from rfl), if_pos (show Int32.ofInt 0 = 0 from rfl)]
    · rw [if_neg h1, if_neg (show ¬ Int32.ofInt 1 = 0 from by decide), if_neg (show ¬ Int32.ofInt 1 = 0 from by decide)]
      have n0 : 0 ≤ v1.toInt := by
        have : ¬ v1.toInt < 0 := fun c => h0 (z_le0.mpr c)
        omega
      obtain ⟨hn, hi, c0, c1, c2, c3, c4, r0, r1, r2, r3, r4⟩ := zP hR hW.w n0 h1
      rw [show (Int64.ofNat 0).toInt = 0 from by decide, show (4 : Int64).toInt = 4 from by decide]
      by_cases h2 : v2.toInt < 0 ∨ 4 < v2.toInt
      · rw [if_pos h2, if_pos h2, if_pos (show Int32.ofInt 0 = 0 from rfl)]
      · rw [if_neg h2, if_neg h2, if_neg (show ¬ Int32.ofInt 1 = 0 from by decide)]
        rcases z_cs5 h2 with rfl | rfl | rfl | rfl | rfl
        · rw [if_pos rfl, r0]
          exact c0
        · rw [if_neg (by decide), if_pos rfl, r1]
          exact c1
        · rw [if_neg (by decide), if_neg (by decide), if_pos rfl, r2]
          exact c2
        · rw [if_neg (by decide), if_neg (by decide), if_neg (by decide), if_pos rfl, r3]
          exact c3
        · rw [if_neg (by decide), if_neg (by decide), if_neg (by decide), if_neg (by decide), r4, show Jc (p 46) v1.toNatClampNeg = Jr (p 4) (52 + 5 * v1.toNatClampNeg + 4) from c4, hW.b.lo _ hn]
          split <;> rfl
theorem zq_108 {p : Nat → Nat} {Jc Jr : Nat → Nat → Int32} {v1 v2 : Int32} {b : Int} (hR : zR (fun i => p (31 + i)) Jc (Jr (p 4))) (hW : zW (Jr (p 4)) b) : x108 p v1 v2 Jc = x178 p v1 v2 Jr := by
  unfold x108 x178 x71 x179
  rw [show Jc ((fun i => p (31 + i)) 1) 3 = Jr (p 4) 3 from zR_n hR (by omega), z_145]
  by_cases h0 : v1 < 0
  · rw [if_pos h0, if_pos (show Int32.ofInt 0 = 0 from rfl), if_pos (show Int32.ofInt 0 = 0 from rfl)]
  · rw [if_neg h0]
    by_cases h1 : Jr (p 4) 3 ≤ v1
    · rw [if_pos h1, if_pos (show Int32.ofInt 0 = 0 from rfl), if_pos (show Int32.ofInt 0 = 0 from rfl)]
    · rw [if_neg h1, if_neg (show ¬ Int32.ofInt 1 = 0 from by decide), if_neg (show ¬ Int32.ofInt 1 = 0 from by decide)]
      have n0 : 0 ≤ v1.toInt := by
        have : ¬ v1.toInt < 0 := fun c => h0 (z_le0.mpr c)
        omega
      obtain ⟨hn, hi, c0, c1, c2, c3, c4, r0, r1, r2, r3, r4⟩ := zV hR hW.w n0 h1
      rw [show (Int64.ofNat 0).toInt = 0 from by decide, show (4 : Int64).toInt = 4 from by decide]
      by_cases h2 : v2.toInt < 0 ∨ 4 < v2.toInt
      · rw [if_pos h2, if_pos h2, if_pos (show Int32.ofInt 0 = 0 from rfl)]
      · rw [if_neg h2, if_neg h2, if_neg (show ¬ Int32.ofInt 1 = 0 from by decide)]
        rcases z_cs5 h2 with rfl | rfl | rfl | rfl | rfl
        · rw [if_pos rfl, r0]
          exact c0
        · rw [if_neg (by decide), if_pos rfl, r1]
          exact c1
        · rw [if_neg (by decide), if_neg (by decide), if_pos rfl, r2]
          exact c2
        · rw [if_neg (by decide), if_neg (by decide), if_neg (by decide), if_pos rfl, r3]
          exact c3
        · rw [if_neg (by decide), if_neg (by decide), if_neg (by decide), if_neg (by decide), r4]
          exact c4
theorem zq_233 {p : Nat → Nat} {J : Nat → Nat → Int32} : ∀ (c : Nat) (a i : Int32), x233_108 p J c a i = x170_4 p (Int32.ofInt (-1)) J c a i := by
  intro c
  induction c with
  | zero => intro a i; rfl
  | succ c ih =>
    intro a i
    rw [x233_108, x170_4, ih, ih]
/-- hands left -/
theorem zq_72 {q p : Nat → Nat} {Jc Jr : Nat → Nat → Int32} (hR : zR q Jc (Jr (p 4))) (hz : Jr (p 4) 0 = 0 → Jr (p 4) 5 = Jr (p 4) 6) : x72 q Jc = Jr (p 4) 5 - Jr (p 4) 6 := by
  unfold x72
  rw [hR.2]
  by_cases h : Jr (p 4) 0 = 0
  · rw [if_pos h, if_pos rfl, hz h]
    grind
  · rw [if_neg h, if_neg (by decide), zR_5 hR, zR_6 hR]
theorem zq_126 {p : Nat → Nat} {Jc Jr : Nat → Nat → Int32} {v1 : Int32} {b : Int} (hR : zR (fun i => p (31 + i)) Jc (Jr (p 4))) (hW : zW (Jr (p 4)) b) (hz : Jr (p 4) 0 = 0 → Jr (p 4) 5 = Jr (p 4) 6) (h4 : Jc (p 16) 4 = Jr (p 0) 2) (h1 : Jc (p 17) 1 = Jr (p 0) 1) (h9 : Jc (p 31) 6 = Jr (p 4) 9) : x126 p v1 Jc = x233 p v1 Jr := by
  unfold x126 x233
  have e66 : x66 (fun i => p (31 + i)) (Int32.ofInt (-1)) Jc = x170 p (Int32.ofInt (-1)) Jr := zq_66 hR hW.w (zl_of hW (fun c => by rw [xi_m1] at c; omega))
  have n : ∀ i, i < 4 → Jc (p 32) i = Jr (p 4) i := fun i hi => zR_n hR hi
  rw [n 0 (by omega), n 1 (by omega), n 2 (by omega), n 3 (by omega), h4, h1, zq_72 hR hz, e66, show Jc (p 31) 2 = Jr (p 4) 4 from zR_4 hR, show Jc (p 31) 5 = Jr (p 4) 7 from zR_7 hR, show Jc (p 31) 4 = Jr (p 4) 8 from zR_8 hR, h9, zq_233]
  by_cases h : v1.toInt < 0 ∨ 11 < v1.toInt
  · rw [if_pos h, if_pos h]
  · rw [if_neg h, if_neg h]
    by_cases c0 : v1 = Int32.ofInt 0
    · subst c0
      rfl
    · rw [if_neg c0, if_neg c0]
      by_cases c1 : v1 = Int32.ofInt 1
      · subst c1
        rfl
      · rw [if_neg c1, if_neg c1]
        by_cases c2 : v1 = Int32.ofInt 2
        · subst c2
          rfl
        · rw [if_neg c2, if_neg c2]
          by_cases c3 : v1 = Int32.ofInt 3
          · subst c3
            rfl
          · rw [if_neg c3, if_neg c3]
            rfl
/-- seed -/
theorem zq_124 {p : Nat → Nat} {Jc Jr : Nat → Nat → Int32} {v1 : Int32} {b : Int} (X : zX p (fun i => p (31 + i))) (hR : zR (fun i => p (31 + i)) Jc (Jr (p 4))) (hW : zW (Jr (p 4)) b) (h9 : Jc (p 31) 6 = Jr (p 4) 9) : (x124 p v1 Jc).1 = (x230 p v1 Jr).1 ∧ zR (fun i => p (31 + i)) (x124 p v1 Jc).2 ((x230 p v1 Jr).2 (p 4)) ∧ zW ((x230 p v1 Jr).2 (p 4)) b ∧ ∀ i, i < 9 → (x230 p v1 Jr).2 (p 4) i = Jr (p 4) i := by
  unfold x124 x230
  by_cases h : 0 ≤ v1
  · rw [if_pos h, if_pos h]
    refine ⟨h9, ?_, ?_, fun i hi => me_uk (by omega)⟩
    · show zR _ (nt_u Jc (p 31) 6 v1) (nt_u Jr (p 4) 9 v1 (p 4))
      rw [zu_r]
      exact zR_up X.hq hR (by omega) (by omega) rfl
    · show zW (nt_u Jr (p 4) 9 v1 (p 4)) b
      have fo : ∀ j, j ≠ 9 → nt_u Jr (p 4) 9 v1 (p 4) j = Jr (p 4) j := fun j hj => me_uk hj
      exact ⟨xr_up hW.w (xr_any rfl), zA_ag hW.a hW.w (fun i hi _ => fo i (by omega)) (fun s hs k hk => fo _ (by omega)) (fun p hp => ⟨fo _ (by omega), fo _ (by omega)⟩) (fun u hu k hk => fo _ (by omega)), zB_ag hW.b hW.w (fo 1 (by omega)) (fo 2 (by omega)) (fun s hs => fo _ (by omega)) (fun p hp => ⟨fo _ (by omega), fo _ (by omega)⟩), zC_ag hW.c hW.w (fo 1 (by omega)) (fo 3 (by omega)) (fun s hs => ⟨fo _ (by omega), fo _ (by omega)⟩) (fun v hv => ⟨fo _ (by omega), fo _ (by omega), fo _ (by omega)⟩), zD_ag hW.d hW.w (fo 2 (by omega)) (fo 4 (by omega)) (fo 5 (by omega)) (fo 6 (by omega)) (fun p hp => fo _ (by omega))⟩
  · rw [if_neg h, if_neg h]
    exact ⟨rfl, hR, hW, fun _ _ => rfl⟩
/-- move -/
theorem zq_109 {p : Nat → Nat} {Jc Jr : Nat → Nat → Int32} {v1 v2 : Int32} {b : Int} (X : zX p (fun i => p (31 + i))) (hR : zR (fun i => p (31 + i)) Jc (Jr (p 4))) (hW : zW (Jr (p 4)) b) : (x109 p v1 v2 Jc).1 = (x181 p v1 v2 Jr).1 ∧ zR (fun i => p (31 + i)) (x109 p v1 v2 Jc).2 ((x181 p v1 v2 Jr).2 (p 4)) ∧ zW ((x181 p v1 v2 Jr).2 (p 4)) b ∧ ∀ i, i < 6 → (x181 p v1 v2 Jr).2 (p 4) i = Jr (p 4) i := by
  have no : ∀ (a : Int32 × (Nat → Nat → Int32)) (r : Int32 × (Nat → Nat → Int32)), a = (Int32.ofInt 0, Jc) → r = (Int32.ofInt 0, Jr) → a.1 = r.1 ∧ zR (fun i => p (31 + i)) a.2 (r.2 (p 4)) ∧ zW (r.2 (p 4)) b ∧ ∀ i, i < 6 → r.2 (p 4) i = Jr (p 4) i := by
    intro a r ea er
    subst ea
    subst er
    exact ⟨rfl, hR, hW, fun _ _ => rfl⟩
  have o0 : Int32.ofInt 0 = 0 := rfl
  have o1 : ¬ Int32.ofInt 1 = 0 := by decide
  have e70 : x70 (fun i => p (31 + i)) v1 Jc = x177 p v1 Jr := by
    unfold x70 x177
    rw [show Jc ((fun i => p (31 + i)) 1) 2 = Jr (p 4) 2 from zR_n hR (by omega)]
  have e65 : x65 (fun i => p (31 + i)) v2 Jc = x168 p v2 Jr := by
    unfold x65 x168
    rw [show Jc ((fun i => p (31 + i)) 1) 1 = Jr (p 4) 1 from zR_n hR (by omega)]
  by_cases hP : x177 p v1 Jr = 0
  · refine no _ _ ?_ ?_
    · unfold x109
      rw [e70, if_pos hP]
    · unfold x181
      rw [if_pos hP]
  have h0 : 0 ≤ v1.toInt ∧ ¬ Jr (p 4) 2 ≤ v1 := by
    unfold x177 at hP
    by_cases c : v1 < 0
    · rw [if_pos c] at hP
      exact absurd rfl hP
    · rw [if_neg c] at hP
      by_cases d : Jr (p 4) 2 ≤ v1
      · rw [if_pos d] at hP
        exact absurd rfl hP
      · have : ¬ v1.toInt < 0 := fun z => c (z_le0.mpr z)
        exact ⟨by omega, d⟩
  obtain ⟨hn, hi, c0, c1, c2, c3, c4, r0, r1, r2, r3, r4⟩ := zP hR hW.w h0.1 h0.2
  have bb := zn_b hW.w
  have hd := hW.a.hd
  have h6 := hW.d.h6
  have n0 : ¬ Jr (p 4) 0 = 0 := by
    have kn := hW.a.kn _ hn
    intro c
    rw [c, show (0 : Int32).toInt = 0 from by decide] at kn
    omega
  have e72 : x72 (fun i => p (31 + i)) Jc = Jr (p 4) 5 - Jr (p 4) 6 := zq_72 hR (fun c => absurd c n0)
  have e72i : (Jr (p 4) 5 - Jr (p 4) 6).toInt = (Jr (p 4) 5).toInt - (Jr (p 4) 6).toInt := by
    rw [Int32.toInt_sub, Int.bmod_eq_of_le (by omega) (by omega)]
  have e73 : x73 (fun i => p (31 + i)) v1 Jc = x183 p v1 Jr := zq_73 hR hW h0.1 h0.2
  have c3 : Jc (p 45) v1.toNatClampNeg = Jr (p 4) (52 + 5 * v1.toNatClampNeg + 3) := c3
  by_cases hH : Jr (p 4) 5 - Jr (p 4) 6 ≤ 0
  · have h184 : x184 p Jr = 0 := by
      unfold x184
      have := z_ge.mp hH
      rw [e72i, show (0 : Int32).toInt = 0 from by decide] at this
      rw [if_pos (z_ge.mpr (by omega))]
      rfl
    refine no _ _ ?_ ?_
    · unfold x109
      rw [e70, if_neg hP, e72]
      simp only [if_pos hH, ite_self]
    · unfold x181
      rw [if_neg hP]
      simp only [if_pos h184, ite_self]
  have hlt : (Jr (p 4) 6).toInt < (Jr (p 4) 5).toInt := by
    have : ¬ (Jr (p 4) 5 - Jr (p 4) 6).toInt ≤ 0 := fun z => hH (z_ge.mpr z)
    omega
  have h184 : ¬ x184 p Jr = 0 := by
    unfold x184
    rw [if_neg (fun z => by have := z_ge.mp z; omega)]
    decide
  by_cases hF : x183 p v1 Jr = 0
  · refine no _ _ ?_ ?_
    · unfold x109
      rw [e70, if_neg hP, e72, e73]
      simp only [if_pos hF, ite_self]
    · unfold x181
      rw [if_neg hP]
      simp only [if_pos hF, ite_self]
  by_cases hI : Jr (p 4) (52 + 5 * v1.toNatClampNeg + 3) = v2
  · refine no _ _ ?_ ?_
    · unfold x109
      rw [e70, if_neg hP, e72, c3]
      simp only [if_pos hI, ite_self]
    · unfold x181
      rw [if_neg hP, r3]
      simp only [if_pos hI, ite_self]
  have lost : Jr (p 4) (52 + 5 * v1.toNatClampNeg + 4) = 0 := by
    unfold x183 x172 at hF
    rw [r1, r4] at hF
    by_cases e : Jr (p 4) (52 + 5 * v1.toNatClampNeg + 1) ≤ 0
    · rw [if_pos e, if_pos o0] at hF
      exact absurd rfl hF
    · rw [if_neg e] at hF
      by_cases g : Jr (p 4) (52 + 5 * v1.toNatClampNeg + 4) = 0
      · exact g
      · rw [if_neg g, if_pos o0] at hF
        exact absurd rfl hF
  have yes : (-1 ≤ v2.toInt ∧ v2.toInt < (Jr (p 4) 1).toInt) → (0 ≤ v2.toInt → Jr (p 4) (10 + 7 * v2.toNatClampNeg + 4) ≠ 2) → ∀ (a : Int32 × (Nat → Nat → Int32)) (r : Int32 × (Nat → Nat → Int32)), a = (Int32.ofInt 1, x74 (fun i => p (31 + i)) v1 v2 Jc) → r = (Int32.ofInt 1, x185 p v1 v2 Jr) → a.1 = r.1 ∧ zR (fun i => p (31 + i)) a.2 (r.2 (p 4)) ∧ zW (r.2 (p 4)) b ∧ ∀ i, i < 6 → r.2 (p 4) i = Jr (p 4) i := by
    intro hs hsl a r ea er
    subst ea
    subst er
    have z := zput X.hq hR hW h0.1 h0.2 hs hsl lost hlt
    exact ⟨rfl, z.1, z.2, (xw_185 (xk_r hW.w) ⟨h0.1, by omega⟩ ⟨hs.1, by omega⟩).1.2⟩
  by_cases hA : v2 = Int32.ofInt (-1)
  · refine yes ?_ ?_ _ _ ?_ ?_
    · rw [hA, xi_m1]
      omega
    · intro c
      rw [hA, xi_m1] at c
      omega
    · unfold x109
      rw [e70, if_neg hP, if_pos hA, e72, if_neg hH, c3, if_neg hI, e73, if_neg hF, if_pos hA]
    · unfold x181
      rw [if_neg hP, if_pos hA, if_neg hF, r3, if_neg hI, if_neg h184]
  · by_cases hS : x168 p v2 Jr = 0
    · refine no _ _ ?_ ?_
      · unfold x109
        rw [e70, if_neg hP, if_neg hA, e65, if_pos hS]
      · unfold x181
        rw [if_neg hP, if_neg hA, if_pos hS]
    · have hs : 0 ≤ v2.toInt ∧ v2.toInt < (Jr (p 4) 1).toInt := by
        unfold x168 at hS
        by_cases c : v2 < 0
        · rw [if_pos c] at hS
          exact absurd rfl hS
        · rw [if_neg c] at hS
          by_cases d : Jr (p 4) 1 ≤ v2
          · rw [if_pos d] at hS
            exact absurd rfl hS
          · have : ¬ v2.toInt < 0 := fun z => c (z_le0.mpr z)
            exact ⟨by omega, z_lt d⟩
      have sS := zS hR hW.w hs.1 hs.2
      have e41 : Jc (p 41) v2.toNatClampNeg = Jr (p 4) (10 + 7 * v2.toNatClampNeg + 4) := sS.2.2.1
      have e182 : x182 p v2 Jr = if Jr (p 4) (10 + 7 * v2.toNatClampNeg + 4) = 0 then Int32.ofInt 1 else Int32.ofInt 0 := by
        unfold x182
        rw [sS.2.2.2.2.2.1]
      by_cases hT : Jr (p 4) (10 + 7 * v2.toNatClampNeg + 4) = 0
      · refine yes ⟨by omega, hs.2⟩ (fun _ c => by rw [hT] at c; exact absurd c (by decide)) _ _ ?_ ?_
        · unfold x109
          rw [e70, if_neg hP, if_neg hA, e65, if_neg hS, e72, if_neg hH, c3, if_neg hI, e73, if_neg hF, if_neg hA, e41, if_pos hT]
        · unfold x181
          rw [if_neg hP, if_neg hA, if_neg hS, e182, if_pos hT, if_neg o1, if_neg hF, r3, if_neg hI, if_neg h184]
      · refine no _ _ ?_ ?_
        · unfold x109
          rw [e70, if_neg hP, if_neg hA, e65, if_neg hS, e72, if_neg hH, c3, if_neg hI, e73, if_neg hF, if_neg hA, e41, if_neg hT]
        · unfold x181
          rw [if_neg hP, if_neg hA, if_neg hS, e182, if_neg hT, if_pos o0]
end
section
/-! a copy says the same -/
theorem mx_cr {J : Nat → Nat → Int32} {D N n : Nat} {fS fD : Nat → Int32} (h : n < N) : nt_u1 J D (va_cpy fS fD 0 0 N) D n = fS n := by
  show (if D = D then va_cpy fS fD 0 0 N else J D) n = _
  rw [if_pos rfl]
  unfold va_cpy
  rw [if_pos ⟨by omega, by omega⟩]
  congr 1
  omega
theorem xc90_1_0 {q r : Nat → Nat} {J : Nat → Nat → Int32} (hq : zq q) : x90 q r J (q 1) 0 = J (r 1) 0 := by
  unfold x90
  rw [mu_1 (hq 1 9 (by omega) (by omega) (by decide)), mu_1 (hq 1 8 (by omega) (by omega) (by decide)), mu_1 (hq 1 7 (by omega) (by omega) (by decide)), mu_1 (hq 1 6 (by omega) (by omega) (by decide)), mu_1 (hq 1 5 (by omega) (by omega) (by decide)), mu_1 (hq 1 4 (by omega) (by omega) (by decide)), mu_1 (hq 1 3 (by omega) (by omega) (by decide)), mu_1 (hq 1 2 (by omega) (by omega) (by decide)), me_uk (by decide), me_uk (by decide), me_uk (by decide), me_uk (by decide), me_us]
theorem xc90_1_1 {q r : Nat → Nat} {J : Nat → Nat → Int32} (hq : zq q) : x90 q r J (q 1) 1 = J (r 1) 1 := by
  unfold x90
  rw [mu_1 (hq 1 9 (by omega) (by omega) (by decide)), mu_1 (hq 1 8 (by omega) (by omega) (by decide)), mu_1 (hq 1 7 (by omega) (by omega) (by decide)), mu_1 (hq 1 6 (by omega) (by omega) (by decide)), mu_1 (hq 1 5 (by omega) (by omega) (by decide)), mu_1 (hq 1 4 (by omega) (by omega) (by decide)), mu_1 (hq 1 3 (by omega) (by omega) (by decide)), mu_1 (hq 1 2 (by omega) (by omega) (by decide)), me_uk (by decide), me_uk (by decide), me_uk (by decide), me_us]
theorem xc90_1_2 {q r : Nat → Nat} {J : Nat → Nat → Int32} (hq : zq q) : x90 q r J (q 1) 2 = J (r 1) 2 := by
  unfold x90
  rw [mu_1 (hq 1 9 (by omega) (by omega) (by decide)), mu_1 (hq 1 8 (by omega) (by omega) (by decide)), mu_1 (hq 1 7 (by omega) (by omega) (by decide)), mu_1 (hq 1 6 (by omega) (by omega) (by decide)), mu_1 (hq 1 5 (by omega) (by omega) (by decide)), mu_1 (hq 1 4 (by omega) (by omega) (by decide)), mu_1 (hq 1 3 (by omega) (by omega) (by decide)), mu_1 (hq 1 2 (by omega) (by omega) (by decide)), me_uk (by decide), me_uk (by decide), me_us]
theorem xc90_1_3 {q r : Nat → Nat} {J : Nat → Nat → Int32} (hq : zq q) : x90 q r J (q 1) 3 = J (r 1) 3 := by
  unfold x90
  rw [mu_1 (hq 1 9 (by omega) (by omega) (by decide)), mu_1 (hq 1 8 (by omega) (by omega) (by decide)), mu_1 (hq 1 7 (by omega) (by omega) (by decide)), mu_1 (hq 1 6 (by omega) (by omega) (by decide)), mu_1 (hq 1 5 (by omega) (by omega) (by decide)), mu_1 (hq 1 4 (by omega) (by omega) (by decide)), mu_1 (hq 1 3 (by omega) (by omega) (by decide)), mu_1 (hq 1 2 (by omega) (by omega) (by decide)), me_uk (by decide), me_us]
theorem xc90_1_4 {q r : Nat → Nat} {J : Nat → Nat → Int32} (hq : zq q) : x90 q r J (q 1) 4 = J (r 1) 4 := by
  unfold x90
  rw [mu_1 (hq 1 9 (by omega) (by omega) (by decide)), mu_1 (hq 1 8 (by omega) (by omega) (by decide)), mu_1 (hq 1 7 (by omega) (by omega) (by decide)), mu_1 (hq 1 6 (by omega) (by omega) (by decide)), mu_1 (hq 1 5 (by omega) (by omega) (by decide)), mu_1 (hq 1 4 (by omega) (by omega) (by decide)), mu_1 (hq 1 3 (by omega) (by omega) (by decide)), mu_1 (hq 1 2 (by omega) (by omega) (by decide)), me_us]
theorem xc90_2 {q r : Nat → Nat} {J : Nat → Nat → Int32} {n : Nat} (hq : zq q) (h : n < 24) : x90 q r J (q 2) n = J (r 2) n := by
  unfold x90
  rw [mu_1 (hq 2 9 (by omega) (by omega) (by decide)), mu_1 (hq 2 8 (by omega) (by omega) (by decide)), mu_1 (hq 2 7 (by omega) (by omega) (by decide)), mu_1 (hq 2 6 (by omega) (by omega) (by decide)), mu_1 (hq 2 5 (by omega) (by omega) (by decide)), mu_1 (hq 2 4 (by omega) (by omega) (by decide)), mu_1 (hq 2 3 (by omega) (by omega) (by decide)), mx_cr h]
theorem xc90_3 {q r : Nat → Nat} {J : Nat → Nat → Int32} {n : Nat} (hq : zq q) (h : n < 24) : x90 q r J (q 3) n = J (r 3) n := by
  unfold x90
  rw [mu_1 (hq 3 9 (by omega) (by omega) (by decide)), mu_1 (hq 3 8 (by omega) (by omega) (by decide)), mu_1 (hq 3 7 (by omega) (by omega) (by decide)), mu_1 (hq 3 6 (by omega) (by omega) (by decide)), mu_1 (hq 3 5 (by omega) (by omega) (by decide)), mu_1 (hq 3 4 (by omega) (by omega) (by decide)), mx_cr h]
theorem xc90_4 {q r : Nat → Nat} {J : Nat → Nat → Int32} {n : Nat} (hq : zq q) (h : n < 24) : x90 q r J (q 4) n = J (r 4) n := by
  unfold x90
  rw [mu_1 (hq 4 9 (by omega) (by omega) (by decide)), mu_1 (hq 4 8 (by omega) (by omega) (by decide)), mu_1 (hq 4 7 (by omega) (by omega) (by decide)), mu_1 (hq 4 6 (by omega) (by omega) (by decide)), mu_1 (hq 4 5 (by omega) (by omega) (by decide)), mx_cr h]
theorem xc90_5 {q r : Nat → Nat} {J : Nat → Nat → Int32} {n : Nat} (hq : zq q) (h : n < 24) : x90 q r J (q 5) n = J (r 5) n := by
  unfold x90
  rw [mu_1 (hq 5 9 (by omega) (by omega) (by decide)), mu_1 (hq 5 8 (by omega) (by omega) (by decide)), mu_1 (hq 5 7 (by omega) (by omega) (by decide)), mu_1 (hq 5 6 (by omega) (by omega) (by decide)), mx_cr h]
theorem xc90_6 {q r : Nat → Nat} {J : Nat → Nat → Int32} {n : Nat} (hq : zq q) (h : n < 8) : x90 q r J (q 6) n = J (r 6) n := by
  unfold x90
  rw [mu_1 (hq 6 9 (by omega) (by omega) (by decide)), mu_1 (hq 6 8 (by omega) (by omega) (by decide)), mu_1 (hq 6 7 (by omega) (by omega) (by decide)), mx_cr h]
theorem xc90_7 {q r : Nat → Nat} {J : Nat → Nat → Int32} {n : Nat} (hq : zq q) (h : n < 8) : x90 q r J (q 7) n = J (r 7) n := by
  unfold x90
  rw [mu_1 (hq 7 9 (by omega) (by omega) (by decide)), mu_1 (hq 7 8 (by omega) (by omega) (by decide)), mx_cr h]
theorem xc90_8 {q r : Nat → Nat} {J : Nat → Nat → Int32} {n : Nat} (hq : zq q) (h : n < 8) : x90 q r J (q 8) n = J (r 8) n := by
  unfold x90
  rw [mu_1 (hq 8 9 (by omega) (by omega) (by decide)), mx_cr h]
theorem xc90_9 {q r : Nat → Nat} {J : Nat → Nat → Int32} {n : Nat} (hq : zq q) (h : n < 8) : x90 q r J (q 9) n = J (r 9) n := by
  unfold x90
  rw [mx_cr h]
theorem xc80_0_1 {q r : Nat → Nat} {J : Nat → Nat → Int32} (hq : zq q) : x80 q r J (q 0) 1 = J (r 0) 1 := by
  unfold x80
  rw [mu_1 (hq 0 16 (by omega) (by omega) (by decide)), mu_1 (hq 0 15 (by omega) (by omega) (by decide)), mu_1 (hq 0 14 (by omega) (by omega) (by decide)), mu_1 (hq 0 13 (by omega) (by omega) (by decide)), mu_1 (hq 0 12 (by omega) (by omega) (by decide)), mu_1 (hq 0 11 (by omega) (by omega) (by decide)), mu_1 (hq 0 10 (by omega) (by omega) (by decide)), me_uk (by decide), me_uk (by decide), me_uk (by decide), me_uk (by decide), me_uk (by decide), me_us]
theorem xc80_0_2 {q r : Nat → Nat} {J : Nat → Nat → Int32} (hq : zq q) : x80 q r J (q 0) 2 = J (r 0) 2 := by
  unfold x80
  rw [mu_1 (hq 0 16 (by omega) (by omega) (by decide)), mu_1 (hq 0 15 (by omega) (by omega) (by decide)), mu_1 (hq 0 14 (by omega) (by omega) (by decide)), mu_1 (hq 0 13 (by omega) (by omega) (by decide)), mu_1 (hq 0 12 (by omega) (by omega) (by decide)), mu_1 (hq 0 11 (by omega) (by omega) (by decide)), mu_1 (hq 0 10 (by omega) (by omega) (by decide)), me_uk (by decide), me_uk (by decide), me_uk (by decide), me_uk (by decide), me_us]
theorem xc80_0_3 {q r : Nat → Nat} {J : Nat → Nat → Int32} (hq : zq q) : x80 q r J (q 0) 3 = J (r 0) 3 := by
  unfold x80
  rw [mu_1 (hq 0 16 (by omega) (by omega) (by decide)), mu_1 (hq 0 15 (by omega) (by omega) (by decide)), mu_1 (hq 0 14 (by omega) (by omega) (by decide)), mu_1 (hq 0 13 (by omega) (by omega) (by decide)), mu_1 (hq 0 12 (by omega) (by omega) (by decide)), mu_1 (hq 0 11 (by omega) (by omega) (by decide)), mu_1 (hq 0 10 (by omega) (by omega) (by decide)), me_uk (by decide), me_uk (by decide), me_uk (by decide), me_us]
theorem xc80_0_4 {q r : Nat → Nat} {J : Nat → Nat → Int32} (hq : zq q) : x80 q r J (q 0) 4 = J (r 0) 4 := by
  unfold x80
  rw [mu_1 (hq 0 16 (by omega) (by omega) (by decide)), mu_1 (hq 0 15 (by omega) (by omega) (by decide)), mu_1 (hq 0 14 (by omega) (by omega) (by decide)), mu_1 (hq 0 13 (by omega) (by omega) (by decide)), mu_1 (hq 0 12 (by omega) (by omega) (by decide)), mu_1 (hq 0 11 (by omega) (by omega) (by decide)), mu_1 (hq 0 10 (by omega) (by omega) (by decide)), me_uk (by decide), me_uk (by decide), me_us]
theorem xc80_0_5 {q r : Nat → Nat} {J : Nat → Nat → Int32} (hq : zq q) : x80 q r J (q 0) 5 = J (r 0) 5 := by
  unfold x80
  rw [mu_1 (hq 0 16 (by omega) (by omega) (by decide)), mu_1 (hq 0 15 (by omega) (by omega) (by decide)), mu_1 (hq 0 14 (by omega) (by omega) (by decide)), mu_1 (hq 0 13 (by omega) (by omega) (by decide)), mu_1 (hq 0 12 (by omega) (by omega) (by decide)), mu_1 (hq 0 11 (by omega) (by omega) (by decide)), mu_1 (hq 0 10 (by omega) (by omega) (by decide)), me_uk (by decide), me_us]
theorem xc80_0_6 {q r : Nat → Nat} {J : Nat → Nat → Int32} (hq : zq q) : x80 q r J (q 0) 6 = J (r 0) 6 := by
  unfold x80
  rw [mu_1 (hq 0 16 (by omega) (by omega) (by decide)), mu_1 (hq 0 15 (by omega) (by omega) (by decide)), mu_1 (hq 0 14 (by omega) (by omega) (by decide)), mu_1 (hq 0 13 (by omega) (by omega) (by decide)), mu_1 (hq 0 12 (by omega) (by omega) (by decide)), mu_1 (hq 0 11 (by omega) (by omega) (by decide)), mu_1 (hq 0 10 (by omega) (by omega) (by decide)), me_us]
theorem xc80_1 {q r : Nat → Nat} {J : Nat → Nat → Int32} (hq : zq q) : x80 q r J (q 1) = x90 q r J (q 1) := by
  unfold x80
  rw [mu_1 (hq 1 16 (by omega) (by omega) (by decide)), mu_1 (hq 1 15 (by omega) (by omega) (by decide)), mu_1 (hq 1 14 (by omega) (by omega) (by decide)), mu_1 (hq 1 13 (by omega) (by omega) (by decide)), mu_1 (hq 1 12 (by omega) (by omega) (by decide)), mu_1 (hq 1 11 (by omega) (by omega) (by decide)), mu_1 (hq 1 10 (by omega) (by omega) (by decide)), me_uo (hq 1 0 (by omega) (by omega) (by decide)), me_uo (hq 1 0 (by omega) (by omega) (by decide)), me_uo (hq 1 0 (by omega) (by omega) (by decide)), me_uo (hq 1 0 (by omega) (by omega) (by decide)), me_uo (hq 1 0 (by omega) (by omega) (by decide)), me_uo (hq 1 0 (by omega) (by omega) (by decide))]
theorem xc80_2 {q r : Nat → Nat} {J : Nat → Nat → Int32} (hq : zq q) : x80 q r J (q 2) = x90 q r J (q 2) := by
  unfold x80
  rw [mu_1 (hq 2 16 (by omega) (by omega) (by decide)), mu_1 (hq 2 15 (by omega) (by omega) (by decide)), mu_1 (hq 2 14 (by omega) (by omega) (by decide)), mu_1 (hq 2 13 (by omega) (by omega) (by decide)), mu_1 (hq 2 12 (by omega) (by omega) (by decide)), mu_1 (hq 2 11 (by omega) (by omega) (by decide)), mu_1 (hq 2 10 (by omega) (by omega) (by decide)), me_uo (hq 2 0 (by omega) (by omega) (by decide)), me_uo (hq 2 0 (by omega) (by omega) (by decide)), me_uo (hq 2 0 (by omega) (by omega) (by decide)), me_uo (hq 2 0 (by omega) (by omega) (by decide)), me_uo (hq 2 0 (by omega) (by omega) (by decide)), me_uo (hq 2 0 (by omega) (by omega) (by decide))]
theorem xc80_3 {q r : Nat → Nat} {J : Nat → Nat → Int32} (hq : zq q) : x80 q r J (q 3) = x90 q r J (q 3) := by
  unfold x80
  rw [mu_1 (hq 3 16 (by omega) (by omega) (by decide)), mu_1 (hq 3 15 (by omega) (by omega) (by decide)), mu_1 (hq 3 14 (by omega) (by omega) (by decide)), mu_1 (hq 3 13 (by omega) (by omega) (by decide)), mu_1 (hq 3 12 (by omega) (by omega) (by decide)), mu_1 (hq 3 11 (by omega) (by omega) (by decide)), mu_1 (hq 3 10 (by omega) (by omega) (by decide)), me_uo (hq 3 0 (by omega) (by omega) (by decide)), me_uo (hq 3 0 (by omega) (by omega) (by decide)), me_uo (hq 3 0 (by omega) (by omega) (by decide)), me_uo (hq 3 0 (by omega) (by omega) (by decide)), me_uo (hq 3 0 (by omega) (by omega) (by decide)), me_uo (hq 3 0 (by omega) (by omega) (by decide))]
theorem xc80_4 {q r : Nat → Nat} {J : Nat → Nat → Int32} (hq : zq q) : x80 q r J (q 4) = x90 q r J (q 4) := by
  unfold x80
  rw [mu_1 (hq 4 16 (by omega) (by omega) (by decide)), mu_1 (hq 4 15 (by omega) (by omega) (by decide)), mu_1 (hq 4 14 (by omega) (by omega) (by decide)), mu_1 (hq 4 13 (by omega) (by omega) (by decide)), mu_1 (hq 4 12 (by omega) (by omega) (by decide)), mu_1 (hq 4 11 (by omega) (by omega) (by decide)), mu_1 (hq 4 10 (by omega) (by omega) (by decide)), me_uo (hq 4 0 (by omega) (by omega) (by decide)), me_uo (hq 4 0 (by omega) (by omega) (by decide)), me_uo (hq 4 0 (by omega) (by omega) (by decide)), me_uo (hq 4 0 (by omega) (by omega) (by decide)), me_uo (hq 4 0 (by omega) (by omega) (by decide)), me_uo (hq 4 0 (by omega) (by omega) (by decide))]
theorem xc80_5 {q r : Nat → Nat} {J : Nat → Nat → Int32} (hq : zq q) : x80 q r J (q 5) = x90 q r J (q 5) := by
  unfold x80
  rw [mu_1 (hq 5 16 (by omega) (by omega) (by decide)), mu_1 (hq 5 15 (by omega) (by omega) (by decide)), mu_1 (hq 5 14 (by omega) (by omega) (by decide)), mu_1 (hq 5 13 (by omega) (by omega) (by decide)), mu_1 (hq 5 12 (by omega) (by omega) (by decide)), mu_1 (hq 5 11 (by omega) (by omega) (by decide)), mu_1 (hq 5 10 (by omega) (by omega) (by decide)), me_uo (hq 5 0 (by omega) (by omega) (by decide)), me_uo (hq 5 0 (by omega) (by omega) (by decide)), me_uo (hq 5 0 (by omega) (by omega) (by decide)), me_uo (hq 5 0 (by omega) (by omega) (by decide)), me_uo (hq 5 0 (by omega) (by omega) (by decide)), me_uo (hq 5 0 (by omega) (by omega) (by decide))]
theorem xc80_6 {q r : Nat → Nat} {J : Nat → Nat → Int32} (hq : zq q) : x80 q r J (q 6) = x90 q r J (q 6) := by
  unfold x80
  rw [mu_1 (hq 6 16 (by omega) (by omega) (by decide)), mu_1 (hq 6 15 (by omega) (by omega) (by decide)), mu_1 (hq 6 14 (by omega) (by omega) (by decide)), mu_1 (hq 6 13 (by omega) (by omega) (by decide)), mu_1 (hq 6 12 (by omega) (by omega) (by decide)), mu_1 (hq 6 11 (by omega) (by omega) (by decide)), mu_1 (hq 6 10 (by omega) (by omega) (by decide)), me_uo (hq 6 0 (by omega) (by omega) (by decide)), me_uo (hq 6 0 (by omega) (by omega) (by decide)), me_uo (hq 6 0 (by omega) (by omega) (by decide)), me_uo (hq 6 0 (by omega) (by omega) (by decide)), me_uo (hq 6 0 (by omega) (by omega) (by decide)), me_uo (hq 6 0 (by omega) (by omega) (by decide))]
theorem xc80_7 {q r : Nat → Nat} {J : Nat → Nat → Int32} (hq : zq q) : x80 q r J (q 7) = x90 q r J (q 7) := by
  unfold x80
  rw [mu_1 (hq 7 16 (by omega) (by omega) (by decide)), mu_1 (hq 7 15 (by omega) (by omega) (by decide)), mu_1 (hq 7 14 (by omega) (by omega) (by decide)), mu_1 (hq 7 13 (by omega) (by omega) (by decide)), mu_1 (hq 7 12 (by omega) (by omega) (by decide)), mu_1 (hq 7 11 (by omega) (by omega) (by decide)), mu_1 (hq 7 10 (by omega) (by omega) (by decide)), me_uo (hq 7 0 (by omega) (by omega) (by decide)), me_uo (hq 7 0 (by omega) (by omega) (by decide)), me_uo (hq 7 0 (by omega) (by omega) (by decide)), me_uo (hq 7 0 (by omega) (by omega) (by decide)), me_uo (hq 7 0 (by omega) (by omega) (by decide)), me_uo (hq 7 0 (by omega) (by omega) (by decide))]
theorem xc80_8 {q r : Nat → Nat} {J : Nat → Nat → Int32} (hq : zq q) : x80 q r J (q 8) = x90 q r J (q 8) := by
  unfold x80
  rw [mu_1 (hq 8 16 (by omega) (by omega) (by decide)), mu_1 (hq 8 15 (by omega) (by omega) (by decide)), mu_1 (hq 8 14 (by omega) (by omega) (by decide)), mu_1 (hq 8 13 (by omega) (by omega) (by decide)), mu_1 (hq 8 12 (by omega) (by omega) (by decide)), mu_1 (hq 8 11 (by omega) (by omega) (by decide)), mu_1 (hq 8 10 (by omega) (by omega) (by decide)), me_uo (hq 8 0 (by omega) (by omega) (by decide)), me_uo (hq 8 0 (by omega) (by omega) (by decide)), me_uo (hq 8 0 (by omega) (by omega) (by decide)), me_uo (hq 8 0 (by omega) (by omega) (by decide)), me_uo (hq 8 0 (by omega) (by omega) (by decide)), me_uo (hq 8 0 (by omega) (by omega) (by decide))]
theorem xc80_9 {q r : Nat → Nat} {J : Nat → Nat → Int32} (hq : zq q) : x80 q r J (q 9) = x90 q r J (q 9) := by
  unfold x80
  rw [mu_1 (hq 9 16 (by omega) (by omega) (by decide)), mu_1 (hq 9 15 (by omega) (by omega) (by decide)), mu_1 (hq 9 14 (by omega) (by omega) (by decide)), mu_1 (hq 9 13 (by omega) (by omega) (by decide)), mu_1 (hq 9 12 (by omega) (by omega) (by decide)), mu_1 (hq 9 11 (by omega) (by omega) (by decide)), mu_1 (hq 9 10 (by omega) (by omega) (by decide)), me_uo (hq 9 0 (by omega) (by omega) (by decide)), me_uo (hq 9 0 (by omega) (by omega) (by decide)), me_uo (hq 9 0 (by omega) (by omega) (by decide)), me_uo (hq 9 0 (by omega) (by omega) (by decide)), me_uo (hq 9 0 (by omega) (by omega) (by decide)), me_uo (hq 9 0 (by omega) (by omega) (by decide))]
theorem xc80_10 {q r : Nat → Nat} {J : Nat → Nat → Int32} {n : Nat} (hq : zq q) (h : n < 6) : x80 q r J (q 10) n = J (r 10) n := by
  unfold x80
  rw [mu_1 (hq 10 16 (by omega) (by omega) (by decide)), mu_1 (hq 10 15 (by omega) (by omega) (by decide)), mu_1 (hq 10 14 (by omega) (by omega) (by decide)), mu_1 (hq 10 13 (by omega) (by omega) (by decide)), mu_1 (hq 10 12 (by omega) (by omega) (by decide)), mu_1 (hq 10 11 (by omega) (by omega) (by decide)), mx_cr h]
theorem xc80_11 {q r : Nat → Nat} {J : Nat → Nat → Int32} {n : Nat} (hq : zq q) (h : n < 6) : x80 q r J (q 11) n = J (r 11) n := by
  unfold x80
  rw [mu_1 (hq 11 16 (by omega) (by omega) (by decide)), mu_1 (hq 11 15 (by omega) (by omega) (by decide)), mu_1 (hq 11 14 (by omega) (by omega) (by decide)), mu_1 (hq 11 13 (by omega) (by omega) (by decide)), mu_1 (hq 11 12 (by omega) (by omega) (by decide)), mx_cr h]
theorem xc80_12 {q r : Nat → Nat} {J : Nat → Nat → Int32} {n : Nat} (hq : zq q) (h : n < 6) : x80 q r J (q 12) n = J (r 12) n := by
  unfold x80
  rw [mu_1 (hq 12 16 (by omega) (by omega) (by decide)), mu_1 (hq 12 15 (by omega) (by omega) (by decide)), mu_1 (hq 12 14 (by omega) (by omega) (by decide)), mu_1 (hq 12 13 (by omega) (by omega) (by decide)), mx_cr h]
theorem xc80_13 {q r : Nat → Nat} {J : Nat → Nat → Int32} {n : Nat} (hq : zq q) (h : n < 24) : x80 q r J (q 13) n = J (r 13) n := by
  unfold x80
  rw [mu_1 (hq 13 16 (by omega) (by omega) (by decide)), mu_1 (hq 13 15 (by omega) (by omega) (by decide)), mu_1 (hq 13 14 (by omega) (by omega) (by decide)), mx_cr h]
theorem xc80_14 {q r : Nat → Nat} {J : Nat → Nat → Int32} {n : Nat} (hq : zq q) (h : n < 24) : x80 q r J (q 14) n = J (r 14) n := by
  unfold x80
  rw [mu_1 (hq 14 16 (by omega) (by omega) (by decide)), mu_1 (hq 14 15 (by omega) (by omega) (by decide)), mx_cr h]
theorem xc80_15 {q r : Nat → Nat} {J : Nat → Nat → Int32} {n : Nat} (hq : zq q) (h : n < 24) : x80 q r J (q 15) n = J (r 15) n := by
  unfold x80
  rw [mu_1 (hq 15 16 (by omega) (by omega) (by decide)), mx_cr h]
theorem xc80_16 {q r : Nat → Nat} {J : Nat → Nat → Int32} {n : Nat} (hq : zq q) (h : n < 8) : x80 q r J (q 16) n = J (r 16) n := by
  unfold x80
  rw [mx_cr h]
def zlen (r : Nat) : Nat := if r = 2 ∨ r = 3 ∨ r = 5 ∨ r = 13 ∨ r = 14 ∨ r = 15 then 24 else if r < 10 ∨ r = 16 then 8 else 6
theorem zc_bd : ∀ j, j < 212 → ((zc j).1 = 0 ∧ 1 ≤ (zc j).2 ∧ (zc j).2 ≤ 6) ∨ ((zc j).1 = 1 ∧ (zc j).2 ≤ 4) ∨ (2 ≤ (zc j).1 ∧ (zc j).1 < 17 ∧ (zc j).1 ≠ 4 ∧ (zc j).2 < zlen (zc j).1) := by decide +kernel
theorem zR_copy {q r : Nat → Nat} {J : Nat → Nat → Int32} {e : Nat → Int32} (hq : zq q) (h : zR r J e) : zR q (x80 q r J) e := by
  refine ⟨fun j hj => ?_, ?_⟩
  · rw [← h.1 j hj]
    rcases zc_bd j (zv_lt hj) with ⟨e1, a, b⟩ | ⟨e1, a⟩ | ⟨l2, l17, n4, a⟩
    · rw [e1]
      rcases (by omega : (zc j).2 = 1 ∨ (zc j).2 = 2 ∨ (zc j).2 = 3 ∨ (zc j).2 = 4 ∨ (zc j).2 = 5 ∨ (zc j).2 = 6) with c | c | c | c | c | c
      · rw [c]
        exact xc80_0_1 hq
      · rw [c]
        exact xc80_0_2 hq
      · rw [c]
        exact xc80_0_3 hq
      · rw [c]
        exact xc80_0_4 hq
      · rw [c]
        exact xc80_0_5 hq
      · rw [c]
        exact xc80_0_6 hq
    · rw [e1]
      rcases (by omega : (zc j).2 = 0 ∨ (zc j).2 = 1 ∨ (zc j).2 = 2 ∨ (zc j).2 = 3 ∨ (zc j).2 = 4) with c | c | c | c | c
      · rw [c, xc80_1 hq]
        exact xc90_1_0 hq
      · rw [c, xc80_1 hq]
        exact xc90_1_1 hq
      · rw [c, xc80_1 hq]
        exact xc90_1_2 hq
      · rw [c, xc80_1 hq]
        exact xc90_1_3 hq
      · rw [c, xc80_1 hq]
        exact xc90_1_4 hq
    · rcases (by omega : (zc j).1 = 2 ∨ (zc j).1 = 3 ∨ (zc j).1 = 5 ∨ (zc j).1 = 6 ∨ (zc j).1 = 7 ∨ (zc j).1 = 8 ∨ (zc j).1 = 9 ∨ (zc j).1 = 10 ∨ (zc j).1 = 11 ∨ (zc j).1 = 12 ∨ (zc j).1 = 13 ∨ (zc j).1 = 14 ∨ (zc j).1 = 15 ∨ (zc j).1 = 16) with e1 | e1 | e1 | e1 | e1 | e1 | e1 | e1 | e1 | e1 | e1 | e1 | e1 | e1
      · rw [e1] at a ⊢
        exact (congrFun (xc80_2 hq) _).trans (xc90_2 hq a)
      · rw [e1] at a ⊢
        exact (congrFun (xc80_3 hq) _).trans (xc90_3 hq a)
      · rw [e1] at a ⊢
        exact (congrFun (xc80_5 hq) _).trans (xc90_5 hq a)
      · rw [e1] at a ⊢
        exact (congrFun (xc80_6 hq) _).trans (xc90_6 hq a)
      · rw [e1] at a ⊢
        exact (congrFun (xc80_7 hq) _).trans (xc90_7 hq a)
      · rw [e1] at a ⊢
        exact (congrFun (xc80_8 hq) _).trans (xc90_8 hq a)
      · rw [e1] at a ⊢
        exact (congrFun (xc80_9 hq) _).trans (xc90_9 hq a)
      · rw [e1] at a ⊢
        exact xc80_10 hq a
      · rw [e1] at a ⊢
        exact xc80_11 hq a
      · rw [e1] at a ⊢
        exact xc80_12 hq a
      · rw [e1] at a ⊢
        exact xc80_13 hq a
      · rw [e1] at a ⊢
        exact xc80_14 hq a
      · rw [e1] at a ⊢
        exact xc80_15 hq a
      · rw [e1] at a ⊢
        exact xc80_16 hq a
  · rw [xc80_0_1 hq]
    exact h.2
end
section
/-! whose ship is whose: both sides -/
theorem zq_75l {q p : Nat → Nat} {Jc Jr : Nat → Nat → Int32} {s o : Int32} (hR : zR q Jc (Jr (p 4))) (hW : xr_W (Jr (p 4))) (hl : zl (Jr (p 4)) s) : ∀ (c : Nat) (a i : Int32), 0 ≤ i.toInt → x75_5 q s o Jc c a i = x220_5 p s o Jr c a i := by
  intro c
  induction c with
  | zero => intro a i h; rfl
  | succ c ih =>
    intro a i h
    rw [x75_5, x220_5, zR_n hR (by omega)]
    by_cases h1 : Jr (p 4) 2 ≤ i
    · rw [if_pos h1, if_pos h1]
    · rw [if_neg h1, if_neg h1]
      obtain ⟨hn, hi, c0, c1, c2, c3, c4, r0, r1, r2, r3, r4⟩ := zP hR hW h h1
      rw [z_in r1 r3 r4 (hl _ hn), c1, c2, c3, r2]
      by_cases h3 : Jr (p 4) (52 + 5 * i.toNatClampNeg + 3) = s
      · rw [if_pos h3, if_pos h3]
        by_cases h2 : Jr (p 4) (52 + 5 * i.toNatClampNeg + 1) ≤ 0
        · rw [if_pos h2, if_pos h2, if_pos rfl, z_add0]
          exact ih _ _ (zi_i h1 h)
        · rw [if_neg h2, if_neg h2, if_neg (show ¬ (1 : Int32) = 0 from by decide)]
          by_cases h4 : Jr (p 4) (52 + 5 * i.toNatClampNeg + 2) = o
          · rw [if_pos h4, if_pos h4]
            exact ih _ _ (zi_i h1 h)
          · rw [if_neg h4, if_neg h4, z_add0]
            exact ih _ _ (zi_i h1 h)
      · rw [if_neg h3, if_neg h3, if_pos rfl, z_add0]
        exact ih _ _ (zi_i h1 h)
theorem zq_75 {q p : Nat → Nat} {Jc Jr : Nat → Nat → Int32} {s o : Int32} (hR : zR q Jc (Jr (p 4))) (hW : xr_W (Jr (p 4))) (hl : zl (Jr (p 4)) s) : x75 q s o Jc = x220 p s o Jr := by
  unfold x75 x220
  rw [zR_n hR (by omega)]
  exact zq_75l hR hW hl _ _ _ (by decide)
theorem zq_77l {q p : Nat → Nat} {Jc Jr : Nat → Nat → Int32} {s : Int32} (hR : zR q Jc (Jr (p 4))) (hW : xr_W (Jr (p 4))) (hl : zl (Jr (p 4)) s) : ∀ (c : Nat) (a m i : Int32), x77_7 q s Jc c a m i = x219_7 p s Jr c a m i := by
  intro c
  induction c with
  | zero => intro a m i; rfl
  | succ c ih =>
    intro a m i
    rw [x77_7, x219_7, zR_n hR (by omega), zq_75 hR hW hl]
    by_cases h1 : Jr (p 4) 1 ≤ i
    · rw [if_pos h1, if_pos h1]
    · rw [if_neg h1, if_neg h1]
      by_cases h2 : x220 p s i Jr ≤ m
      · simp only [if_pos h2]
        exact ih _ _ _
      · simp only [if_neg h2]
        exact ih _ _ _
theorem zq_78l {q p : Nat → Nat} {Jc Jr : Nat → Nat → Int32} {s : Int32} (hR : zR q Jc (Jr (p 4))) (hW : xr_W (Jr (p 4))) (hl : zl (Jr (p 4)) s) : ∀ (c : Nat) (i : Int32), 0 ≤ i.toInt → x78_2 q s Jc c i = x218_20 p s Jr c i := by
  intro c
  induction c with
  | zero => intro i h; rfl
  | succ c ih =>
    intro i h
    rw [x78_2, x218_20, zR_n hR (by omega)]
    by_cases h1 : Jr (p 4) 2 ≤ i
    · rw [if_pos h1, if_pos h1]
    · rw [if_neg h1, if_neg h1]
      obtain ⟨hn, hi, c0, c1, c2, c3, c4, r0, r1, r2, r3, r4⟩ := zP hR hW h h1
      rw [z_in r1 r3 r4 (hl _ hn), c0, c1, c2, c3, r0, r2, ih _ (zi_i h1 h)]
      by_cases h3 : Jr (p 4) (52 + 5 * i.toNatClampNeg + 3) = s
      · rw [if_pos h3, if_pos h3]
        by_cases h2 : Jr (p 4) (52 + 5 * i.toNatClampNeg + 1) ≤ 0
        · rw [if_pos h2, if_pos h2, if_pos rfl]
        · rw [if_neg h2, if_neg h2, if_neg (show ¬ (1 : Int32) = 0 from by decide)]
      · rw [if_neg h3, if_neg h3, if_pos rfl]
/-- nothing is in a lost ship -/
theorem zlo_in {p : Nat → Nat} {J : Nat → Nat → Int32} {s i : Int32} {b : Int} (hW : zW (J (p 4)) b) (hs : 0 ≤ s.toInt) (h2 : J (p 4) (10 + 7 * s.toNatClampNeg + 4) = 2) (h : 0 ≤ i.toInt) (h1 : ¬ J (p 4) 2 ≤ i) : x171 p i s J = 0 := by
  have bb := zn_b hW.w
  have x := zx bb.2.2.2.2.2.2.1 h h1
  have r1 : x173 p i (Int32.ofInt 1) J = _ := zx_p (k := 1) h (by omega) (by omega)
  have r3 : x173 p i (Int32.ofInt 3) J = _ := zx_p (k := 3) h (by omega) (by omega)
  have r4 : x173 p i (Int32.ofInt 4) J = _ := zx_p (k := 4) h (by omega) (by omega)
  have lo := hW.b.lo _ x.1
  unfold x171 x172
  rw [r1, r3, r4]
  by_cases c3 : J (p 4) (52 + 5 * i.toNatClampNeg + 3) = s
  · rw [c3, if_pos ⟨hs, h2⟩] at lo
    rw [lo, if_neg (show ¬ (1 : Int32) = 0 from by decide), ite_self]
    rfl
  · rw [if_neg c3, ite_self]
    rfl
theorem zlo_220 {p : Nat → Nat} {J : Nat → Nat → Int32} {s o : Int32} {b : Int} (hW : zW (J (p 4)) b) (hs : 0 ≤ s.toInt) (h2 : J (p 4) (10 + 7 * s.toNatClampNeg + 4) = 2) : ∀ (c : Nat) (a i : Int32), 0 ≤ i.toInt → x220_5 p s o J c a i = a := by
  intro c
  induction c with
  | zero => intro a i h; rfl
  | succ c ih =>
    intro a i h
    rw [x220_5]
    by_cases h1 : J (p 4) 2 ≤ i
    · rw [if_pos h1]
    · rw [if_neg h1, if_pos (zlo_in hW hs h2 h h1), z_add0]
      exact ih _ _ (zi_i h1 h)
theorem zlo_219 {p : Nat → Nat} {J : Nat → Nat → Int32} {s : Int32} {b : Int} (hW : zW (J (p 4)) b) (hs : 0 ≤ s.toInt) (h2 : J (p 4) (10 + 7 * s.toNatClampNeg + 4) = 2) : ∀ (c : Nat) (a i : Int32), x219_7 p s J c a (Int32.ofInt 0) i = a := by
  intro c
  induction c with
  | zero => intro a i; rfl
  | succ c ih =>
    intro a i
    have e : x220 p s i J = Int32.ofInt 0 := zlo_220 hW hs h2 _ _ _ (by decide)
    rw [x219_7, e]
    split
    · rfl
    · simp only [if_pos (show Int32.ofInt 0 ≤ Int32.ofInt 0 from by decide)]
      exact ih _ _
theorem zlo_218 {p : Nat → Nat} {J : Nat → Nat → Int32} {s : Int32} {b : Int} (hW : zW (J (p 4)) b) (hs : 0 ≤ s.toInt) (h2 : J (p 4) (10 + 7 * s.toNatClampNeg + 4) = 2) : ∀ (c : Nat) (i : Int32), 0 ≤ i.toInt → x218_20 p s J c i = Int32.ofInt (-1) := by
  intro c
  induction c with
  | zero => intro i h; rfl
  | succ c ih =>
    intro i h
    rw [x218_20]
    by_cases h1 : J (p 4) 2 ≤ i
    · rw [if_pos h1]
    · rw [if_neg h1, if_pos (zlo_in hW hs h2 h h1)]
      exact ih _ (zi_i h1 h)
theorem zq_76 {q p : Nat → Nat} {Jc Jr : Nat → Nat → Int32} {l s : Int32} {b : Int} (hR : zR q Jc (Jr (p 4))) (hW : zW (Jr (p 4)) b) (hs : 0 ≤ s.toInt ∧ s.toInt < (Jr (p 4) 1).toInt) : x76 q l s Jc = x218 p l s Jr := by
  have sS := zS hR hW.w hs.1 hs.2
  unfold x76 x218
  rw [sS.2.2.1]
  by_cases h2 : l = Int32.ofInt 2
  · rw [if_pos h2, if_pos h2]
  · rw [if_neg h2, if_neg h2]
    by_cases h3 : Jr (p 4) (10 + 7 * s.toNatClampNeg + 4) = Int32.ofInt 2
    · rw [if_pos h3]
      have e1 : x219 p s Jr = Int32.ofInt (-1) := zlo_219 hW hs.1 h3 _ _ _
      rw [e1, zlo_218 hW hs.1 h3 _ _ (by decide), ite_self]
    · rw [if_neg h3]
      have hl : zl (Jr (p 4)) s := zl_of hW (fun _ c => h3 c)
      have e1 : x77 q s Jc = x219 p s Jr := by
        unfold x77 x219
        rw [zR_n hR (by omega)]
        exact zq_77l hR hW.w hl _ _ _ _
      have e2 : x78 q s Jc = x218_20 p s Jr ((Jr (p 4) 2).toNatClampNeg) (Int32.ofInt 0) := by
        unfold x78
        rw [zR_n hR (by omega)]
        exact zq_78l hR hW.w hl _ _ (by decide)
      rw [e1, e2]
theorem zq_119 {p : Nat → Nat} {Jc Jr : Nat → Nat → Int32} {v1 v2 : Int32} {b : Int} (hR : zR (fun i => p (31 + i)) Jc (Jr (p 4))) (hW : zW (Jr (p 4)) b) : x119 p v1 v2 Jc = x217 p v1 v2 Jr := by
  have e65 : x65 (fun i => p (31 + i)) v2 Jc = x168 p v2 Jr := by
    unfold x65 x168
    rw [show Jc ((fun i => p (31 + i)) 1) 1 = Jr (p 4) 1 from zR_n hR (by omega)]
  have o0 : Int32.ofInt 0 = 0 := rfl
  have o1 : ¬ Int32.ofInt 1 = 0 := by decide
  unfold x119 x217
  rw [z_145, e65, show (Int64.ofNat 0).toInt = 0 from by decide, show (2 : Int64).toInt = 2 from by decide]
  by_cases h0 : v1 < 0
  · rw [if_pos h0, if_pos (Or.inl (z_le0.mp h0)), if_pos o0]
  · rw [if_neg h0]
    have n0 : ¬ v1.toInt < 0 := fun c => h0 (z_le0.mpr c)
    by_cases h1 : Int32.ofInt 2 < v1
    · have h1' := Int32.lt_iff_toInt_lt.mp h1
      rw [show (Int32.ofInt 2).toInt = 2 from by decide] at h1'
      rw [if_pos h1, if_pos (Or.inr h1'), if_pos o0]
    · have h1' : ¬ 2 < v1.toInt := fun c => h1 (Int32.lt_iff_toInt_lt.mpr (by rw [show (Int32.ofInt 2).toInt = 2 from by decide]; exact c))
      have nn : ¬ (v1.toInt < 0 ∨ 2 < v1.toInt) := fun c => by omega
      rw [if_neg h1, if_neg nn, if_neg o1]
      by_cases h2 : x168 p v2 Jr = 0
      · rw [if_pos h2, if_pos h2]
      · rw [if_neg h2, if_neg h2]
        refine zq_76 hR hW ?_
        unfold x168 at h2
        by_cases c : v2 < 0
        · rw [if_pos c] at h2
          exact absurd rfl h2
        · rw [if_neg c] at h2
          by_cases d : Jr (p 4) 1 ≤ v2
          · rw [if_pos d] at h2
            exact absurd rfl h2
          · have : ¬ v2.toInt < 0 := fun z => c (z_le0.mpr z)
            exact ⟨by omega, z_lt d⟩
theorem z_or0 {x : Int32} : x ||| Int32.ofInt 0 = x := Int32.or_zero
theorem zq_120l {p : Nat → Nat} {Jc Jr : Nat → Nat → Int32} {b : Int} (hR : zR (fun i => p (31 + i)) Jc (Jr (p 4))) (hW : zW (Jr (p 4)) b) : ∀ (c : Nat) (a i : Int32), 0 ≤ i.toInt → x120_16 p Jc c a i = x221_13 p Jr c a i := by
  intro c
  induction c with
  | zero => intro a i h; rfl
  | succ c ih =>
    intro a i h
    rw [x120_16, x221_13, show Jc (p 32) 1 = Jr (p 4) 1 from zR_n hR (by omega)]
    by_cases h1 : Jr (p 4) 1 ≤ i
    · rw [if_pos h1, if_pos h1]
    · rw [if_neg h1, if_neg h1, zq_76 hR hW ⟨h, z_lt h1⟩, zq_76 hR hW ⟨h, z_lt h1⟩, z_or0, ih _ _ (zi_i h1 h), ih _ _ (zi_i h1 h)]
theorem z_told {q : Nat → Nat} {p : Nat → Nat} {Jc Jr : Nat → Nat → Int32} (hR : zR q Jc (Jr (p 4))) (hW : xr_W (Jr (p 4))) : (Jc (q 0) 1 = 0 ↔ x188 p Jr = 0) := by
  have b := xr_0 hW
  unfold x188
  rw [hR.2]
  by_cases h : Jr (p 4) 0 = 0
  · rw [if_pos h, h, if_pos (by decide)]
    exact Iff.rfl
  · rw [if_neg h, if_neg]
    · exact ⟨fun c => absurd c (by decide), fun c => absurd c (by decide)⟩
    · intro c
      have c := z_ge.mp c
      rw [show (0 : Int32).toInt = 0 from by decide] at c
      exact h (Int32.toInt_inj.mp (by rw [show (0 : Int32).toInt = 0 from by decide]; omega))
theorem zq_120 {p : Nat → Nat} {Jc Jr : Nat → Nat → Int32} {b : Int} (hR : zR (fun i => p (31 + i)) Jc (Jr (p 4))) (hW : zW (Jr (p 4)) b) : x120 p Jc = x221 p Jr := by
  have t := z_told hR hW.w
  unfold x120 x221
  by_cases h : x188 p Jr = 0
  · rw [if_pos (t.mpr h), if_pos h]
  · rw [if_neg (fun c => h (t.mp c)), if_neg h, show Jc (p 32) 1 = Jr (p 4) 1 from zR_n hR (by omega)]
    exact zq_120l hR hW _ _ _ (by decide)
theorem zq_79l {q p : Nat → Nat} {Jc Jr : Nat → Nat → Int32} (hR : zR q Jc (Jr (p 4))) (hW : xr_W (Jr (p 4))) : ∀ (c : Nat) (a i : Int32), 0 ≤ i.toInt → x79_4 q Jc c a i = x228_4 p Jr c a i := by
  intro c
  induction c with
  | zero => intro a i h; rfl
  | succ c ih =>
    intro a i h
    rw [x79_4, x228_4, zR_n hR (by omega)]
    by_cases h1 : Jr (p 4) 1 ≤ i
    · rw [if_pos h1, if_pos h1]
    · have s := zS hR hW h (z_lt h1)
      rw [if_neg h1, if_neg h1, s.2.2.1, s.2.2.2.2.2.1, z_or0, ih _ _ (zi_i h1 h), ih _ _ (zi_i h1 h)]
theorem zq_79 {q p : Nat → Nat} {Jc Jr : Nat → Nat → Int32} (hR : zR q Jc (Jr (p 4))) (hW : xr_W (Jr (p 4))) : x79 q Jc = x228 p Jr := by
  unfold x79 x228
  rw [zR_n hR (by omega)]
  exact zq_79l hR hW _ _ _ (by decide)
end
section
/-! ahead: both sides -/
theorem zid_h {p : Nat → Nat} {J : Nat → Nat → Int32} {b : Int} (hW : zW (J (p 4)) b) (hb : 100 ≤ b) : ∀ (c : Nat) (i : Int32), 0 ≤ i.toInt → zhr p c i J = J := by
  have bb := zn_b hW.w
  intro c
  induction c with
  | zero => intro i h; rfl
  | succ c ih =>
    intro i h
    rw [zhr]
    by_cases h1 : J (p 4) 3 ≤ i
    · rw [if_pos h1]
    · have x := zx bb.2.2.2.2.2.2.2 h h1
      rw [if_neg h1, show x180 p i (Int32.ofInt 4) J = _ from zx_v (k := 4) h (by omega) (by omega), if_neg]
      · exact ih _ (zi_i h1 h)
      · intro c1
        obtain ⟨s, hs, es, e1, eo⟩ := hW.c.vc _ x.1 c1
        obtain ⟨v, hv, ev, _, _, eb⟩ := hW.c.on s hs e1
        have vo := hW.a.vo v hv
        omega
theorem zid_50 {p : Nat → Nat} {v1 : Int32} {J : Nat → Nat → Int32} {b : Int} (hW : zW (J (p 4)) b) (hd : 100 ≤ (J (p 4) 4).toInt) : ∀ (c : Nat) (i : Int32) (L : Nat → Nat → Int64), 0 ≤ i.toInt → x190_50 p v1 c i J L = x190_108 p L ((J (p 4) 1).toNatClampNeg) (Int32.ofInt 0) J := by
  have bb := zn_b hW.w
  intro c
  induction c with
  | zero => intro i L h; rfl
  | succ c ih =>
    intro i L h
    rw [x190_50]
    by_cases h1 : J (p 4) 3 ≤ i
    · rw [if_pos h1]
    · have x := zx bb.2.2.2.2.2.2.2 h h1
      rw [if_neg h1, show x180 p i (Int32.ofInt 1) J = _ from zx_v (k := 1) h (by omega) (by omega), if_neg]
      · exact ih _ _ (zi_i h1 h)
      · intro c1
        have vo := hW.a.vo _ x.1
        rw [c1] at vo
        omega
theorem zid_108 {p : Nat → Nat} {L : Nat → Nat → Int64} {J : Nat → Nat → Int32} {b : Int} (hW : zW (J (p 4)) b) (hb : 100 ≤ b) : ∀ (c : Nat) (i : Int32), 0 ≤ i.toInt → x190_108 p L c i J = (nt_u (nt_u J (p 4) 4 ((J (p 4) 4) + (Int32.ofInt 1))) (p 4) 6 (Int32.ofInt 0), L) := by
  have bb := zn_b hW.w
  intro c
  induction c with
  | zero => intro i h; rfl
  | succ c ih =>
    intro i h
    rw [x190_108]
    by_cases h1 : J (p 4) 1 ≤ i
    · rw [if_pos h1]
    · have x := zx bb.2.2.2.2.2.1 h h1
      rw [if_neg h1, show x169 p i (Int32.ofInt 4) J = _ from zx_s (k := 4) h (by omega) (by omega), if_neg]
      · exact ih _ (zi_i h1 h)
      · intro c1
        obtain ⟨v, hv, ev, _, _, eb⟩ := hW.c.on _ x.1 c1
        have vo := hW.a.vo v hv
        omega
/-- behind the last voyage's day nothing happens -/
theorem zidle {p : Nat → Nat} {v1 : Int32} {J : Nat → Nat → Int32} {L : Nat → Nat → Int64} (hW : zW (J (p 4)) (J (p 4) 4).toInt) (hd : 100 ≤ (J (p 4) 4).toInt) (h9 : (J (p 4) 4).toInt ≤ 900) : (x190 p v1 J L).1 = nt_u (nt_u J (p 4) 4 ((J (p 4) 4) + (Int32.ofInt 1))) (p 4) 6 (Int32.ofInt 0) ∧ zW ((x190 p v1 J L).1 (p 4)) ((x190 p v1 J L).1 (p 4) 4).toInt ∧ ((x190 p v1 J L).1 (p 4) 4).toInt = (J (p 4) 4).toInt + 1 ∧ (∀ j, j ≠ 4 → j ≠ 6 → (x190 p v1 J L).1 (p 4) j = J (p 4) j) := by
  have e : (x190 p v1 J L).1 = nt_u (nt_u J (p 4) 4 ((J (p 4) 4) + (Int32.ofInt 1))) (p 4) 6 (Int32.ofInt 0) := by
    unfold x190
    rw [zhr_1, zid_h hW hd _ _ (by decide), zid_50 hW hd _ _ _ (by decide), zid_108 hW hd _ _ (by decide)]
  have er : (nt_u (nt_u J (p 4) 4 ((J (p 4) 4) + (Int32.ofInt 1))) (p 4) 6 (Int32.ofInt 0)) (p 4) = zu (zu (J (p 4)) 4 (J (p 4) 4 + Int32.ofInt 1)) 6 (Int32.ofInt 0) := by
    rw [zu_r, zu_r]
  have e4 : (J (p 4) 4 + Int32.ofInt 1).toInt = (J (p 4) 4).toInt + 1 := by
    rw [Int32.toInt_add, show (Int32.ofInt 1).toInt = 1 from by decide, Int.bmod_eq_of_le (by omega) (by omega)]
  have f4 : ((nt_u (nt_u J (p 4) 4 ((J (p 4) 4) + (Int32.ofInt 1))) (p 4) 6 (Int32.ofInt 0)) (p 4) 4).toInt = (J (p 4) 4).toInt + 1 := by rw [er, zu_k (by omega), zu_s, e4]
  have fo : ∀ j, j ≠ 4 → j ≠ 6 → (nt_u (nt_u J (p 4) 4 ((J (p 4) 4) + (Int32.ofInt 1))) (p 4) 6 (Int32.ofInt 0)) (p 4) j = J (p 4) j := fun j a c => by rw [er, zu_k c, zu_k a]
  have w : zW ((nt_u (nt_u J (p 4) 4 ((J (p 4) 4) + (Int32.ofInt 1))) (p 4) 6 (Int32.ofInt 0)) (p 4)) (J (p 4) 4).toInt := zW_day hW (xr_up (xr_up hW.w (xr_any rfl)) (xr_any rfl)) (by rw [f4]; omega) (by rw [er, zu_s]; rfl) fo
  rw [e]
  refine ⟨rfl, ?_, f4, fo⟩
  rw [f4]
  refine ⟨w.w, w.a, w.b, ⟨w.c.st, ?_, w.c.no, w.c.vc⟩, w.d⟩
  intro s hs e1
  obtain ⟨v, hv, ev, es, ec, eb⟩ := w.c.on s hs e1
  have vo := w.a.vo v hv
  omega
theorem z228_ag {p : Nat → Nat} {J J' : Nat → Nat → Int32} (hW : xr_W (J (p 4))) (fo : ∀ j, j ≠ 4 → j ≠ 6 → J' (p 4) j = J (p 4) j) : x228 p J' = x228 p J := by
  have bb := zn_b hW
  have l : ∀ (c : Nat) (a i : Int32), 0 ≤ i.toInt → x228_4 p J' c a i = x228_4 p J c a i := by
    intro c
    induction c with
    | zero => intro a i h; rfl
    | succ c ih =>
      intro a i h
      rw [x228_4, x228_4, fo 1 (by omega) (by omega)]
      by_cases h1 : J (p 4) 1 ≤ i
      · rw [if_pos h1, if_pos h1]
      · have x := zx bb.2.2.2.2.2.1 h h1
        rw [if_neg h1, if_neg h1, ih _ _ (zi_i h1 h), ih _ _ (zi_i h1 h), show x169 p i (Int32.ofInt 4) J' = _ from zx_s (k := 4) h (by omega) (by omega), show x169 p i (Int32.ofInt 4) J = _ from zx_s (k := 4) h (by omega) (by omega), fo _ (by omega) (by omega)]
  unfold x228
  rw [fo 1 (by omega) (by omega)]
  exact l _ _ _ (by decide)
def zansR (p : Nat → Nat) (v3 : Int32) (J : Nat → Nat → Int32) : Int32 := if v3 = 0 then (J (p 4) 7) - (J (p 7) 7) else if v3 = Int32.ofInt 1 then x228 p J else (J (p 4) 8) - (J (p 7) 8)
theorem zah_fin {p : Nat → Nat} {v3 : Int32} {J : Nat → Nat → Int32} {L : Nat → Nat → Int64} : (if v3 = 0 then ((J (p 4) 7) - (J (p 7) 7), x229 p J, L) else if v3 = (Int32.ofInt 1) then (x228 p J, x229 p J, L) else ((J (p 4) 8) - (J (p 7) 8), x229 p J, L)) = (zansR p v3 J, x229 p J, L) := by
  unfold zansR
  split
  · rfl
  · split
    · rfl
    · rfl
theorem zah_idle {p : Nat → Nat} {v1 v2 v3 : Int32} (hp : zpd p) : ∀ (c : Nat) (i : Int32) (J : Nat → Nat → Int32) (L : Nat → Nat → Int64), 0 ≤ i.toInt → i.toInt ≤ v2.toInt → zW (J (p 4)) (J (p 4) 4).toInt → 100 ≤ (J (p 4) 4).toInt → (J (p 4) 4).toInt + (v2.toInt - i.toInt) ≤ 900 → (x226_41 p v1 v2 v3 c i J L).1 = zansR p v3 J := by
  intro c
  induction c with
  | zero =>
    intro i J L i0 iv hW hd h9
    rw [x226_41, zah_fin]
  | succ c ih =>
    intro i J L i0 iv hW hd h9
    rw [x226_41]
    by_cases h1 : v2 ≤ i
    · rw [if_pos h1, zah_fin]
    · rw [if_neg h1]
      have lt := z_lt h1
      have z := zidle (v1 := v1) (L := L) hW hd (by omega)
      have e7 : (x190 p v1 J L).1 (p 7) = J (p 7) := by
        rw [z.1, me_uo (hp 7 4 (by omega) (by omega) (by omega)), me_uo (hp 7 4 (by omega) (by omega) (by omega))]
      rw [ih _ _ _ (zi_i h1 i0) (by rw [lx_inc h1]; omega) z.2.1 (by rw [z.2.2.1]; omega) (by rw [z.2.2.1, lx_inc h1]; omega)]
      unfold zansR
      rw [e7, z.2.2.2 7 (by omega) (by omega), z.2.2.2 8 (by omega) (by omega), z228_ag hW.w z.2.2.2]
theorem zahead_f  {p : Nat → Nat} {v3 : Int32} {Jc Jr : Nat → Nat → Int32} {Lc : Nat → Nat → Int64} (hR : zR (fun i => p (48 + i)) Jc (Jr (p 4))) (hW : xr_W (Jr (p 4))) (h5 : Jc (p 31) 5 = Jr (p 7) 7) (h4 : Jc (p 31) 4 = Jr (p 7) 8) : (if v3 = Int32.ofInt 0 then ((Jc (p 48) 5) - (Jc (p 31) 5), Jc, Lc) else if v3 = Int32.ofInt 1 then (x79 (fun i => p (48 + i)) Jc, Jc, Lc) else ((Jc (p 48) 4) - (Jc (p 31) 4), Jc, Lc)).1 = zansR p v3 Jr := by
  unfold zansR
  rw [h5, h4, show Jc (p 48) 5 = Jr (p 4) 7 from zR_7 hR, show Jc (p 48) 4 = Jr (p 4) 8 from zR_8 hR, zq_79 hR hW]
  by_cases c0 : v3 = Int32.ofInt 0
  · rw [if_pos c0, if_pos (show v3 = 0 from c0)]
  · rw [if_neg c0, if_neg (show ¬ v3 = 0 from c0)]
    split
    · rfl
    · rfl
theorem zahead_l {p : Nat → Nat} {v1 v2 v3 : Int32} {sp ln T : Nat} (hsq : ∀ i, i < 17 → sp ≠ p (48 + i)) (ht : v1.toInt = (T : Nat)) (X : zX p (fun i => p (48 + i))) : ∀ (c : Nat) (i : Int32) (Jc Jr : Nat → Nat → Int32) (Lc Lr : Nat → Nat → Int64), 0 ≤ i.toInt → i.toInt ≤ v2.toInt → v2.toInt - i.toInt ≤ c → (Jr (p 4) 4).toInt + (v2.toInt - i.toInt) ≤ 900 → zR (fun i => p (48 + i)) Jc (Jr (p 4)) → zW (Jr (p 4)) (Jr (p 4) 4).toInt → Jc (p 31) 5 = Jr (p 7) 7 → Jc (p 31) 4 = Jr (p 7) 8 → zRQ p sp ln T Jc Jr → (x123_53 p sp ln v1 v2 v3 c i Jc Lc).1 = (x226_41 p v1 v2 v3 c i Jr Lr).1 := by
  have n7a : p 7 ≠ p 0 := X.hp 7 0 (by omega) (by omega) (by omega)
  have n7b : p 7 ≠ p 4 := X.hp 7 4 (by omega) (by omega) (by omega)
  intro c
  induction c with
  | zero =>
    intro i Jc Jr Lc Lr i0 iv hc h9 hR hW h5 h4 hQ
    rw [x123_53, x226_41, zah_fin]
    exact zahead_f hR hW.w h5 h4
  | succ c ih =>
    intro i Jc Jr Lc Lr i0 iv hc h9 hR hW h5 h4 hQ
    by_cases h1 : v2 ≤ i
    · rw [x123_53, x226_41, if_pos h1, if_pos h1, zah_fin]
      exact zahead_f hR hW.w h5 h4
    · by_cases h2 : Int32.ofInt 99 < Jc (p 48) 2
      · have e4 : Jc (p 48) 2 = Jr (p 4) 4 := zR_4 hR
        have d : 99 < (Jr (p 4) 4).toInt := by
          rw [e4] at h2
          have h2 := Int32.lt_iff_toInt_lt.mp h2
          rw [show (Int32.ofInt 99).toInt = 99 from by decide] at h2
          exact h2
        rw [zah_idle X.hp (c + 1) i Jr Lr i0 iv hW (by omega) h9, x123_53, if_neg h1, if_pos h2]
        exact zahead_f hR hW.w h5 h4
      · rw [x123_53, x226_41, if_neg h1, if_neg h1, if_neg h2]
        have lt := z_lt h1
        have z := zpass (Lc := Lc) (Lr := Lr) hsq ht hQ X hR hW (by omega)
        have e4 := z.2.2.2
        have k31 : ∀ j, (x1 p (fun i => p (48 + i)) sp ln Jc Lc).1 (p 31) j = Jc (p 31) j := fun j => congrFun (z.2.2.1.c (p 31) (X.hp 31 25 (by omega) (by omega) (by omega)) (fun i hi => X.hp 31 (48 + i) (by omega) (by omega) (by omega))) j
        have k7 : ∀ j, (x190 p v1 Jr Lr).1 (p 7) j = Jr (p 7) j := fun j => congrFun (z.2.2.1.r (p 7) n7a n7b) j
        exact ih (i + Int32.ofInt 1) _ _ (x1 p (fun i => p (48 + i)) sp ln Jc Lc).2 (x190 p v1 Jr Lr).2 (zi_i h1 i0) (by rw [lx_inc h1]; omega) (lx_dec h1 hc) (by rw [e4, lx_inc h1]; omega) z.1 z.2.1 (by rw [k31, k7]; exact h5) (by rw [k31, k7]; exact h4) (zKp_Q X hsq z.2.2.1 hQ)
theorem zaheadN_f  {p : Nat → Nat} {v3 : Int32} {Jc Jr : Nat → Nat → Int32} (hR : zR (fun i => p (48 + i)) Jc (Jr (p 4))) (hW : xr_W (Jr (p 4))) (h5 : Jc (p 31) 5 = Jr (p 7) 7) (h4 : Jc (p 31) 4 = Jr (p 7) 8) : (if v3 = Int32.ofInt 0 then ((Jc (p 48) 5) - (Jc (p 31) 5), Jc) else if v3 = Int32.ofInt 1 then (x79 (fun i => p (48 + i)) Jc, Jc) else ((Jc (p 48) 4) - (Jc (p 31) 4), Jc)).1 = zansR p v3 Jr := by
  unfold zansR
  rw [h5, h4, show Jc (p 48) 5 = Jr (p 4) 7 from zR_7 hR, show Jc (p 48) 4 = Jr (p 4) 8 from zR_8 hR, zq_79 hR hW]
  by_cases c0 : v3 = Int32.ofInt 0
  · rw [if_pos c0, if_pos (show v3 = 0 from c0)]
  · rw [if_neg c0, if_neg (show ¬ v3 = 0 from c0)]
    split
    · rfl
    · rfl
theorem zaheadN_l {p : Nat → Nat} {v1 v2 v3 : Int32} (X : zX p (fun i => p (48 + i))) : ∀ (c : Nat) (i : Int32) (Jc Jr : Nat → Nat → Int32) (Lr : Nat → Nat → Int64), 0 ≤ i.toInt → i.toInt ≤ v2.toInt → v2.toInt - i.toInt ≤ c → (Jr (p 4) 4).toInt + (v2.toInt - i.toInt) ≤ 900 → zR (fun i => p (48 + i)) Jc (Jr (p 4)) → zW (Jr (p 4)) (Jr (p 4) 4).toInt → Jc (p 31) 5 = Jr (p 7) 7 → Jc (p 31) 4 = Jr (p 7) 8 → (x123N_53 p v1 v2 v3 c i Jc).1 = (x226_41 p (Int32.ofInt (-1)) v2 v3 c i Jr Lr).1 := by
  have n7a : p 7 ≠ p 0 := X.hp 7 0 (by omega) (by omega) (by omega)
  have n7b : p 7 ≠ p 4 := X.hp 7 4 (by omega) (by omega) (by omega)
  intro c
  induction c with
  | zero =>
    intro i Jc Jr Lr i0 iv hc h9 hR hW h5 h4
    rw [x123N_53, x226_41, zah_fin]
    exact zaheadN_f hR hW.w h5 h4
  | succ c ih =>
    intro i Jc Jr Lr i0 iv hc h9 hR hW h5 h4
    by_cases h1 : v2 ≤ i
    · rw [x123N_53, x226_41, if_pos h1, if_pos h1, zah_fin]
      exact zaheadN_f hR hW.w h5 h4
    · by_cases h2 : Int32.ofInt 99 < Jc (p 48) 2
      · have e4 : Jc (p 48) 2 = Jr (p 4) 4 := zR_4 hR
        have d : 99 < (Jr (p 4) 4).toInt := by
          rw [e4] at h2
          have h2 := Int32.lt_iff_toInt_lt.mp h2
          rw [show (Int32.ofInt 99).toInt = 99 from by decide] at h2
          exact h2
        rw [zah_idle X.hp (c + 1) i Jr Lr i0 iv hW (by omega) h9, x123N_53, if_neg h1, if_pos h2]
        exact zaheadN_f hR hW.w h5 h4
      · rw [x123N_53, x226_41, if_neg h1, if_neg h1, if_neg h2]
        have lt := z_lt h1
        have z := zpassN (Lr := Lr) X hR hW (by omega)
        have e4 := z.2.2.2
        have k31 : ∀ j, (x1N p (fun i => p (48 + i)) Jc) (p 31) j = Jc (p 31) j := fun j => congrFun (z.2.2.1.c (p 31) (X.hp 31 25 (by omega) (by omega) (by omega)) (fun i hi => X.hp 31 (48 + i) (by omega) (by omega) (by omega))) j
        have k7 : ∀ j, (x190 p (Int32.ofInt (-1)) Jr Lr).1 (p 7) j = Jr (p 7) j := fun j => congrFun (z.2.2.1.r (p 7) n7a n7b) j
        exact ih (i + Int32.ofInt 1) _ _ (x190 p (Int32.ofInt (-1)) Jr Lr).2 (zi_i h1 i0) (by rw [lx_inc h1]; omega) (lx_dec h1 hc) (by rw [e4, lx_inc h1]; omega) z.1 z.2.1 (by rw [k31, k7]; exact h5) (by rw [k31, k7]; exact h4)
end
section
/-! rows kept and put back; days and ahead as calls -/
theorem zkp_l {p : Nat → Nat} (hn : p 4 ≠ p 7) : ∀ (c : Nat) (i : Int32) (J : Nat → Nat → Int32), 0 ≤ i.toInt → 212 - i.toInt ≤ c → (∀ j, i.toNatClampNeg ≤ j → j < 212 → x227_2 p c i J (p 7) j = J (p 4) j) ∧ (∀ j, j < i.toNatClampNeg → x227_2 p c i J (p 7) j = J (p 7) j) := by
  intro c
  induction c with
  | zero =>
    intro i J h hc
    have t := z_tn h
    exact ⟨fun j a b => by omega, fun j a => rfl⟩
  | succ c ih =>
    intro i J h hc
    have t := z_tn h
    rw [x227_2]
    by_cases h1 : Int32.ofInt 212 ≤ i
    · rw [if_pos h1]
      have h1 := z_ge.mp h1
      rw [show (Int32.ofInt 212).toInt = 212 from by decide] at h1
      exact ⟨fun j a b => by omega, fun j a => rfl⟩
    · rw [if_neg h1]
      have l := z_lt h1
      rw [show (Int32.ofInt 212).toInt = 212 from by decide] at l
      have hc' : (Int32.ofInt 212).toInt - i.toInt ≤ (c + 1 : Nat) := by
        rw [show (Int32.ofInt 212).toInt = 212 from by decide]
        exact hc
      have d := lx_dec h1 hc'
      rw [show (Int32.ofInt 212).toInt = 212 from by decide] at d
      have z := ih (i + Int32.ofInt 1) (nt_u J (p 7) i.toNatClampNeg (J (p 4) i.toNatClampNeg)) (xi_nn h1 h) d
      have i1 : (i + Int32.ofInt 1).toNatClampNeg = i.toNatClampNeg + 1 := by
        rw [zn_t, zn_t, lx_inc h1]
        omega
      rw [i1] at z
      refine ⟨fun j a b => ?_, fun j a => ?_⟩
      · by_cases e : j = i.toNatClampNeg
        · rw [e, z.2 _ (by omega), me_us]
        · rw [z.1 j (by omega) b, me_uo hn]
      · rw [z.2 j (by omega), me_uk (by omega)]
theorem zkp {p : Nat → Nat} {J : Nat → Nat → Int32} (hn : p 4 ≠ p 7) {j : Nat} (hj : j < 212) : x227 p J (p 7) j = J (p 4) j := (zkp_l hn ((Int32.ofInt 212).toNatClampNeg) (Int32.ofInt 0) J (by decide) (by decide)).1 j (Nat.zero_le _) hj
theorem zpb_l {p : Nat → Nat} (hn : p 7 ≠ p 4) : ∀ (c : Nat) (i : Int32) (J : Nat → Nat → Int32), 0 ≤ i.toInt → 212 - i.toInt ≤ c → (∀ j, i.toNatClampNeg ≤ j → j < 212 → x229_2 p c i J (p 4) j = J (p 7) j) ∧ (∀ j, j < i.toNatClampNeg ∨ 212 ≤ j → x229_2 p c i J (p 4) j = J (p 4) j) := by
  intro c
  induction c with
  | zero =>
    intro i J h hc
    have t := z_tn h
    exact ⟨fun j a b => by omega, fun j a => rfl⟩
  | succ c ih =>
    intro i J h hc
    have t := z_tn h
    rw [x229_2]
    by_cases h1 : Int32.ofInt 212 ≤ i
    · rw [if_pos h1]
      have h1 := z_ge.mp h1
      rw [show (Int32.ofInt 212).toInt = 212 from by decide] at h1
      exact ⟨fun j a b => by omega, fun j a => rfl⟩
    · rw [if_neg h1]
      have l := z_lt h1
      rw [show (Int32.ofInt 212).toInt = 212 from by decide] at l
      have hc' : (Int32.ofInt 212).toInt - i.toInt ≤ (c + 1 : Nat) := by
        rw [show (Int32.ofInt 212).toInt = 212 from by decide]
        exact hc
      have d := lx_dec h1 hc'
      rw [show (Int32.ofInt 212).toInt = 212 from by decide] at d
      have z := ih (i + Int32.ofInt 1) (nt_u J (p 4) i.toNatClampNeg (J (p 7) i.toNatClampNeg)) (xi_nn h1 h) d
      have i1 : (i + Int32.ofInt 1).toNatClampNeg = i.toNatClampNeg + 1 := by
        rw [zn_t, zn_t, lx_inc h1]
        omega
      rw [i1] at z
      refine ⟨fun j a b => ?_, fun j a => ?_⟩
      · by_cases e : j = i.toNatClampNeg
        · rw [e, z.2 _ (by omega), me_us]
        · rw [z.1 j (by omega) b, me_uo hn]
      · rw [z.2 j (by omega), me_uk (by omega)]
theorem zpb {p : Nat → Nat} {J : Nat → Nat → Int32} (hn : p 7 ≠ p 4) : (∀ j, j < 212 → x229 p J (p 4) j = J (p 7) j) ∧ (∀ j, 212 ≤ j → x229 p J (p 4) j = J (p 4) j) := by
  have z := zpb_l hn ((Int32.ofInt 212).toNatClampNeg) (Int32.ofInt 0) J (by decide) (by decide)
  exact ⟨fun j hj => z.1 j (Nat.zero_le _) hj, fun j hj => z.2 j (Or.inr hj)⟩
/-- there is a yard, and the rule -/
theorem zmay {q p : Nat → Nat} {Jc Jr : Nat → Nat → Int32} {v1 : Int32} (hR : zR q Jc (Jr (p 4))) (hW : xr_W (Jr (p 4))) (h4 : Jc (p 16) 4 = Jr (p 0) 2) (h0 : 0 ≤ (Jr (p 0) 2).toInt) : (¬ Jc (q 0) 1 = 0 ∧ ¬ x111 p v1 Jc = 0) ↔ ¬ x187 p v1 Jr = 0 := by
  have t := z_told hR hW
  have m1 : (Int32.ofInt (-1)).toInt = -1 := xi_m1
  unfold x111 x187
  rw [h4]
  by_cases a : x188 p Jr = 0
  · rw [if_pos a]
    exact ⟨fun c => absurd (t.mpr a) c.1, fun c => absurd rfl c⟩
  · rw [if_neg a]
    have ta : ¬ Jc (q 0) 1 = 0 := fun c => a (t.mp c)
    by_cases b : v1 = Int32.ofInt (-1)
    · have n1 : ¬ v1 < Int32.ofInt (-1) := by rw [b]; decide
      have n2 : ¬ Jr (p 0) 2 ≤ v1 := fun c => by
        have c := z_ge.mp c
        rw [b, m1] at c
        omega
      rw [if_pos b, if_neg n1, if_neg n2]
      exact ⟨fun _ => by decide, fun _ => ⟨ta, by decide⟩⟩
    · rw [if_neg b]
      unfold x189
      by_cases c : v1 < 0
      · rw [if_pos c, if_pos (show Int32.ofInt 0 = 0 from rfl)]
        have n1 : v1 < Int32.ofInt (-1) := by
          have c := z_le0.mp c
          have : v1.toInt ≠ -1 := fun e => b (Int32.toInt_inj.mp (e.trans m1.symm))
          exact Int32.lt_iff_toInt_lt.mpr (by rw [m1]; omega)
        rw [if_pos n1]
        exact ⟨fun z => absurd rfl z.2, fun z => absurd rfl z⟩
      · rw [if_neg c]
        have n1 : ¬ v1 < Int32.ofInt (-1) := fun z => by
          have z := Int32.lt_iff_toInt_lt.mp z
          rw [m1] at z
          exact c (z_le0.mpr (by omega))
        rw [if_neg n1]
        by_cases e : Jr (p 0) 2 ≤ v1
        · rw [if_pos e, if_pos (show Int32.ofInt 0 = 0 from rfl)]
          exact ⟨fun z => absurd rfl z.2, fun z => absurd rfl z⟩
        · rw [if_neg e, if_neg (show ¬ Int32.ofInt 1 = 0 from by decide)]
          exact ⟨fun _ => by decide, fun _ => ⟨ta, by decide⟩⟩
end
section
/-! a yard's text, told purely -/
abbrev lb_U : Type := Nat × Nat × Nat × Nat × Nat × Nat
abbrev lb_N : Type := Int32 ⊕ (Nat × Int32)
def lb_nu (f : Nat → Int32) (t p : Nat) (lo hi : Int32) (r : lb_N) : Prop :=
  (lb_d f t p = 0 ∧ r = .inl (lb_c p (Int32.ofInt 0))) ∨
  (0 < lb_d f t p ∧ (5 < lb_d f t p ∨ ¬ (lo.toInt ≤ (lb_v f p (lb_d f t p)).toInt ∧ (lb_v f p (lb_d f t p)).toInt ≤ hi.toInt)) ∧ r = .inl (lb_c p (Int32.ofInt 1))) ∨
  (0 < lb_d f t p ∧ lb_d f t p ≤ 5 ∧ (lo.toInt ≤ (lb_v f p (lb_d f t p)).toInt ∧ (lb_v f p (lb_d f t p)).toInt ≤ hi.toInt) ∧ r = .inr (lb_s f t (p + lb_d f t p), lb_v f p (lb_d f t p)))
theorem lb_nu_det {f : Nat → Int32} {t p : Nat} {lo hi : Int32} {r r' : lb_N} (h : lb_nu f t p lo hi r) (h' : lb_nu f t p lo hi r') : r = r' := by
  rcases h with ⟨a, h⟩ | ⟨a, b, h⟩ | ⟨a, b, c, h⟩ <;> rcases h' with ⟨a', h'⟩ | ⟨a', b', h'⟩ | ⟨a', b', c', h'⟩
  all_goals first
    | (rw [h, h']; done)
    | (exfalso; omega)
    | (exact absurd c' (b.resolve_left (by omega)))
    | (exact absurd c (b'.resolve_left (by omega)))
theorem lb_nu_up {f : Nat → Int32} {t p : Nat} {lo hi : Int32} {q : Nat × Int32} (hp : p ≤ t) (h : lb_nu f t p lo hi (.inr q)) : q.1 ≤ t ∧ lo.toInt ≤ q.2.toInt ∧ q.2.toInt ≤ hi.toInt := by
  rcases h with ⟨a, h⟩ | ⟨a, b, h⟩ | ⟨a, b, c, h⟩
  · cases h
  · cases h
  · have e := Sum.inr.inj h
    subst e
    have hd := lb_d_le (f := f) (t := t) (t - p) p (by omega)
    exact ⟨(lb_s_le (t - (p + lb_d f t p)) (p + lb_d f t p) (by omega)).2, c⟩
def lb_bd {α : Type} (r1 : lb_N) (r : Int32 ⊕ α) (P : Nat → Int32 → Prop) : Prop := (∃ c, r1 = .inl c ∧ r = .inl c) ∨ ∃ q x, r1 = .inr (q, x) ∧ P q x
/-- so many numbers of a ship -/
def lb_sh (f : Nat → Int32) (t : Nat) : Nat → Nat → Int32 ⊕ Nat → Prop
  | 0, p, r => r = .inr p
  | j + 1, p, r => ∃ r1, lb_nu f t p (Int32.ofInt 0) (Int32.ofInt 5) r1 ∧ lb_bd r1 r (fun q _ => lb_sh f t j q r)
def lb_pl (f : Nat → Int32) (t k s p : Nat) (r : Int32 ⊕ Nat) : Prop := ∃ r1, lb_nu f t p (Int32.ofInt 0) (nI k - Int32.ofInt 1) r1 ∧ lb_bd r1 r (fun q _ => ∃ r2, lb_nu f t q (Int32.ofInt 1) (Int32.ofInt 99) r2 ∧ lb_bd r2 r (fun q _ => ∃ r3, lb_nu f t q (Int32.ofInt 0) (nI s - Int32.ofInt 1) r3 ∧ lb_bd r3 r (fun q _ => r = .inr q)))
def lb_vo (f : Nat → Int32) (t s p : Nat) (r : Int32 ⊕ Nat) : Prop := ∃ r1, lb_nu f t p (Int32.ofInt 0) (nI s - Int32.ofInt 1) r1 ∧ lb_bd r1 r (fun q _ => ∃ r2, lb_nu f t q (Int32.ofInt 0) (Int32.ofInt 98) r2 ∧ lb_bd r2 r (fun q x => ∃ r3, lb_nu f t q (x + Int32.ofInt 1) (Int32.ofInt 99) r3 ∧ lb_bd r3 r (fun q _ => ∃ r4, lb_nu f t q (Int32.ofInt 0) (Int32.ofInt 999) r4 ∧ lb_bd r4 r (fun q _ => r = .inr q))))
def lb_bn (r1 : Int32 ⊕ Nat) (r : Int32 ⊕ lb_U) (P : Nat → Prop) : Prop := (∃ c, r1 = .inl c ∧ r = .inl c) ∨ ∃ q, r1 = .inr q ∧ P q
def lb_yw (f : Nat → Int32) (t p w : Nat) : Prop := lb_at f t (lb_W (nt_sp + 1 + w)) p
/-- a clause's parts, from behind its word -/
def lb_pa (f : Nat → Int32) (t : Nat) (u : lb_U) (q : Nat) : Nat → Int32 ⊕ lb_U → Prop
  | 0, r => ∃ r1, lb_nu f t q (Int32.ofInt 1) (Int32.ofInt 4) r1 ∧ lb_bd r1 r (fun q x => r = .inr (q, x.toInt.toNat, u.2.2.1, u.2.2.2.1, u.2.2.2.2.1, u.2.2.2.2.2))
  | 1, r => ∃ r1, lb_sh f t u.2.1 q r1 ∧ lb_bn r1 r (fun q => r = .inr (q, u.2.1, u.2.2.1 + 1, u.2.2.2.1, u.2.2.2.2.1, u.2.2.2.2.2))
  | 2, r => ∃ r1, lb_pl f t u.2.1 u.2.2.1 q r1 ∧ lb_bn r1 r (fun q => r = .inr (q, u.2.1, u.2.2.1, u.2.2.2.1 + 1, u.2.2.2.2.1, u.2.2.2.2.2))
  | 3, r => ∃ r1, lb_vo f t u.2.2.1 q r1 ∧ lb_bn r1 r (fun q => r = .inr (q, u.2.1, u.2.2.1, u.2.2.2.1, u.2.2.2.2.1 + 1, u.2.2.2.2.2))
  | _ + 4, r => ∃ r1, lb_nu f t q (Int32.ofInt 1) (Int32.ofInt 30) r1 ∧ lb_bd r1 r (fun q x => r = .inr (q, u.2.1, u.2.2.1, u.2.2.2.1, u.2.2.2.2.1, x.toInt.toNat))
/-- one more is too many -/
def lb_fu (u : lb_U) : Nat → Prop
  | 0 => False
  | 1 => 6 ≤ u.2.2.1
  | 2 => 24 ≤ u.2.2.2.1
  | 3 => 8 ≤ u.2.2.2.2.1
  | _ + 4 => u.2.2.2.2.2 ≠ 0
def lb_yx (i w : Nat) (u : lb_U) : Prop := i = 40 ∨ ¬ (i = 0 ↔ w = 0) ∨ lb_fu u w
def lb_yc (f : Nat → Int32) (t i : Nat) (u : lb_U) (r : Int32 ⊕ lb_U) : Prop :=
  ((∀ w, w < 5 → ¬ lb_yw f t u.1 w) ∧ r = .inl (lb_c u.1 (Int32.ofInt 0))) ∨
  ∃ w, w < 5 ∧ lb_yw f t u.1 w ∧ (∀ w', w' < w → ¬ lb_yw f t u.1 w') ∧ ((lb_yx i w u ∧ r = .inl (lb_c u.1 (Int32.ofInt 4))) ∨ (¬ lb_yx i w u ∧ lb_pa f t u (lb_s f t (u.1 + (lb_W (nt_sp + 1 + w)).length)) w r))
/-- from a clause on -/
def lb_ya (f : Nat → Int32) (t : Nat) : Nat → Nat → lb_U → Int32 ⊕ lb_U → Prop
  | 0, _, _, _ => False
  | k + 1, i, u, r => ∃ r1, lb_yc f t i u r1 ∧ ((∃ c, r1 = .inl c ∧ r = .inl c) ∨ ∃ u1, r1 = .inr u1 ∧ ((lb_g f t u1.1 = Int32.ofInt 59 ∧ lb_ya f t k (i + 1) (lb_s f t (u1.1 + 1), u1.2) r) ∨ (lb_g f t u1.1 = Int32.ofInt (-1) ∧ r = .inr u1) ∨ (¬ lb_g f t u1.1 = Int32.ofInt 59 ∧ ¬ lb_g f t u1.1 = Int32.ofInt (-1) ∧ r = .inl (lb_c u1.1 (Int32.ofInt 0)))))
theorem lb_bd_det {α : Type} {r1 : lb_N} {r r' : Int32 ⊕ α} {P P' : Nat → Int32 → Prop} (hP : ∀ q x, P q x → P' q x → r = r') (h : lb_bd r1 r P) (h' : lb_bd r1 r' P') : r = r' := by
  rcases h with ⟨c, e, h⟩ | ⟨q, x, e, h⟩ <;> rcases h' with ⟨c', e', h'⟩ | ⟨q', x', e', h'⟩ <;> rw [e] at e' <;> cases e'
  · rw [h, h']
  · exact hP _ _ h h'
theorem lb_bn_det {r1 : Int32 ⊕ Nat} {r r' : Int32 ⊕ lb_U} {P P' : Nat → Prop} (hP : ∀ q, P q → P' q → r = r') (h : lb_bn r1 r P) (h' : lb_bn r1 r' P') : r = r' := by
  rcases h with ⟨c, e, h⟩ | ⟨q, e, h⟩ <;> rcases h' with ⟨c', e', h'⟩ | ⟨q', e', h'⟩ <;> rw [e] at e' <;> cases e'
  · rw [h, h']
  · exact hP _ h h'
theorem lb_sh_det {f : Nat → Int32} {t : Nat} : ∀ (j p : Nat) (r r' : Int32 ⊕ Nat), lb_sh f t j p r → lb_sh f t j p r' → r = r' := by
  intro j
  induction j with
  | zero => intro p r r' h h'; rw [show r = .inr p from h, show r' = .inr p from h']
  | succ j ih =>
    intro p r r' ⟨r1, a, h⟩ ⟨r1', a', h'⟩
    have e := lb_nu_det a a'
    subst e
    exact lb_bd_det (fun q x h h' => ih _ _ _ h h') h h'
theorem lb_pl_det {f : Nat → Int32} {t k s p : Nat} {r r' : Int32 ⊕ Nat} (h : lb_pl f t k s p r) (h' : lb_pl f t k s p r') : r = r' := by
  obtain ⟨r1, a, h⟩ := h
  obtain ⟨r1', a', h'⟩ := h'
  have e := lb_nu_det a a'
  subst e
  refine lb_bd_det (fun q x h h' => ?_) h h'
  obtain ⟨r1, a, h⟩ := h
  obtain ⟨r1', a', h'⟩ := h'
  have e := lb_nu_det a a'
  subst e
  refine lb_bd_det (fun q x h h' => ?_) h h'
  obtain ⟨r1, a, h⟩ := h
  obtain ⟨r1', a', h'⟩ := h'
  have e := lb_nu_det a a'
  subst e
  exact lb_bd_det (fun q x h h' => by rw [h, h']) h h'
theorem lb_vo_det {f : Nat → Int32} {t s p : Nat} {r r' : Int32 ⊕ Nat} (h : lb_vo f t s p r) (h' : lb_vo f t s p r') : r = r' := by
  obtain ⟨r1, a, h⟩ := h
  obtain ⟨r1', a', h'⟩ := h'
  have e := lb_nu_det a a'
  subst e
  refine lb_bd_det (fun q x h h' => ?_) h h'
  obtain ⟨r1, a, h⟩ := h
  obtain ⟨r1', a', h'⟩ := h'
  have e := lb_nu_det a a'
  subst e
  refine lb_bd_det (fun q x h h' => ?_) h h'
  obtain ⟨r1, a, h⟩ := h
  obtain ⟨r1', a', h'⟩ := h'
  have e := lb_nu_det a a'
  subst e
  refine lb_bd_det (fun q x h h' => ?_) h h'
  obtain ⟨r1, a, h⟩ := h
  obtain ⟨r1', a', h'⟩ := h'
  have e := lb_nu_det a a'
  subst e
  exact lb_bd_det (fun q x h h' => by rw [h, h']) h h'
theorem lb_pa_det {f : Nat → Int32} {t : Nat} {u : lb_U} {q w : Nat} {r r' : Int32 ⊕ lb_U} (hw : w < 5) (h : lb_pa f t u q w r) (h' : lb_pa f t u q w r') : r = r' := by
  rcases (by omega : w = 0 ∨ w = 1 ∨ w = 2 ∨ w = 3 ∨ w = 4) with rfl | rfl | rfl | rfl | rfl
  · obtain ⟨r1, a, h⟩ := h
    obtain ⟨r1', a', h'⟩ := h'
    have e := lb_nu_det a a'
    subst e
    exact lb_bd_det (fun q x h h' => by rw [h, h']) h h'
  · obtain ⟨r1, a, h⟩ := h
    obtain ⟨r1', a', h'⟩ := h'
    have e := lb_sh_det _ _ _ _ a a'
    subst e
    exact lb_bn_det (fun q h h' => by rw [h, h']) h h'
  · obtain ⟨r1, a, h⟩ := h
    obtain ⟨r1', a', h'⟩ := h'
    have e := lb_pl_det a a'
    subst e
    exact lb_bn_det (fun q h h' => by rw [h, h']) h h'
  · obtain ⟨r1, a, h⟩ := h
    obtain ⟨r1', a', h'⟩ := h'
    have e := lb_vo_det a a'
    subst e
    exact lb_bn_det (fun q h h' => by rw [h, h']) h h'
  · obtain ⟨r1, a, h⟩ := h
    obtain ⟨r1', a', h'⟩ := h'
    have e := lb_nu_det a a'
    subst e
    exact lb_bd_det (fun q x h h' => by rw [h, h']) h h'
theorem lb_yc_det {f : Nat → Int32} {t i : Nat} {u : lb_U} {r r' : Int32 ⊕ lb_U} (h : lb_yc f t i u r) (h' : lb_yc f t i u r') : r = r' := by
  rcases h with ⟨a, h⟩ | ⟨w, hw, a, b, h⟩ <;> rcases h' with ⟨a', h'⟩ | ⟨w', hw', a', b', h'⟩
  · rw [h, h']
  · exact absurd a' (a w' hw')
  · exact absurd a (a' w hw)
  · have e : w = w' := by
      rcases Nat.lt_trichotomy w w' with q | q | q
      · exact absurd a (b' w q)
      · exact q
      · exact absurd a' (b w' q)
    subst e
    rcases h with ⟨c, h⟩ | ⟨c, h⟩ <;> rcases h' with ⟨c', h'⟩ | ⟨c', h'⟩
    · rw [h, h']
    · exact absurd c c'
    · exact absurd c' c
    · exact lb_pa_det hw h h'
theorem lb_ya_det {f : Nat → Int32} {t : Nat} : ∀ (k k' i : Nat) (u : lb_U) (r r' : Int32 ⊕ lb_U), lb_ya f t k i u r → lb_ya f t k' i u r' → r = r' := by
  intro k
  induction k with
  | zero => intro k' i u r r' h; exact h.elim
  | succ k ih =>
    intro k' i u r r' h h'
    cases k' with
    | zero => exact h'.elim
    | succ k' =>
      obtain ⟨r1, a, h⟩ := h
      obtain ⟨r1', a', h'⟩ := h'
      have e := lb_yc_det a a'
      subst e
      rcases h with ⟨c, e1, e2⟩ | ⟨u1, e1, h⟩ <;> rcases h' with ⟨c', e1', e2'⟩ | ⟨u1', e1', h'⟩ <;> rw [e1] at e1' <;> cases e1'
      · rw [e2, e2']
      · rcases h with ⟨g, h⟩ | ⟨g, h⟩ | ⟨g, g2, h⟩ <;> rcases h' with ⟨g', h'⟩ | ⟨g', h'⟩ | ⟨g', g2', h'⟩
        · exact ih _ _ _ _ _ h h'
        · rw [g] at g'; exact absurd g' (by decide)
        · exact absurd g g'
        · rw [g] at g'; exact absurd g' (by decide)
        · rw [h, h']
        · exact absurd g g2'
        · exact absurd g' g
        · exact absurd g' g2
        · rw [h, h']
end
section
/-! what a yard's text says, its numbers -/
abbrev lb_C : Type := Nat → Nat → Int32
theorem lb_ix1 {n : Nat} (h : n < 1000) : (nI n).toNatClampNeg = n := by
  show (nI n).toInt.toNat = n
  rw [nI_toInt (by omega)]; omega
theorem lb_ixm {a b c n : Nat} (ha : a < 1000) (hb : b < 100) (hc : c < 1000) : ((nI b) * (nI a) + (nI c)).toNatClampNeg = b * a + c := by
  have hba : b * a < 100000 := by
    have := Nat.mul_le_mul (show b ≤ 99 by omega) (show a ≤ 999 by omega); omega
  show ((nI b) * (nI a) + (nI c)).toInt.toNat = _
  rw [Int32.toInt_add, Int32.toInt_mul, nI_toInt (by omega), nI_toInt (by omega), nI_toInt (by omega)]
  rw [show (b : Int) * (a : Int) = ((b * a : Nat) : Int) from by push_cast; rfl]
  have e1 : ((b * a : Nat) : Int).bmod (2 ^ 32) = ((b * a : Nat) : Int) := Int.bmod_eq_of_le (by omega) (by omega)
  rw [e1, Int.bmod_eq_of_le (by omega) (by omega)]
  omega
theorem lb_ix4 {s i : Nat} (hs : s ≤ 6) (hi : i ≤ 4) : ((nI s) * (Int32.ofInt 4) + (nI i)).toNatClampNeg = 4 * s + i := by
  rw [Int32.mul_comm]; exact lb_ixm (n := 0) (b := 4) (by omega) (by omega) (by omega)
theorem lb_ix4' {s i : Nat} (hs : s ≤ 8) (hi : i ≤ 4) : ((Int32.ofInt 4) * (nI s) + (nI i)).toNatClampNeg = 4 * s + i := lb_ixm (n := 0) (b := 4) (by omega) (by omega) (by omega)
theorem lb_ix40 {s : Nat} (hs : s ≤ 8) : ((Int32.ofInt 4) * (nI s)).toNatClampNeg = 4 * s + 0 := by
  have h := lb_ixm (n := 0) (a := s) (b := 4) (c := 0) (by omega) (by omega) (by omega)
  rw [show nI 0 = 0 from rfl, Int32.add_zero] at h; exact h
theorem lb_ix3' {s i : Nat} (hs : s ≤ 24) (hi : i ≤ 4) : ((Int32.ofInt 3) * (nI s) + (nI i)).toNatClampNeg = 3 * s + i := lb_ixm (n := 0) (b := 3) (by omega) (by omega) (by omega)
theorem lb_ix30 {s : Nat} (hs : s ≤ 24) : ((Int32.ofInt 3) * (nI s)).toNatClampNeg = 3 * s + 0 := by
  have h := lb_ixm (n := 0) (a := s) (b := 3) (c := 0) (by omega) (by omega) (by omega)
  rw [show nI 0 = 0 from rfl, Int32.add_zero] at h; exact h
def lb_shC (f : Nat → Int32) (t s : Nat) : Nat → Nat → Nat → Nat → lb_C → lb_C → Prop
  | 0, _, p, q, C, D => q = p ∧ D = C
  | j + 1, i, p, q, C, D => ∃ q1 x, lb_nu f t p (Int32.ofInt 0) (Int32.ofInt 5) (.inr (q1, x)) ∧ lb_shC f t s j (i + 1) q1 q (nt_u C 5 (4 * s + i) x) D
def lb_plC (f : Nat → Int32) (t k s p n q : Nat) (C D : lb_C) : Prop := ∃ q1 q2 x1 x2 x3, lb_nu f t p (Int32.ofInt 0) (nI k - Int32.ofInt 1) (.inr (q1, x1)) ∧ lb_nu f t q1 (Int32.ofInt 1) (Int32.ofInt 99) (.inr (q2, x2)) ∧ lb_nu f t q2 (Int32.ofInt 0) (nI s - Int32.ofInt 1) (.inr (q, x3)) ∧ D = nt_u (nt_u (nt_u C 6 n x1) 7 n x2) 8 n x3
def lb_voC (f : Nat → Int32) (t s p n q : Nat) (C D : lb_C) : Prop := ∃ q1 q2 q3 x1 x2 x3 x4, lb_nu f t p (Int32.ofInt 0) (nI s - Int32.ofInt 1) (.inr (q1, x1)) ∧ lb_nu f t q1 (Int32.ofInt 0) (Int32.ofInt 98) (.inr (q2, x2)) ∧ lb_nu f t q2 (x2 + Int32.ofInt 1) (Int32.ofInt 99) (.inr (q3, x3)) ∧ lb_nu f t q3 (Int32.ofInt 0) (Int32.ofInt 999) (.inr (q, x4)) ∧ D = nt_u (nt_u (nt_u (nt_u C 9 n x1) 10 n x2) 11 n x3) 12 n x4
/-- what a clause writes: from q (behind its word) to q' -/
def lb_paC (f : Nat → Int32) (t : Nat) (u : Nat × Nat × Nat × Nat × Nat) (q q' : Nat) : Nat → lb_C → lb_C → Prop
  | 0, C, D => D = C
  | 1, C, D => lb_shC f t u.2.1 u.1 0 q q' C D
  | 2, C, D => lb_plC f t u.1 u.2.1 q u.2.2.1 q' C D
  | 3, C, D => lb_voC f t u.2.1 q u.2.2.2.1 q' C D
  | _ + 4, C, D => D = C
def lb_ycC (f : Nat → Int32) (t : Nat) (u u' : lb_U) (C D : lb_C) : Prop := ∃ w, w < 5 ∧ lb_yw f t u.1 w ∧ (∀ w', w' < w → ¬ lb_yw f t u.1 w') ∧ lb_paC f t u.2 (lb_s f t (u.1 + (lb_W (nt_sp + 1 + w)).length)) u'.1 w C D
def lb_yaC (f : Nat → Int32) (t : Nat) : Nat → Nat → lb_U → lb_U → lb_C → lb_C → Prop
  | 0, _, _, _, _, _ => False
  | k + 1, i, u, v, C, D => ∃ u1 C1, lb_yc f t i u (.inr u1) ∧ lb_ycC f t u u1 C C1 ∧ ((lb_g f t u1.1 = Int32.ofInt 59 ∧ lb_yaC f t k (i + 1) (lb_s f t (u1.1 + 1), u1.2) v C1 D) ∨ (lb_g f t u1.1 = Int32.ofInt (-1) ∧ v = u1 ∧ D = C1))
end
section
/-! the class reads a yard -/
def yc_P (M : nt_M) (t Rd Tp By RR Sp Yr Y : Nat) (Rw : Nat → Nat) : Prop := (nt_R M Rd 0 = some Tp ∧ nt_R M Tp 0 = some By ∧ nt_R M RR 0 = some Rd ∧ nt_R M RR 1 = some Sp) ∧ (Tp ≠ Rd ∧ Tp ≠ RR ∧ Tp ≠ Sp ∧ By ≠ Rd ∧ By ≠ RR ∧ By ≠ Sp ∧ Rd ≠ RR ∧ Rd ≠ Sp ∧ RR ≠ Sp) ∧ (nt_R M Yr 0 = some Rd ∧ nt_R M Yr 1 = some Y) ∧ (Y ≠ Rd ∧ Y ≠ Tp ∧ Y ≠ By ∧ Y ≠ RR) ∧ (∀ i, 5 ≤ i → i ≤ 12 → nt_R M Y i = some (Rw i) ∧ Rw i ≠ Rd ∧ Rw i ≠ Tp ∧ Rw i ≠ By ∧ Rw i ≠ RR ∧ Rw i ≠ Y ∧ ∀ i', 5 ≤ i' → i' ≤ 12 → i' ≠ i → Rw i' ≠ Rw i) ∧ t ≤ 400 ∧ nt_l M Sp = 400 ∧ Sp ≠ nt_sp
def yc_S (Rw : Nat → Nat) (C : lb_C) (f : Nat → Int32) (t Rd Tp By RR Y m0 s0 p : Nat) (fa : Int32) (u : Nat × Nat × Nat × Nat × Nat) (J : Nat → Nat → Int32) : Prop := (J Rd 1 = nI p ∧ J Rd 2 = fa) ∧ (J Tp 1 = nI t ∧ (∀ j, J By j = f j) ∧ J RR 2 = nI s0 ∧ J RR 3 = nI m0) ∧ (J Y 0 = nI u.1 ∧ J Y 1 = nI u.2.1 ∧ J Y 2 = nI u.2.2.1 ∧ J Y 3 = nI u.2.2.2.1 ∧ J Y 4 = nI u.2.2.2.2) ∧ (s0 ≤ 400 ∧ m0 ≤ 60) ∧ ∀ i, 5 ≤ i → i ≤ 12 → ∀ j, J (Rw i) j = C i j
theorem yc_Cr {Rw : Nat → Nat} {C : lb_C} {J : Nat → Nat → Int32} {i j : Nat} {x : Int32} (hr : ∀ i', 5 ≤ i' → i' ≤ 12 → i' ≠ i → Rw i' ≠ Rw i) (h : ∀ i, 5 ≤ i → i ≤ 12 → ∀ j, J (Rw i) j = C i j) (i' : Nat) (h5 : 5 ≤ i') (h12 : i' ≤ 12) (j' : Nat) : nt_u J (Rw i) j x (Rw i') j' = nt_u C i j x i' j' := by
  by_cases e : i' = i
  · subst e
    by_cases e2 : j' = j
    · subst e2
      rw [me_us, me_us]
    · rw [me_uk e2, me_uk e2]
      exact h i' h5 h12 j'
  · rw [me_uj (hr i' h5 h12 e), me_uj e]
    exact h i' h5 h12 j'
theorem yc_lP {M : nt_M} {f : Nat → Int32} {t Rd Tp By RR Sp Yr Y m0 s0 p : Nat} {Rw : Nat → Nat} {C : lb_C} {fa : Int32} {u : Nat × Nat × Nat × Nat × Nat} {J : Nat → Nat → Int32} (hP : yc_P M t Rd Tp By RR Sp Yr Y Rw) (hS : yc_S Rw C f t Rd Tp By RR Y m0 s0 p fa u J) : lc_P M J f t Rd Tp By RR Sp := ⟨hP.1, hP.2.1, hS.2.1.1, hS.2.1.2.1, hP.2.2.2.2.2⟩
theorem yc_lS {M : nt_M} {f : Nat → Int32} {t Rd Tp By RR Sp Yr Y m0 s0 p : Nat} {Rw : Nat → Nat} {C : lb_C} {fa : Int32} {u : Nat × Nat × Nat × Nat × Nat} {J : Nat → Nat → Int32} (hP : yc_P M t Rd Tp By RR Sp Yr Y Rw) (hS : yc_S Rw C f t Rd Tp By RR Y m0 s0 p fa u J) : lc_S J Rd RR Sp p fa m0 (s0, J Sp) J := ⟨hS.1.1, hS.1.2, hS.2.1.2.2.1, hS.2.1.2.2.2, fun _ _ => rfl, fun _ _ _ _ => rfl, hS.2.2.2.1⟩
theorem yc_Sp {M : nt_M} {f : Nat → Int32} {t Rd Tp By RR Sp Yr Y m0 s0 p : Nat} {Rw : Nat → Nat} {C : lb_C} {fa : Int32} {u : Nat × Nat × Nat × Nat × Nat} {J : Nat → Nat → Int32} {q : Nat} (hP : yc_P M t Rd Tp By RR Sp Yr Y Rw) (hS : yc_S Rw C f t Rd Tp By RR Y m0 s0 p fa u J) : yc_S Rw C f t Rd Tp By RR Y m0 s0 q fa u (nt_u J Rd 1 (nI q)) := by
  obtain ⟨⟨a1, a2⟩, ⟨b1, b2, b3, b4⟩, ⟨c1, c2, c3, c4, c5⟩, d⟩ := hS
  have n1 := hP.2.1.1
  have n2 := hP.2.1.2.2.2.1
  have n3 := hP.2.1.2.2.2.2.2.2.1
  have n4 := hP.2.2.2.1.1
  exact ⟨⟨me_us, (me_uk (by decide)).trans a2⟩, ⟨(me_uj n1).trans b1, fun j => (me_uj n2).trans (b2 j), (me_uj (Ne.symm n3)).trans b3, (me_uj (Ne.symm n3)).trans b4⟩, ⟨(me_uj n4).trans c1, (me_uj n4).trans c2, (me_uj n4).trans c3, (me_uj n4).trans c4, (me_uj n4).trans c5⟩, d.1, fun i h5 h12 j => (me_uj (hP.2.2.2.2.1 i h5 h12).2.1).trans (d.2 i h5 h12 j)⟩
theorem yc_Sf {M : nt_M} {f : Nat → Int32} {t Rd Tp By RR Sp Yr Y m0 s0 p : Nat} {Rw : Nat → Nat} {C : lb_C} {fa : Int32} {u : Nat × Nat × Nat × Nat × Nat} {J : Nat → Nat → Int32} {fb : Int32} (hP : yc_P M t Rd Tp By RR Sp Yr Y Rw) (hS : yc_S Rw C f t Rd Tp By RR Y m0 s0 p fa u J) : yc_S Rw C f t Rd Tp By RR Y m0 s0 p fb u (nt_u J Rd 2 fb) := by
  obtain ⟨⟨a1, a2⟩, ⟨b1, b2, b3, b4⟩, ⟨c1, c2, c3, c4, c5⟩, d⟩ := hS
  have n1 := hP.2.1.1
  have n2 := hP.2.1.2.2.2.1
  have n3 := hP.2.1.2.2.2.2.2.2.1
  have n4 := hP.2.2.2.1.1
  exact ⟨⟨(me_uk (by decide)).trans a1, me_us⟩, ⟨(me_uj n1).trans b1, fun j => (me_uj n2).trans (b2 j), (me_uj (Ne.symm n3)).trans b3, (me_uj (Ne.symm n3)).trans b4⟩, ⟨(me_uj n4).trans c1, (me_uj n4).trans c2, (me_uj n4).trans c3, (me_uj n4).trans c4, (me_uj n4).trans c5⟩, d.1, fun i h5 h12 j => (me_uj (hP.2.2.2.2.1 i h5 h12).2.1).trans (d.2 i h5 h12 j)⟩
theorem yc_Sr {M : nt_M} {f : Nat → Int32} {t Rd Tp By RR Sp Yr Y m0 s0 p : Nat} {Rw : Nat → Nat} {C : lb_C} {fa : Int32} {u : Nat × Nat × Nat × Nat × Nat} {J : Nat → Nat → Int32} {i j : Nat} {x : Int32} (hP : yc_P M t Rd Tp By RR Sp Yr Y Rw) (hS : yc_S Rw C f t Rd Tp By RR Y m0 s0 p fa u J) (h5 : 5 ≤ i) (h12 : i ≤ 12) {j0 : Nat} (ej : j = j0) : yc_S Rw (nt_u C i j0 x) f t Rd Tp By RR Y m0 s0 p fa u (nt_u J (Rw i) j x) := by
  obtain ⟨⟨a1, a2⟩, ⟨b1, b2, b3, b4⟩, ⟨c1, c2, c3, c4, c5⟩, d⟩ := hS
  subst ej
  obtain ⟨_, r1, r2, r3, r4, r5, r6⟩ := hP.2.2.2.2.1 i h5 h12
  exact ⟨⟨(me_uj (Ne.symm r1)).trans a1, (me_uj (Ne.symm r1)).trans a2⟩, ⟨(me_uj (Ne.symm r2)).trans b1, fun j => (me_uj (Ne.symm r3)).trans (b2 j), (me_uj (Ne.symm r4)).trans b3, (me_uj (Ne.symm r4)).trans b4⟩, ⟨(me_uj (Ne.symm r5)).trans c1, (me_uj (Ne.symm r5)).trans c2, (me_uj (Ne.symm r5)).trans c3, (me_uj (Ne.symm r5)).trans c4, (me_uj (Ne.symm r5)).trans c5⟩, d.1, yc_Cr r6 d.2⟩
theorem yc_S0 {M : nt_M} {f : Nat → Int32} {t Rd Tp By RR Sp Yr Y m0 s0 p : Nat} {Rw : Nat → Nat} {C : lb_C} {fa : Int32} {u : Nat × Nat × Nat × Nat × Nat} {J : Nat → Nat → Int32} {y : Nat} (hP : yc_P M t Rd Tp By RR Sp Yr Y Rw) (hS : yc_S Rw C f t Rd Tp By RR Y m0 s0 p fa u J) : yc_S Rw C f t Rd Tp By RR Y m0 s0 p fa (y, u.2.1, u.2.2.1, u.2.2.2.1, u.2.2.2.2) (nt_u J Y 0 (nI y)) := by
  obtain ⟨⟨a1, a2⟩, ⟨b1, b2, b3, b4⟩, ⟨c1, c2, c3, c4, c5⟩, d⟩ := hS
  obtain ⟨n1, n2, n3, n4⟩ := hP.2.2.2.1
  exact ⟨⟨(me_uj (Ne.symm n1)).trans a1, (me_uj (Ne.symm n1)).trans a2⟩, ⟨(me_uj (Ne.symm n2)).trans b1, fun j => (me_uj (Ne.symm n3)).trans (b2 j), (me_uj (Ne.symm n4)).trans b3, (me_uj (Ne.symm n4)).trans b4⟩, ⟨me_us, (me_uk (by decide)).trans c2, (me_uk (by decide)).trans c3, (me_uk (by decide)).trans c4, (me_uk (by decide)).trans c5⟩, d.1, fun i h5 h12 j => (me_uj (hP.2.2.2.2.1 i h5 h12).2.2.2.2.2.1).trans (d.2 i h5 h12 j)⟩
theorem yc_S1 {M : nt_M} {f : Nat → Int32} {t Rd Tp By RR Sp Yr Y m0 s0 p : Nat} {Rw : Nat → Nat} {C : lb_C} {fa : Int32} {u : Nat × Nat × Nat × Nat × Nat} {J : Nat → Nat → Int32} {y : Nat} (hP : yc_P M t Rd Tp By RR Sp Yr Y Rw) (hS : yc_S Rw C f t Rd Tp By RR Y m0 s0 p fa u J) : yc_S Rw C f t Rd Tp By RR Y m0 s0 p fa (u.1, y, u.2.2.1, u.2.2.2.1, u.2.2.2.2) (nt_u J Y 1 (nI y)) := by
  obtain ⟨⟨a1, a2⟩, ⟨b1, b2, b3, b4⟩, ⟨c1, c2, c3, c4, c5⟩, d⟩ := hS
  obtain ⟨n1, n2, n3, n4⟩ := hP.2.2.2.1
  exact ⟨⟨(me_uj (Ne.symm n1)).trans a1, (me_uj (Ne.symm n1)).trans a2⟩, ⟨(me_uj (Ne.symm n2)).trans b1, fun j => (me_uj (Ne.symm n3)).trans (b2 j), (me_uj (Ne.symm n4)).trans b3, (me_uj (Ne.symm n4)).trans b4⟩, ⟨(me_uk (by decide)).trans c1, me_us, (me_uk (by decide)).trans c3, (me_uk (by decide)).trans c4, (me_uk (by decide)).trans c5⟩, d.1, fun i h5 h12 j => (me_uj (hP.2.2.2.2.1 i h5 h12).2.2.2.2.2.1).trans (d.2 i h5 h12 j)⟩
theorem yc_S2 {M : nt_M} {f : Nat → Int32} {t Rd Tp By RR Sp Yr Y m0 s0 p : Nat} {Rw : Nat → Nat} {C : lb_C} {fa : Int32} {u : Nat × Nat × Nat × Nat × Nat} {J : Nat → Nat → Int32} {y : Nat} (hP : yc_P M t Rd Tp By RR Sp Yr Y Rw) (hS : yc_S Rw C f t Rd Tp By RR Y m0 s0 p fa u J) : yc_S Rw C f t Rd Tp By RR Y m0 s0 p fa (u.1, u.2.1, y, u.2.2.2.1, u.2.2.2.2) (nt_u J Y 2 (nI y)) := by
  obtain ⟨⟨a1, a2⟩, ⟨b1, b2, b3, b4⟩, ⟨c1, c2, c3, c4, c5⟩, d⟩ := hS
  obtain ⟨n1, n2, n3, n4⟩ := hP.2.2.2.1
  exact ⟨⟨(me_uj (Ne.symm n1)).trans a1, (me_uj (Ne.symm n1)).trans a2⟩, ⟨(me_uj (Ne.symm n2)).trans b1, fun j => (me_uj (Ne.symm n3)).trans (b2 j), (me_uj (Ne.symm n4)).trans b3, (me_uj (Ne.symm n4)).trans b4⟩, ⟨(me_uk (by decide)).trans c1, (me_uk (by decide)).trans c2, me_us, (me_uk (by decide)).trans c4, (me_uk (by decide)).trans c5⟩, d.1, fun i h5 h12 j => (me_uj (hP.2.2.2.2.1 i h5 h12).2.2.2.2.2.1).trans (d.2 i h5 h12 j)⟩
theorem yc_S3 {M : nt_M} {f : Nat → Int32} {t Rd Tp By RR Sp Yr Y m0 s0 p : Nat} {Rw : Nat → Nat} {C : lb_C} {fa : Int32} {u : Nat × Nat × Nat × Nat × Nat} {J : Nat → Nat → Int32} {y : Nat} (hP : yc_P M t Rd Tp By RR Sp Yr Y Rw) (hS : yc_S Rw C f t Rd Tp By RR Y m0 s0 p fa u J) : yc_S Rw C f t Rd Tp By RR Y m0 s0 p fa (u.1, u.2.1, u.2.2.1, y, u.2.2.2.2) (nt_u J Y 3 (nI y)) := by
  obtain ⟨⟨a1, a2⟩, ⟨b1, b2, b3, b4⟩, ⟨c1, c2, c3, c4, c5⟩, d⟩ := hS
  obtain ⟨n1, n2, n3, n4⟩ := hP.2.2.2.1
  exact ⟨⟨(me_uj (Ne.symm n1)).trans a1, (me_uj (Ne.symm n1)).trans a2⟩, ⟨(me_uj (Ne.symm n2)).trans b1, fun j => (me_uj (Ne.symm n3)).trans (b2 j), (me_uj (Ne.symm n4)).trans b3, (me_uj (Ne.symm n4)).trans b4⟩, ⟨(me_uk (by decide)).trans c1, (me_uk (by decide)).trans c2, (me_uk (by decide)).trans c3, me_us, (me_uk (by decide)).trans c5⟩, d.1, fun i h5 h12 j => (me_uj (hP.2.2.2.2.1 i h5 h12).2.2.2.2.2.1).trans (d.2 i h5 h12 j)⟩
theorem yc_S4 {M : nt_M} {f : Nat → Int32} {t Rd Tp By RR Sp Yr Y m0 s0 p : Nat} {Rw : Nat → Nat} {C : lb_C} {fa : Int32} {u : Nat × Nat × Nat × Nat × Nat} {J : Nat → Nat → Int32} {y : Nat} (hP : yc_P M t Rd Tp By RR Sp Yr Y Rw) (hS : yc_S Rw C f t Rd Tp By RR Y m0 s0 p fa u J) : yc_S Rw C f t Rd Tp By RR Y m0 s0 p fa (u.1, u.2.1, u.2.2.1, u.2.2.2.1, y) (nt_u J Y 4 (nI y)) := by
  obtain ⟨⟨a1, a2⟩, ⟨b1, b2, b3, b4⟩, ⟨c1, c2, c3, c4, c5⟩, d⟩ := hS
  obtain ⟨n1, n2, n3, n4⟩ := hP.2.2.2.1
  exact ⟨⟨(me_uj (Ne.symm n1)).trans a1, (me_uj (Ne.symm n1)).trans a2⟩, ⟨(me_uj (Ne.symm n2)).trans b1, fun j => (me_uj (Ne.symm n3)).trans (b2 j), (me_uj (Ne.symm n4)).trans b3, (me_uj (Ne.symm n4)).trans b4⟩, ⟨(me_uk (by decide)).trans c1, (me_uk (by decide)).trans c2, (me_uk (by decide)).trans c3, (me_uk (by decide)).trans c4, me_us⟩, d.1, fun i h5 h12 j => (me_uj (hP.2.2.2.2.1 i h5 h12).2.2.2.2.2.1).trans (d.2 i h5 h12 j)⟩
def yc_N (Rw : Nat → Nat) (C : lb_C) (f : Nat → Int32) (t Rd Tp By RR Y m0 s0 : Nat) (u : Nat × Nat × Nat × Nat × Nat) (r : lb_N) (a : Int32) (J : Nat → Nat → Int32) : Prop := match r with
  | .inl c => c ≠ 0 ∧ a = Int32.ofInt 0 ∧ yc_S Rw C f t Rd Tp By RR Y m0 s0 t c u J
  | .inr q => a = q.2 ∧ q.1 ≤ t ∧ yc_S Rw C f t Rd Tp By RR Y m0 s0 q.1 0 u J
theorem yc_num {X : nt_X} {d t Rd Tp By RR Sp Yr Y m0 s0 : Nat} {Rw : Nat → Nat} {f : Nat → Int32} {M : nt_M} {o : Option Value × nt_M} {C : lb_C} {p : Nat} {u : Nat × Nat × Nat × Nat × Nat} {J : Nat → Nat → Int32} {lo hi : Int32} (hP : yc_P M t Rd Tp By RR Sp Yr Y Rw) (hS : yc_S Rw C f t Rd Tp By RR Y m0 s0 p 0 u J) (hp : p ≤ t) (hlo : 0 ≤ lo.toInt) (k : nt_ev X d 97 [.ref Yr, .int lo, .int hi] (me_w M J) o) : ∃ r a J', o = (some (.int a), me_w M J') ∧ lb_nu f t p lo hi r ∧ yc_N Rw C f t Rd Tp By RR Y m0 s0 u r a J' := by
  have k : nt_rn X d 97 (0, [(0, .ref Yr), (1, .int (lo)), (2, .int (hi))], [], me_w M J) o := k
  have t4 : t ≤ 400 := hP.2.2.2.2.2.1
  have hd := lb_d_le (f := f) (t := t) (t - p) p (by omega)
  have k := ly_revb 1 (c' := (1, [(0, .ref Yr), (1, .int (lo)), (2, .int (hi))], [.ref Yr], me_w M J)) rfl k
  have k := lz_get (a := Yr) (g := 900) (M := me_w M J) (v := .ref Rd) rfl (nt_gfR rfl hP.2.2.1.1) k
  obtain ⟨d1, o1, ed, kc, k⟩ := lz_c (g := 33) (q := 1) (vs := [.ref Rd]) (rest := []) rfl rfl (by decide) (Or.inr (Or.inl ⟨_, rfl, rfl⟩)) rfl k
  have e1 := lc_digits (yc_lP hP hS) (yc_lS hP hS) hp kc
  subst e1
  have k : nt_rn X _ 97 (7, [(0, .ref Yr), (1, .int (lo)), (2, .int (hi))], [.int (nI (lb_d f t p))], me_w M J) _ := k
  have k := ly_revb 3 (c' := (if (nI (lb_d f t p)) = 0 then 12 else 22, [(3, .int (nI (lb_d f t p))), (0, .ref Yr), (1, .int (lo)), (2, .int (hi))], [], me_w M J)) rfl k
  by_cases h9 : (lb_d f t p) = 0
  · rw [if_pos (show (nI (lb_d f t p)) = 0 from show nI (lb_d f t p) = nI 0 from congrArg nI h9)] at k
    have k := ly_revb 1 (c' := (13, [(3, .int (nI (lb_d f t p))), (0, .ref Yr), (1, .int (lo)), (2, .int (hi))], [.ref Yr], me_w M J)) rfl k
    have k := lz_get (a := Yr) (g := 900) (M := me_w M J) (v := .ref Rd) rfl (nt_gfR rfl hP.2.2.1.1) k
    have k := ly_revb 1 (c' := (17, [(3, .int (nI (lb_d f t p))), (0, .ref Yr), (1, .int (lo)), (2, .int (hi))], [.int (Int32.ofInt 0), .ref Rd], me_w M J)) rfl k
    obtain ⟨d1, o1, ed, kc, k⟩ := lz_c (g := 31) (q := 1) (vs := [.ref Rd, .int (Int32.ofInt 0)]) (rest := []) rfl rfl (by decide) (Or.inr (Or.inl ⟨_, rfl, rfl⟩)) rfl k
    obtain ⟨hf, e1⟩ := (lc_fail (yc_lP hP hS) (yc_lS hP hS) hp kc).resolve_right (fun c => c.1 rfl)
    subst e1
    have hS1 := yc_Sp (q := t) hP (yc_Sf (fb := lb_c p (Int32.ofInt 0)) hP hS)
    have k : nt_rn X _ 97 (20, [(3, .int (nI (lb_d f t p))), (0, .ref Yr), (1, .int (lo)), (2, .int (hi))], [], me_w M (nt_u (nt_u J Rd 2 (lb_c p (Int32.ofInt 0))) Rd 1 (nI t))) _ := k
    have k := ly_revb 1 (c' := (21, [(3, .int (nI (lb_d f t p))), (0, .ref Yr), (1, .int (lo)), (2, .int (hi))], [.int (Int32.ofInt 0)], me_w M (nt_u (nt_u J Rd 2 (lb_c p (Int32.ofInt 0))) Rd 1 (nI t)))) rfl k
    have k := lz_ri rfl (by decide) k
    exact ⟨.inl (lb_c p (Int32.ofInt 0)), _, _, k, Or.inl ⟨h9, rfl⟩, (lb_c_ne (by omega) (by decide) (by decide)), rfl, hS1⟩
  · rw [if_neg (show ¬ ((nI (lb_d f t p)) = 0) from nI_ne0 (Nat.pos_of_ne_zero h9) (by omega))] at k
    have k := ly_revb 3 (c' := (if (nI (lb_d f t p)) ≤ (Int32.ofInt 5) then 31 else 27, [(3, .int (nI (lb_d f t p))), (0, .ref Yr), (1, .int (lo)), (2, .int (hi))], [], me_w M J)) rfl k
    by_cases h24 : (lb_d f t p) ≤ 5
    · rw [if_pos (show (nI (lb_d f t p)) ≤ (Int32.ofInt 5) from show nI ((lb_d f t p)) ≤ nI 5 from nI_le h24 (by omega))] at k
      have k := ly_revb 1 (c' := (32, [(3, .int (nI (lb_d f t p))), (0, .ref Yr), (1, .int (lo)), (2, .int (hi))], [.ref Yr], me_w M J)) rfl k
      have k := lz_get (a := Yr) (g := 900) (M := me_w M J) (v := .ref Rd) rfl (nt_gfR rfl hP.2.2.1.1) k
      have k := ly_revb 1 (c' := (36, [(3, .int (nI (lb_d f t p))), (0, .ref Yr), (1, .int (lo)), (2, .int (hi))], [.int (nI (lb_d f t p)), .ref Rd], me_w M J)) rfl k
      obtain ⟨d1, o1, ed, kc, k⟩ := lz_c (g := 34) (q := 1) (vs := [.ref Rd, .int (nI (lb_d f t p))]) (rest := []) rfl rfl (by decide) (Or.inr (Or.inl ⟨_, rfl, rfl⟩)) rfl k
      have e1 := lc_valueOf (yc_lP hP hS) (yc_lS hP hS) hp hd kc
      subst e1
      have k : nt_rn X _ 97 (39, [(3, .int (nI (lb_d f t p))), (0, .ref Yr), (1, .int (lo)), (2, .int (hi))], [.int (lb_v f p (lb_d f t p))], me_w M J) _ := k
      have k := ly_revb 4 (c' := (if (lb_v f p (lb_d f t p)) < lo then 53 else 47, [(4, .int (lb_v f p (lb_d f t p))), (3, .int (nI (lb_d f t p))), (0, .ref Yr), (1, .int (lo)), (2, .int (hi))], [], me_w M J)) rfl k
      by_cases h44 : (lb_v f p (lb_d f t p)).toInt < lo.toInt
      · rw [if_pos (show (lb_v f p (lb_d f t p)) < lo from Int32.lt_iff_toInt_lt.mpr h44)] at k
        have k := ly_revb 1 (c' := (54, [(4, .int (lb_v f p (lb_d f t p))), (3, .int (nI (lb_d f t p))), (0, .ref Yr), (1, .int (lo)), (2, .int (hi))], [.ref Yr], me_w M J)) rfl k
        have k := lz_get (a := Yr) (g := 900) (M := me_w M J) (v := .ref Rd) rfl (nt_gfR rfl hP.2.2.1.1) k
        have k := ly_revb 1 (c' := (58, [(4, .int (lb_v f p (lb_d f t p))), (3, .int (nI (lb_d f t p))), (0, .ref Yr), (1, .int (lo)), (2, .int (hi))], [.int (Int32.ofInt 1), .ref Rd], me_w M J)) rfl k
        obtain ⟨d1, o1, ed, kc, k⟩ := lz_c (g := 31) (q := 1) (vs := [.ref Rd, .int (Int32.ofInt 1)]) (rest := []) rfl rfl (by decide) (Or.inr (Or.inl ⟨_, rfl, rfl⟩)) rfl k
        obtain ⟨hf, e1⟩ := (lc_fail (yc_lP hP hS) (yc_lS hP hS) hp kc).resolve_right (fun c => c.1 rfl)
        subst e1
        have hS1 := yc_Sp (q := t) hP (yc_Sf (fb := lb_c p (Int32.ofInt 1)) hP hS)
        have k : nt_rn X _ 97 (61, [(4, .int (lb_v f p (lb_d f t p))), (3, .int (nI (lb_d f t p))), (0, .ref Yr), (1, .int (lo)), (2, .int (hi))], [], me_w M (nt_u (nt_u J Rd 2 (lb_c p (Int32.ofInt 1))) Rd 1 (nI t))) _ := k
        have k := ly_revb 1 (c' := (62, [(4, .int (lb_v f p (lb_d f t p))), (3, .int (nI (lb_d f t p))), (0, .ref Yr), (1, .int (lo)), (2, .int (hi))], [.int (Int32.ofInt 0)], me_w M (nt_u (nt_u J Rd 2 (lb_c p (Int32.ofInt 1))) Rd 1 (nI t)))) rfl k
        have k := lz_ri rfl (by decide) k
        exact ⟨.inl (lb_c p (Int32.ofInt 1)), _, _, k, Or.inr (Or.inl ⟨by omega, Or.inr (fun c => absurd c.1 (by omega)), rfl⟩), (lb_c_ne (by omega) (by decide) (by decide)), rfl, hS1⟩
      · rw [if_neg (show ¬ ((lb_v f p (lb_d f t p)) < lo) from fun c => h44 (Int32.lt_iff_toInt_lt.mp c))] at k
        have k := ly_revb 3 (c' := (if (lb_v f p (lb_d f t p)) ≤ hi then 63 else 53, [(4, .int (lb_v f p (lb_d f t p))), (3, .int (nI (lb_d f t p))), (0, .ref Yr), (1, .int (lo)), (2, .int (hi))], [], me_w M J)) rfl k
        by_cases h50 : (lb_v f p (lb_d f t p)).toInt ≤ hi.toInt
        · rw [if_pos (show (lb_v f p (lb_d f t p)) ≤ hi from Int32.le_iff_toInt_le.mpr h50)] at k
          have k := ly_revb 1 (c' := (64, [(4, .int (lb_v f p (lb_d f t p))), (3, .int (nI (lb_d f t p))), (0, .ref Yr), (1, .int (lo)), (2, .int (hi))], [.ref Yr], me_w M J)) rfl k
          have k := lz_get (a := Yr) (g := 900) (M := me_w M J) (v := .ref Rd) rfl (nt_gfR rfl hP.2.2.1.1) k
          have k := ly_revb 1 (c' := (68, [(4, .int (lb_v f p (lb_d f t p))), (3, .int (nI (lb_d f t p))), (0, .ref Yr), (1, .int (lo)), (2, .int (hi))], [.int (nI (lb_d f t p)), .ref Rd], me_w M J)) rfl k
          obtain ⟨d1, o1, ed, kc, k⟩ := lz_c (g := 29) (q := 1) (vs := [.ref Rd, .int (nI (lb_d f t p))]) (rest := []) rfl rfl (by decide) (Or.inr (Or.inl ⟨_, rfl, rfl⟩)) rfl k
          have e1 := lc_skip (b := lb_d f t p) (yc_lP hP hS) (yc_lS hP hS) hp (by omega) kc
          rw [Nat.min_eq_left hd] at e1
          subst e1
          have hS1 := yc_Sp (q := lb_s f t (p + lb_d f t p)) hP hS
          have hp9 : lb_s f t (p + lb_d f t p) ≤ t := (lb_s_le (t - (p + lb_d f t p)) (p + lb_d f t p) (by omega)).2
          have k : nt_rn X _ 97 (71, [(4, .int (lb_v f p (lb_d f t p))), (3, .int (nI (lb_d f t p))), (0, .ref Yr), (1, .int (lo)), (2, .int (hi))], [], me_w M (nt_u J Rd 1 (nI (lb_s f t (p + lb_d f t p))))) _ := k
          have k := ly_revb 1 (c' := (73, [(4, .int (lb_v f p (lb_d f t p))), (3, .int (nI (lb_d f t p))), (0, .ref Yr), (1, .int (lo)), (2, .int (hi))], [.int (lb_v f p (lb_d f t p))], me_w M (nt_u J Rd 1 (nI (lb_s f t (p + lb_d f t p)))))) rfl k
          have k := lz_ri rfl (by decide) k
          exact ⟨.inr (lb_s f t (p + lb_d f t p), lb_v f p (lb_d f t p)), _, _, k, Or.inr (Or.inr ⟨by omega, by omega, ⟨by omega, h50⟩, rfl⟩), rfl, hp9, hS1⟩
        · rw [if_neg (show ¬ ((lb_v f p (lb_d f t p)) ≤ hi) from fun c => h50 (Int32.le_iff_toInt_le.mp c))] at k
          have k := ly_revb 1 (c' := (54, [(4, .int (lb_v f p (lb_d f t p))), (3, .int (nI (lb_d f t p))), (0, .ref Yr), (1, .int (lo)), (2, .int (hi))], [.ref Yr], me_w M J)) rfl k
          have k := lz_get (a := Yr) (g := 900) (M := me_w M J) (v := .ref Rd) rfl (nt_gfR rfl hP.2.2.1.1) k
          have k := ly_revb 1 (c' := (58, [(4, .int (lb_v f p (lb_d f t p))), (3, .int (nI (lb_d f t p))), (0, .ref Yr), (1, .int (lo)), (2, .int (hi))], [.int (Int32.ofInt 1), .ref Rd], me_w M J)) rfl k
          obtain ⟨d1, o1, ed, kc, k⟩ := lz_c (g := 31) (q := 1) (vs := [.ref Rd, .int (Int32.ofInt 1)]) (rest := []) rfl rfl (by decide) (Or.inr (Or.inl ⟨_, rfl, rfl⟩)) rfl k
          obtain ⟨hf, e1⟩ := (lc_fail (yc_lP hP hS) (yc_lS hP hS) hp kc).resolve_right (fun c => c.1 rfl)
          subst e1
          have hS1 := yc_Sp (q := t) hP (yc_Sf (fb := lb_c p (Int32.ofInt 1)) hP hS)
          have k : nt_rn X _ 97 (61, [(4, .int (lb_v f p (lb_d f t p))), (3, .int (nI (lb_d f t p))), (0, .ref Yr), (1, .int (lo)), (2, .int (hi))], [], me_w M (nt_u (nt_u J Rd 2 (lb_c p (Int32.ofInt 1))) Rd 1 (nI t))) _ := k
          have k := ly_revb 1 (c' := (62, [(4, .int (lb_v f p (lb_d f t p))), (3, .int (nI (lb_d f t p))), (0, .ref Yr), (1, .int (lo)), (2, .int (hi))], [.int (Int32.ofInt 0)], me_w M (nt_u (nt_u J Rd 2 (lb_c p (Int32.ofInt 1))) Rd 1 (nI t)))) rfl k
          have k := lz_ri rfl (by decide) k
          exact ⟨.inl (lb_c p (Int32.ofInt 1)), _, _, k, Or.inr (Or.inl ⟨by omega, Or.inr (fun c => h50 c.2), rfl⟩), (lb_c_ne (by omega) (by decide) (by decide)), rfl, hS1⟩
    · rw [if_neg (show ¬ ((nI (lb_d f t p)) ≤ (Int32.ofInt 5)) from show ¬ nI ((lb_d f t p)) ≤ nI 5 from nI_ge (Nat.not_le.mp h24) (by omega))] at k
      have k := ly_revb 6 (c' := (if (Int32.ofInt (-1)) < lo then 53 else 47, [(4, .int (Int32.ofInt (-1))), (3, .int (nI (lb_d f t p))), (0, .ref Yr), (1, .int (lo)), (2, .int (hi))], [], me_w M J)) rfl k
      rw [if_pos (show (Int32.ofInt (-1)) < lo from Int32.lt_iff_toInt_lt.mpr (by rw [show (Int32.ofInt (-1)).toInt = -1 from by decide]; omega))] at k
      have k := ly_revb 1 (c' := (54, [(4, .int (Int32.ofInt (-1))), (3, .int (nI (lb_d f t p))), (0, .ref Yr), (1, .int (lo)), (2, .int (hi))], [.ref Yr], me_w M J)) rfl k
      have k := lz_get (a := Yr) (g := 900) (M := me_w M J) (v := .ref Rd) rfl (nt_gfR rfl hP.2.2.1.1) k
      have k := ly_revb 1 (c' := (58, [(4, .int (Int32.ofInt (-1))), (3, .int (nI (lb_d f t p))), (0, .ref Yr), (1, .int (lo)), (2, .int (hi))], [.int (Int32.ofInt 1), .ref Rd], me_w M J)) rfl k
      obtain ⟨d1, o1, ed, kc, k⟩ := lz_c (g := 31) (q := 1) (vs := [.ref Rd, .int (Int32.ofInt 1)]) (rest := []) rfl rfl (by decide) (Or.inr (Or.inl ⟨_, rfl, rfl⟩)) rfl k
      obtain ⟨hf, e1⟩ := (lc_fail (yc_lP hP hS) (yc_lS hP hS) hp kc).resolve_right (fun c => c.1 rfl)
      subst e1
      have hS1 := yc_Sp (q := t) hP (yc_Sf (fb := lb_c p (Int32.ofInt 1)) hP hS)
      have k : nt_rn X _ 97 (61, [(4, .int (Int32.ofInt (-1))), (3, .int (nI (lb_d f t p))), (0, .ref Yr), (1, .int (lo)), (2, .int (hi))], [], me_w M (nt_u (nt_u J Rd 2 (lb_c p (Int32.ofInt 1))) Rd 1 (nI t))) _ := k
      have k := ly_revb 1 (c' := (62, [(4, .int (Int32.ofInt (-1))), (3, .int (nI (lb_d f t p))), (0, .ref Yr), (1, .int (lo)), (2, .int (hi))], [.int (Int32.ofInt 0)], me_w M (nt_u (nt_u J Rd 2 (lb_c p (Int32.ofInt 1))) Rd 1 (nI t)))) rfl k
      have k := lz_ri rfl (by decide) k
      exact ⟨.inl (lb_c p (Int32.ofInt 1)), _, _, k, Or.inr (Or.inl ⟨by omega, Or.inl (by omega), rfl⟩), (lb_c_ne (by omega) (by decide) (by decide)), rfl, hS1⟩
theorem yc_numF {X : nt_X} {d t Rd Tp By RR Sp Yr Y m0 s0 : Nat} {Rw : Nat → Nat} {f : Nat → Int32} {M : nt_M} {o : Option Value × nt_M} {C : lb_C} {fa : Int32} {u : Nat × Nat × Nat × Nat × Nat} {J : Nat → Nat → Int32} {lo hi : Int32} (hP : yc_P M t Rd Tp By RR Sp Yr Y Rw) (hS : yc_S Rw C f t Rd Tp By RR Y m0 s0 t fa u J) (hfa : ¬ fa = 0) (k : nt_ev X d 97 [.ref Yr, .int lo, .int hi] (me_w M J) o) : ∃ J', o = (some (.int (Int32.ofInt 0)), me_w M J') ∧ yc_S Rw C f t Rd Tp By RR Y m0 s0 t fa u (J') := by
  have k : nt_rn X d 97 (0, [(0, .ref Yr), (1, .int (lo)), (2, .int (hi))], [], me_w M J) o := k
  have t4 : t ≤ 400 := hP.2.2.2.2.2.1
  have hd0 : lb_d f t t = 0 := lb_d0 (by omega)
  have k := ly_revb 1 (c' := (1, [(0, .ref Yr), (1, .int (lo)), (2, .int (hi))], [.ref Yr], me_w M J)) rfl k
  have k := lz_get (a := Yr) (g := 900) (M := me_w M J) (v := .ref Rd) rfl (nt_gfR rfl hP.2.2.1.1) k
  obtain ⟨d1, o1, ed, kc, k⟩ := lz_c (g := 33) (q := 1) (vs := [.ref Rd]) (rest := []) rfl rfl (by decide) (Or.inr (Or.inl ⟨_, rfl, rfl⟩)) rfl k
  have e1 := lc_digits (yc_lP hP hS) (yc_lS hP hS) (Nat.le_refl t) kc
  subst e1
  have k : nt_rn X _ 97 (7, [(0, .ref Yr), (1, .int (lo)), (2, .int (hi))], [.int (nI (lb_d f t t))], me_w M J) _ := k
  have k := ly_revb 3 (c' := (if (nI (lb_d f t t)) = 0 then 12 else 22, [(3, .int (nI (lb_d f t t))), (0, .ref Yr), (1, .int (lo)), (2, .int (hi))], [], me_w M J)) rfl k
  rw [if_pos (show (nI (lb_d f t t)) = 0 from show nI (lb_d f t t) = nI 0 from congrArg nI hd0)] at k
  have k := ly_revb 1 (c' := (13, [(3, .int (nI (lb_d f t t))), (0, .ref Yr), (1, .int (lo)), (2, .int (hi))], [.ref Yr], me_w M J)) rfl k
  have k := lz_get (a := Yr) (g := 900) (M := me_w M J) (v := .ref Rd) rfl (nt_gfR rfl hP.2.2.1.1) k
  have k := ly_revb 1 (c' := (17, [(3, .int (nI (lb_d f t t))), (0, .ref Yr), (1, .int (lo)), (2, .int (hi))], [.int (Int32.ofInt 0), .ref Rd], me_w M J)) rfl k
  obtain ⟨d1, o1, ed, kc, k⟩ := lz_c (g := 31) (q := 1) (vs := [.ref Rd, .int (Int32.ofInt 0)]) (rest := []) rfl rfl (by decide) (Or.inr (Or.inl ⟨_, rfl, rfl⟩)) rfl k
  obtain ⟨hf, e1⟩ := (lc_fail (yc_lP hP hS) (yc_lS hP hS) (Nat.le_refl t) kc).resolve_left (fun c => hfa c.1)
  subst e1
  have hS1 := yc_Sp (q := t) hP hS
  have k : nt_rn X _ 97 (20, [(3, .int (nI (lb_d f t t))), (0, .ref Yr), (1, .int (lo)), (2, .int (hi))], [], me_w M (nt_u J Rd 1 (nI t))) _ := k
  have k := ly_revb 1 (c' := (21, [(3, .int (nI (lb_d f t t))), (0, .ref Yr), (1, .int (lo)), (2, .int (hi))], [.int (Int32.ofInt 0)], me_w M (nt_u J Rd 1 (nI t)))) rfl k
  have k := lz_ri rfl (by decide) k
  exact ⟨_, k, hS1⟩
theorem yc_plank {X : nt_X} {d t Rd Tp By RR Sp Yr Y m0 s0 : Nat} {Rw : Nat → Nat} {f : Nat → Int32} {M : nt_M} {o : Option Value × nt_M} {C : lb_C} {p : Nat} {u : Nat × Nat × Nat × Nat × Nat} {J : Nat → Nat → Int32} (hP : yc_P M t Rd Tp By RR Sp Yr Y Rw) (hS : yc_S Rw C f t Rd Tp By RR Y m0 s0 p 0 u J) (hub : u.2.2.1 < 1000) (hp : p ≤ t) (k : nt_ev X d 99 [.ref Yr] (me_w M J) o) : ∃ r J', o = (none, me_w M J') ∧ lb_pl f t u.1 u.2.1 p r ∧ ((∃ c, r = .inl c ∧ c ≠ 0 ∧ ∃ u' D, yc_S Rw D f t Rd Tp By RR Y m0 s0 t c (u') (J')) ∨ ∃ q D, r = .inr q ∧ q ≤ t ∧ lb_plC f t u.1 u.2.1 p u.2.2.1 q C D ∧ yc_S Rw D f t Rd Tp By RR Y m0 s0 q 0 (u.1, u.2.1, u.2.2.1 + 1, u.2.2.2.1, u.2.2.2.2) (J')) := by
  have k : nt_rn X d 99 (0, [(0, .ref Yr)], [], me_w M J) o := k
  have t4 : t ≤ 400 := hP.2.2.2.2.2.1
  have k := ly_revb 1 (c' := (1, [(0, .ref Yr)], [.ref Yr], me_w M J)) rfl k
  have k := lz_get (a := Yr) (g := 901) (M := me_w M J) (v := .ref Y) rfl (nt_gfR rfl hP.2.2.1.2) k
  have k := lz_get (a := Y) (g := 806) (M := me_w M J) (v := .ref (Rw 6)) rfl (nt_gfR rfl (hP.2.2.2.2.1 6 (by decide) (by decide)).1) k
  have k := ly_revb 1 (c' := (8, [(0, .ref Yr)], [.ref Yr, .ref (Rw 6)], me_w M J)) rfl k
  have k := lz_get (a := Yr) (g := 901) (M := me_w M J) (v := .ref Y) rfl (nt_gfR rfl hP.2.2.1.2) k
  have k := lz_get (a := Y) (g := 802) (M := me_w M J) (v := .int (nI u.2.2.1)) rfl (congrArg Value.int (hS.2.2.1.2.2.1)) k
  have k := ly_revb 3 (c' := (17, [(0, .ref Yr)], [.ref Yr, .int (Int32.ofInt 0), .ref Yr, .int (nI u.2.2.1), .ref (Rw 6)], me_w M J)) rfl k
  have k := lz_get (a := Yr) (g := 901) (M := me_w M J) (v := .ref Y) rfl (nt_gfR rfl hP.2.2.1.2) k
  have k := lz_get (a := Y) (g := 800) (M := me_w M J) (v := .int (nI u.1)) rfl (congrArg Value.int (hS.2.2.1.1)) k
  have k := ly_revb 2 (c' := (25, [(0, .ref Yr)], [.int ((nI u.1) - (Int32.ofInt 1)), .int (Int32.ofInt 0), .ref Yr, .int (nI u.2.2.1), .ref (Rw 6)], me_w M J)) rfl k
  obtain ⟨d1, o1, ed, kc, k⟩ := lz_c (g := 97) (q := 1) (vs := [.ref Yr, .int (Int32.ofInt 0), .int ((nI u.1) - (Int32.ofInt 1))]) (rest := [.int (nI u.2.2.1), .ref (Rw 6)]) rfl rfl (by decide) (Or.inr (Or.inl ⟨_, rfl, rfl⟩)) rfl k
  obtain ⟨r1, a1, J1, e1, hv1, hN1⟩ := yc_num hP hS hp (by decide) kc
  subst e1
  rcases r1 with c | ⟨q1, x1⟩
  · obtain ⟨hc, rfl, hT1⟩ := hN1
    have k : nt_rn X _ 99 (28, [(0, .ref Yr)], [.int (Int32.ofInt 0), .int (nI u.2.2.1), .ref (Rw 6)], me_w M J1) _ := k
    have k := me_iastx rfl k
    have hS1 := yc_Sr (i := 6) (j := (nI u.2.2.1).toNatClampNeg) (x := Int32.ofInt 0) hP hT1 (by decide) (by decide) (lb_ix1 hub)
    have k : nt_rn X _ 99 (29, [(0, .ref Yr)], [], me_w M (nt_u J1 (Rw 6) (nI u.2.2.1).toNatClampNeg (Int32.ofInt 0))) _ := k
    have k := ly_revb 1 (c' := (30, [(0, .ref Yr)], [.ref Yr], me_w M (nt_u J1 (Rw 6) (nI u.2.2.1).toNatClampNeg (Int32.ofInt 0)))) rfl k
    have k := lz_get (a := Yr) (g := 901) (M := me_w M (nt_u J1 (Rw 6) (nI u.2.2.1).toNatClampNeg (Int32.ofInt 0))) (v := .ref Y) rfl (nt_gfR rfl hP.2.2.1.2) k
    have k := lz_get (a := Y) (g := 807) (M := me_w M (nt_u J1 (Rw 6) (nI u.2.2.1).toNatClampNeg (Int32.ofInt 0))) (v := .ref (Rw 7)) rfl (nt_gfR rfl (hP.2.2.2.2.1 7 (by decide) (by decide)).1) k
    have k := ly_revb 1 (c' := (37, [(0, .ref Yr)], [.ref Yr, .ref (Rw 7)], me_w M (nt_u J1 (Rw 6) (nI u.2.2.1).toNatClampNeg (Int32.ofInt 0)))) rfl k
    have k := lz_get (a := Yr) (g := 901) (M := me_w M (nt_u J1 (Rw 6) (nI u.2.2.1).toNatClampNeg (Int32.ofInt 0))) (v := .ref Y) rfl (nt_gfR rfl hP.2.2.1.2) k
    have k := lz_get (a := Y) (g := 802) (M := me_w M (nt_u J1 (Rw 6) (nI u.2.2.1).toNatClampNeg (Int32.ofInt 0))) (v := .int (nI u.2.2.1)) rfl (congrArg Value.int (hS1.2.2.1.2.2.1)) k
    have k := ly_revb 3 (c' := (47, [(0, .ref Yr)], [.int (Int32.ofInt 99), .int (Int32.ofInt 1), .ref Yr, .int (nI u.2.2.1), .ref (Rw 7)], me_w M (nt_u J1 (Rw 6) (nI u.2.2.1).toNatClampNeg (Int32.ofInt 0)))) rfl k
    obtain ⟨d1, o1, ed, kc, k⟩ := lz_c (g := 97) (q := 1) (vs := [.ref Yr, .int (Int32.ofInt 1), .int (Int32.ofInt 99)]) (rest := [.int (nI u.2.2.1), .ref (Rw 7)]) rfl rfl (by decide) (Or.inr (Or.inl ⟨_, rfl, rfl⟩)) rfl k
    obtain ⟨J2, e1, hT2⟩ := yc_numF hP hS1 hc kc
    subst e1
    have k : nt_rn X _ 99 (50, [(0, .ref Yr)], [.int (Int32.ofInt 0), .int (nI u.2.2.1), .ref (Rw 7)], me_w M J2) _ := k
    have k := me_iastx rfl k
    have hS2 := yc_Sr (i := 7) (j := (nI u.2.2.1).toNatClampNeg) (x := Int32.ofInt 0) hP hT2 (by decide) (by decide) (lb_ix1 hub)
    have k : nt_rn X _ 99 (51, [(0, .ref Yr)], [], me_w M (nt_u J2 (Rw 7) (nI u.2.2.1).toNatClampNeg (Int32.ofInt 0))) _ := k
    have k := ly_revb 1 (c' := (52, [(0, .ref Yr)], [.ref Yr], me_w M (nt_u J2 (Rw 7) (nI u.2.2.1).toNatClampNeg (Int32.ofInt 0)))) rfl k
    have k := lz_get (a := Yr) (g := 901) (M := me_w M (nt_u J2 (Rw 7) (nI u.2.2.1).toNatClampNeg (Int32.ofInt 0))) (v := .ref Y) rfl (nt_gfR rfl hP.2.2.1.2) k
    have k := lz_get (a := Y) (g := 808) (M := me_w M (nt_u J2 (Rw 7) (nI u.2.2.1).toNatClampNeg (Int32.ofInt 0))) (v := .ref (Rw 8)) rfl (nt_gfR rfl (hP.2.2.2.2.1 8 (by decide) (by decide)).1) k
    have k := ly_revb 1 (c' := (59, [(0, .ref Yr)], [.ref Yr, .ref (Rw 8)], me_w M (nt_u J2 (Rw 7) (nI u.2.2.1).toNatClampNeg (Int32.ofInt 0)))) rfl k
    have k := lz_get (a := Yr) (g := 901) (M := me_w M (nt_u J2 (Rw 7) (nI u.2.2.1).toNatClampNeg (Int32.ofInt 0))) (v := .ref Y) rfl (nt_gfR rfl hP.2.2.1.2) k
    have k := lz_get (a := Y) (g := 802) (M := me_w M (nt_u J2 (Rw 7) (nI u.2.2.1).toNatClampNeg (Int32.ofInt 0))) (v := .int (nI u.2.2.1)) rfl (congrArg Value.int (hS2.2.2.1.2.2.1)) k
    have k := ly_revb 3 (c' := (68, [(0, .ref Yr)], [.ref Yr, .int (Int32.ofInt 0), .ref Yr, .int (nI u.2.2.1), .ref (Rw 8)], me_w M (nt_u J2 (Rw 7) (nI u.2.2.1).toNatClampNeg (Int32.ofInt 0)))) rfl k
    have k := lz_get (a := Yr) (g := 901) (M := me_w M (nt_u J2 (Rw 7) (nI u.2.2.1).toNatClampNeg (Int32.ofInt 0))) (v := .ref Y) rfl (nt_gfR rfl hP.2.2.1.2) k
    have k := lz_get (a := Y) (g := 801) (M := me_w M (nt_u J2 (Rw 7) (nI u.2.2.1).toNatClampNeg (Int32.ofInt 0))) (v := .int (nI u.2.1)) rfl (congrArg Value.int (hS2.2.2.1.2.1)) k
    have k := ly_revb 2 (c' := (76, [(0, .ref Yr)], [.int ((nI u.2.1) - (Int32.ofInt 1)), .int (Int32.ofInt 0), .ref Yr, .int (nI u.2.2.1), .ref (Rw 8)], me_w M (nt_u J2 (Rw 7) (nI u.2.2.1).toNatClampNeg (Int32.ofInt 0)))) rfl k
    obtain ⟨d1, o1, ed, kc, k⟩ := lz_c (g := 97) (q := 1) (vs := [.ref Yr, .int (Int32.ofInt 0), .int ((nI u.2.1) - (Int32.ofInt 1))]) (rest := [.int (nI u.2.2.1), .ref (Rw 8)]) rfl rfl (by decide) (Or.inr (Or.inl ⟨_, rfl, rfl⟩)) rfl k
    obtain ⟨J3, e1, hT3⟩ := yc_numF hP hS2 hc kc
    subst e1
    have k : nt_rn X _ 99 (79, [(0, .ref Yr)], [.int (Int32.ofInt 0), .int (nI u.2.2.1), .ref (Rw 8)], me_w M J3) _ := k
    have k := me_iastx rfl k
    have hS3 := yc_Sr (i := 8) (j := (nI u.2.2.1).toNatClampNeg) (x := Int32.ofInt 0) hP hT3 (by decide) (by decide) (lb_ix1 hub)
    have k : nt_rn X _ 99 (80, [(0, .ref Yr)], [], me_w M (nt_u J3 (Rw 8) (nI u.2.2.1).toNatClampNeg (Int32.ofInt 0))) _ := k
    have k := ly_revb 1 (c' := (81, [(0, .ref Yr)], [.ref Yr], me_w M (nt_u J3 (Rw 8) (nI u.2.2.1).toNatClampNeg (Int32.ofInt 0)))) rfl k
    have k := lz_get (a := Yr) (g := 901) (M := me_w M (nt_u J3 (Rw 8) (nI u.2.2.1).toNatClampNeg (Int32.ofInt 0))) (v := .ref Y) rfl (nt_gfR rfl hP.2.2.1.2) k
    have k := ly_revb 1 (c' := (85, [(0, .ref Yr)], [.ref Y, .ref Y], me_w M (nt_u J3 (Rw 8) (nI u.2.2.1).toNatClampNeg (Int32.ofInt 0)))) rfl k
    have k := lz_get (a := Y) (g := 802) (M := me_w M (nt_u J3 (Rw 8) (nI u.2.2.1).toNatClampNeg (Int32.ofInt 0))) (v := .int (nI u.2.2.1)) rfl (congrArg Value.int (hS3.2.2.1.2.2.1)) k
    have k := ly_revb 2 (c' := (90, [(0, .ref Yr)], [.int ((nI u.2.2.1) + (Int32.ofInt 1)), .ref Y], me_w M (nt_u J3 (Rw 8) (nI u.2.2.1).toNatClampNeg (Int32.ofInt 0)))) rfl k
    rw [show ((nI u.2.2.1) + (Int32.ofInt 1) : Int32) = nI (u.2.2.1 + 1) from me_add (k := 1)] at k
    have k := me_put rfl (by decide) k
    have k : nt_rn X _ 99 (93, [(0, .ref Yr)], [], me_w M (nt_u (nt_u J3 (Rw 8) (nI u.2.2.1).toNatClampNeg (Int32.ofInt 0)) Y 2 (nI (u.2.2.1 + 1)))) _ := k
    have hS4 := yc_S2 (y := u.2.2.1 + 1) hP hS3
    have k := lz_rv rfl rfl k
    exact ⟨.inl c, _, k, ⟨_, hv1, Or.inl ⟨c, rfl, rfl⟩⟩, Or.inl ⟨c, rfl, hc, _, _, hS4⟩⟩
  · obtain ⟨ea, hq1, hT1⟩ := hN1
    dsimp only at ea hq1 hT1
    subst ea
    have hu1 := lb_nu_up hp hv1
    have k : nt_rn X _ 99 (28, [(0, .ref Yr)], [.int (a1), .int (nI u.2.2.1), .ref (Rw 6)], me_w M J1) _ := k
    have k := me_iastx rfl k
    have hS1 := yc_Sr (i := 6) (j := (nI u.2.2.1).toNatClampNeg) (x := a1) hP hT1 (by decide) (by decide) (lb_ix1 hub)
    have k : nt_rn X _ 99 (29, [(0, .ref Yr)], [], me_w M (nt_u J1 (Rw 6) (nI u.2.2.1).toNatClampNeg (a1))) _ := k
    have k := ly_revb 1 (c' := (30, [(0, .ref Yr)], [.ref Yr], me_w M (nt_u J1 (Rw 6) (nI u.2.2.1).toNatClampNeg (a1)))) rfl k
    have k := lz_get (a := Yr) (g := 901) (M := me_w M (nt_u J1 (Rw 6) (nI u.2.2.1).toNatClampNeg (a1))) (v := .ref Y) rfl (nt_gfR rfl hP.2.2.1.2) k
    have k := lz_get (a := Y) (g := 807) (M := me_w M (nt_u J1 (Rw 6) (nI u.2.2.1).toNatClampNeg (a1))) (v := .ref (Rw 7)) rfl (nt_gfR rfl (hP.2.2.2.2.1 7 (by decide) (by decide)).1) k
    have k := ly_revb 1 (c' := (37, [(0, .ref Yr)], [.ref Yr, .ref (Rw 7)], me_w M (nt_u J1 (Rw 6) (nI u.2.2.1).toNatClampNeg (a1)))) rfl k
    have k := lz_get (a := Yr) (g := 901) (M := me_w M (nt_u J1 (Rw 6) (nI u.2.2.1).toNatClampNeg (a1))) (v := .ref Y) rfl (nt_gfR rfl hP.2.2.1.2) k
    have k := lz_get (a := Y) (g := 802) (M := me_w M (nt_u J1 (Rw 6) (nI u.2.2.1).toNatClampNeg (a1))) (v := .int (nI u.2.2.1)) rfl (congrArg Value.int (hS1.2.2.1.2.2.1)) k
    have k := ly_revb 3 (c' := (47, [(0, .ref Yr)], [.int (Int32.ofInt 99), .int (Int32.ofInt 1), .ref Yr, .int (nI u.2.2.1), .ref (Rw 7)], me_w M (nt_u J1 (Rw 6) (nI u.2.2.1).toNatClampNeg (a1)))) rfl k
    obtain ⟨d1, o1, ed, kc, k⟩ := lz_c (g := 97) (q := 1) (vs := [.ref Yr, .int (Int32.ofInt 1), .int (Int32.ofInt 99)]) (rest := [.int (nI u.2.2.1), .ref (Rw 7)]) rfl rfl (by decide) (Or.inr (Or.inl ⟨_, rfl, rfl⟩)) rfl k
    obtain ⟨r2, a2, J2, e1, hv2, hN2⟩ := yc_num hP hS1 hq1 (by decide) kc
    subst e1
    rcases r2 with c | ⟨q2, x2⟩
    · obtain ⟨hc, rfl, hT2⟩ := hN2
      have k : nt_rn X _ 99 (50, [(0, .ref Yr)], [.int (Int32.ofInt 0), .int (nI u.2.2.1), .ref (Rw 7)], me_w M J2) _ := k
      have k := me_iastx rfl k
      have hS2 := yc_Sr (i := 7) (j := (nI u.2.2.1).toNatClampNeg) (x := Int32.ofInt 0) hP hT2 (by decide) (by decide) (lb_ix1 hub)
      have k : nt_rn X _ 99 (51, [(0, .ref Yr)], [], me_w M (nt_u J2 (Rw 7) (nI u.2.2.1).toNatClampNeg (Int32.ofInt 0))) _ := k
      have k := ly_revb 1 (c' := (52, [(0, .ref Yr)], [.ref Yr], me_w M (nt_u J2 (Rw 7) (nI u.2.2.1).toNatClampNeg (Int32.ofInt 0)))) rfl k
      have k := lz_get (a := Yr) (g := 901) (M := me_w M (nt_u J2 (Rw 7) (nI u.2.2.1).toNatClampNeg (Int32.ofInt 0))) (v := .ref Y) rfl (nt_gfR rfl hP.2.2.1.2) k
      have k := lz_get (a := Y) (g := 808) (M := me_w M (nt_u J2 (Rw 7) (nI u.2.2.1).toNatClampNeg (Int32.ofInt 0))) (v := .ref (Rw 8)) rfl (nt_gfR rfl (hP.2.2.2.2.1 8 (by decide) (by decide)).1) k
      have k := ly_revb 1 (c' := (59, [(0, .ref Yr)], [.ref Yr, .ref (Rw 8)], me_w M (nt_u J2 (Rw 7) (nI u.2.2.1).toNatClampNeg (Int32.ofInt 0)))) rfl k
      have k := lz_get (a := Yr) (g := 901) (M := me_w M (nt_u J2 (Rw 7) (nI u.2.2.1).toNatClampNeg (Int32.ofInt 0))) (v := .ref Y) rfl (nt_gfR rfl hP.2.2.1.2) k
      have k := lz_get (a := Y) (g := 802) (M := me_w M (nt_u J2 (Rw 7) (nI u.2.2.1).toNatClampNeg (Int32.ofInt 0))) (v := .int (nI u.2.2.1)) rfl (congrArg Value.int (hS2.2.2.1.2.2.1)) k
      have k := ly_revb 3 (c' := (68, [(0, .ref Yr)], [.ref Yr, .int (Int32.ofInt 0), .ref Yr, .int (nI u.2.2.1), .ref (Rw 8)], me_w M (nt_u J2 (Rw 7) (nI u.2.2.1).toNatClampNeg (Int32.ofInt 0)))) rfl k
      have k := lz_get (a := Yr) (g := 901) (M := me_w M (nt_u J2 (Rw 7) (nI u.2.2.1).toNatClampNeg (Int32.ofInt 0))) (v := .ref Y) rfl (nt_gfR rfl hP.2.2.1.2) k
      have k := lz_get (a := Y) (g := 801) (M := me_w M (nt_u J2 (Rw 7) (nI u.2.2.1).toNatClampNeg (Int32.ofInt 0))) (v := .int (nI u.2.1)) rfl (congrArg Value.int (hS2.2.2.1.2.1)) k
      have k := ly_revb 2 (c' := (76, [(0, .ref Yr)], [.int ((nI u.2.1) - (Int32.ofInt 1)), .int (Int32.ofInt 0), .ref Yr, .int (nI u.2.2.1), .ref (Rw 8)], me_w M (nt_u J2 (Rw 7) (nI u.2.2.1).toNatClampNeg (Int32.ofInt 0)))) rfl k
      obtain ⟨d1, o1, ed, kc, k⟩ := lz_c (g := 97) (q := 1) (vs := [.ref Yr, .int (Int32.ofInt 0), .int ((nI u.2.1) - (Int32.ofInt 1))]) (rest := [.int (nI u.2.2.1), .ref (Rw 8)]) rfl rfl (by decide) (Or.inr (Or.inl ⟨_, rfl, rfl⟩)) rfl k
      obtain ⟨J3, e1, hT3⟩ := yc_numF hP hS2 hc kc
      subst e1
      have k : nt_rn X _ 99 (79, [(0, .ref Yr)], [.int (Int32.ofInt 0), .int (nI u.2.2.1), .ref (Rw 8)], me_w M J3) _ := k
      have k := me_iastx rfl k
      have hS3 := yc_Sr (i := 8) (j := (nI u.2.2.1).toNatClampNeg) (x := Int32.ofInt 0) hP hT3 (by decide) (by decide) (lb_ix1 hub)
      have k : nt_rn X _ 99 (80, [(0, .ref Yr)], [], me_w M (nt_u J3 (Rw 8) (nI u.2.2.1).toNatClampNeg (Int32.ofInt 0))) _ := k
      have k := ly_revb 1 (c' := (81, [(0, .ref Yr)], [.ref Yr], me_w M (nt_u J3 (Rw 8) (nI u.2.2.1).toNatClampNeg (Int32.ofInt 0)))) rfl k
      have k := lz_get (a := Yr) (g := 901) (M := me_w M (nt_u J3 (Rw 8) (nI u.2.2.1).toNatClampNeg (Int32.ofInt 0))) (v := .ref Y) rfl (nt_gfR rfl hP.2.2.1.2) k
      have k := ly_revb 1 (c' := (85, [(0, .ref Yr)], [.ref Y, .ref Y], me_w M (nt_u J3 (Rw 8) (nI u.2.2.1).toNatClampNeg (Int32.ofInt 0)))) rfl k
      have k := lz_get (a := Y) (g := 802) (M := me_w M (nt_u J3 (Rw 8) (nI u.2.2.1).toNatClampNeg (Int32.ofInt 0))) (v := .int (nI u.2.2.1)) rfl (congrArg Value.int (hS3.2.2.1.2.2.1)) k
      have k := ly_revb 2 (c' := (90, [(0, .ref Yr)], [.int ((nI u.2.2.1) + (Int32.ofInt 1)), .ref Y], me_w M (nt_u J3 (Rw 8) (nI u.2.2.1).toNatClampNeg (Int32.ofInt 0)))) rfl k
      rw [show ((nI u.2.2.1) + (Int32.ofInt 1) : Int32) = nI (u.2.2.1 + 1) from me_add (k := 1)] at k
      have k := me_put rfl (by decide) k
      have k : nt_rn X _ 99 (93, [(0, .ref Yr)], [], me_w M (nt_u (nt_u J3 (Rw 8) (nI u.2.2.1).toNatClampNeg (Int32.ofInt 0)) Y 2 (nI (u.2.2.1 + 1)))) _ := k
      have hS4 := yc_S2 (y := u.2.2.1 + 1) hP hS3
      have k := lz_rv rfl rfl k
      exact ⟨.inl c, _, k, ⟨_, hv1, Or.inr ⟨_, _, rfl, ⟨_, hv2, Or.inl ⟨c, rfl, rfl⟩⟩⟩⟩, Or.inl ⟨c, rfl, hc, _, _, hS4⟩⟩
    · obtain ⟨ea, hq2, hT2⟩ := hN2
      dsimp only at ea hq2 hT2
      subst ea
      have hu2 := lb_nu_up hq1 hv2
      have k : nt_rn X _ 99 (50, [(0, .ref Yr)], [.int (a2), .int (nI u.2.2.1), .ref (Rw 7)], me_w M J2) _ := k
      have k := me_iastx rfl k
      have hS2 := yc_Sr (i := 7) (j := (nI u.2.2.1).toNatClampNeg) (x := a2) hP hT2 (by decide) (by decide) (lb_ix1 hub)
      have k : nt_rn X _ 99 (51, [(0, .ref Yr)], [], me_w M (nt_u J2 (Rw 7) (nI u.2.2.1).toNatClampNeg (a2))) _ := k
      have k := ly_revb 1 (c' := (52, [(0, .ref Yr)], [.ref Yr], me_w M (nt_u J2 (Rw 7) (nI u.2.2.1).toNatClampNeg (a2)))) rfl k
      have k := lz_get (a := Yr) (g := 901) (M := me_w M (nt_u J2 (Rw 7) (nI u.2.2.1).toNatClampNeg (a2))) (v := .ref Y) rfl (nt_gfR rfl hP.2.2.1.2) k
      have k := lz_get (a := Y) (g := 808) (M := me_w M (nt_u J2 (Rw 7) (nI u.2.2.1).toNatClampNeg (a2))) (v := .ref (Rw 8)) rfl (nt_gfR rfl (hP.2.2.2.2.1 8 (by decide) (by decide)).1) k
      have k := ly_revb 1 (c' := (59, [(0, .ref Yr)], [.ref Yr, .ref (Rw 8)], me_w M (nt_u J2 (Rw 7) (nI u.2.2.1).toNatClampNeg (a2)))) rfl k
      have k := lz_get (a := Yr) (g := 901) (M := me_w M (nt_u J2 (Rw 7) (nI u.2.2.1).toNatClampNeg (a2))) (v := .ref Y) rfl (nt_gfR rfl hP.2.2.1.2) k
      have k := lz_get (a := Y) (g := 802) (M := me_w M (nt_u J2 (Rw 7) (nI u.2.2.1).toNatClampNeg (a2))) (v := .int (nI u.2.2.1)) rfl (congrArg Value.int (hS2.2.2.1.2.2.1)) k
      have k := ly_revb 3 (c' := (68, [(0, .ref Yr)], [.ref Yr, .int (Int32.ofInt 0), .ref Yr, .int (nI u.2.2.1), .ref (Rw 8)], me_w M (nt_u J2 (Rw 7) (nI u.2.2.1).toNatClampNeg (a2)))) rfl k
      have k := lz_get (a := Yr) (g := 901) (M := me_w M (nt_u J2 (Rw 7) (nI u.2.2.1).toNatClampNeg (a2))) (v := .ref Y) rfl (nt_gfR rfl hP.2.2.1.2) k
      have k := lz_get (a := Y) (g := 801) (M := me_w M (nt_u J2 (Rw 7) (nI u.2.2.1).toNatClampNeg (a2))) (v := .int (nI u.2.1)) rfl (congrArg Value.int (hS2.2.2.1.2.1)) k
      have k := ly_revb 2 (c' := (76, [(0, .ref Yr)], [.int ((nI u.2.1) - (Int32.ofInt 1)), .int (Int32.ofInt 0), .ref Yr, .int (nI u.2.2.1), .ref (Rw 8)], me_w M (nt_u J2 (Rw 7) (nI u.2.2.1).toNatClampNeg (a2)))) rfl k
      obtain ⟨d1, o1, ed, kc, k⟩ := lz_c (g := 97) (q := 1) (vs := [.ref Yr, .int (Int32.ofInt 0), .int ((nI u.2.1) - (Int32.ofInt 1))]) (rest := [.int (nI u.2.2.1), .ref (Rw 8)]) rfl rfl (by decide) (Or.inr (Or.inl ⟨_, rfl, rfl⟩)) rfl k
      obtain ⟨r3, a3, J3, e1, hv3, hN3⟩ := yc_num hP hS2 hq2 (by decide) kc
      subst e1
      rcases r3 with c | ⟨q3, x3⟩
      · obtain ⟨hc, rfl, hT3⟩ := hN3
        have k : nt_rn X _ 99 (79, [(0, .ref Yr)], [.int (Int32.ofInt 0), .int (nI u.2.2.1), .ref (Rw 8)], me_w M J3) _ := k
        have k := me_iastx rfl k
        have hS3 := yc_Sr (i := 8) (j := (nI u.2.2.1).toNatClampNeg) (x := Int32.ofInt 0) hP hT3 (by decide) (by decide) (lb_ix1 hub)
        have k : nt_rn X _ 99 (80, [(0, .ref Yr)], [], me_w M (nt_u J3 (Rw 8) (nI u.2.2.1).toNatClampNeg (Int32.ofInt 0))) _ := k
        have k := ly_revb 1 (c' := (81, [(0, .ref Yr)], [.ref Yr], me_w M (nt_u J3 (Rw 8) (nI u.2.2.1).toNatClampNeg (Int32.ofInt 0)))) rfl k
        have k := lz_get (a := Yr) (g := 901) (M := me_w M (nt_u J3 (Rw 8) (nI u.2.2.1).toNatClampNeg (Int32.ofInt 0))) (v := .ref Y) rfl (nt_gfR rfl hP.2.2.1.2) k
        have k := ly_revb 1 (c' := (85, [(0, .ref Yr)], [.ref Y, .ref Y], me_w M (nt_u J3 (Rw 8) (nI u.2.2.1).toNatClampNeg (Int32.ofInt 0)))) rfl k
        have k := lz_get (a := Y) (g := 802) (M := me_w M (nt_u J3 (Rw 8) (nI u.2.2.1).toNatClampNeg (Int32.ofInt 0))) (v := .int (nI u.2.2.1)) rfl (congrArg Value.int (hS3.2.2.1.2.2.1)) k
        have k := ly_revb 2 (c' := (90, [(0, .ref Yr)], [.int ((nI u.2.2.1) + (Int32.ofInt 1)), .ref Y], me_w M (nt_u J3 (Rw 8) (nI u.2.2.1).toNatClampNeg (Int32.ofInt 0)))) rfl k
        rw [show ((nI u.2.2.1) + (Int32.ofInt 1) : Int32) = nI (u.2.2.1 + 1) from me_add (k := 1)] at k
        have k := me_put rfl (by decide) k
        have k : nt_rn X _ 99 (93, [(0, .ref Yr)], [], me_w M (nt_u (nt_u J3 (Rw 8) (nI u.2.2.1).toNatClampNeg (Int32.ofInt 0)) Y 2 (nI (u.2.2.1 + 1)))) _ := k
        have hS4 := yc_S2 (y := u.2.2.1 + 1) hP hS3
        have k := lz_rv rfl rfl k
        exact ⟨.inl c, _, k, ⟨_, hv1, Or.inr ⟨_, _, rfl, ⟨_, hv2, Or.inr ⟨_, _, rfl, ⟨_, hv3, Or.inl ⟨c, rfl, rfl⟩⟩⟩⟩⟩⟩, Or.inl ⟨c, rfl, hc, _, _, hS4⟩⟩
      · obtain ⟨ea, hq3, hT3⟩ := hN3
        dsimp only at ea hq3 hT3
        subst ea
        have hu3 := lb_nu_up hq2 hv3
        have k : nt_rn X _ 99 (79, [(0, .ref Yr)], [.int (a3), .int (nI u.2.2.1), .ref (Rw 8)], me_w M J3) _ := k
        have k := me_iastx rfl k
        have hS3 := yc_Sr (i := 8) (j := (nI u.2.2.1).toNatClampNeg) (x := a3) hP hT3 (by decide) (by decide) (lb_ix1 hub)
        have k : nt_rn X _ 99 (80, [(0, .ref Yr)], [], me_w M (nt_u J3 (Rw 8) (nI u.2.2.1).toNatClampNeg (a3))) _ := k
        have k := ly_revb 1 (c' := (81, [(0, .ref Yr)], [.ref Yr], me_w M (nt_u J3 (Rw 8) (nI u.2.2.1).toNatClampNeg (a3)))) rfl k
        have k := lz_get (a := Yr) (g := 901) (M := me_w M (nt_u J3 (Rw 8) (nI u.2.2.1).toNatClampNeg (a3))) (v := .ref Y) rfl (nt_gfR rfl hP.2.2.1.2) k
        have k := ly_revb 1 (c' := (85, [(0, .ref Yr)], [.ref Y, .ref Y], me_w M (nt_u J3 (Rw 8) (nI u.2.2.1).toNatClampNeg (a3)))) rfl k
        have k := lz_get (a := Y) (g := 802) (M := me_w M (nt_u J3 (Rw 8) (nI u.2.2.1).toNatClampNeg (a3))) (v := .int (nI u.2.2.1)) rfl (congrArg Value.int (hS3.2.2.1.2.2.1)) k
        have k := ly_revb 2 (c' := (90, [(0, .ref Yr)], [.int ((nI u.2.2.1) + (Int32.ofInt 1)), .ref Y], me_w M (nt_u J3 (Rw 8) (nI u.2.2.1).toNatClampNeg (a3)))) rfl k
        rw [show ((nI u.2.2.1) + (Int32.ofInt 1) : Int32) = nI (u.2.2.1 + 1) from me_add (k := 1)] at k
        have k := me_put rfl (by decide) k
        have k : nt_rn X _ 99 (93, [(0, .ref Yr)], [], me_w M (nt_u (nt_u J3 (Rw 8) (nI u.2.2.1).toNatClampNeg (a3)) Y 2 (nI (u.2.2.1 + 1)))) _ := k
        have hS4 := yc_S2 (y := u.2.2.1 + 1) hP hS3
        have k := lz_rv rfl rfl k
        exact ⟨.inr q3, _, k, ⟨_, hv1, Or.inr ⟨_, _, rfl, ⟨_, hv2, Or.inr ⟨_, _, rfl, ⟨_, hv3, Or.inr ⟨_, _, rfl, rfl⟩⟩⟩⟩⟩⟩, Or.inr ⟨_, _, rfl, hq3, ⟨_, _, _, _, _, hv1, hv2, hv3, rfl⟩, hS4⟩⟩
theorem yc_x1 {x : Int32} (h0 : (Int32.ofInt 0).toInt ≤ x.toInt) (h1 : x.toInt ≤ (Int32.ofInt 98).toInt) : 0 ≤ (x + Int32.ofInt 1).toInt := by
  have e0 : (Int32.ofInt 0).toInt = 0 := by decide
  have e1 : (Int32.ofInt 1).toInt = 1 := by decide
  have e9 : (Int32.ofInt 98).toInt = 98 := by decide
  rw [e0] at h0
  rw [e9] at h1
  rw [Int32.toInt_add, e1, Int.bmod_eq_of_le (by omega) (by omega)]
  omega
theorem yc_voyage {X : nt_X} {d t Rd Tp By RR Sp Yr Y m0 s0 : Nat} {Rw : Nat → Nat} {f : Nat → Int32} {M : nt_M} {o : Option Value × nt_M} {C : lb_C} {p : Nat} {u : Nat × Nat × Nat × Nat × Nat} {J : Nat → Nat → Int32} (hP : yc_P M t Rd Tp By RR Sp Yr Y Rw) (hS : yc_S Rw C f t Rd Tp By RR Y m0 s0 p 0 u J) (hub : u.2.2.2.1 < 1000) (hp : p ≤ t) (k : nt_ev X d 100 [.ref Yr] (me_w M J) o) : ∃ r J', o = (none, me_w M J') ∧ lb_vo f t u.2.1 p r ∧ ((∃ c, r = .inl c ∧ c ≠ 0 ∧ ∃ u' D, yc_S Rw D f t Rd Tp By RR Y m0 s0 t c (u') (J')) ∨ ∃ q D, r = .inr q ∧ q ≤ t ∧ lb_voC f t u.2.1 p u.2.2.2.1 q C D ∧ yc_S Rw D f t Rd Tp By RR Y m0 s0 q 0 (u.1, u.2.1, u.2.2.1, u.2.2.2.1 + 1, u.2.2.2.2) (J')) := by
  have k : nt_rn X d 100 (0, [(0, .ref Yr)], [], me_w M J) o := k
  have t4 : t ≤ 400 := hP.2.2.2.2.2.1
  have k := ly_revb 1 (c' := (1, [(0, .ref Yr)], [.ref Yr], me_w M J)) rfl k
  have k := lz_get (a := Yr) (g := 901) (M := me_w M J) (v := .ref Y) rfl (nt_gfR rfl hP.2.2.1.2) k
  have k := lz_get (a := Y) (g := 809) (M := me_w M J) (v := .ref (Rw 9)) rfl (nt_gfR rfl (hP.2.2.2.2.1 9 (by decide) (by decide)).1) k
  have k := ly_revb 1 (c' := (8, [(0, .ref Yr)], [.ref Yr, .ref (Rw 9)], me_w M J)) rfl k
  have k := lz_get (a := Yr) (g := 901) (M := me_w M J) (v := .ref Y) rfl (nt_gfR rfl hP.2.2.1.2) k
  have k := lz_get (a := Y) (g := 803) (M := me_w M J) (v := .int (nI u.2.2.2.1)) rfl (congrArg Value.int (hS.2.2.1.2.2.2.1)) k
  have k := ly_revb 3 (c' := (17, [(0, .ref Yr)], [.ref Yr, .int (Int32.ofInt 0), .ref Yr, .int (nI u.2.2.2.1), .ref (Rw 9)], me_w M J)) rfl k
  have k := lz_get (a := Yr) (g := 901) (M := me_w M J) (v := .ref Y) rfl (nt_gfR rfl hP.2.2.1.2) k
  have k := lz_get (a := Y) (g := 801) (M := me_w M J) (v := .int (nI u.2.1)) rfl (congrArg Value.int (hS.2.2.1.2.1)) k
  have k := ly_revb 2 (c' := (25, [(0, .ref Yr)], [.int ((nI u.2.1) - (Int32.ofInt 1)), .int (Int32.ofInt 0), .ref Yr, .int (nI u.2.2.2.1), .ref (Rw 9)], me_w M J)) rfl k
  obtain ⟨d1, o1, ed, kc, k⟩ := lz_c (g := 97) (q := 1) (vs := [.ref Yr, .int (Int32.ofInt 0), .int ((nI u.2.1) - (Int32.ofInt 1))]) (rest := [.int (nI u.2.2.2.1), .ref (Rw 9)]) rfl rfl (by decide) (Or.inr (Or.inl ⟨_, rfl, rfl⟩)) rfl k
  obtain ⟨r1, a1, J1, e1, hv1, hN1⟩ := yc_num hP hS hp (by decide) kc
  subst e1
  rcases r1 with c | ⟨q1, x1⟩
  · obtain ⟨hc, rfl, hT1⟩ := hN1
    have k : nt_rn X _ 100 (28, [(0, .ref Yr)], [.int (Int32.ofInt 0), .int (nI u.2.2.2.1), .ref (Rw 9)], me_w M J1) _ := k
    have k := me_iastx rfl k
    have hS1 := yc_Sr (i := 9) (j := (nI u.2.2.2.1).toNatClampNeg) (x := Int32.ofInt 0) hP hT1 (by decide) (by decide) (lb_ix1 hub)
    have k : nt_rn X _ 100 (29, [(0, .ref Yr)], [], me_w M (nt_u J1 (Rw 9) (nI u.2.2.2.1).toNatClampNeg (Int32.ofInt 0))) _ := k
    have k := ly_revb 3 (c' := (33, [(0, .ref Yr)], [.int (Int32.ofInt 98), .int (Int32.ofInt 0), .ref Yr], me_w M (nt_u J1 (Rw 9) (nI u.2.2.2.1).toNatClampNeg (Int32.ofInt 0)))) rfl k
    obtain ⟨d1, o1, ed, kc, k⟩ := lz_c (g := 97) (q := 1) (vs := [.ref Yr, .int (Int32.ofInt 0), .int (Int32.ofInt 98)]) (rest := []) rfl rfl (by decide) (Or.inr (Or.inl ⟨_, rfl, rfl⟩)) rfl k
    obtain ⟨J2, e1, hT2⟩ := yc_numF hP hS1 hc kc
    subst e1
    have k : nt_rn X _ 100 (36, [(0, .ref Yr)], [.int (Int32.ofInt 0)], me_w M J2) _ := k
    have k := ly_revb 2 (c' := (38, [(1, .int (Int32.ofInt 0)), (0, .ref Yr)], [.ref Yr], me_w M J2)) rfl k
    have k := lz_get (a := Yr) (g := 901) (M := me_w M J2) (v := .ref Y) rfl (nt_gfR rfl hP.2.2.1.2) k
    have k := lz_get (a := Y) (g := 810) (M := me_w M J2) (v := .ref (Rw 10)) rfl (nt_gfR rfl (hP.2.2.2.2.1 10 (by decide) (by decide)).1) k
    have k := ly_revb 1 (c' := (45, [(1, .int (Int32.ofInt 0)), (0, .ref Yr)], [.ref Yr, .ref (Rw 10)], me_w M J2)) rfl k
    have k := lz_get (a := Yr) (g := 901) (M := me_w M J2) (v := .ref Y) rfl (nt_gfR rfl hP.2.2.1.2) k
    have k := lz_get (a := Y) (g := 803) (M := me_w M J2) (v := .int (nI u.2.2.2.1)) rfl (congrArg Value.int (hT2.2.2.1.2.2.2.1)) k
    have k := ly_revb 1 (c' := (52, [(1, .int (Int32.ofInt 0)), (0, .ref Yr)], [.int (Int32.ofInt 0), .int (nI u.2.2.2.1), .ref (Rw 10)], me_w M J2)) rfl k
    have k := me_iastx rfl k
    have hS2 := yc_Sr (i := 10) (j := (nI u.2.2.2.1).toNatClampNeg) (x := Int32.ofInt 0) hP hT2 (by decide) (by decide) (lb_ix1 hub)
    have k : nt_rn X _ 100 (53, [(1, .int (Int32.ofInt 0)), (0, .ref Yr)], [], me_w M (nt_u J2 (Rw 10) (nI u.2.2.2.1).toNatClampNeg (Int32.ofInt 0))) _ := k
    have k := ly_revb 1 (c' := (54, [(1, .int (Int32.ofInt 0)), (0, .ref Yr)], [.ref Yr], me_w M (nt_u J2 (Rw 10) (nI u.2.2.2.1).toNatClampNeg (Int32.ofInt 0)))) rfl k
    have k := lz_get (a := Yr) (g := 901) (M := me_w M (nt_u J2 (Rw 10) (nI u.2.2.2.1).toNatClampNeg (Int32.ofInt 0))) (v := .ref Y) rfl (nt_gfR rfl hP.2.2.1.2) k
    have k := lz_get (a := Y) (g := 811) (M := me_w M (nt_u J2 (Rw 10) (nI u.2.2.2.1).toNatClampNeg (Int32.ofInt 0))) (v := .ref (Rw 11)) rfl (nt_gfR rfl (hP.2.2.2.2.1 11 (by decide) (by decide)).1) k
    have k := ly_revb 1 (c' := (61, [(1, .int (Int32.ofInt 0)), (0, .ref Yr)], [.ref Yr, .ref (Rw 11)], me_w M (nt_u J2 (Rw 10) (nI u.2.2.2.1).toNatClampNeg (Int32.ofInt 0)))) rfl k
    have k := lz_get (a := Yr) (g := 901) (M := me_w M (nt_u J2 (Rw 10) (nI u.2.2.2.1).toNatClampNeg (Int32.ofInt 0))) (v := .ref Y) rfl (nt_gfR rfl hP.2.2.1.2) k
    have k := lz_get (a := Y) (g := 803) (M := me_w M (nt_u J2 (Rw 10) (nI u.2.2.2.1).toNatClampNeg (Int32.ofInt 0))) (v := .int (nI u.2.2.2.1)) rfl (congrArg Value.int (hS2.2.2.1.2.2.2.1)) k
    have k := ly_revb 5 (c' := (73, [(1, .int (Int32.ofInt 0)), (0, .ref Yr)], [.int (Int32.ofInt 99), .int ((Int32.ofInt 0) + (Int32.ofInt 1)), .ref Yr, .int (nI u.2.2.2.1), .ref (Rw 11)], me_w M (nt_u J2 (Rw 10) (nI u.2.2.2.1).toNatClampNeg (Int32.ofInt 0)))) rfl k
    obtain ⟨d1, o1, ed, kc, k⟩ := lz_c (g := 97) (q := 1) (vs := [.ref Yr, .int ((Int32.ofInt 0) + (Int32.ofInt 1)), .int (Int32.ofInt 99)]) (rest := [.int (nI u.2.2.2.1), .ref (Rw 11)]) rfl rfl (by decide) (Or.inr (Or.inl ⟨_, rfl, rfl⟩)) rfl k
    obtain ⟨J3, e1, hT3⟩ := yc_numF hP hS2 hc kc
    subst e1
    have k : nt_rn X _ 100 (76, [(1, .int (Int32.ofInt 0)), (0, .ref Yr)], [.int (Int32.ofInt 0), .int (nI u.2.2.2.1), .ref (Rw 11)], me_w M J3) _ := k
    have k := me_iastx rfl k
    have hS3 := yc_Sr (i := 11) (j := (nI u.2.2.2.1).toNatClampNeg) (x := Int32.ofInt 0) hP hT3 (by decide) (by decide) (lb_ix1 hub)
    have k : nt_rn X _ 100 (77, [(1, .int (Int32.ofInt 0)), (0, .ref Yr)], [], me_w M (nt_u J3 (Rw 11) (nI u.2.2.2.1).toNatClampNeg (Int32.ofInt 0))) _ := k
    have k := ly_revb 1 (c' := (78, [(1, .int (Int32.ofInt 0)), (0, .ref Yr)], [.ref Yr], me_w M (nt_u J3 (Rw 11) (nI u.2.2.2.1).toNatClampNeg (Int32.ofInt 0)))) rfl k
    have k := lz_get (a := Yr) (g := 901) (M := me_w M (nt_u J3 (Rw 11) (nI u.2.2.2.1).toNatClampNeg (Int32.ofInt 0))) (v := .ref Y) rfl (nt_gfR rfl hP.2.2.1.2) k
    have k := lz_get (a := Y) (g := 812) (M := me_w M (nt_u J3 (Rw 11) (nI u.2.2.2.1).toNatClampNeg (Int32.ofInt 0))) (v := .ref (Rw 12)) rfl (nt_gfR rfl (hP.2.2.2.2.1 12 (by decide) (by decide)).1) k
    have k := ly_revb 1 (c' := (85, [(1, .int (Int32.ofInt 0)), (0, .ref Yr)], [.ref Yr, .ref (Rw 12)], me_w M (nt_u J3 (Rw 11) (nI u.2.2.2.1).toNatClampNeg (Int32.ofInt 0)))) rfl k
    have k := lz_get (a := Yr) (g := 901) (M := me_w M (nt_u J3 (Rw 11) (nI u.2.2.2.1).toNatClampNeg (Int32.ofInt 0))) (v := .ref Y) rfl (nt_gfR rfl hP.2.2.1.2) k
    have k := lz_get (a := Y) (g := 803) (M := me_w M (nt_u J3 (Rw 11) (nI u.2.2.2.1).toNatClampNeg (Int32.ofInt 0))) (v := .int (nI u.2.2.2.1)) rfl (congrArg Value.int (hS3.2.2.1.2.2.2.1)) k
    have k := ly_revb 3 (c' := (96, [(1, .int (Int32.ofInt 0)), (0, .ref Yr)], [.int (Int32.ofInt 999), .int (Int32.ofInt 0), .ref Yr, .int (nI u.2.2.2.1), .ref (Rw 12)], me_w M (nt_u J3 (Rw 11) (nI u.2.2.2.1).toNatClampNeg (Int32.ofInt 0)))) rfl k
    obtain ⟨d1, o1, ed, kc, k⟩ := lz_c (g := 97) (q := 1) (vs := [.ref Yr, .int (Int32.ofInt 0), .int (Int32.ofInt 999)]) (rest := [.int (nI u.2.2.2.1), .ref (Rw 12)]) rfl rfl (by decide) (Or.inr (Or.inl ⟨_, rfl, rfl⟩)) rfl k
    obtain ⟨J4, e1, hT4⟩ := yc_numF hP hS3 hc kc
    subst e1
    have k : nt_rn X _ 100 (99, [(1, .int (Int32.ofInt 0)), (0, .ref Yr)], [.int (Int32.ofInt 0), .int (nI u.2.2.2.1), .ref (Rw 12)], me_w M J4) _ := k
    have k := me_iastx rfl k
    have hS4 := yc_Sr (i := 12) (j := (nI u.2.2.2.1).toNatClampNeg) (x := Int32.ofInt 0) hP hT4 (by decide) (by decide) (lb_ix1 hub)
    have k : nt_rn X _ 100 (100, [(1, .int (Int32.ofInt 0)), (0, .ref Yr)], [], me_w M (nt_u J4 (Rw 12) (nI u.2.2.2.1).toNatClampNeg (Int32.ofInt 0))) _ := k
    have k := ly_revb 1 (c' := (101, [(1, .int (Int32.ofInt 0)), (0, .ref Yr)], [.ref Yr], me_w M (nt_u J4 (Rw 12) (nI u.2.2.2.1).toNatClampNeg (Int32.ofInt 0)))) rfl k
    have k := lz_get (a := Yr) (g := 901) (M := me_w M (nt_u J4 (Rw 12) (nI u.2.2.2.1).toNatClampNeg (Int32.ofInt 0))) (v := .ref Y) rfl (nt_gfR rfl hP.2.2.1.2) k
    have k := ly_revb 1 (c' := (105, [(1, .int (Int32.ofInt 0)), (0, .ref Yr)], [.ref Y, .ref Y], me_w M (nt_u J4 (Rw 12) (nI u.2.2.2.1).toNatClampNeg (Int32.ofInt 0)))) rfl k
    have k := lz_get (a := Y) (g := 803) (M := me_w M (nt_u J4 (Rw 12) (nI u.2.2.2.1).toNatClampNeg (Int32.ofInt 0))) (v := .int (nI u.2.2.2.1)) rfl (congrArg Value.int (hS4.2.2.1.2.2.2.1)) k
    have k := ly_revb 2 (c' := (110, [(1, .int (Int32.ofInt 0)), (0, .ref Yr)], [.int ((nI u.2.2.2.1) + (Int32.ofInt 1)), .ref Y], me_w M (nt_u J4 (Rw 12) (nI u.2.2.2.1).toNatClampNeg (Int32.ofInt 0)))) rfl k
    rw [show ((nI u.2.2.2.1) + (Int32.ofInt 1) : Int32) = nI (u.2.2.2.1 + 1) from me_add (k := 1)] at k
    have k := me_put rfl (by decide) k
    have k : nt_rn X _ 100 (113, [(1, .int (Int32.ofInt 0)), (0, .ref Yr)], [], me_w M (nt_u (nt_u J4 (Rw 12) (nI u.2.2.2.1).toNatClampNeg (Int32.ofInt 0)) Y 3 (nI (u.2.2.2.1 + 1)))) _ := k
    have hS5 := yc_S3 (y := u.2.2.2.1 + 1) hP hS4
    have k := lz_rv rfl rfl k
    exact ⟨.inl c, _, k, ⟨_, hv1, Or.inl ⟨c, rfl, rfl⟩⟩, Or.inl ⟨c, rfl, hc, _, _, hS5⟩⟩
  · obtain ⟨ea, hq1, hT1⟩ := hN1
    dsimp only at ea hq1 hT1
    subst ea
    have hu1 := lb_nu_up hp hv1
    have k : nt_rn X _ 100 (28, [(0, .ref Yr)], [.int (a1), .int (nI u.2.2.2.1), .ref (Rw 9)], me_w M J1) _ := k
    have k := me_iastx rfl k
    have hS1 := yc_Sr (i := 9) (j := (nI u.2.2.2.1).toNatClampNeg) (x := a1) hP hT1 (by decide) (by decide) (lb_ix1 hub)
    have k : nt_rn X _ 100 (29, [(0, .ref Yr)], [], me_w M (nt_u J1 (Rw 9) (nI u.2.2.2.1).toNatClampNeg (a1))) _ := k
    have k := ly_revb 3 (c' := (33, [(0, .ref Yr)], [.int (Int32.ofInt 98), .int (Int32.ofInt 0), .ref Yr], me_w M (nt_u J1 (Rw 9) (nI u.2.2.2.1).toNatClampNeg (a1)))) rfl k
    obtain ⟨d1, o1, ed, kc, k⟩ := lz_c (g := 97) (q := 1) (vs := [.ref Yr, .int (Int32.ofInt 0), .int (Int32.ofInt 98)]) (rest := []) rfl rfl (by decide) (Or.inr (Or.inl ⟨_, rfl, rfl⟩)) rfl k
    obtain ⟨r2, a2, J2, e1, hv2, hN2⟩ := yc_num hP hS1 hq1 (by decide) kc
    subst e1
    rcases r2 with c | ⟨q2, x2⟩
    · obtain ⟨hc, rfl, hT2⟩ := hN2
      have k : nt_rn X _ 100 (36, [(0, .ref Yr)], [.int (Int32.ofInt 0)], me_w M J2) _ := k
      have k := ly_revb 2 (c' := (38, [(1, .int (Int32.ofInt 0)), (0, .ref Yr)], [.ref Yr], me_w M J2)) rfl k
      have k := lz_get (a := Yr) (g := 901) (M := me_w M J2) (v := .ref Y) rfl (nt_gfR rfl hP.2.2.1.2) k
      have k := lz_get (a := Y) (g := 810) (M := me_w M J2) (v := .ref (Rw 10)) rfl (nt_gfR rfl (hP.2.2.2.2.1 10 (by decide) (by decide)).1) k
      have k := ly_revb 1 (c' := (45, [(1, .int (Int32.ofInt 0)), (0, .ref Yr)], [.ref Yr, .ref (Rw 10)], me_w M J2)) rfl k
      have k := lz_get (a := Yr) (g := 901) (M := me_w M J2) (v := .ref Y) rfl (nt_gfR rfl hP.2.2.1.2) k
      have k := lz_get (a := Y) (g := 803) (M := me_w M J2) (v := .int (nI u.2.2.2.1)) rfl (congrArg Value.int (hT2.2.2.1.2.2.2.1)) k
      have k := ly_revb 1 (c' := (52, [(1, .int (Int32.ofInt 0)), (0, .ref Yr)], [.int (Int32.ofInt 0), .int (nI u.2.2.2.1), .ref (Rw 10)], me_w M J2)) rfl k
      have k := me_iastx rfl k
      have hS2 := yc_Sr (i := 10) (j := (nI u.2.2.2.1).toNatClampNeg) (x := Int32.ofInt 0) hP hT2 (by decide) (by decide) (lb_ix1 hub)
      have k : nt_rn X _ 100 (53, [(1, .int (Int32.ofInt 0)), (0, .ref Yr)], [], me_w M (nt_u J2 (Rw 10) (nI u.2.2.2.1).toNatClampNeg (Int32.ofInt 0))) _ := k
      have k := ly_revb 1 (c' := (54, [(1, .int (Int32.ofInt 0)), (0, .ref Yr)], [.ref Yr], me_w M (nt_u J2 (Rw 10) (nI u.2.2.2.1).toNatClampNeg (Int32.ofInt 0)))) rfl k
      have k := lz_get (a := Yr) (g := 901) (M := me_w M (nt_u J2 (Rw 10) (nI u.2.2.2.1).toNatClampNeg (Int32.ofInt 0))) (v := .ref Y) rfl (nt_gfR rfl hP.2.2.1.2) k
      have k := lz_get (a := Y) (g := 811) (M := me_w M (nt_u J2 (Rw 10) (nI u.2.2.2.1).toNatClampNeg (Int32.ofInt 0))) (v := .ref (Rw 11)) rfl (nt_gfR rfl (hP.2.2.2.2.1 11 (by decide) (by decide)).1) k
      have k := ly_revb 1 (c' := (61, [(1, .int (Int32.ofInt 0)), (0, .ref Yr)], [.ref Yr, .ref (Rw 11)], me_w M (nt_u J2 (Rw 10) (nI u.2.2.2.1).toNatClampNeg (Int32.ofInt 0)))) rfl k
      have k := lz_get (a := Yr) (g := 901) (M := me_w M (nt_u J2 (Rw 10) (nI u.2.2.2.1).toNatClampNeg (Int32.ofInt 0))) (v := .ref Y) rfl (nt_gfR rfl hP.2.2.1.2) k
      have k := lz_get (a := Y) (g := 803) (M := me_w M (nt_u J2 (Rw 10) (nI u.2.2.2.1).toNatClampNeg (Int32.ofInt 0))) (v := .int (nI u.2.2.2.1)) rfl (congrArg Value.int (hS2.2.2.1.2.2.2.1)) k
      have k := ly_revb 5 (c' := (73, [(1, .int (Int32.ofInt 0)), (0, .ref Yr)], [.int (Int32.ofInt 99), .int ((Int32.ofInt 0) + (Int32.ofInt 1)), .ref Yr, .int (nI u.2.2.2.1), .ref (Rw 11)], me_w M (nt_u J2 (Rw 10) (nI u.2.2.2.1).toNatClampNeg (Int32.ofInt 0)))) rfl k
      obtain ⟨d1, o1, ed, kc, k⟩ := lz_c (g := 97) (q := 1) (vs := [.ref Yr, .int ((Int32.ofInt 0) + (Int32.ofInt 1)), .int (Int32.ofInt 99)]) (rest := [.int (nI u.2.2.2.1), .ref (Rw 11)]) rfl rfl (by decide) (Or.inr (Or.inl ⟨_, rfl, rfl⟩)) rfl k
      obtain ⟨J3, e1, hT3⟩ := yc_numF hP hS2 hc kc
      subst e1
      have k : nt_rn X _ 100 (76, [(1, .int (Int32.ofInt 0)), (0, .ref Yr)], [.int (Int32.ofInt 0), .int (nI u.2.2.2.1), .ref (Rw 11)], me_w M J3) _ := k
      have k := me_iastx rfl k
      have hS3 := yc_Sr (i := 11) (j := (nI u.2.2.2.1).toNatClampNeg) (x := Int32.ofInt 0) hP hT3 (by decide) (by decide) (lb_ix1 hub)
      have k : nt_rn X _ 100 (77, [(1, .int (Int32.ofInt 0)), (0, .ref Yr)], [], me_w M (nt_u J3 (Rw 11) (nI u.2.2.2.1).toNatClampNeg (Int32.ofInt 0))) _ := k
      have k := ly_revb 1 (c' := (78, [(1, .int (Int32.ofInt 0)), (0, .ref Yr)], [.ref Yr], me_w M (nt_u J3 (Rw 11) (nI u.2.2.2.1).toNatClampNeg (Int32.ofInt 0)))) rfl k
      have k := lz_get (a := Yr) (g := 901) (M := me_w M (nt_u J3 (Rw 11) (nI u.2.2.2.1).toNatClampNeg (Int32.ofInt 0))) (v := .ref Y) rfl (nt_gfR rfl hP.2.2.1.2) k
      have k := lz_get (a := Y) (g := 812) (M := me_w M (nt_u J3 (Rw 11) (nI u.2.2.2.1).toNatClampNeg (Int32.ofInt 0))) (v := .ref (Rw 12)) rfl (nt_gfR rfl (hP.2.2.2.2.1 12 (by decide) (by decide)).1) k
      have k := ly_revb 1 (c' := (85, [(1, .int (Int32.ofInt 0)), (0, .ref Yr)], [.ref Yr, .ref (Rw 12)], me_w M (nt_u J3 (Rw 11) (nI u.2.2.2.1).toNatClampNeg (Int32.ofInt 0)))) rfl k
      have k := lz_get (a := Yr) (g := 901) (M := me_w M (nt_u J3 (Rw 11) (nI u.2.2.2.1).toNatClampNeg (Int32.ofInt 0))) (v := .ref Y) rfl (nt_gfR rfl hP.2.2.1.2) k
      have k := lz_get (a := Y) (g := 803) (M := me_w M (nt_u J3 (Rw 11) (nI u.2.2.2.1).toNatClampNeg (Int32.ofInt 0))) (v := .int (nI u.2.2.2.1)) rfl (congrArg Value.int (hS3.2.2.1.2.2.2.1)) k
      have k := ly_revb 3 (c' := (96, [(1, .int (Int32.ofInt 0)), (0, .ref Yr)], [.int (Int32.ofInt 999), .int (Int32.ofInt 0), .ref Yr, .int (nI u.2.2.2.1), .ref (Rw 12)], me_w M (nt_u J3 (Rw 11) (nI u.2.2.2.1).toNatClampNeg (Int32.ofInt 0)))) rfl k
      obtain ⟨d1, o1, ed, kc, k⟩ := lz_c (g := 97) (q := 1) (vs := [.ref Yr, .int (Int32.ofInt 0), .int (Int32.ofInt 999)]) (rest := [.int (nI u.2.2.2.1), .ref (Rw 12)]) rfl rfl (by decide) (Or.inr (Or.inl ⟨_, rfl, rfl⟩)) rfl k
      obtain ⟨J4, e1, hT4⟩ := yc_numF hP hS3 hc kc
      subst e1
      have k : nt_rn X _ 100 (99, [(1, .int (Int32.ofInt 0)), (0, .ref Yr)], [.int (Int32.ofInt 0), .int (nI u.2.2.2.1), .ref (Rw 12)], me_w M J4) _ := k
      have k := me_iastx rfl k
      have hS4 := yc_Sr (i := 12) (j := (nI u.2.2.2.1).toNatClampNeg) (x := Int32.ofInt 0) hP hT4 (by decide) (by decide) (lb_ix1 hub)
      have k : nt_rn X _ 100 (100, [(1, .int (Int32.ofInt 0)), (0, .ref Yr)], [], me_w M (nt_u J4 (Rw 12) (nI u.2.2.2.1).toNatClampNeg (Int32.ofInt 0))) _ := k
      have k := ly_revb 1 (c' := (101, [(1, .int (Int32.ofInt 0)), (0, .ref Yr)], [.ref Yr], me_w M (nt_u J4 (Rw 12) (nI u.2.2.2.1).toNatClampNeg (Int32.ofInt 0)))) rfl k
      have k := lz_get (a := Yr) (g := 901) (M := me_w M (nt_u J4 (Rw 12) (nI u.2.2.2.1).toNatClampNeg (Int32.ofInt 0))) (v := .ref Y) rfl (nt_gfR rfl hP.2.2.1.2) k
      have k := ly_revb 1 (c' := (105, [(1, .int (Int32.ofInt 0)), (0, .ref Yr)], [.ref Y, .ref Y], me_w M (nt_u J4 (Rw 12) (nI u.2.2.2.1).toNatClampNeg (Int32.ofInt 0)))) rfl k
      have k := lz_get (a := Y) (g := 803) (M := me_w M (nt_u J4 (Rw 12) (nI u.2.2.2.1).toNatClampNeg (Int32.ofInt 0))) (v := .int (nI u.2.2.2.1)) rfl (congrArg Value.int (hS4.2.2.1.2.2.2.1)) k
      have k := ly_revb 2 (c' := (110, [(1, .int (Int32.ofInt 0)), (0, .ref Yr)], [.int ((nI u.2.2.2.1) + (Int32.ofInt 1)), .ref Y], me_w M (nt_u J4 (Rw 12) (nI u.2.2.2.1).toNatClampNeg (Int32.ofInt 0)))) rfl k
      rw [show ((nI u.2.2.2.1) + (Int32.ofInt 1) : Int32) = nI (u.2.2.2.1 + 1) from me_add (k := 1)] at k
      have k := me_put rfl (by decide) k
      have k : nt_rn X _ 100 (113, [(1, .int (Int32.ofInt 0)), (0, .ref Yr)], [], me_w M (nt_u (nt_u J4 (Rw 12) (nI u.2.2.2.1).toNatClampNeg (Int32.ofInt 0)) Y 3 (nI (u.2.2.2.1 + 1)))) _ := k
      have hS5 := yc_S3 (y := u.2.2.2.1 + 1) hP hS4
      have k := lz_rv rfl rfl k
      exact ⟨.inl c, _, k, ⟨_, hv1, Or.inr ⟨_, _, rfl, ⟨_, hv2, Or.inl ⟨c, rfl, rfl⟩⟩⟩⟩, Or.inl ⟨c, rfl, hc, _, _, hS5⟩⟩
    · obtain ⟨ea, hq2, hT2⟩ := hN2
      dsimp only at ea hq2 hT2
      subst ea
      have hu2 := lb_nu_up hq1 hv2
      have k : nt_rn X _ 100 (36, [(0, .ref Yr)], [.int (a2)], me_w M J2) _ := k
      have k := ly_revb 2 (c' := (38, [(1, .int (a2)), (0, .ref Yr)], [.ref Yr], me_w M J2)) rfl k
      have k := lz_get (a := Yr) (g := 901) (M := me_w M J2) (v := .ref Y) rfl (nt_gfR rfl hP.2.2.1.2) k
      have k := lz_get (a := Y) (g := 810) (M := me_w M J2) (v := .ref (Rw 10)) rfl (nt_gfR rfl (hP.2.2.2.2.1 10 (by decide) (by decide)).1) k
      have k := ly_revb 1 (c' := (45, [(1, .int (a2)), (0, .ref Yr)], [.ref Yr, .ref (Rw 10)], me_w M J2)) rfl k
      have k := lz_get (a := Yr) (g := 901) (M := me_w M J2) (v := .ref Y) rfl (nt_gfR rfl hP.2.2.1.2) k
      have k := lz_get (a := Y) (g := 803) (M := me_w M J2) (v := .int (nI u.2.2.2.1)) rfl (congrArg Value.int (hT2.2.2.1.2.2.2.1)) k
      have k := ly_revb 1 (c' := (52, [(1, .int (a2)), (0, .ref Yr)], [.int (a2), .int (nI u.2.2.2.1), .ref (Rw 10)], me_w M J2)) rfl k
      have k := me_iastx rfl k
      have hS2 := yc_Sr (i := 10) (j := (nI u.2.2.2.1).toNatClampNeg) (x := a2) hP hT2 (by decide) (by decide) (lb_ix1 hub)
      have k : nt_rn X _ 100 (53, [(1, .int (a2)), (0, .ref Yr)], [], me_w M (nt_u J2 (Rw 10) (nI u.2.2.2.1).toNatClampNeg (a2))) _ := k
      have k := ly_revb 1 (c' := (54, [(1, .int (a2)), (0, .ref Yr)], [.ref Yr], me_w M (nt_u J2 (Rw 10) (nI u.2.2.2.1).toNatClampNeg (a2)))) rfl k
      have k := lz_get (a := Yr) (g := 901) (M := me_w M (nt_u J2 (Rw 10) (nI u.2.2.2.1).toNatClampNeg (a2))) (v := .ref Y) rfl (nt_gfR rfl hP.2.2.1.2) k
      have k := lz_get (a := Y) (g := 811) (M := me_w M (nt_u J2 (Rw 10) (nI u.2.2.2.1).toNatClampNeg (a2))) (v := .ref (Rw 11)) rfl (nt_gfR rfl (hP.2.2.2.2.1 11 (by decide) (by decide)).1) k
      have k := ly_revb 1 (c' := (61, [(1, .int (a2)), (0, .ref Yr)], [.ref Yr, .ref (Rw 11)], me_w M (nt_u J2 (Rw 10) (nI u.2.2.2.1).toNatClampNeg (a2)))) rfl k
      have k := lz_get (a := Yr) (g := 901) (M := me_w M (nt_u J2 (Rw 10) (nI u.2.2.2.1).toNatClampNeg (a2))) (v := .ref Y) rfl (nt_gfR rfl hP.2.2.1.2) k
      have k := lz_get (a := Y) (g := 803) (M := me_w M (nt_u J2 (Rw 10) (nI u.2.2.2.1).toNatClampNeg (a2))) (v := .int (nI u.2.2.2.1)) rfl (congrArg Value.int (hS2.2.2.1.2.2.2.1)) k
      have k := ly_revb 5 (c' := (73, [(1, .int (a2)), (0, .ref Yr)], [.int (Int32.ofInt 99), .int (a2 + (Int32.ofInt 1)), .ref Yr, .int (nI u.2.2.2.1), .ref (Rw 11)], me_w M (nt_u J2 (Rw 10) (nI u.2.2.2.1).toNatClampNeg (a2)))) rfl k
      obtain ⟨d1, o1, ed, kc, k⟩ := lz_c (g := 97) (q := 1) (vs := [.ref Yr, .int (a2 + (Int32.ofInt 1)), .int (Int32.ofInt 99)]) (rest := [.int (nI u.2.2.2.1), .ref (Rw 11)]) rfl rfl (by decide) (Or.inr (Or.inl ⟨_, rfl, rfl⟩)) rfl k
      obtain ⟨r3, a3, J3, e1, hv3, hN3⟩ := yc_num hP hS2 hq2 (yc_x1 hu2.2.1 hu2.2.2) kc
      subst e1
      rcases r3 with c | ⟨q3, x3⟩
      · obtain ⟨hc, rfl, hT3⟩ := hN3
        have k : nt_rn X _ 100 (76, [(1, .int (a2)), (0, .ref Yr)], [.int (Int32.ofInt 0), .int (nI u.2.2.2.1), .ref (Rw 11)], me_w M J3) _ := k
        have k := me_iastx rfl k
        have hS3 := yc_Sr (i := 11) (j := (nI u.2.2.2.1).toNatClampNeg) (x := Int32.ofInt 0) hP hT3 (by decide) (by decide) (lb_ix1 hub)
        have k : nt_rn X _ 100 (77, [(1, .int (a2)), (0, .ref Yr)], [], me_w M (nt_u J3 (Rw 11) (nI u.2.2.2.1).toNatClampNeg (Int32.ofInt 0))) _ := k
        have k := ly_revb 1 (c' := (78, [(1, .int (a2)), (0, .ref Yr)], [.ref Yr], me_w M (nt_u J3 (Rw 11) (nI u.2.2.2.1).toNatClampNeg (Int32.ofInt 0)))) rfl k
        have k := lz_get (a := Yr) (g := 901) (M := me_w M (nt_u J3 (Rw 11) (nI u.2.2.2.1).toNatClampNeg (Int32.ofInt 0))) (v := .ref Y) rfl (nt_gfR rfl hP.2.2.1.2) k
        have k := lz_get (a := Y) (g := 812) (M := me_w M (nt_u J3 (Rw 11) (nI u.2.2.2.1).toNatClampNeg (Int32.ofInt 0))) (v := .ref (Rw 12)) rfl (nt_gfR rfl (hP.2.2.2.2.1 12 (by decide) (by decide)).1) k
        have k := ly_revb 1 (c' := (85, [(1, .int (a2)), (0, .ref Yr)], [.ref Yr, .ref (Rw 12)], me_w M (nt_u J3 (Rw 11) (nI u.2.2.2.1).toNatClampNeg (Int32.ofInt 0)))) rfl k
        have k := lz_get (a := Yr) (g := 901) (M := me_w M (nt_u J3 (Rw 11) (nI u.2.2.2.1).toNatClampNeg (Int32.ofInt 0))) (v := .ref Y) rfl (nt_gfR rfl hP.2.2.1.2) k
        have k := lz_get (a := Y) (g := 803) (M := me_w M (nt_u J3 (Rw 11) (nI u.2.2.2.1).toNatClampNeg (Int32.ofInt 0))) (v := .int (nI u.2.2.2.1)) rfl (congrArg Value.int (hS3.2.2.1.2.2.2.1)) k
        have k := ly_revb 3 (c' := (96, [(1, .int (a2)), (0, .ref Yr)], [.int (Int32.ofInt 999), .int (Int32.ofInt 0), .ref Yr, .int (nI u.2.2.2.1), .ref (Rw 12)], me_w M (nt_u J3 (Rw 11) (nI u.2.2.2.1).toNatClampNeg (Int32.ofInt 0)))) rfl k
        obtain ⟨d1, o1, ed, kc, k⟩ := lz_c (g := 97) (q := 1) (vs := [.ref Yr, .int (Int32.ofInt 0), .int (Int32.ofInt 999)]) (rest := [.int (nI u.2.2.2.1), .ref (Rw 12)]) rfl rfl (by decide) (Or.inr (Or.inl ⟨_, rfl, rfl⟩)) rfl k
        obtain ⟨J4, e1, hT4⟩ := yc_numF hP hS3 hc kc
        subst e1
        have k : nt_rn X _ 100 (99, [(1, .int (a2)), (0, .ref Yr)], [.int (Int32.ofInt 0), .int (nI u.2.2.2.1), .ref (Rw 12)], me_w M J4) _ := k
        have k := me_iastx rfl k
        have hS4 := yc_Sr (i := 12) (j := (nI u.2.2.2.1).toNatClampNeg) (x := Int32.ofInt 0) hP hT4 (by decide) (by decide) (lb_ix1 hub)
        have k : nt_rn X _ 100 (100, [(1, .int (a2)), (0, .ref Yr)], [], me_w M (nt_u J4 (Rw 12) (nI u.2.2.2.1).toNatClampNeg (Int32.ofInt 0))) _ := k
        have k := ly_revb 1 (c' := (101, [(1, .int (a2)), (0, .ref Yr)], [.ref Yr], me_w M (nt_u J4 (Rw 12) (nI u.2.2.2.1).toNatClampNeg (Int32.ofInt 0)))) rfl k
        have k := lz_get (a := Yr) (g := 901) (M := me_w M (nt_u J4 (Rw 12) (nI u.2.2.2.1).toNatClampNeg (Int32.ofInt 0))) (v := .ref Y) rfl (nt_gfR rfl hP.2.2.1.2) k
        have k := ly_revb 1 (c' := (105, [(1, .int (a2)), (0, .ref Yr)], [.ref Y, .ref Y], me_w M (nt_u J4 (Rw 12) (nI u.2.2.2.1).toNatClampNeg (Int32.ofInt 0)))) rfl k
        have k := lz_get (a := Y) (g := 803) (M := me_w M (nt_u J4 (Rw 12) (nI u.2.2.2.1).toNatClampNeg (Int32.ofInt 0))) (v := .int (nI u.2.2.2.1)) rfl (congrArg Value.int (hS4.2.2.1.2.2.2.1)) k
        have k := ly_revb 2 (c' := (110, [(1, .int (a2)), (0, .ref Yr)], [.int ((nI u.2.2.2.1) + (Int32.ofInt 1)), .ref Y], me_w M (nt_u J4 (Rw 12) (nI u.2.2.2.1).toNatClampNeg (Int32.ofInt 0)))) rfl k
        rw [show ((nI u.2.2.2.1) + (Int32.ofInt 1) : Int32) = nI (u.2.2.2.1 + 1) from me_add (k := 1)] at k
        have k := me_put rfl (by decide) k
        have k : nt_rn X _ 100 (113, [(1, .int (a2)), (0, .ref Yr)], [], me_w M (nt_u (nt_u J4 (Rw 12) (nI u.2.2.2.1).toNatClampNeg (Int32.ofInt 0)) Y 3 (nI (u.2.2.2.1 + 1)))) _ := k
        have hS5 := yc_S3 (y := u.2.2.2.1 + 1) hP hS4
        have k := lz_rv rfl rfl k
        exact ⟨.inl c, _, k, ⟨_, hv1, Or.inr ⟨_, _, rfl, ⟨_, hv2, Or.inr ⟨_, _, rfl, ⟨_, hv3, Or.inl ⟨c, rfl, rfl⟩⟩⟩⟩⟩⟩, Or.inl ⟨c, rfl, hc, _, _, hS5⟩⟩
      · obtain ⟨ea, hq3, hT3⟩ := hN3
        dsimp only at ea hq3 hT3
        subst ea
        have hu3 := lb_nu_up hq2 hv3
        have k : nt_rn X _ 100 (76, [(1, .int (a2)), (0, .ref Yr)], [.int (a3), .int (nI u.2.2.2.1), .ref (Rw 11)], me_w M J3) _ := k
        have k := me_iastx rfl k
        have hS3 := yc_Sr (i := 11) (j := (nI u.2.2.2.1).toNatClampNeg) (x := a3) hP hT3 (by decide) (by decide) (lb_ix1 hub)
        have k : nt_rn X _ 100 (77, [(1, .int (a2)), (0, .ref Yr)], [], me_w M (nt_u J3 (Rw 11) (nI u.2.2.2.1).toNatClampNeg (a3))) _ := k
        have k := ly_revb 1 (c' := (78, [(1, .int (a2)), (0, .ref Yr)], [.ref Yr], me_w M (nt_u J3 (Rw 11) (nI u.2.2.2.1).toNatClampNeg (a3)))) rfl k
        have k := lz_get (a := Yr) (g := 901) (M := me_w M (nt_u J3 (Rw 11) (nI u.2.2.2.1).toNatClampNeg (a3))) (v := .ref Y) rfl (nt_gfR rfl hP.2.2.1.2) k
        have k := lz_get (a := Y) (g := 812) (M := me_w M (nt_u J3 (Rw 11) (nI u.2.2.2.1).toNatClampNeg (a3))) (v := .ref (Rw 12)) rfl (nt_gfR rfl (hP.2.2.2.2.1 12 (by decide) (by decide)).1) k
        have k := ly_revb 1 (c' := (85, [(1, .int (a2)), (0, .ref Yr)], [.ref Yr, .ref (Rw 12)], me_w M (nt_u J3 (Rw 11) (nI u.2.2.2.1).toNatClampNeg (a3)))) rfl k
        have k := lz_get (a := Yr) (g := 901) (M := me_w M (nt_u J3 (Rw 11) (nI u.2.2.2.1).toNatClampNeg (a3))) (v := .ref Y) rfl (nt_gfR rfl hP.2.2.1.2) k
        have k := lz_get (a := Y) (g := 803) (M := me_w M (nt_u J3 (Rw 11) (nI u.2.2.2.1).toNatClampNeg (a3))) (v := .int (nI u.2.2.2.1)) rfl (congrArg Value.int (hS3.2.2.1.2.2.2.1)) k
        have k := ly_revb 3 (c' := (96, [(1, .int (a2)), (0, .ref Yr)], [.int (Int32.ofInt 999), .int (Int32.ofInt 0), .ref Yr, .int (nI u.2.2.2.1), .ref (Rw 12)], me_w M (nt_u J3 (Rw 11) (nI u.2.2.2.1).toNatClampNeg (a3)))) rfl k
        obtain ⟨d1, o1, ed, kc, k⟩ := lz_c (g := 97) (q := 1) (vs := [.ref Yr, .int (Int32.ofInt 0), .int (Int32.ofInt 999)]) (rest := [.int (nI u.2.2.2.1), .ref (Rw 12)]) rfl rfl (by decide) (Or.inr (Or.inl ⟨_, rfl, rfl⟩)) rfl k
        obtain ⟨r4, a4, J4, e1, hv4, hN4⟩ := yc_num hP hS3 hq3 (by decide) kc
        subst e1
        rcases r4 with c | ⟨q4, x4⟩
        · obtain ⟨hc, rfl, hT4⟩ := hN4
          have k : nt_rn X _ 100 (99, [(1, .int (a2)), (0, .ref Yr)], [.int (Int32.ofInt 0), .int (nI u.2.2.2.1), .ref (Rw 12)], me_w M J4) _ := k
          have k := me_iastx rfl k
          have hS4 := yc_Sr (i := 12) (j := (nI u.2.2.2.1).toNatClampNeg) (x := Int32.ofInt 0) hP hT4 (by decide) (by decide) (lb_ix1 hub)
          have k : nt_rn X _ 100 (100, [(1, .int (a2)), (0, .ref Yr)], [], me_w M (nt_u J4 (Rw 12) (nI u.2.2.2.1).toNatClampNeg (Int32.ofInt 0))) _ := k
          have k := ly_revb 1 (c' := (101, [(1, .int (a2)), (0, .ref Yr)], [.ref Yr], me_w M (nt_u J4 (Rw 12) (nI u.2.2.2.1).toNatClampNeg (Int32.ofInt 0)))) rfl k
          have k := lz_get (a := Yr) (g := 901) (M := me_w M (nt_u J4 (Rw 12) (nI u.2.2.2.1).toNatClampNeg (Int32.ofInt 0))) (v := .ref Y) rfl (nt_gfR rfl hP.2.2.1.2) k
          have k := ly_revb 1 (c' := (105, [(1, .int (a2)), (0, .ref Yr)], [.ref Y, .ref Y], me_w M (nt_u J4 (Rw 12) (nI u.2.2.2.1).toNatClampNeg (Int32.ofInt 0)))) rfl k
          have k := lz_get (a := Y) (g := 803) (M := me_w M (nt_u J4 (Rw 12) (nI u.2.2.2.1).toNatClampNeg (Int32.ofInt 0))) (v := .int (nI u.2.2.2.1)) rfl (congrArg Value.int (hS4.2.2.1.2.2.2.1)) k
          have k := ly_revb 2 (c' := (110, [(1, .int (a2)), (0, .ref Yr)], [.int ((nI u.2.2.2.1) + (Int32.ofInt 1)), .ref Y], me_w M (nt_u J4 (Rw 12) (nI u.2.2.2.1).toNatClampNeg (Int32.ofInt 0)))) rfl k
          rw [show ((nI u.2.2.2.1) + (Int32.ofInt 1) : Int32) = nI (u.2.2.2.1 + 1) from me_add (k := 1)] at k
          have k := me_put rfl (by decide) k
          have k : nt_rn X _ 100 (113, [(1, .int (a2)), (0, .ref Yr)], [], me_w M (nt_u (nt_u J4 (Rw 12) (nI u.2.2.2.1).toNatClampNeg (Int32.ofInt 0)) Y 3 (nI (u.2.2.2.1 + 1)))) _ := k
          have hS5 := yc_S3 (y := u.2.2.2.1 + 1) hP hS4
          have k := lz_rv rfl rfl k
          exact ⟨.inl c, _, k, ⟨_, hv1, Or.inr ⟨_, _, rfl, ⟨_, hv2, Or.inr ⟨_, _, rfl, ⟨_, hv3, Or.inr ⟨_, _, rfl, ⟨_, hv4, Or.inl ⟨c, rfl, rfl⟩⟩⟩⟩⟩⟩⟩⟩, Or.inl ⟨c, rfl, hc, _, _, hS5⟩⟩
        · obtain ⟨ea, hq4, hT4⟩ := hN4
          dsimp only at ea hq4 hT4
          subst ea
          have hu4 := lb_nu_up hq3 hv4
          have k : nt_rn X _ 100 (99, [(1, .int (a2)), (0, .ref Yr)], [.int (a4), .int (nI u.2.2.2.1), .ref (Rw 12)], me_w M J4) _ := k
          have k := me_iastx rfl k
          have hS4 := yc_Sr (i := 12) (j := (nI u.2.2.2.1).toNatClampNeg) (x := a4) hP hT4 (by decide) (by decide) (lb_ix1 hub)
          have k : nt_rn X _ 100 (100, [(1, .int (a2)), (0, .ref Yr)], [], me_w M (nt_u J4 (Rw 12) (nI u.2.2.2.1).toNatClampNeg (a4))) _ := k
          have k := ly_revb 1 (c' := (101, [(1, .int (a2)), (0, .ref Yr)], [.ref Yr], me_w M (nt_u J4 (Rw 12) (nI u.2.2.2.1).toNatClampNeg (a4)))) rfl k
          have k := lz_get (a := Yr) (g := 901) (M := me_w M (nt_u J4 (Rw 12) (nI u.2.2.2.1).toNatClampNeg (a4))) (v := .ref Y) rfl (nt_gfR rfl hP.2.2.1.2) k
          have k := ly_revb 1 (c' := (105, [(1, .int (a2)), (0, .ref Yr)], [.ref Y, .ref Y], me_w M (nt_u J4 (Rw 12) (nI u.2.2.2.1).toNatClampNeg (a4)))) rfl k
          have k := lz_get (a := Y) (g := 803) (M := me_w M (nt_u J4 (Rw 12) (nI u.2.2.2.1).toNatClampNeg (a4))) (v := .int (nI u.2.2.2.1)) rfl (congrArg Value.int (hS4.2.2.1.2.2.2.1)) k
          have k := ly_revb 2 (c' := (110, [(1, .int (a2)), (0, .ref Yr)], [.int ((nI u.2.2.2.1) + (Int32.ofInt 1)), .ref Y], me_w M (nt_u J4 (Rw 12) (nI u.2.2.2.1).toNatClampNeg (a4)))) rfl k
          rw [show ((nI u.2.2.2.1) + (Int32.ofInt 1) : Int32) = nI (u.2.2.2.1 + 1) from me_add (k := 1)] at k
          have k := me_put rfl (by decide) k
          have k : nt_rn X _ 100 (113, [(1, .int (a2)), (0, .ref Yr)], [], me_w M (nt_u (nt_u J4 (Rw 12) (nI u.2.2.2.1).toNatClampNeg (a4)) Y 3 (nI (u.2.2.2.1 + 1)))) _ := k
          have hS5 := yc_S3 (y := u.2.2.2.1 + 1) hP hS4
          have k := lz_rv rfl rfl k
          exact ⟨.inr q4, _, k, ⟨_, hv1, Or.inr ⟨_, _, rfl, ⟨_, hv2, Or.inr ⟨_, _, rfl, ⟨_, hv3, Or.inr ⟨_, _, rfl, ⟨_, hv4, Or.inr ⟨_, _, rfl, rfl⟩⟩⟩⟩⟩⟩⟩⟩, Or.inr ⟨_, _, rfl, hq4, ⟨_, _, _, _, _, _, _, hv1, hv2, hv3, hv4, rfl⟩, hS5⟩⟩
theorem yc_shF {X : nt_X} {d t Rd Tp By RR Sp Yr Y m0 s0 : Nat} {Rw : Nat → Nat} {f : Nat → Int32} {M : nt_M} {o : Option Value × nt_M} {fa : Int32} (hP : yc_P M t Rd Tp By RR Sp Yr Y Rw) (hfa : ¬ fa = 0) : ∀ (c i : Nat) (u : Nat × Nat × Nat × Nat × Nat) (C : lb_C) (J : Nat → Nat → Int32), i + c = u.1 → u.1 ≤ 4 → u.2.1 ≤ 6 → yc_S Rw C f t Rd Tp By RR Y m0 s0 t fa u J → nt_rn X d 98 (2, [(1, .int (nI i)), (0, .ref Yr)], [], me_w M J) o → ∃ J' u' D, o = (none, me_w M J') ∧ yc_S Rw D f t Rd Tp By RR Y m0 s0 t fa (u') (J') := by
  have t4 : t ≤ 400 := hP.2.2.2.2.2.1
  intro c
  induction c with
  | zero =>
    intro i u C J hc hk hk2 hS k
    have k := ly_revb 2 (c' := (4, [(1, .int (nI i)), (0, .ref Yr)], [.ref Yr, .int (nI i)], me_w M J)) rfl k
    have k := lz_get (a := Yr) (g := 901) (M := me_w M J) (v := .ref Y) rfl (nt_gfR rfl hP.2.2.1.2) k
    have k := lz_get (a := Y) (g := 800) (M := me_w M J) (v := .int (nI u.1)) rfl (congrArg Value.int (hS.2.2.1.1)) k
    have k := ly_revb 1 (c' := (if (nI u.1) ≤ (nI i) then 44 else 13, [(1, .int (nI i)), (0, .ref Yr)], [], me_w M J)) rfl k
    rw [if_pos (show (nI u.1) ≤ (nI i) from nI_le (by omega) (by omega))] at k
    have k := ly_revb 1 (c' := (45, [(1, .int (nI i)), (0, .ref Yr)], [.ref Yr], me_w M J)) rfl k
    have k := lz_get (a := Yr) (g := 901) (M := me_w M J) (v := .ref Y) rfl (nt_gfR rfl hP.2.2.1.2) k
    have k := ly_revb 1 (c' := (49, [(1, .int (nI i)), (0, .ref Yr)], [.ref Y, .ref Y], me_w M J)) rfl k
    have k := lz_get (a := Y) (g := 801) (M := me_w M J) (v := .int (nI u.2.1)) rfl (congrArg Value.int (hS.2.2.1.2.1)) k
    have k := ly_revb 2 (c' := (54, [(1, .int (nI i)), (0, .ref Yr)], [.int ((nI u.2.1) + (Int32.ofInt 1)), .ref Y], me_w M J)) rfl k
    rw [show ((nI u.2.1) + (Int32.ofInt 1) : Int32) = nI (u.2.1 + 1) from me_add (k := 1)] at k
    have k := me_put rfl (by decide) k
    have k : nt_rn X _ 98 (57, [(1, .int (nI i)), (0, .ref Yr)], [], me_w M (nt_u J Y 1 (nI (u.2.1 + 1)))) _ := k
    have hS1 := yc_S1 (y := u.2.1 + 1) hP hS
    have k := lz_rv rfl rfl k
    exact ⟨_, _, _, k, hS1⟩
  | succ c ih =>
    intro i u C J hc hk hk2 hS k
    have k := ly_revb 2 (c' := (4, [(1, .int (nI i)), (0, .ref Yr)], [.ref Yr, .int (nI i)], me_w M J)) rfl k
    have k := lz_get (a := Yr) (g := 901) (M := me_w M J) (v := .ref Y) rfl (nt_gfR rfl hP.2.2.1.2) k
    have k := lz_get (a := Y) (g := 800) (M := me_w M J) (v := .int (nI u.1)) rfl (congrArg Value.int (hS.2.2.1.1)) k
    have k := ly_revb 1 (c' := (if (nI u.1) ≤ (nI i) then 44 else 13, [(1, .int (nI i)), (0, .ref Yr)], [], me_w M J)) rfl k
    rw [if_neg (show ¬ ((nI u.1) ≤ (nI i)) from nI_ge (by omega) (by omega))] at k
    have k := ly_revb 1 (c' := (14, [(1, .int (nI i)), (0, .ref Yr)], [.ref Yr], me_w M J)) rfl k
    have k := lz_get (a := Yr) (g := 901) (M := me_w M J) (v := .ref Y) rfl (nt_gfR rfl hP.2.2.1.2) k
    have k := lz_get (a := Y) (g := 805) (M := me_w M J) (v := .ref (Rw 5)) rfl (nt_gfR rfl (hP.2.2.2.2.1 5 (by decide) (by decide)).1) k
    have k := ly_revb 1 (c' := (21, [(1, .int (nI i)), (0, .ref Yr)], [.ref Yr, .ref (Rw 5)], me_w M J)) rfl k
    have k := lz_get (a := Yr) (g := 901) (M := me_w M J) (v := .ref Y) rfl (nt_gfR rfl hP.2.2.1.2) k
    have k := lz_get (a := Y) (g := 801) (M := me_w M J) (v := .int (nI u.2.1)) rfl (congrArg Value.int (hS.2.2.1.2.1)) k
    have k := ly_revb 7 (c' := (34, [(1, .int (nI i)), (0, .ref Yr)], [.int (Int32.ofInt 5), .int (Int32.ofInt 0), .ref Yr, .int (((nI u.2.1) * (Int32.ofInt 4)) + (nI i)), .ref (Rw 5)], me_w M J)) rfl k
    obtain ⟨d1, o1, ed, kc, k⟩ := lz_c (g := 97) (q := 1) (vs := [.ref Yr, .int (Int32.ofInt 0), .int (Int32.ofInt 5)]) (rest := [.int (((nI u.2.1) * (Int32.ofInt 4)) + (nI i)), .ref (Rw 5)]) rfl rfl (by decide) (Or.inr (Or.inl ⟨_, rfl, rfl⟩)) rfl k
    obtain ⟨J1, e1, hT1⟩ := yc_numF hP hS hfa kc
    subst e1
    have k : nt_rn X _ 98 (37, [(1, .int (nI i)), (0, .ref Yr)], [.int (Int32.ofInt 0), .int (((nI u.2.1) * (Int32.ofInt 4)) + (nI i)), .ref (Rw 5)], me_w M J1) _ := k
    have k := me_iastx rfl k
    have hS1 := yc_Sr (i := 5) (j := (((nI u.2.1) * (Int32.ofInt 4)) + (nI i)).toNatClampNeg) (x := Int32.ofInt 0) hP hT1 (by decide) (by decide) (lb_ix4 hk2 (by omega))
    have k : nt_rn X _ 98 (38, [(1, .int (nI i)), (0, .ref Yr)], [], me_w M (nt_u J1 (Rw 5) (((nI u.2.1) * (Int32.ofInt 4)) + (nI i)).toNatClampNeg (Int32.ofInt 0))) _ := k
    have k := ly_revb 1 (c' := (41, [(1, .int ((nI i) + Int32.ofInt 1)), (0, .ref Yr)], [], me_w M (nt_u J1 (Rw 5) (((nI u.2.1) * (Int32.ofInt 4)) + (nI i)).toNatClampNeg (Int32.ofInt 0)))) rfl k
    rw [show ((nI i) + Int32.ofInt 1 : Int32) = nI (i + 1) from me_add (k := 1)] at k
    have k := ly_revb 1 (c' := (2, [(1, .int (nI (i + 1))), (0, .ref Yr)], [], me_w M (nt_u J1 (Rw 5) (((nI u.2.1) * (Int32.ofInt 4)) + (nI i)).toNatClampNeg (Int32.ofInt 0)))) rfl k
    exact ih (i + 1) u _ _ (by omega) hk hk2 hS1 k
theorem yc_shl {X : nt_X} {d t Rd Tp By RR Sp Yr Y m0 s0 : Nat} {Rw : Nat → Nat} {f : Nat → Int32} {M : nt_M} {o : Option Value × nt_M} (hP : yc_P M t Rd Tp By RR Sp Yr Y Rw) : ∀ (c i p : Nat) (u : Nat × Nat × Nat × Nat × Nat) (C : lb_C) (J : Nat → Nat → Int32), i + c = u.1 → u.1 ≤ 4 → u.2.1 ≤ 6 → p ≤ t → yc_S Rw C f t Rd Tp By RR Y m0 s0 p 0 u J → nt_rn X d 98 (2, [(1, .int (nI i)), (0, .ref Yr)], [], me_w M J) o → ∃ r J', o = (none, me_w M J') ∧ lb_sh f t c p r ∧ ((∃ c, r = .inl c ∧ c ≠ 0 ∧ ∃ u' D, yc_S Rw D f t Rd Tp By RR Y m0 s0 t c (u') (J')) ∨ ∃ q D, r = .inr q ∧ q ≤ t ∧ lb_shC f t u.2.1 c i p q C D ∧ yc_S Rw D f t Rd Tp By RR Y m0 s0 q 0 (u.1, u.2.1 + 1, u.2.2.1, u.2.2.2.1, u.2.2.2.2) (J')) := by
  have t4 : t ≤ 400 := hP.2.2.2.2.2.1
  intro c
  induction c with
  | zero =>
    intro i p u C J hc hk hk2 hp hS k
    have k := ly_revb 2 (c' := (4, [(1, .int (nI i)), (0, .ref Yr)], [.ref Yr, .int (nI i)], me_w M J)) rfl k
    have k := lz_get (a := Yr) (g := 901) (M := me_w M J) (v := .ref Y) rfl (nt_gfR rfl hP.2.2.1.2) k
    have k := lz_get (a := Y) (g := 800) (M := me_w M J) (v := .int (nI u.1)) rfl (congrArg Value.int (hS.2.2.1.1)) k
    have k := ly_revb 1 (c' := (if (nI u.1) ≤ (nI i) then 44 else 13, [(1, .int (nI i)), (0, .ref Yr)], [], me_w M J)) rfl k
    rw [if_pos (show (nI u.1) ≤ (nI i) from nI_le (by omega) (by omega))] at k
    have k := ly_revb 1 (c' := (45, [(1, .int (nI i)), (0, .ref Yr)], [.ref Yr], me_w M J)) rfl k
    have k := lz_get (a := Yr) (g := 901) (M := me_w M J) (v := .ref Y) rfl (nt_gfR rfl hP.2.2.1.2) k
    have k := ly_revb 1 (c' := (49, [(1, .int (nI i)), (0, .ref Yr)], [.ref Y, .ref Y], me_w M J)) rfl k
    have k := lz_get (a := Y) (g := 801) (M := me_w M J) (v := .int (nI u.2.1)) rfl (congrArg Value.int (hS.2.2.1.2.1)) k
    have k := ly_revb 2 (c' := (54, [(1, .int (nI i)), (0, .ref Yr)], [.int ((nI u.2.1) + (Int32.ofInt 1)), .ref Y], me_w M J)) rfl k
    rw [show ((nI u.2.1) + (Int32.ofInt 1) : Int32) = nI (u.2.1 + 1) from me_add (k := 1)] at k
    have k := me_put rfl (by decide) k
    have k : nt_rn X _ 98 (57, [(1, .int (nI i)), (0, .ref Yr)], [], me_w M (nt_u J Y 1 (nI (u.2.1 + 1)))) _ := k
    have hS1 := yc_S1 (y := u.2.1 + 1) hP hS
    have k := lz_rv rfl rfl k
    exact ⟨.inr p, _, k, rfl, Or.inr ⟨p, _, rfl, hp, ⟨rfl, rfl⟩, hS1⟩⟩
  | succ c ih =>
    intro i p u C J hc hk hk2 hp hS k
    have k := ly_revb 2 (c' := (4, [(1, .int (nI i)), (0, .ref Yr)], [.ref Yr, .int (nI i)], me_w M J)) rfl k
    have k := lz_get (a := Yr) (g := 901) (M := me_w M J) (v := .ref Y) rfl (nt_gfR rfl hP.2.2.1.2) k
    have k := lz_get (a := Y) (g := 800) (M := me_w M J) (v := .int (nI u.1)) rfl (congrArg Value.int (hS.2.2.1.1)) k
    have k := ly_revb 1 (c' := (if (nI u.1) ≤ (nI i) then 44 else 13, [(1, .int (nI i)), (0, .ref Yr)], [], me_w M J)) rfl k
    rw [if_neg (show ¬ ((nI u.1) ≤ (nI i)) from nI_ge (by omega) (by omega))] at k
    have k := ly_revb 1 (c' := (14, [(1, .int (nI i)), (0, .ref Yr)], [.ref Yr], me_w M J)) rfl k
    have k := lz_get (a := Yr) (g := 901) (M := me_w M J) (v := .ref Y) rfl (nt_gfR rfl hP.2.2.1.2) k
    have k := lz_get (a := Y) (g := 805) (M := me_w M J) (v := .ref (Rw 5)) rfl (nt_gfR rfl (hP.2.2.2.2.1 5 (by decide) (by decide)).1) k
    have k := ly_revb 1 (c' := (21, [(1, .int (nI i)), (0, .ref Yr)], [.ref Yr, .ref (Rw 5)], me_w M J)) rfl k
    have k := lz_get (a := Yr) (g := 901) (M := me_w M J) (v := .ref Y) rfl (nt_gfR rfl hP.2.2.1.2) k
    have k := lz_get (a := Y) (g := 801) (M := me_w M J) (v := .int (nI u.2.1)) rfl (congrArg Value.int (hS.2.2.1.2.1)) k
    have k := ly_revb 7 (c' := (34, [(1, .int (nI i)), (0, .ref Yr)], [.int (Int32.ofInt 5), .int (Int32.ofInt 0), .ref Yr, .int (((nI u.2.1) * (Int32.ofInt 4)) + (nI i)), .ref (Rw 5)], me_w M J)) rfl k
    obtain ⟨d1, o1, ed, kc, k⟩ := lz_c (g := 97) (q := 1) (vs := [.ref Yr, .int (Int32.ofInt 0), .int (Int32.ofInt 5)]) (rest := [.int (((nI u.2.1) * (Int32.ofInt 4)) + (nI i)), .ref (Rw 5)]) rfl rfl (by decide) (Or.inr (Or.inl ⟨_, rfl, rfl⟩)) rfl k
    obtain ⟨r1, a1, J1, e1, hv1, hN1⟩ := yc_num hP hS hp (by decide) kc
    subst e1
    rcases r1 with c1 | ⟨q1, x1⟩
    · obtain ⟨hc0, rfl, hT1⟩ := hN1
      have k : nt_rn X _ 98 (37, [(1, .int (nI i)), (0, .ref Yr)], [.int (Int32.ofInt 0), .int (((nI u.2.1) * (Int32.ofInt 4)) + (nI i)), .ref (Rw 5)], me_w M J1) _ := k
      have k := me_iastx rfl k
      have hS1 := yc_Sr (i := 5) (j := (((nI u.2.1) * (Int32.ofInt 4)) + (nI i)).toNatClampNeg) (x := Int32.ofInt 0) hP hT1 (by decide) (by decide) (lb_ix4 hk2 (by omega))
      have k : nt_rn X _ 98 (38, [(1, .int (nI i)), (0, .ref Yr)], [], me_w M (nt_u J1 (Rw 5) (((nI u.2.1) * (Int32.ofInt 4)) + (nI i)).toNatClampNeg (Int32.ofInt 0))) _ := k
      have k := ly_revb 1 (c' := (41, [(1, .int ((nI i) + Int32.ofInt 1)), (0, .ref Yr)], [], me_w M (nt_u J1 (Rw 5) (((nI u.2.1) * (Int32.ofInt 4)) + (nI i)).toNatClampNeg (Int32.ofInt 0)))) rfl k
      rw [show ((nI i) + Int32.ofInt 1 : Int32) = nI (i + 1) from me_add (k := 1)] at k
      have k := ly_revb 1 (c' := (2, [(1, .int (nI (i + 1))), (0, .ref Yr)], [], me_w M (nt_u J1 (Rw 5) (((nI u.2.1) * (Int32.ofInt 4)) + (nI i)).toNatClampNeg (Int32.ofInt 0)))) rfl k
      obtain ⟨J', u', D, e9, h9⟩ := yc_shF hP hc0 c (i + 1) u _ _ (by omega) hk hk2 hS1 k
      exact ⟨.inl c1, J', e9, ⟨_, hv1, Or.inl ⟨c1, rfl, rfl⟩⟩, Or.inl ⟨c1, rfl, hc0, u', D, h9⟩⟩
    · obtain ⟨ea, hq1, hT1⟩ := hN1
      dsimp only at ea hq1 hT1
      subst ea
      have hu1 := lb_nu_up hp hv1
      have k : nt_rn X _ 98 (37, [(1, .int (nI i)), (0, .ref Yr)], [.int (a1), .int (((nI u.2.1) * (Int32.ofInt 4)) + (nI i)), .ref (Rw 5)], me_w M J1) _ := k
      have k := me_iastx rfl k
      have hS1 := yc_Sr (i := 5) (j := (((nI u.2.1) * (Int32.ofInt 4)) + (nI i)).toNatClampNeg) (x := a1) hP hT1 (by decide) (by decide) (lb_ix4 hk2 (by omega))
      have k : nt_rn X _ 98 (38, [(1, .int (nI i)), (0, .ref Yr)], [], me_w M (nt_u J1 (Rw 5) (((nI u.2.1) * (Int32.ofInt 4)) + (nI i)).toNatClampNeg (a1))) _ := k
      have k := ly_revb 1 (c' := (41, [(1, .int ((nI i) + Int32.ofInt 1)), (0, .ref Yr)], [], me_w M (nt_u J1 (Rw 5) (((nI u.2.1) * (Int32.ofInt 4)) + (nI i)).toNatClampNeg (a1)))) rfl k
      rw [show ((nI i) + Int32.ofInt 1 : Int32) = nI (i + 1) from me_add (k := 1)] at k
      have k := ly_revb 1 (c' := (2, [(1, .int (nI (i + 1))), (0, .ref Yr)], [], me_w M (nt_u J1 (Rw 5) (((nI u.2.1) * (Int32.ofInt 4)) + (nI i)).toNatClampNeg (a1)))) rfl k
      obtain ⟨r, J', e9, hs, hr⟩ := ih (i + 1) q1 u _ _ (by omega) hk hk2 hq1 hS1 k
      exact ⟨r, J', e9, ⟨_, hv1, Or.inr ⟨_, _, rfl, hs⟩⟩, hr.imp id (fun ⟨q, D, e1, e2, e3, e4⟩ => ⟨q, D, e1, e2, ⟨_, _, hv1, e3⟩, e4⟩)⟩
theorem yc_ship {X : nt_X} {d t Rd Tp By RR Sp Yr Y m0 s0 : Nat} {Rw : Nat → Nat} {f : Nat → Int32} {M : nt_M} {o : Option Value × nt_M} {C : lb_C} {p : Nat} {u : Nat × Nat × Nat × Nat × Nat} {J : Nat → Nat → Int32} (hP : yc_P M t Rd Tp By RR Sp Yr Y Rw) (hS : yc_S Rw C f t Rd Tp By RR Y m0 s0 p 0 u J) (hk : u.1 ≤ 4) (hk2 : u.2.1 ≤ 6) (hp : p ≤ t) (k : nt_ev X d 98 [.ref Yr] (me_w M J) o) : ∃ r J', o = (none, me_w M J') ∧ lb_sh f t u.1 p r ∧ ((∃ c, r = .inl c ∧ c ≠ 0 ∧ ∃ u' D, yc_S Rw D f t Rd Tp By RR Y m0 s0 t c (u') (J')) ∨ ∃ q D, r = .inr q ∧ q ≤ t ∧ lb_shC f t u.2.1 u.1 0 p q C D ∧ yc_S Rw D f t Rd Tp By RR Y m0 s0 q 0 (u.1, u.2.1 + 1, u.2.2.1, u.2.2.2.1, u.2.2.2.2) (J')) := by
  have k : nt_rn X d 98 (0, [(0, .ref Yr)], [], me_w M J) o := k
  have t4 : t ≤ 400 := hP.2.2.2.2.2.1
  have k := ly_revb 2 (c' := (2, [(1, .int (Int32.ofInt 0)), (0, .ref Yr)], [], me_w M J)) rfl k
  exact yc_shl hP u.1 0 p u C J (by omega) hk hk2 hp hS k
end
section
/-! the class reads a yard's clauses -/
def lb_ub (u : Nat × Nat × Nat × Nat × Nat) : Prop := u.1 ≤ 4 ∧ u.2.1 ≤ 6 ∧ u.2.2.1 ≤ 24 ∧ u.2.2.2.1 ≤ 8 ∧ u.2.2.2.2 ≤ 30
def yc_Q (Rw : Nat → Nat) (P : lb_U → lb_C → Prop) (f : Nat → Int32) (t Rd Tp By RR Y m0 s0 : Nat) (r : Int32 ⊕ lb_U) (J : Nat → Nat → Int32) : Prop := match r with
  | .inl c => c ≠ 0 ∧ ∃ u' D, yc_S Rw D f t Rd Tp By RR Y m0 s0 t c u' J
  | .inr u => u.1 ≤ t ∧ lb_ub u.2 ∧ ∃ D, P u D ∧ yc_S Rw D f t Rd Tp By RR Y m0 s0 u.1 0 u.2 J
theorem yc_Qm {Rw : Nat → Nat} {P P' : lb_U → lb_C → Prop} {f : Nat → Int32} {t Rd Tp By RR Y m0 s0 : Nat} {r : Int32 ⊕ lb_U} {J : Nat → Nat → Int32} (h : ∀ u D, P u D → P' u D) (hQ : yc_Q Rw P f t Rd Tp By RR Y m0 s0 r J) : yc_Q Rw P' f t Rd Tp By RR Y m0 s0 r J := by
  rcases r with c | u
  · exact hQ
  · obtain ⟨h1, h2, D, h3, h4⟩ := hQ
    exact ⟨h1, h2, D, h _ _ h3, h4⟩
theorem yc_nn {x : Int32} {b : Nat} (hb : b < 1000) (h0 : (Int32.ofInt 1).toInt ≤ x.toInt) (h1 : x.toInt ≤ (nI b).toInt) : x = nI x.toInt.toNat ∧ x.toInt.toNat ≤ b := by
  rw [nI_toInt (by omega)] at h1
  have e1 : (Int32.ofInt 1).toInt = 1 := by decide
  rw [e1] at h0
  exact ⟨Int32.toInt_inj.mp (by rw [nI_toInt (by omega)]; omega), by omega⟩
theorem yc_pa0 {X : nt_X} {d t Rd Tp By RR Sp Yr Y m0 s0 : Nat} {Rw : Nat → Nat} {f : Nat → Int32} {M : nt_M} {o : Option Value × nt_M} {C : lb_C} {p : Nat} {u : Nat × Nat × Nat × Nat × Nat} {J : Nat → Nat → Int32} (hP : yc_P M t Rd Tp By RR Sp Yr Y Rw) (hS : yc_S Rw C f t Rd Tp By RR Y m0 s0 p 0 u J) (hp : p ≤ t) (hb : lb_ub u) (hat : lb_yw f t p 0) (hfu : ¬ lb_fu (p, u) 0) (k : nt_ev X d 96 [.ref Yr, .int (nI 0)] (me_w M J) o) : ∃ r J', o = (none, me_w M J') ∧ lb_pa f t (p, u) (lb_s f t (p + (lb_W (nt_sp + 1 + 0)).length)) 0 r ∧ yc_Q Rw (fun v D => lb_paC f t u (lb_s f t (p + (lb_W (nt_sp + 1 + 0)).length)) v.1 0 C D) f t Rd Tp By RR Y m0 s0 r J' := by
  have k : nt_rn X d 96 (0, [(0, .ref Yr), (1, .int (nI 0))], [], me_w M J) o := k
  have t4 : t ≤ 400 := hP.2.2.2.2.2.1
  have k := ly_revb 2 (c' := (32, [(0, .ref Yr), (1, .int (nI 0))], [], me_w M J)) rfl k
  have k := ly_revb 1 (c' := (33, [(0, .ref Yr), (1, .int (nI 0))], [.ref Yr], me_w M J)) rfl k
  have k := lz_get (a := Yr) (g := 900) (M := me_w M J) (v := .ref Rd) rfl (nt_gfR rfl hP.2.2.1.1) k
  have k := ly_revb 1 (c' := (38, [(0, .ref Yr), (1, .int (nI 0))], [.ref (nt_sp + 1 + 0), .ref Rd], me_w M J)) rfl k
  obtain ⟨d1, o1, ed, kc, k⟩ := lz_c (g := 32) (q := 1) (vs := [.ref Rd, .ref (nt_sp + 1 + 0)]) (rest := []) rfl rfl (by decide) (Or.inr (Or.inl ⟨_, rfl, rfl⟩)) rfl k
  obtain ⟨_, e1⟩ := (lc_takesWord (yc_lP hP hS) (yc_lS hP hS) hp kc).resolve_right (fun c => c.1 hat)
  subst e1
  have hS1 := yc_Sp (q := lb_s f t (p + (lb_W (nt_sp + 1 + 0)).length)) hP hS
  have hq0 : lb_s f t (p + (lb_W (nt_sp + 1 + 0)).length) ≤ t := (lb_s_le (t - (p + (lb_W (nt_sp + 1 + 0)).length)) (p + (lb_W (nt_sp + 1 + 0)).length) (by have := hat.1; omega)).2
  have k : nt_rn X _ 96 (41, [(0, .ref Yr), (1, .int (nI 0))], [.int (Int32.ofInt 1)], me_w M (nt_u J Rd 1 (nI (lb_s f t (p + (lb_W (nt_sp + 1 + 0)).length))))) _ := k
  have k := ly_revb 2 (c' := (43, [(0, .ref Yr), (1, .int (nI 0))], [.ref Yr], me_w M (nt_u J Rd 1 (nI (lb_s f t (p + (lb_W (nt_sp + 1 + 0)).length)))))) rfl k
  have k := lz_get (a := Yr) (g := 901) (M := me_w M (nt_u J Rd 1 (nI (lb_s f t (p + (lb_W (nt_sp + 1 + 0)).length))))) (v := .ref Y) rfl (nt_gfR rfl hP.2.2.1.2) k
  have k := ly_revb 3 (c' := (49, [(0, .ref Yr), (1, .int (nI 0))], [.int (Int32.ofInt 4), .int (Int32.ofInt 1), .ref Yr, .ref Y], me_w M (nt_u J Rd 1 (nI (lb_s f t (p + (lb_W (nt_sp + 1 + 0)).length)))))) rfl k
  obtain ⟨d1, o1, ed, kc, k⟩ := lz_c (g := 97) (q := 1) (vs := [.ref Yr, .int (Int32.ofInt 1), .int (Int32.ofInt 4)]) (rest := [.ref Y]) rfl rfl (by decide) (Or.inr (Or.inl ⟨_, rfl, rfl⟩)) rfl k
  obtain ⟨r1, a1, J1, e1, hv1, hN1⟩ := yc_num hP hS1 hq0 (by decide) kc
  subst e1
  rcases r1 with c | ⟨q1, x1⟩
  · obtain ⟨hc, rfl, hT1⟩ := hN1
    have k : nt_rn X _ 96 (52, [(0, .ref Yr), (1, .int (nI 0))], [.int (Int32.ofInt 0), .ref Y], me_w M J1) _ := k
    have k := me_put rfl (by decide) k
    have k : nt_rn X _ 96 (55, [(0, .ref Yr), (1, .int (nI 0))], [], me_w M (nt_u J1 Y 0 (Int32.ofInt 0))) _ := k
    have hS2 : yc_S Rw C f t Rd Tp By RR Y m0 s0 t c (0, u.2.1, u.2.2.1, u.2.2.2.1, u.2.2.2.2) (nt_u J1 Y 0 (Int32.ofInt 0)) := yc_S0 (y := 0) hP hT1
    have k := ly_revb 1 (c' := (133, [(0, .ref Yr), (1, .int (nI 0))], [], me_w M (nt_u J1 Y 0 (Int32.ofInt 0)))) rfl k
    have k := lz_rv rfl rfl k
    exact ⟨.inl c, _, k, ⟨_, hv1, Or.inl ⟨c, rfl, rfl⟩⟩, hc, _, _, hS2⟩
  · obtain ⟨ea, hq1, hT1⟩ := hN1
    dsimp only at ea hq1 hT1
    subst ea
    have hu1 := lb_nu_up hq0 hv1
    have k : nt_rn X _ 96 (52, [(0, .ref Yr), (1, .int (nI 0))], [.int (a1), .ref Y], me_w M J1) _ := k
    have k := me_put rfl (by decide) k
    have k : nt_rn X _ 96 (55, [(0, .ref Yr), (1, .int (nI 0))], [], me_w M (nt_u J1 Y 0 (a1))) _ := k
    obtain ⟨ex, hx⟩ := yc_nn (b := 4) (by decide) hu1.2.1 hu1.2.2
    have hS2 := yc_S0 (y := a1.toInt.toNat) hP hT1
    rw [← ex] at hS2
    have k := ly_revb 1 (c' := (133, [(0, .ref Yr), (1, .int (nI 0))], [], me_w M (nt_u J1 Y 0 (a1)))) rfl k
    have k := lz_rv rfl rfl k
    obtain ⟨b1, b2, b3, b4, b5⟩ := hb
    exact ⟨.inr (q1, a1.toInt.toNat, u.2.1, u.2.2.1, u.2.2.2.1, u.2.2.2.2), _, k, ⟨_, hv1, Or.inr ⟨_, _, rfl, rfl⟩⟩, hq1, ⟨hx, b2, b3, b4, b5⟩, _, rfl, hS2⟩
theorem yc_pa1 {X : nt_X} {d t Rd Tp By RR Sp Yr Y m0 s0 : Nat} {Rw : Nat → Nat} {f : Nat → Int32} {M : nt_M} {o : Option Value × nt_M} {C : lb_C} {p : Nat} {u : Nat × Nat × Nat × Nat × Nat} {J : Nat → Nat → Int32} (hP : yc_P M t Rd Tp By RR Sp Yr Y Rw) (hS : yc_S Rw C f t Rd Tp By RR Y m0 s0 p 0 u J) (hp : p ≤ t) (hb : lb_ub u) (hat : lb_yw f t p 1) (hfu : ¬ lb_fu (p, u) 1) (k : nt_ev X d 96 [.ref Yr, .int (nI 1)] (me_w M J) o) : ∃ r J', o = (none, me_w M J') ∧ lb_pa f t (p, u) (lb_s f t (p + (lb_W (nt_sp + 1 + 1)).length)) 1 r ∧ yc_Q Rw (fun v D => lb_paC f t u (lb_s f t (p + (lb_W (nt_sp + 1 + 1)).length)) v.1 1 C D) f t Rd Tp By RR Y m0 s0 r J' := by
  have k : nt_rn X d 96 (0, [(0, .ref Yr), (1, .int (nI 1))], [], me_w M J) o := k
  have t4 : t ≤ 400 := hP.2.2.2.2.2.1
  have k := ly_revb 2 (c' := (58, [(0, .ref Yr), (1, .int (nI 1))], [], me_w M J)) rfl k
  have k := ly_revb 1 (c' := (59, [(0, .ref Yr), (1, .int (nI 1))], [.ref Yr], me_w M J)) rfl k
  have k := lz_get (a := Yr) (g := 900) (M := me_w M J) (v := .ref Rd) rfl (nt_gfR rfl hP.2.2.1.1) k
  have k := ly_revb 1 (c' := (64, [(0, .ref Yr), (1, .int (nI 1))], [.ref (nt_sp + 1 + 1), .ref Rd], me_w M J)) rfl k
  obtain ⟨d1, o1, ed, kc, k⟩ := lz_c (g := 32) (q := 1) (vs := [.ref Rd, .ref (nt_sp + 1 + 1)]) (rest := []) rfl rfl (by decide) (Or.inr (Or.inl ⟨_, rfl, rfl⟩)) rfl k
  obtain ⟨_, e1⟩ := (lc_takesWord (yc_lP hP hS) (yc_lS hP hS) hp kc).resolve_right (fun c => c.1 hat)
  subst e1
  have hS1 := yc_Sp (q := lb_s f t (p + (lb_W (nt_sp + 1 + 1)).length)) hP hS
  have hq0 : lb_s f t (p + (lb_W (nt_sp + 1 + 1)).length) ≤ t := (lb_s_le (t - (p + (lb_W (nt_sp + 1 + 1)).length)) (p + (lb_W (nt_sp + 1 + 1)).length) (by have := hat.1; omega)).2
  have k : nt_rn X _ 96 (67, [(0, .ref Yr), (1, .int (nI 1))], [.int (Int32.ofInt 1)], me_w M (nt_u J Rd 1 (nI (lb_s f t (p + (lb_W (nt_sp + 1 + 1)).length))))) _ := k
  have k := ly_revb 2 (c' := (69, [(0, .ref Yr), (1, .int (nI 1))], [.ref Yr], me_w M (nt_u J Rd 1 (nI (lb_s f t (p + (lb_W (nt_sp + 1 + 1)).length)))))) rfl k
  obtain ⟨d1, o1, ed, kc, k⟩ := lz_c (g := 98) (q := 1) (vs := [.ref Yr]) (rest := []) rfl rfl (by decide) (Or.inr (Or.inl ⟨_, rfl, rfl⟩)) rfl k
  obtain ⟨r1, J9, e1, hsp, hr⟩ := yc_ship hP hS1 hb.1 hb.2.1 hq0 kc
  subst e1
  have k : nt_rn X _ 96 (72, [(0, .ref Yr), (1, .int (nI 1))], [], me_w M J9) _ := k
  have k := ly_revb 1 (c' := (133, [(0, .ref Yr), (1, .int (nI 1))], [], me_w M J9)) rfl k
  have k := lz_rv rfl rfl k
  rcases hr with ⟨c, rfl, hc, u1, D, h9⟩ | ⟨q, D, rfl, hq, hC, h9⟩
  · exact ⟨.inl c, _, k, ⟨_, hsp, Or.inl ⟨c, rfl, rfl⟩⟩, hc, u1, D, h9⟩
  · refine ⟨.inr (q, u.1, u.2.1 + 1, u.2.2.1, u.2.2.2.1, u.2.2.2.2), _, k, ⟨_, hsp, Or.inr ⟨q, rfl, rfl⟩⟩, hq, ?_, D, hC, h9⟩
    obtain ⟨b1, b2, b3, b4, b5⟩ := hb
    have hf : ¬ 6 ≤ u.2.1 := hfu
    exact ⟨b1, by dsimp only; omega, b3, b4, b5⟩
theorem yc_pa2 {X : nt_X} {d t Rd Tp By RR Sp Yr Y m0 s0 : Nat} {Rw : Nat → Nat} {f : Nat → Int32} {M : nt_M} {o : Option Value × nt_M} {C : lb_C} {p : Nat} {u : Nat × Nat × Nat × Nat × Nat} {J : Nat → Nat → Int32} (hP : yc_P M t Rd Tp By RR Sp Yr Y Rw) (hS : yc_S Rw C f t Rd Tp By RR Y m0 s0 p 0 u J) (hp : p ≤ t) (hb : lb_ub u) (hat : lb_yw f t p 2) (hfu : ¬ lb_fu (p, u) 2) (k : nt_ev X d 96 [.ref Yr, .int (nI 2)] (me_w M J) o) : ∃ r J', o = (none, me_w M J') ∧ lb_pa f t (p, u) (lb_s f t (p + (lb_W (nt_sp + 1 + 2)).length)) 2 r ∧ yc_Q Rw (fun v D => lb_paC f t u (lb_s f t (p + (lb_W (nt_sp + 1 + 2)).length)) v.1 2 C D) f t Rd Tp By RR Y m0 s0 r J' := by
  have k : nt_rn X d 96 (0, [(0, .ref Yr), (1, .int (nI 2))], [], me_w M J) o := k
  have t4 : t ≤ 400 := hP.2.2.2.2.2.1
  have k := ly_revb 2 (c' := (75, [(0, .ref Yr), (1, .int (nI 2))], [], me_w M J)) rfl k
  have k := ly_revb 1 (c' := (76, [(0, .ref Yr), (1, .int (nI 2))], [.ref Yr], me_w M J)) rfl k
  have k := lz_get (a := Yr) (g := 900) (M := me_w M J) (v := .ref Rd) rfl (nt_gfR rfl hP.2.2.1.1) k
  have k := ly_revb 1 (c' := (81, [(0, .ref Yr), (1, .int (nI 2))], [.ref (nt_sp + 1 + 2), .ref Rd], me_w M J)) rfl k
  obtain ⟨d1, o1, ed, kc, k⟩ := lz_c (g := 32) (q := 1) (vs := [.ref Rd, .ref (nt_sp + 1 + 2)]) (rest := []) rfl rfl (by decide) (Or.inr (Or.inl ⟨_, rfl, rfl⟩)) rfl k
  obtain ⟨_, e1⟩ := (lc_takesWord (yc_lP hP hS) (yc_lS hP hS) hp kc).resolve_right (fun c => c.1 hat)
  subst e1
  have hS1 := yc_Sp (q := lb_s f t (p + (lb_W (nt_sp + 1 + 2)).length)) hP hS
  have hq0 : lb_s f t (p + (lb_W (nt_sp + 1 + 2)).length) ≤ t := (lb_s_le (t - (p + (lb_W (nt_sp + 1 + 2)).length)) (p + (lb_W (nt_sp + 1 + 2)).length) (by have := hat.1; omega)).2
  have k : nt_rn X _ 96 (84, [(0, .ref Yr), (1, .int (nI 2))], [.int (Int32.ofInt 1)], me_w M (nt_u J Rd 1 (nI (lb_s f t (p + (lb_W (nt_sp + 1 + 2)).length))))) _ := k
  have k := ly_revb 2 (c' := (86, [(0, .ref Yr), (1, .int (nI 2))], [.ref Yr], me_w M (nt_u J Rd 1 (nI (lb_s f t (p + (lb_W (nt_sp + 1 + 2)).length)))))) rfl k
  obtain ⟨d1, o1, ed, kc, k⟩ := lz_c (g := 99) (q := 1) (vs := [.ref Yr]) (rest := []) rfl rfl (by decide) (Or.inr (Or.inl ⟨_, rfl, rfl⟩)) rfl k
  obtain ⟨r1, J9, e1, hsp, hr⟩ := yc_plank hP hS1 (by have := hb.2.2.1; omega) hq0 kc
  subst e1
  have k : nt_rn X _ 96 (89, [(0, .ref Yr), (1, .int (nI 2))], [], me_w M J9) _ := k
  have k := ly_revb 1 (c' := (133, [(0, .ref Yr), (1, .int (nI 2))], [], me_w M J9)) rfl k
  have k := lz_rv rfl rfl k
  rcases hr with ⟨c, rfl, hc, u1, D, h9⟩ | ⟨q, D, rfl, hq, hC, h9⟩
  · exact ⟨.inl c, _, k, ⟨_, hsp, Or.inl ⟨c, rfl, rfl⟩⟩, hc, u1, D, h9⟩
  · refine ⟨.inr (q, u.1, u.2.1, u.2.2.1 + 1, u.2.2.2.1, u.2.2.2.2), _, k, ⟨_, hsp, Or.inr ⟨q, rfl, rfl⟩⟩, hq, ?_, D, hC, h9⟩
    obtain ⟨b1, b2, b3, b4, b5⟩ := hb
    have hf : ¬ 24 ≤ u.2.2.1 := hfu
    exact ⟨b1, b2, by dsimp only; omega, b4, b5⟩
theorem yc_pa3 {X : nt_X} {d t Rd Tp By RR Sp Yr Y m0 s0 : Nat} {Rw : Nat → Nat} {f : Nat → Int32} {M : nt_M} {o : Option Value × nt_M} {C : lb_C} {p : Nat} {u : Nat × Nat × Nat × Nat × Nat} {J : Nat → Nat → Int32} (hP : yc_P M t Rd Tp By RR Sp Yr Y Rw) (hS : yc_S Rw C f t Rd Tp By RR Y m0 s0 p 0 u J) (hp : p ≤ t) (hb : lb_ub u) (hat : lb_yw f t p 3) (hfu : ¬ lb_fu (p, u) 3) (k : nt_ev X d 96 [.ref Yr, .int (nI 3)] (me_w M J) o) : ∃ r J', o = (none, me_w M J') ∧ lb_pa f t (p, u) (lb_s f t (p + (lb_W (nt_sp + 1 + 3)).length)) 3 r ∧ yc_Q Rw (fun v D => lb_paC f t u (lb_s f t (p + (lb_W (nt_sp + 1 + 3)).length)) v.1 3 C D) f t Rd Tp By RR Y m0 s0 r J' := by
  have k : nt_rn X d 96 (0, [(0, .ref Yr), (1, .int (nI 3))], [], me_w M J) o := k
  have t4 : t ≤ 400 := hP.2.2.2.2.2.1
  have k := ly_revb 2 (c' := (92, [(0, .ref Yr), (1, .int (nI 3))], [], me_w M J)) rfl k
  have k := ly_revb 1 (c' := (93, [(0, .ref Yr), (1, .int (nI 3))], [.ref Yr], me_w M J)) rfl k
  have k := lz_get (a := Yr) (g := 900) (M := me_w M J) (v := .ref Rd) rfl (nt_gfR rfl hP.2.2.1.1) k
  have k := ly_revb 1 (c' := (98, [(0, .ref Yr), (1, .int (nI 3))], [.ref (nt_sp + 1 + 3), .ref Rd], me_w M J)) rfl k
  obtain ⟨d1, o1, ed, kc, k⟩ := lz_c (g := 32) (q := 1) (vs := [.ref Rd, .ref (nt_sp + 1 + 3)]) (rest := []) rfl rfl (by decide) (Or.inr (Or.inl ⟨_, rfl, rfl⟩)) rfl k
  obtain ⟨_, e1⟩ := (lc_takesWord (yc_lP hP hS) (yc_lS hP hS) hp kc).resolve_right (fun c => c.1 hat)
  subst e1
  have hS1 := yc_Sp (q := lb_s f t (p + (lb_W (nt_sp + 1 + 3)).length)) hP hS
  have hq0 : lb_s f t (p + (lb_W (nt_sp + 1 + 3)).length) ≤ t := (lb_s_le (t - (p + (lb_W (nt_sp + 1 + 3)).length)) (p + (lb_W (nt_sp + 1 + 3)).length) (by have := hat.1; omega)).2
  have k : nt_rn X _ 96 (101, [(0, .ref Yr), (1, .int (nI 3))], [.int (Int32.ofInt 1)], me_w M (nt_u J Rd 1 (nI (lb_s f t (p + (lb_W (nt_sp + 1 + 3)).length))))) _ := k
  have k := ly_revb 2 (c' := (103, [(0, .ref Yr), (1, .int (nI 3))], [.ref Yr], me_w M (nt_u J Rd 1 (nI (lb_s f t (p + (lb_W (nt_sp + 1 + 3)).length)))))) rfl k
  obtain ⟨d1, o1, ed, kc, k⟩ := lz_c (g := 100) (q := 1) (vs := [.ref Yr]) (rest := []) rfl rfl (by decide) (Or.inr (Or.inl ⟨_, rfl, rfl⟩)) rfl k
  obtain ⟨r1, J9, e1, hsp, hr⟩ := yc_voyage hP hS1 (by have := hb.2.2.2.1; omega) hq0 kc
  subst e1
  have k : nt_rn X _ 96 (106, [(0, .ref Yr), (1, .int (nI 3))], [], me_w M J9) _ := k
  have k := ly_revb 1 (c' := (133, [(0, .ref Yr), (1, .int (nI 3))], [], me_w M J9)) rfl k
  have k := lz_rv rfl rfl k
  rcases hr with ⟨c, rfl, hc, u1, D, h9⟩ | ⟨q, D, rfl, hq, hC, h9⟩
  · exact ⟨.inl c, _, k, ⟨_, hsp, Or.inl ⟨c, rfl, rfl⟩⟩, hc, u1, D, h9⟩
  · refine ⟨.inr (q, u.1, u.2.1, u.2.2.1, u.2.2.2.1 + 1, u.2.2.2.2), _, k, ⟨_, hsp, Or.inr ⟨q, rfl, rfl⟩⟩, hq, ?_, D, hC, h9⟩
    obtain ⟨b1, b2, b3, b4, b5⟩ := hb
    have hf : ¬ 8 ≤ u.2.2.2.1 := hfu
    exact ⟨b1, b2, b3, by dsimp only; omega, b5⟩
theorem yc_pa4 {X : nt_X} {d t Rd Tp By RR Sp Yr Y m0 s0 : Nat} {Rw : Nat → Nat} {f : Nat → Int32} {M : nt_M} {o : Option Value × nt_M} {C : lb_C} {p : Nat} {u : Nat × Nat × Nat × Nat × Nat} {J : Nat → Nat → Int32} (hP : yc_P M t Rd Tp By RR Sp Yr Y Rw) (hS : yc_S Rw C f t Rd Tp By RR Y m0 s0 p 0 u J) (hp : p ≤ t) (hb : lb_ub u) (hat : lb_yw f t p 4) (hfu : ¬ lb_fu (p, u) 4) (k : nt_ev X d 96 [.ref Yr, .int (nI 4)] (me_w M J) o) : ∃ r J', o = (none, me_w M J') ∧ lb_pa f t (p, u) (lb_s f t (p + (lb_W (nt_sp + 1 + 4)).length)) 4 r ∧ yc_Q Rw (fun v D => lb_paC f t u (lb_s f t (p + (lb_W (nt_sp + 1 + 4)).length)) v.1 4 C D) f t Rd Tp By RR Y m0 s0 r J' := by
  have k : nt_rn X d 96 (0, [(0, .ref Yr), (1, .int (nI 4))], [], me_w M J) o := k
  have t4 : t ≤ 400 := hP.2.2.2.2.2.1
  have k := ly_revb 2 (c' := (109, [(0, .ref Yr), (1, .int (nI 4))], [], me_w M J)) rfl k
  have k := ly_revb 1 (c' := (110, [(0, .ref Yr), (1, .int (nI 4))], [.ref Yr], me_w M J)) rfl k
  have k := lz_get (a := Yr) (g := 900) (M := me_w M J) (v := .ref Rd) rfl (nt_gfR rfl hP.2.2.1.1) k
  have k := ly_revb 1 (c' := (115, [(0, .ref Yr), (1, .int (nI 4))], [.ref (nt_sp + 1 + 4), .ref Rd], me_w M J)) rfl k
  obtain ⟨d1, o1, ed, kc, k⟩ := lz_c (g := 32) (q := 1) (vs := [.ref Rd, .ref (nt_sp + 1 + 4)]) (rest := []) rfl rfl (by decide) (Or.inr (Or.inl ⟨_, rfl, rfl⟩)) rfl k
  obtain ⟨_, e1⟩ := (lc_takesWord (yc_lP hP hS) (yc_lS hP hS) hp kc).resolve_right (fun c => c.1 hat)
  subst e1
  have hS1 := yc_Sp (q := lb_s f t (p + (lb_W (nt_sp + 1 + 4)).length)) hP hS
  have hq0 : lb_s f t (p + (lb_W (nt_sp + 1 + 4)).length) ≤ t := (lb_s_le (t - (p + (lb_W (nt_sp + 1 + 4)).length)) (p + (lb_W (nt_sp + 1 + 4)).length) (by have := hat.1; omega)).2
  have k : nt_rn X _ 96 (118, [(0, .ref Yr), (1, .int (nI 4))], [.int (Int32.ofInt 1)], me_w M (nt_u J Rd 1 (nI (lb_s f t (p + (lb_W (nt_sp + 1 + 4)).length))))) _ := k
  have k := ly_revb 2 (c' := (120, [(0, .ref Yr), (1, .int (nI 4))], [.ref Yr], me_w M (nt_u J Rd 1 (nI (lb_s f t (p + (lb_W (nt_sp + 1 + 4)).length)))))) rfl k
  have k := lz_get (a := Yr) (g := 901) (M := me_w M (nt_u J Rd 1 (nI (lb_s f t (p + (lb_W (nt_sp + 1 + 4)).length))))) (v := .ref Y) rfl (nt_gfR rfl hP.2.2.1.2) k
  have k := ly_revb 3 (c' := (127, [(0, .ref Yr), (1, .int (nI 4))], [.int (Int32.ofInt 30), .int (Int32.ofInt 1), .ref Yr, .ref Y], me_w M (nt_u J Rd 1 (nI (lb_s f t (p + (lb_W (nt_sp + 1 + 4)).length)))))) rfl k
  obtain ⟨d1, o1, ed, kc, k⟩ := lz_c (g := 97) (q := 1) (vs := [.ref Yr, .int (Int32.ofInt 1), .int (Int32.ofInt 30)]) (rest := [.ref Y]) rfl rfl (by decide) (Or.inr (Or.inl ⟨_, rfl, rfl⟩)) rfl k
  obtain ⟨r1, a1, J1, e1, hv1, hN1⟩ := yc_num hP hS1 hq0 (by decide) kc
  subst e1
  rcases r1 with c | ⟨q1, x1⟩
  · obtain ⟨hc, rfl, hT1⟩ := hN1
    have k : nt_rn X _ 96 (130, [(0, .ref Yr), (1, .int (nI 4))], [.int (Int32.ofInt 0), .ref Y], me_w M J1) _ := k
    have k := me_put rfl (by decide) k
    have k : nt_rn X _ 96 (133, [(0, .ref Yr), (1, .int (nI 4))], [], me_w M (nt_u J1 Y 4 (Int32.ofInt 0))) _ := k
    have hS2 : yc_S Rw C f t Rd Tp By RR Y m0 s0 t c (u.1, u.2.1, u.2.2.1, u.2.2.2.1, 0) (nt_u J1 Y 4 (Int32.ofInt 0)) := yc_S4 (y := 0) hP hT1
    have k := lz_rv rfl rfl k
    exact ⟨.inl c, _, k, ⟨_, hv1, Or.inl ⟨c, rfl, rfl⟩⟩, hc, _, _, hS2⟩
  · obtain ⟨ea, hq1, hT1⟩ := hN1
    dsimp only at ea hq1 hT1
    subst ea
    have hu1 := lb_nu_up hq0 hv1
    have k : nt_rn X _ 96 (130, [(0, .ref Yr), (1, .int (nI 4))], [.int (a1), .ref Y], me_w M J1) _ := k
    have k := me_put rfl (by decide) k
    have k : nt_rn X _ 96 (133, [(0, .ref Yr), (1, .int (nI 4))], [], me_w M (nt_u J1 Y 4 (a1))) _ := k
    obtain ⟨ex, hx⟩ := yc_nn (b := 30) (by decide) hu1.2.1 hu1.2.2
    have hS2 := yc_S4 (y := a1.toInt.toNat) hP hT1
    rw [← ex] at hS2
    have k := lz_rv rfl rfl k
    obtain ⟨b1, b2, b3, b4, b5⟩ := hb
    exact ⟨.inr (q1, u.1, u.2.1, u.2.2.1, u.2.2.2.1, a1.toInt.toNat), _, k, ⟨_, hv1, Or.inr ⟨_, _, rfl, rfl⟩⟩, hq1, ⟨b1, b2, b3, b4, hx⟩, _, rfl, hS2⟩
theorem yc_fu0 {X : nt_X} {d t Rd Tp By RR Sp Yr Y m0 s0 : Nat} {Rw : Nat → Nat} {f : Nat → Int32} {M : nt_M} {o : Option Value × nt_M} {C : lb_C} {p : Nat} {u : Nat × Nat × Nat × Nat × Nat} {J : Nat → Nat → Int32} (hP : yc_P M t Rd Tp By RR Sp Yr Y Rw) (hS : yc_S Rw C f t Rd Tp By RR Y m0 s0 p 0 u J) (hb : lb_ub u) (k : nt_ev X d 95 [.ref Yr, .int (nI 0)] (me_w M J) o) : ∃ a, o = (some (.int a), me_w M J) ∧ (a = Int32.ofInt 1 ∧ lb_fu (p, u) 0 ∨ a = Int32.ofInt 0 ∧ ¬ lb_fu (p, u) 0) := by
  have k : nt_rn X d 95 (0, [(0, .ref Yr), (1, .int (nI 0))], [], me_w M J) o := k
  have t4 : t ≤ 400 := hP.2.2.2.2.2.1
  obtain ⟨b1, b2, b3, b4, b5⟩ := hb
  have k := ly_revb 2 (c' := (102, [(0, .ref Yr), (1, .int (nI 0))], [], me_w M J)) rfl k
  have k := ly_revb 1 (c' := (103, [(0, .ref Yr), (1, .int (nI 0))], [.int (Int32.ofInt 0)], me_w M J)) rfl k
  have k := lz_ri rfl (by decide) k
  exact ⟨_, k, Or.inr ⟨rfl, fun c => c⟩⟩
theorem yc_fu1 {X : nt_X} {d t Rd Tp By RR Sp Yr Y m0 s0 : Nat} {Rw : Nat → Nat} {f : Nat → Int32} {M : nt_M} {o : Option Value × nt_M} {C : lb_C} {p : Nat} {u : Nat × Nat × Nat × Nat × Nat} {J : Nat → Nat → Int32} (hP : yc_P M t Rd Tp By RR Sp Yr Y Rw) (hS : yc_S Rw C f t Rd Tp By RR Y m0 s0 p 0 u J) (hb : lb_ub u) (k : nt_ev X d 95 [.ref Yr, .int (nI 1)] (me_w M J) o) : ∃ a, o = (some (.int a), me_w M J) ∧ (a = Int32.ofInt 1 ∧ lb_fu (p, u) 1 ∨ a = Int32.ofInt 0 ∧ ¬ lb_fu (p, u) 1) := by
  have k : nt_rn X d 95 (0, [(0, .ref Yr), (1, .int (nI 1))], [], me_w M J) o := k
  have t4 : t ≤ 400 := hP.2.2.2.2.2.1
  obtain ⟨b1, b2, b3, b4, b5⟩ := hb
  have k := ly_revb 2 (c' := (32, [(0, .ref Yr), (1, .int (nI 1))], [], me_w M J)) rfl k
  have k := ly_revb 1 (c' := (33, [(0, .ref Yr), (1, .int (nI 1))], [.ref Yr], me_w M J)) rfl k
  have k := lz_get (a := Yr) (g := 901) (M := me_w M J) (v := .ref Y) rfl (nt_gfR rfl hP.2.2.1.2) k
  have k := lz_get (a := Y) (g := 801) (M := me_w M J) (v := .int (nI u.2.1)) rfl (congrArg Value.int (hS.2.2.1.2.1)) k
  have k := ly_revb 2 (c' := (if (nI u.2.1) < (Int32.ofInt 6) then 48 else 44, [(0, .ref Yr), (1, .int (nI 1))], [], me_w M J)) rfl k
  by_cases h41 : u.2.1 < 6
  · rw [if_pos (show (nI u.2.1) < (Int32.ofInt 6) from show nI u.2.1 < nI 6 from nI_lt h41 (by omega))] at k
    have k := ly_revb 1 (c' := (49, [(0, .ref Yr), (1, .int (nI 1))], [.int (Int32.ofInt 0)], me_w M J)) rfl k
    have k := lz_ri rfl (by decide) k
    exact ⟨_, k, Or.inr ⟨rfl, show ¬ 6 ≤ u.2.1 by omega⟩⟩
  · rw [if_neg (show ¬ ((nI u.2.1) < (Int32.ofInt 6)) from show ¬ nI u.2.1 < nI 6 from nI_nlt (Nat.not_lt.mp h41) (by omega))] at k
    have k := ly_revb 2 (c' := (49, [(0, .ref Yr), (1, .int (nI 1))], [.int (Int32.ofInt 1)], me_w M J)) rfl k
    have k := lz_ri rfl (by decide) k
    exact ⟨_, k, Or.inl ⟨rfl, show 6 ≤ u.2.1 by omega⟩⟩
theorem yc_fu2 {X : nt_X} {d t Rd Tp By RR Sp Yr Y m0 s0 : Nat} {Rw : Nat → Nat} {f : Nat → Int32} {M : nt_M} {o : Option Value × nt_M} {C : lb_C} {p : Nat} {u : Nat × Nat × Nat × Nat × Nat} {J : Nat → Nat → Int32} (hP : yc_P M t Rd Tp By RR Sp Yr Y Rw) (hS : yc_S Rw C f t Rd Tp By RR Y m0 s0 p 0 u J) (hb : lb_ub u) (k : nt_ev X d 95 [.ref Yr, .int (nI 2)] (me_w M J) o) : ∃ a, o = (some (.int a), me_w M J) ∧ (a = Int32.ofInt 1 ∧ lb_fu (p, u) 2 ∨ a = Int32.ofInt 0 ∧ ¬ lb_fu (p, u) 2) := by
  have k : nt_rn X d 95 (0, [(0, .ref Yr), (1, .int (nI 2))], [], me_w M J) o := k
  have t4 : t ≤ 400 := hP.2.2.2.2.2.1
  obtain ⟨b1, b2, b3, b4, b5⟩ := hb
  have k := ly_revb 2 (c' := (50, [(0, .ref Yr), (1, .int (nI 2))], [], me_w M J)) rfl k
  have k := ly_revb 1 (c' := (51, [(0, .ref Yr), (1, .int (nI 2))], [.ref Yr], me_w M J)) rfl k
  have k := lz_get (a := Yr) (g := 901) (M := me_w M J) (v := .ref Y) rfl (nt_gfR rfl hP.2.2.1.2) k
  have k := lz_get (a := Y) (g := 802) (M := me_w M J) (v := .int (nI u.2.2.1)) rfl (congrArg Value.int (hS.2.2.1.2.2.1)) k
  have k := ly_revb 2 (c' := (if (nI u.2.2.1) < (Int32.ofInt 24) then 66 else 62, [(0, .ref Yr), (1, .int (nI 2))], [], me_w M J)) rfl k
  by_cases h59 : u.2.2.1 < 24
  · rw [if_pos (show (nI u.2.2.1) < (Int32.ofInt 24) from show nI u.2.2.1 < nI 24 from nI_lt h59 (by omega))] at k
    have k := ly_revb 1 (c' := (67, [(0, .ref Yr), (1, .int (nI 2))], [.int (Int32.ofInt 0)], me_w M J)) rfl k
    have k := lz_ri rfl (by decide) k
    exact ⟨_, k, Or.inr ⟨rfl, show ¬ 24 ≤ u.2.2.1 by omega⟩⟩
  · rw [if_neg (show ¬ ((nI u.2.2.1) < (Int32.ofInt 24)) from show ¬ nI u.2.2.1 < nI 24 from nI_nlt (Nat.not_lt.mp h59) (by omega))] at k
    have k := ly_revb 2 (c' := (67, [(0, .ref Yr), (1, .int (nI 2))], [.int (Int32.ofInt 1)], me_w M J)) rfl k
    have k := lz_ri rfl (by decide) k
    exact ⟨_, k, Or.inl ⟨rfl, show 24 ≤ u.2.2.1 by omega⟩⟩
theorem yc_fu3 {X : nt_X} {d t Rd Tp By RR Sp Yr Y m0 s0 : Nat} {Rw : Nat → Nat} {f : Nat → Int32} {M : nt_M} {o : Option Value × nt_M} {C : lb_C} {p : Nat} {u : Nat × Nat × Nat × Nat × Nat} {J : Nat → Nat → Int32} (hP : yc_P M t Rd Tp By RR Sp Yr Y Rw) (hS : yc_S Rw C f t Rd Tp By RR Y m0 s0 p 0 u J) (hb : lb_ub u) (k : nt_ev X d 95 [.ref Yr, .int (nI 3)] (me_w M J) o) : ∃ a, o = (some (.int a), me_w M J) ∧ (a = Int32.ofInt 1 ∧ lb_fu (p, u) 3 ∨ a = Int32.ofInt 0 ∧ ¬ lb_fu (p, u) 3) := by
  have k : nt_rn X d 95 (0, [(0, .ref Yr), (1, .int (nI 3))], [], me_w M J) o := k
  have t4 : t ≤ 400 := hP.2.2.2.2.2.1
  obtain ⟨b1, b2, b3, b4, b5⟩ := hb
  have k := ly_revb 2 (c' := (68, [(0, .ref Yr), (1, .int (nI 3))], [], me_w M J)) rfl k
  have k := ly_revb 1 (c' := (69, [(0, .ref Yr), (1, .int (nI 3))], [.ref Yr], me_w M J)) rfl k
  have k := lz_get (a := Yr) (g := 901) (M := me_w M J) (v := .ref Y) rfl (nt_gfR rfl hP.2.2.1.2) k
  have k := lz_get (a := Y) (g := 803) (M := me_w M J) (v := .int (nI u.2.2.2.1)) rfl (congrArg Value.int (hS.2.2.1.2.2.2.1)) k
  have k := ly_revb 2 (c' := (if (nI u.2.2.2.1) < (Int32.ofInt 8) then 84 else 80, [(0, .ref Yr), (1, .int (nI 3))], [], me_w M J)) rfl k
  by_cases h77 : u.2.2.2.1 < 8
  · rw [if_pos (show (nI u.2.2.2.1) < (Int32.ofInt 8) from show nI u.2.2.2.1 < nI 8 from nI_lt h77 (by omega))] at k
    have k := ly_revb 1 (c' := (85, [(0, .ref Yr), (1, .int (nI 3))], [.int (Int32.ofInt 0)], me_w M J)) rfl k
    have k := lz_ri rfl (by decide) k
    exact ⟨_, k, Or.inr ⟨rfl, show ¬ 8 ≤ u.2.2.2.1 by omega⟩⟩
  · rw [if_neg (show ¬ ((nI u.2.2.2.1) < (Int32.ofInt 8)) from show ¬ nI u.2.2.2.1 < nI 8 from nI_nlt (Nat.not_lt.mp h77) (by omega))] at k
    have k := ly_revb 2 (c' := (85, [(0, .ref Yr), (1, .int (nI 3))], [.int (Int32.ofInt 1)], me_w M J)) rfl k
    have k := lz_ri rfl (by decide) k
    exact ⟨_, k, Or.inl ⟨rfl, show 8 ≤ u.2.2.2.1 by omega⟩⟩
theorem yc_fu4 {X : nt_X} {d t Rd Tp By RR Sp Yr Y m0 s0 : Nat} {Rw : Nat → Nat} {f : Nat → Int32} {M : nt_M} {o : Option Value × nt_M} {C : lb_C} {p : Nat} {u : Nat × Nat × Nat × Nat × Nat} {J : Nat → Nat → Int32} (hP : yc_P M t Rd Tp By RR Sp Yr Y Rw) (hS : yc_S Rw C f t Rd Tp By RR Y m0 s0 p 0 u J) (hb : lb_ub u) (k : nt_ev X d 95 [.ref Yr, .int (nI 4)] (me_w M J) o) : ∃ a, o = (some (.int a), me_w M J) ∧ (a = Int32.ofInt 1 ∧ lb_fu (p, u) 4 ∨ a = Int32.ofInt 0 ∧ ¬ lb_fu (p, u) 4) := by
  have k : nt_rn X d 95 (0, [(0, .ref Yr), (1, .int (nI 4))], [], me_w M J) o := k
  have t4 : t ≤ 400 := hP.2.2.2.2.2.1
  obtain ⟨b1, b2, b3, b4, b5⟩ := hb
  have k := ly_revb 2 (c' := (86, [(0, .ref Yr), (1, .int (nI 4))], [], me_w M J)) rfl k
  have k := ly_revb 1 (c' := (87, [(0, .ref Yr), (1, .int (nI 4))], [.ref Yr], me_w M J)) rfl k
  have k := lz_get (a := Yr) (g := 901) (M := me_w M J) (v := .ref Y) rfl (nt_gfR rfl hP.2.2.1.2) k
  have k := lz_get (a := Y) (g := 804) (M := me_w M J) (v := .int (nI u.2.2.2.2)) rfl (congrArg Value.int (hS.2.2.1.2.2.2.2)) k
  have k := ly_revb 1 (c' := (if (nI u.2.2.2.2) = 0 then 100 else 96, [(0, .ref Yr), (1, .int (nI 4))], [], me_w M J)) rfl k
  by_cases h93 : u.2.2.2.2 = 0
  · rw [if_pos (show (nI u.2.2.2.2) = 0 from show nI u.2.2.2.2 = nI 0 from congrArg nI h93)] at k
    have k := ly_revb 1 (c' := (101, [(0, .ref Yr), (1, .int (nI 4))], [.int (Int32.ofInt 0)], me_w M J)) rfl k
    have k := lz_ri rfl (by decide) k
    exact ⟨_, k, Or.inr ⟨rfl, fun c => c h93⟩⟩
  · rw [if_neg (show ¬ ((nI u.2.2.2.2) = 0) from nI_ne0 (Nat.pos_of_ne_zero h93) (by omega))] at k
    have k := ly_revb 2 (c' := (101, [(0, .ref Yr), (1, .int (nI 4))], [.int (Int32.ofInt 1)], me_w M J)) rfl k
    have k := lz_ri rfl (by decide) k
    exact ⟨_, k, Or.inl ⟨rfl, show ¬ u.2.2.2.2 = 0 from h93⟩⟩
theorem yc_at {X : nt_X} {d t Rd Tp By RR Sp Yr Y m0 s0 : Nat} {Rw : Nat → Nat} {f : Nat → Int32} {M : nt_M} {o : Option Value × nt_M} {C : lb_C} {p : Nat} {u : Nat × Nat × Nat × Nat × Nat} {J : Nat → Nat → Int32} (hP : yc_P M t Rd Tp By RR Sp Yr Y Rw) (hS : yc_S Rw C f t Rd Tp By RR Y m0 s0 p 0 u J) (hp : p ≤ t) (k : nt_ev X d 94 [.ref Yr] (me_w M J) o) : ∃ a, o = (some (.int a), me_w M J) ∧ ((∃ w, w < 5 ∧ a = nI w ∧ lb_yw f t p w ∧ ∀ v, v < w → ¬ lb_yw f t p v) ∨ a = Int32.ofInt (-1) ∧ ∀ v, v < 5 → ¬ lb_yw f t p v) := by
  have k : nt_rn X d 94 (0, [(0, .ref Yr)], [], me_w M J) o := k
  have t4 : t ≤ 400 := hP.2.2.2.2.2.1
  have k := ly_revb 1 (c' := (1, [(0, .ref Yr)], [.ref Yr], me_w M J)) rfl k
  have k := lz_get (a := Yr) (g := 900) (M := me_w M J) (v := .ref Rd) rfl (nt_gfR rfl hP.2.2.1.1) k
  have k := ly_revb 1 (c' := (6, [(0, .ref Yr)], [.ref (nt_sp + 1 + 0), .ref Rd], me_w M J)) rfl k
  obtain ⟨d1, o1, ed, kc, k⟩ := lz_c (g := 30) (q := 1) (vs := [.ref Rd, .ref (nt_sp + 1 + 0)]) (rest := []) rfl rfl (by decide) (Or.inr (Or.inl ⟨_, rfl, rfl⟩)) rfl k
  obtain ⟨r, e1, hr⟩ := lc_isAt (yc_lP hP hS) (yc_lS hP hS) hp kc
  subst e1
  rcases hr with ⟨rfl, g0⟩ | ⟨rfl, g0⟩
  · have k : nt_rn X _ 94 (9, [(0, .ref Yr)], [.int (Int32.ofInt 1)], me_w M J) _ := k
    have k := ly_revb 1 (c' := (if (Int32.ofInt 1) = 0 then 14 else 12, [(0, .ref Yr)], [], me_w M J)) rfl k
    rw [if_neg (show ¬ ((Int32.ofInt 1) = 0) from by decide)] at k
    have k := ly_revb 1 (c' := (13, [(0, .ref Yr)], [.int (Int32.ofInt 0)], me_w M J)) rfl k
    have k := lz_ri rfl (by decide) k
    refine ⟨_, k, Or.inl ⟨0, by decide, rfl, g0, fun v hv => ?_⟩⟩
    omega
  · have k : nt_rn X _ 94 (9, [(0, .ref Yr)], [.int (Int32.ofInt 0)], me_w M J) _ := k
    have k := ly_revb 1 (c' := (if (Int32.ofInt 0) = 0 then 14 else 12, [(0, .ref Yr)], [], me_w M J)) rfl k
    rw [if_pos (show (Int32.ofInt 0) = 0 from by decide)] at k
    have k := ly_revb 1 (c' := (15, [(0, .ref Yr)], [.ref Yr], me_w M J)) rfl k
    have k := lz_get (a := Yr) (g := 900) (M := me_w M J) (v := .ref Rd) rfl (nt_gfR rfl hP.2.2.1.1) k
    have k := ly_revb 1 (c' := (20, [(0, .ref Yr)], [.ref (nt_sp + 1 + 1), .ref Rd], me_w M J)) rfl k
    obtain ⟨d1, o1, ed, kc, k⟩ := lz_c (g := 30) (q := 1) (vs := [.ref Rd, .ref (nt_sp + 1 + 1)]) (rest := []) rfl rfl (by decide) (Or.inr (Or.inl ⟨_, rfl, rfl⟩)) rfl k
    obtain ⟨r, e1, hr⟩ := lc_isAt (yc_lP hP hS) (yc_lS hP hS) hp kc
    subst e1
    rcases hr with ⟨rfl, g1⟩ | ⟨rfl, g1⟩
    · have k : nt_rn X _ 94 (23, [(0, .ref Yr)], [.int (Int32.ofInt 1)], me_w M J) _ := k
      have k := ly_revb 1 (c' := (if (Int32.ofInt 1) = 0 then 28 else 26, [(0, .ref Yr)], [], me_w M J)) rfl k
      rw [if_neg (show ¬ ((Int32.ofInt 1) = 0) from by decide)] at k
      have k := ly_revb 1 (c' := (27, [(0, .ref Yr)], [.int (Int32.ofInt 1)], me_w M J)) rfl k
      have k := lz_ri rfl (by decide) k
      refine ⟨_, k, Or.inl ⟨1, by decide, rfl, g1, fun v hv => ?_⟩⟩
      rcases (by omega : v = 0) with rfl
      · exact g0
    · have k : nt_rn X _ 94 (23, [(0, .ref Yr)], [.int (Int32.ofInt 0)], me_w M J) _ := k
      have k := ly_revb 1 (c' := (if (Int32.ofInt 0) = 0 then 28 else 26, [(0, .ref Yr)], [], me_w M J)) rfl k
      rw [if_pos (show (Int32.ofInt 0) = 0 from by decide)] at k
      have k := ly_revb 1 (c' := (29, [(0, .ref Yr)], [.ref Yr], me_w M J)) rfl k
      have k := lz_get (a := Yr) (g := 900) (M := me_w M J) (v := .ref Rd) rfl (nt_gfR rfl hP.2.2.1.1) k
      have k := ly_revb 1 (c' := (34, [(0, .ref Yr)], [.ref (nt_sp + 1 + 2), .ref Rd], me_w M J)) rfl k
      obtain ⟨d1, o1, ed, kc, k⟩ := lz_c (g := 30) (q := 1) (vs := [.ref Rd, .ref (nt_sp + 1 + 2)]) (rest := []) rfl rfl (by decide) (Or.inr (Or.inl ⟨_, rfl, rfl⟩)) rfl k
      obtain ⟨r, e1, hr⟩ := lc_isAt (yc_lP hP hS) (yc_lS hP hS) hp kc
      subst e1
      rcases hr with ⟨rfl, g2⟩ | ⟨rfl, g2⟩
      · have k : nt_rn X _ 94 (37, [(0, .ref Yr)], [.int (Int32.ofInt 1)], me_w M J) _ := k
        have k := ly_revb 1 (c' := (if (Int32.ofInt 1) = 0 then 42 else 40, [(0, .ref Yr)], [], me_w M J)) rfl k
        rw [if_neg (show ¬ ((Int32.ofInt 1) = 0) from by decide)] at k
        have k := ly_revb 1 (c' := (41, [(0, .ref Yr)], [.int (Int32.ofInt 2)], me_w M J)) rfl k
        have k := lz_ri rfl (by decide) k
        refine ⟨_, k, Or.inl ⟨2, by decide, rfl, g2, fun v hv => ?_⟩⟩
        rcases (by omega : v = 0 ∨ v = 1) with rfl | rfl
        · exact g0
        · exact g1
      · have k : nt_rn X _ 94 (37, [(0, .ref Yr)], [.int (Int32.ofInt 0)], me_w M J) _ := k
        have k := ly_revb 1 (c' := (if (Int32.ofInt 0) = 0 then 42 else 40, [(0, .ref Yr)], [], me_w M J)) rfl k
        rw [if_pos (show (Int32.ofInt 0) = 0 from by decide)] at k
        have k := ly_revb 1 (c' := (43, [(0, .ref Yr)], [.ref Yr], me_w M J)) rfl k
        have k := lz_get (a := Yr) (g := 900) (M := me_w M J) (v := .ref Rd) rfl (nt_gfR rfl hP.2.2.1.1) k
        have k := ly_revb 1 (c' := (48, [(0, .ref Yr)], [.ref (nt_sp + 1 + 3), .ref Rd], me_w M J)) rfl k
        obtain ⟨d1, o1, ed, kc, k⟩ := lz_c (g := 30) (q := 1) (vs := [.ref Rd, .ref (nt_sp + 1 + 3)]) (rest := []) rfl rfl (by decide) (Or.inr (Or.inl ⟨_, rfl, rfl⟩)) rfl k
        obtain ⟨r, e1, hr⟩ := lc_isAt (yc_lP hP hS) (yc_lS hP hS) hp kc
        subst e1
        rcases hr with ⟨rfl, g3⟩ | ⟨rfl, g3⟩
        · have k : nt_rn X _ 94 (51, [(0, .ref Yr)], [.int (Int32.ofInt 1)], me_w M J) _ := k
          have k := ly_revb 1 (c' := (if (Int32.ofInt 1) = 0 then 56 else 54, [(0, .ref Yr)], [], me_w M J)) rfl k
          rw [if_neg (show ¬ ((Int32.ofInt 1) = 0) from by decide)] at k
          have k := ly_revb 1 (c' := (55, [(0, .ref Yr)], [.int (Int32.ofInt 3)], me_w M J)) rfl k
          have k := lz_ri rfl (by decide) k
          refine ⟨_, k, Or.inl ⟨3, by decide, rfl, g3, fun v hv => ?_⟩⟩
          rcases (by omega : v = 0 ∨ v = 1 ∨ v = 2) with rfl | rfl | rfl
          · exact g0
          · exact g1
          · exact g2
        · have k : nt_rn X _ 94 (51, [(0, .ref Yr)], [.int (Int32.ofInt 0)], me_w M J) _ := k
          have k := ly_revb 1 (c' := (if (Int32.ofInt 0) = 0 then 56 else 54, [(0, .ref Yr)], [], me_w M J)) rfl k
          rw [if_pos (show (Int32.ofInt 0) = 0 from by decide)] at k
          have k := ly_revb 1 (c' := (57, [(0, .ref Yr)], [.ref Yr], me_w M J)) rfl k
          have k := lz_get (a := Yr) (g := 900) (M := me_w M J) (v := .ref Rd) rfl (nt_gfR rfl hP.2.2.1.1) k
          have k := ly_revb 1 (c' := (62, [(0, .ref Yr)], [.ref (nt_sp + 1 + 4), .ref Rd], me_w M J)) rfl k
          obtain ⟨d1, o1, ed, kc, k⟩ := lz_c (g := 30) (q := 1) (vs := [.ref Rd, .ref (nt_sp + 1 + 4)]) (rest := []) rfl rfl (by decide) (Or.inr (Or.inl ⟨_, rfl, rfl⟩)) rfl k
          obtain ⟨r, e1, hr⟩ := lc_isAt (yc_lP hP hS) (yc_lS hP hS) hp kc
          subst e1
          rcases hr with ⟨rfl, g4⟩ | ⟨rfl, g4⟩
          · have k : nt_rn X _ 94 (65, [(0, .ref Yr)], [.int (Int32.ofInt 1)], me_w M J) _ := k
            have k := ly_revb 1 (c' := (if (Int32.ofInt 1) = 0 then 72 else 68, [(0, .ref Yr)], [], me_w M J)) rfl k
            rw [if_neg (show ¬ ((Int32.ofInt 1) = 0) from by decide)] at k
            have k := ly_revb 2 (c' := (73, [(0, .ref Yr)], [.int (Int32.ofInt 4)], me_w M J)) rfl k
            have k := lz_ri rfl (by decide) k
            refine ⟨_, k, Or.inl ⟨4, by decide, rfl, g4, fun v hv => ?_⟩⟩
            rcases (by omega : v = 0 ∨ v = 1 ∨ v = 2 ∨ v = 3) with rfl | rfl | rfl | rfl
            · exact g0
            · exact g1
            · exact g2
            · exact g3
          · have k : nt_rn X _ 94 (65, [(0, .ref Yr)], [.int (Int32.ofInt 0)], me_w M J) _ := k
            have k := ly_revb 1 (c' := (if (Int32.ofInt 0) = 0 then 72 else 68, [(0, .ref Yr)], [], me_w M J)) rfl k
            rw [if_pos (show (Int32.ofInt 0) = 0 from by decide)] at k
            have k := ly_revb 1 (c' := (73, [(0, .ref Yr)], [.int (Int32.ofInt (-1))], me_w M J)) rfl k
            have k := lz_ri rfl (by decide) k
            refine ⟨_, k, Or.inr ⟨rfl, fun v hv => ?_⟩⟩
            rcases (by omega : v = 0 ∨ v = 1 ∨ v = 2 ∨ v = 3 ∨ v = 4) with rfl | rfl | rfl | rfl | rfl
            · exact g0
            · exact g1
            · exact g2
            · exact g3
            · exact g4
theorem yc_clause {X : nt_X} {d t Rd Tp By RR Sp Yr Y m0 s0 : Nat} {Rw : Nat → Nat} {f : Nat → Int32} {M : nt_M} {o : Option Value × nt_M} {C : lb_C} {p : Nat} {u : Nat × Nat × Nat × Nat × Nat} {J : Nat → Nat → Int32} {i : Nat} (hP : yc_P M t Rd Tp By RR Sp Yr Y Rw) (hS : yc_S Rw C f t Rd Tp By RR Y m0 s0 p 0 u J) (hp : p ≤ t) (hb : lb_ub u) (hi : i ≤ 40) (k : nt_ev X d 93 [.ref Yr, .int (nI i)] (me_w M J) o) : ∃ r J', o = (none, me_w M J') ∧ lb_yc f t i (p, u) r ∧ yc_Q Rw (fun v D => lb_ycC f t (p, u) v C D) f t Rd Tp By RR Y m0 s0 r J' := by
  have k : nt_rn X d 93 (0, [(0, .ref Yr), (1, .int (nI i))], [], me_w M J) o := k
  have t4 : t ≤ 400 := hP.2.2.2.2.2.1
  have k := ly_revb 1 (c' := (1, [(0, .ref Yr), (1, .int (nI i))], [.ref Yr], me_w M J)) rfl k
  obtain ⟨d1, o1, ed, kc, k⟩ := lz_c (g := 94) (q := 1) (vs := [.ref Yr]) (rest := []) rfl rfl (by decide) (Or.inr (Or.inl ⟨_, rfl, rfl⟩)) rfl k
  obtain ⟨a, e1, hw⟩ := yc_at hP hS hp kc
  subst e1
  rcases hw with ⟨w, hw, rfl, hat, hbe⟩ | ⟨rfl, hno⟩
  · rcases (by omega : w = 0 ∨ w = 1 ∨ w = 2 ∨ w = 3 ∨ w = 4) with rfl | rfl | rfl | rfl | rfl
    · have k : nt_rn X _ 93 (4, [(0, .ref Yr), (1, .int (nI i))], [.int (nI 0)], me_w M J) _ := k
      have k := ly_revb 4 (c' := (if (nI 0) = (Int32.ofInt (-1)) then 10 else 21, [(2, .int (nI 0)), (0, .ref Yr), (1, .int (nI i))], [], me_w M J)) rfl k
      rw [if_neg (show ¬ ((nI 0) = (Int32.ofInt (-1))) from me_nm1 (by decide))] at k
      have k := ly_revb 3 (c' := (if (Int32.ofInt 40) ≤ (nI i) then 56 else 27, [(2, .int (nI 0)), (0, .ref Yr), (1, .int (nI i))], [], me_w M J)) rfl k
      by_cases h24 : 40 ≤ i
      · rw [if_pos (show (Int32.ofInt 40) ≤ (nI i) from show nI 40 ≤ nI i from nI_le h24 (by omega))] at k
        have k := ly_revb 1 (c' := (57, [(2, .int (nI 0)), (0, .ref Yr), (1, .int (nI i))], [.ref Yr], me_w M J)) rfl k
        have k := lz_get (a := Yr) (g := 900) (M := me_w M J) (v := .ref Rd) rfl (nt_gfR rfl hP.2.2.1.1) k
        have k := ly_revb 1 (c' := (61, [(2, .int (nI 0)), (0, .ref Yr), (1, .int (nI i))], [.int (Int32.ofInt 4), .ref Rd], me_w M J)) rfl k
        obtain ⟨d1, o1, ed, kc, k⟩ := lz_c (g := 31) (q := 1) (vs := [.ref Rd, .int (Int32.ofInt 4)]) (rest := []) rfl rfl (by decide) (Or.inr (Or.inl ⟨_, rfl, rfl⟩)) rfl k
        obtain ⟨hf, e1⟩ := (lc_fail (yc_lP hP hS) (yc_lS hP hS) hp kc).resolve_right (fun c => c.1 rfl)
        subst e1
        have hS1 := yc_Sp (q := t) hP (yc_Sf (fb := lb_c p (Int32.ofInt 4)) hP hS)
        have k : nt_rn X _ 93 (64, [(2, .int (nI 0)), (0, .ref Yr), (1, .int (nI i))], [], me_w M (nt_u (nt_u J Rd 2 (lb_c p (Int32.ofInt 4))) Rd 1 (nI t))) _ := k
        have k := ly_revb 1 (c' := (72, [(2, .int (nI 0)), (0, .ref Yr), (1, .int (nI i))], [], me_w M (nt_u (nt_u J Rd 2 (lb_c p (Int32.ofInt 4))) Rd 1 (nI t)))) rfl k
        have k := lz_rv rfl rfl k
        exact ⟨.inl (lb_c p (Int32.ofInt 4)), _, k, Or.inr ⟨0, by decide, hat, hbe, Or.inl ⟨Or.inl (by omega), rfl⟩⟩, (lb_c_ne (by omega) (by decide) (by decide)), _, _, hS1⟩
      · rw [if_neg (show ¬ ((Int32.ofInt 40) ≤ (nI i)) from show ¬ nI 40 ≤ nI i from nI_ge (Nat.not_le.mp h24) (by omega))] at k
        have k := ly_revb 2 (c' := (if (nI i) = 0 then 31 else 35, [(2, .int (nI 0)), (0, .ref Yr), (1, .int (nI i))], [], me_w M J)) rfl k
        by_cases h28 : i = 0
        · rw [if_pos (show (nI i) = 0 from show nI i = nI 0 from congrArg nI h28)] at k
          have k := ly_revb 4 (c' := (if (nI 0) = 0 then 40 else 44, [(2, .int (nI 0)), (0, .ref Yr), (1, .int (nI i))], [.int (Int32.ofInt 1)], me_w M J)) rfl k
          rw [if_pos (show (nI 0) = 0 from by decide)] at k
          have k := ly_revb 3 (c' := (if (Int32.ofInt 1) = (Int32.ofInt 1) then 48 else 56, [(2, .int (nI 0)), (0, .ref Yr), (1, .int (nI i))], [], me_w M J)) rfl k
          rw [if_pos (show (Int32.ofInt 1) = (Int32.ofInt 1) from by decide)] at k
          have k := ly_revb 2 (c' := (50, [(2, .int (nI 0)), (0, .ref Yr), (1, .int (nI i))], [.int (nI 0), .ref Yr], me_w M J)) rfl k
          obtain ⟨d1, o1, ed, kc, k⟩ := lz_c (g := 95) (q := 1) (vs := [.ref Yr, .int (nI 0)]) (rest := []) rfl rfl (by decide) (Or.inr (Or.inl ⟨_, rfl, rfl⟩)) rfl k
          obtain ⟨a, e1, hfu⟩ := yc_fu0 hP hS hb kc
          subst e1
          rcases hfu with ⟨rfl, hfu⟩ | ⟨rfl, hfu⟩
          · have k : nt_rn X _ 93 (53, [(2, .int (nI 0)), (0, .ref Yr), (1, .int (nI i))], [.int (Int32.ofInt 1)], me_w M J) _ := k
            have k := ly_revb 1 (c' := (if (Int32.ofInt 1) = 0 then 67 else 56, [(2, .int (nI 0)), (0, .ref Yr), (1, .int (nI i))], [], me_w M J)) rfl k
            rw [if_neg (show ¬ ((Int32.ofInt 1) = 0) from by decide)] at k
            have k := ly_revb 1 (c' := (57, [(2, .int (nI 0)), (0, .ref Yr), (1, .int (nI i))], [.ref Yr], me_w M J)) rfl k
            have k := lz_get (a := Yr) (g := 900) (M := me_w M J) (v := .ref Rd) rfl (nt_gfR rfl hP.2.2.1.1) k
            have k := ly_revb 1 (c' := (61, [(2, .int (nI 0)), (0, .ref Yr), (1, .int (nI i))], [.int (Int32.ofInt 4), .ref Rd], me_w M J)) rfl k
            obtain ⟨d1, o1, ed, kc, k⟩ := lz_c (g := 31) (q := 1) (vs := [.ref Rd, .int (Int32.ofInt 4)]) (rest := []) rfl rfl (by decide) (Or.inr (Or.inl ⟨_, rfl, rfl⟩)) rfl k
            obtain ⟨hf, e1⟩ := (lc_fail (yc_lP hP hS) (yc_lS hP hS) hp kc).resolve_right (fun c => c.1 rfl)
            subst e1
            have hS1 := yc_Sp (q := t) hP (yc_Sf (fb := lb_c p (Int32.ofInt 4)) hP hS)
            have k : nt_rn X _ 93 (64, [(2, .int (nI 0)), (0, .ref Yr), (1, .int (nI i))], [], me_w M (nt_u (nt_u J Rd 2 (lb_c p (Int32.ofInt 4))) Rd 1 (nI t))) _ := k
            have k := ly_revb 1 (c' := (72, [(2, .int (nI 0)), (0, .ref Yr), (1, .int (nI i))], [], me_w M (nt_u (nt_u J Rd 2 (lb_c p (Int32.ofInt 4))) Rd 1 (nI t)))) rfl k
            have k := lz_rv rfl rfl k
            exact ⟨.inl (lb_c p (Int32.ofInt 4)), _, k, Or.inr ⟨0, by decide, hat, hbe, Or.inl ⟨Or.inr (Or.inr hfu), rfl⟩⟩, (lb_c_ne (by omega) (by decide) (by decide)), _, _, hS1⟩
          · have k : nt_rn X _ 93 (53, [(2, .int (nI 0)), (0, .ref Yr), (1, .int (nI i))], [.int (Int32.ofInt 0)], me_w M J) _ := k
            have k := ly_revb 1 (c' := (if (Int32.ofInt 0) = 0 then 67 else 56, [(2, .int (nI 0)), (0, .ref Yr), (1, .int (nI i))], [], me_w M J)) rfl k
            rw [if_pos (show (Int32.ofInt 0) = 0 from by decide)] at k
            have k := ly_revb 2 (c' := (69, [(2, .int (nI 0)), (0, .ref Yr), (1, .int (nI i))], [.int (nI 0), .ref Yr], me_w M J)) rfl k
            obtain ⟨d1, o1, ed, kc, k⟩ := lz_c (g := 96) (q := 1) (vs := [.ref Yr, .int (nI 0)]) (rest := []) rfl rfl (by decide) (Or.inr (Or.inl ⟨_, rfl, rfl⟩)) rfl k
            obtain ⟨r, J9, e1, hpa, hQ⟩ := yc_pa0 hP hS hp hb hat hfu kc
            subst e1
            have k : nt_rn X _ 93 (72, [(2, .int (nI 0)), (0, .ref Yr), (1, .int (nI i))], [], me_w M J9) _ := k
            have k := lz_rv rfl rfl k
            refine ⟨r, _, k, Or.inr ⟨0, by decide, hat, hbe, Or.inr ⟨?_, hpa⟩⟩, yc_Qm (fun v D hh => ⟨0, by decide, hat, hbe, hh⟩) hQ⟩
            intro c; rcases c with c | c | c
            · omega
            · exact c (by omega)
            · exact hfu c
        · rw [if_neg (show ¬ ((nI i) = 0) from nI_ne0 (Nat.pos_of_ne_zero h28) (by omega))] at k
          have k := ly_revb 3 (c' := (if (nI 0) = 0 then 40 else 44, [(2, .int (nI 0)), (0, .ref Yr), (1, .int (nI i))], [.int (Int32.ofInt 0)], me_w M J)) rfl k
          rw [if_pos (show (nI 0) = 0 from by decide)] at k
          have k := ly_revb 3 (c' := (if (Int32.ofInt 0) = (Int32.ofInt 1) then 48 else 56, [(2, .int (nI 0)), (0, .ref Yr), (1, .int (nI i))], [], me_w M J)) rfl k
          rw [if_neg (show ¬ ((Int32.ofInt 0) = (Int32.ofInt 1)) from by decide)] at k
          have k := ly_revb 1 (c' := (57, [(2, .int (nI 0)), (0, .ref Yr), (1, .int (nI i))], [.ref Yr], me_w M J)) rfl k
          have k := lz_get (a := Yr) (g := 900) (M := me_w M J) (v := .ref Rd) rfl (nt_gfR rfl hP.2.2.1.1) k
          have k := ly_revb 1 (c' := (61, [(2, .int (nI 0)), (0, .ref Yr), (1, .int (nI i))], [.int (Int32.ofInt 4), .ref Rd], me_w M J)) rfl k
          obtain ⟨d1, o1, ed, kc, k⟩ := lz_c (g := 31) (q := 1) (vs := [.ref Rd, .int (Int32.ofInt 4)]) (rest := []) rfl rfl (by decide) (Or.inr (Or.inl ⟨_, rfl, rfl⟩)) rfl k
          obtain ⟨hf, e1⟩ := (lc_fail (yc_lP hP hS) (yc_lS hP hS) hp kc).resolve_right (fun c => c.1 rfl)
          subst e1
          have hS1 := yc_Sp (q := t) hP (yc_Sf (fb := lb_c p (Int32.ofInt 4)) hP hS)
          have k : nt_rn X _ 93 (64, [(2, .int (nI 0)), (0, .ref Yr), (1, .int (nI i))], [], me_w M (nt_u (nt_u J Rd 2 (lb_c p (Int32.ofInt 4))) Rd 1 (nI t))) _ := k
          have k := ly_revb 1 (c' := (72, [(2, .int (nI 0)), (0, .ref Yr), (1, .int (nI i))], [], me_w M (nt_u (nt_u J Rd 2 (lb_c p (Int32.ofInt 4))) Rd 1 (nI t)))) rfl k
          have k := lz_rv rfl rfl k
          exact ⟨.inl (lb_c p (Int32.ofInt 4)), _, k, Or.inr ⟨0, by decide, hat, hbe, Or.inl ⟨Or.inr (Or.inl (by omega)), rfl⟩⟩, (lb_c_ne (by omega) (by decide) (by decide)), _, _, hS1⟩
    · have k : nt_rn X _ 93 (4, [(0, .ref Yr), (1, .int (nI i))], [.int (nI 1)], me_w M J) _ := k
      have k := ly_revb 4 (c' := (if (nI 1) = (Int32.ofInt (-1)) then 10 else 21, [(2, .int (nI 1)), (0, .ref Yr), (1, .int (nI i))], [], me_w M J)) rfl k
      rw [if_neg (show ¬ ((nI 1) = (Int32.ofInt (-1))) from me_nm1 (by decide))] at k
      have k := ly_revb 3 (c' := (if (Int32.ofInt 40) ≤ (nI i) then 56 else 27, [(2, .int (nI 1)), (0, .ref Yr), (1, .int (nI i))], [], me_w M J)) rfl k
      by_cases h24 : 40 ≤ i
      · rw [if_pos (show (Int32.ofInt 40) ≤ (nI i) from show nI 40 ≤ nI i from nI_le h24 (by omega))] at k
        have k := ly_revb 1 (c' := (57, [(2, .int (nI 1)), (0, .ref Yr), (1, .int (nI i))], [.ref Yr], me_w M J)) rfl k
        have k := lz_get (a := Yr) (g := 900) (M := me_w M J) (v := .ref Rd) rfl (nt_gfR rfl hP.2.2.1.1) k
        have k := ly_revb 1 (c' := (61, [(2, .int (nI 1)), (0, .ref Yr), (1, .int (nI i))], [.int (Int32.ofInt 4), .ref Rd], me_w M J)) rfl k
        obtain ⟨d1, o1, ed, kc, k⟩ := lz_c (g := 31) (q := 1) (vs := [.ref Rd, .int (Int32.ofInt 4)]) (rest := []) rfl rfl (by decide) (Or.inr (Or.inl ⟨_, rfl, rfl⟩)) rfl k
        obtain ⟨hf, e1⟩ := (lc_fail (yc_lP hP hS) (yc_lS hP hS) hp kc).resolve_right (fun c => c.1 rfl)
        subst e1
        have hS1 := yc_Sp (q := t) hP (yc_Sf (fb := lb_c p (Int32.ofInt 4)) hP hS)
        have k : nt_rn X _ 93 (64, [(2, .int (nI 1)), (0, .ref Yr), (1, .int (nI i))], [], me_w M (nt_u (nt_u J Rd 2 (lb_c p (Int32.ofInt 4))) Rd 1 (nI t))) _ := k
        have k := ly_revb 1 (c' := (72, [(2, .int (nI 1)), (0, .ref Yr), (1, .int (nI i))], [], me_w M (nt_u (nt_u J Rd 2 (lb_c p (Int32.ofInt 4))) Rd 1 (nI t)))) rfl k
        have k := lz_rv rfl rfl k
        exact ⟨.inl (lb_c p (Int32.ofInt 4)), _, k, Or.inr ⟨1, by decide, hat, hbe, Or.inl ⟨Or.inl (by omega), rfl⟩⟩, (lb_c_ne (by omega) (by decide) (by decide)), _, _, hS1⟩
      · rw [if_neg (show ¬ ((Int32.ofInt 40) ≤ (nI i)) from show ¬ nI 40 ≤ nI i from nI_ge (Nat.not_le.mp h24) (by omega))] at k
        have k := ly_revb 2 (c' := (if (nI i) = 0 then 31 else 35, [(2, .int (nI 1)), (0, .ref Yr), (1, .int (nI i))], [], me_w M J)) rfl k
        by_cases h28 : i = 0
        · rw [if_pos (show (nI i) = 0 from show nI i = nI 0 from congrArg nI h28)] at k
          have k := ly_revb 4 (c' := (if (nI 1) = 0 then 40 else 44, [(2, .int (nI 1)), (0, .ref Yr), (1, .int (nI i))], [.int (Int32.ofInt 1)], me_w M J)) rfl k
          rw [if_neg (show ¬ ((nI 1) = 0) from by decide)] at k
          have k := ly_revb 2 (c' := (if (Int32.ofInt 1) = (Int32.ofInt 0) then 48 else 56, [(2, .int (nI 1)), (0, .ref Yr), (1, .int (nI i))], [], me_w M J)) rfl k
          rw [if_neg (show ¬ ((Int32.ofInt 1) = (Int32.ofInt 0)) from by decide)] at k
          have k := ly_revb 1 (c' := (57, [(2, .int (nI 1)), (0, .ref Yr), (1, .int (nI i))], [.ref Yr], me_w M J)) rfl k
          have k := lz_get (a := Yr) (g := 900) (M := me_w M J) (v := .ref Rd) rfl (nt_gfR rfl hP.2.2.1.1) k
          have k := ly_revb 1 (c' := (61, [(2, .int (nI 1)), (0, .ref Yr), (1, .int (nI i))], [.int (Int32.ofInt 4), .ref Rd], me_w M J)) rfl k
          obtain ⟨d1, o1, ed, kc, k⟩ := lz_c (g := 31) (q := 1) (vs := [.ref Rd, .int (Int32.ofInt 4)]) (rest := []) rfl rfl (by decide) (Or.inr (Or.inl ⟨_, rfl, rfl⟩)) rfl k
          obtain ⟨hf, e1⟩ := (lc_fail (yc_lP hP hS) (yc_lS hP hS) hp kc).resolve_right (fun c => c.1 rfl)
          subst e1
          have hS1 := yc_Sp (q := t) hP (yc_Sf (fb := lb_c p (Int32.ofInt 4)) hP hS)
          have k : nt_rn X _ 93 (64, [(2, .int (nI 1)), (0, .ref Yr), (1, .int (nI i))], [], me_w M (nt_u (nt_u J Rd 2 (lb_c p (Int32.ofInt 4))) Rd 1 (nI t))) _ := k
          have k := ly_revb 1 (c' := (72, [(2, .int (nI 1)), (0, .ref Yr), (1, .int (nI i))], [], me_w M (nt_u (nt_u J Rd 2 (lb_c p (Int32.ofInt 4))) Rd 1 (nI t)))) rfl k
          have k := lz_rv rfl rfl k
          exact ⟨.inl (lb_c p (Int32.ofInt 4)), _, k, Or.inr ⟨1, by decide, hat, hbe, Or.inl ⟨Or.inr (Or.inl (by omega)), rfl⟩⟩, (lb_c_ne (by omega) (by decide) (by decide)), _, _, hS1⟩
        · rw [if_neg (show ¬ ((nI i) = 0) from nI_ne0 (Nat.pos_of_ne_zero h28) (by omega))] at k
          have k := ly_revb 3 (c' := (if (nI 1) = 0 then 40 else 44, [(2, .int (nI 1)), (0, .ref Yr), (1, .int (nI i))], [.int (Int32.ofInt 0)], me_w M J)) rfl k
          rw [if_neg (show ¬ ((nI 1) = 0) from by decide)] at k
          have k := ly_revb 2 (c' := (if (Int32.ofInt 0) = (Int32.ofInt 0) then 48 else 56, [(2, .int (nI 1)), (0, .ref Yr), (1, .int (nI i))], [], me_w M J)) rfl k
          rw [if_pos (show (Int32.ofInt 0) = (Int32.ofInt 0) from by decide)] at k
          have k := ly_revb 2 (c' := (50, [(2, .int (nI 1)), (0, .ref Yr), (1, .int (nI i))], [.int (nI 1), .ref Yr], me_w M J)) rfl k
          obtain ⟨d1, o1, ed, kc, k⟩ := lz_c (g := 95) (q := 1) (vs := [.ref Yr, .int (nI 1)]) (rest := []) rfl rfl (by decide) (Or.inr (Or.inl ⟨_, rfl, rfl⟩)) rfl k
          obtain ⟨a, e1, hfu⟩ := yc_fu1 hP hS hb kc
          subst e1
          rcases hfu with ⟨rfl, hfu⟩ | ⟨rfl, hfu⟩
          · have k : nt_rn X _ 93 (53, [(2, .int (nI 1)), (0, .ref Yr), (1, .int (nI i))], [.int (Int32.ofInt 1)], me_w M J) _ := k
            have k := ly_revb 1 (c' := (if (Int32.ofInt 1) = 0 then 67 else 56, [(2, .int (nI 1)), (0, .ref Yr), (1, .int (nI i))], [], me_w M J)) rfl k
            rw [if_neg (show ¬ ((Int32.ofInt 1) = 0) from by decide)] at k
            have k := ly_revb 1 (c' := (57, [(2, .int (nI 1)), (0, .ref Yr), (1, .int (nI i))], [.ref Yr], me_w M J)) rfl k
            have k := lz_get (a := Yr) (g := 900) (M := me_w M J) (v := .ref Rd) rfl (nt_gfR rfl hP.2.2.1.1) k
            have k := ly_revb 1 (c' := (61, [(2, .int (nI 1)), (0, .ref Yr), (1, .int (nI i))], [.int (Int32.ofInt 4), .ref Rd], me_w M J)) rfl k
            obtain ⟨d1, o1, ed, kc, k⟩ := lz_c (g := 31) (q := 1) (vs := [.ref Rd, .int (Int32.ofInt 4)]) (rest := []) rfl rfl (by decide) (Or.inr (Or.inl ⟨_, rfl, rfl⟩)) rfl k
            obtain ⟨hf, e1⟩ := (lc_fail (yc_lP hP hS) (yc_lS hP hS) hp kc).resolve_right (fun c => c.1 rfl)
            subst e1
            have hS1 := yc_Sp (q := t) hP (yc_Sf (fb := lb_c p (Int32.ofInt 4)) hP hS)
            have k : nt_rn X _ 93 (64, [(2, .int (nI 1)), (0, .ref Yr), (1, .int (nI i))], [], me_w M (nt_u (nt_u J Rd 2 (lb_c p (Int32.ofInt 4))) Rd 1 (nI t))) _ := k
            have k := ly_revb 1 (c' := (72, [(2, .int (nI 1)), (0, .ref Yr), (1, .int (nI i))], [], me_w M (nt_u (nt_u J Rd 2 (lb_c p (Int32.ofInt 4))) Rd 1 (nI t)))) rfl k
            have k := lz_rv rfl rfl k
            exact ⟨.inl (lb_c p (Int32.ofInt 4)), _, k, Or.inr ⟨1, by decide, hat, hbe, Or.inl ⟨Or.inr (Or.inr hfu), rfl⟩⟩, (lb_c_ne (by omega) (by decide) (by decide)), _, _, hS1⟩
          · have k : nt_rn X _ 93 (53, [(2, .int (nI 1)), (0, .ref Yr), (1, .int (nI i))], [.int (Int32.ofInt 0)], me_w M J) _ := k
            have k := ly_revb 1 (c' := (if (Int32.ofInt 0) = 0 then 67 else 56, [(2, .int (nI 1)), (0, .ref Yr), (1, .int (nI i))], [], me_w M J)) rfl k
            rw [if_pos (show (Int32.ofInt 0) = 0 from by decide)] at k
            have k := ly_revb 2 (c' := (69, [(2, .int (nI 1)), (0, .ref Yr), (1, .int (nI i))], [.int (nI 1), .ref Yr], me_w M J)) rfl k
            obtain ⟨d1, o1, ed, kc, k⟩ := lz_c (g := 96) (q := 1) (vs := [.ref Yr, .int (nI 1)]) (rest := []) rfl rfl (by decide) (Or.inr (Or.inl ⟨_, rfl, rfl⟩)) rfl k
            obtain ⟨r, J9, e1, hpa, hQ⟩ := yc_pa1 hP hS hp hb hat hfu kc
            subst e1
            have k : nt_rn X _ 93 (72, [(2, .int (nI 1)), (0, .ref Yr), (1, .int (nI i))], [], me_w M J9) _ := k
            have k := lz_rv rfl rfl k
            refine ⟨r, _, k, Or.inr ⟨1, by decide, hat, hbe, Or.inr ⟨?_, hpa⟩⟩, yc_Qm (fun v D hh => ⟨1, by decide, hat, hbe, hh⟩) hQ⟩
            intro c; rcases c with c | c | c
            · omega
            · exact c (by omega)
            · exact hfu c
    · have k : nt_rn X _ 93 (4, [(0, .ref Yr), (1, .int (nI i))], [.int (nI 2)], me_w M J) _ := k
      have k := ly_revb 4 (c' := (if (nI 2) = (Int32.ofInt (-1)) then 10 else 21, [(2, .int (nI 2)), (0, .ref Yr), (1, .int (nI i))], [], me_w M J)) rfl k
      rw [if_neg (show ¬ ((nI 2) = (Int32.ofInt (-1))) from me_nm1 (by decide))] at k
      have k := ly_revb 3 (c' := (if (Int32.ofInt 40) ≤ (nI i) then 56 else 27, [(2, .int (nI 2)), (0, .ref Yr), (1, .int (nI i))], [], me_w M J)) rfl k
      by_cases h24 : 40 ≤ i
      · rw [if_pos (show (Int32.ofInt 40) ≤ (nI i) from show nI 40 ≤ nI i from nI_le h24 (by omega))] at k
        have k := ly_revb 1 (c' := (57, [(2, .int (nI 2)), (0, .ref Yr), (1, .int (nI i))], [.ref Yr], me_w M J)) rfl k
        have k := lz_get (a := Yr) (g := 900) (M := me_w M J) (v := .ref Rd) rfl (nt_gfR rfl hP.2.2.1.1) k
        have k := ly_revb 1 (c' := (61, [(2, .int (nI 2)), (0, .ref Yr), (1, .int (nI i))], [.int (Int32.ofInt 4), .ref Rd], me_w M J)) rfl k
        obtain ⟨d1, o1, ed, kc, k⟩ := lz_c (g := 31) (q := 1) (vs := [.ref Rd, .int (Int32.ofInt 4)]) (rest := []) rfl rfl (by decide) (Or.inr (Or.inl ⟨_, rfl, rfl⟩)) rfl k
        obtain ⟨hf, e1⟩ := (lc_fail (yc_lP hP hS) (yc_lS hP hS) hp kc).resolve_right (fun c => c.1 rfl)
        subst e1
        have hS1 := yc_Sp (q := t) hP (yc_Sf (fb := lb_c p (Int32.ofInt 4)) hP hS)
        have k : nt_rn X _ 93 (64, [(2, .int (nI 2)), (0, .ref Yr), (1, .int (nI i))], [], me_w M (nt_u (nt_u J Rd 2 (lb_c p (Int32.ofInt 4))) Rd 1 (nI t))) _ := k
        have k := ly_revb 1 (c' := (72, [(2, .int (nI 2)), (0, .ref Yr), (1, .int (nI i))], [], me_w M (nt_u (nt_u J Rd 2 (lb_c p (Int32.ofInt 4))) Rd 1 (nI t)))) rfl k
        have k := lz_rv rfl rfl k
        exact ⟨.inl (lb_c p (Int32.ofInt 4)), _, k, Or.inr ⟨2, by decide, hat, hbe, Or.inl ⟨Or.inl (by omega), rfl⟩⟩, (lb_c_ne (by omega) (by decide) (by decide)), _, _, hS1⟩
      · rw [if_neg (show ¬ ((Int32.ofInt 40) ≤ (nI i)) from show ¬ nI 40 ≤ nI i from nI_ge (Nat.not_le.mp h24) (by omega))] at k
        have k := ly_revb 2 (c' := (if (nI i) = 0 then 31 else 35, [(2, .int (nI 2)), (0, .ref Yr), (1, .int (nI i))], [], me_w M J)) rfl k
        by_cases h28 : i = 0
        · rw [if_pos (show (nI i) = 0 from show nI i = nI 0 from congrArg nI h28)] at k
          have k := ly_revb 4 (c' := (if (nI 2) = 0 then 40 else 44, [(2, .int (nI 2)), (0, .ref Yr), (1, .int (nI i))], [.int (Int32.ofInt 1)], me_w M J)) rfl k
          rw [if_neg (show ¬ ((nI 2) = 0) from by decide)] at k
          have k := ly_revb 2 (c' := (if (Int32.ofInt 1) = (Int32.ofInt 0) then 48 else 56, [(2, .int (nI 2)), (0, .ref Yr), (1, .int (nI i))], [], me_w M J)) rfl k
          rw [if_neg (show ¬ ((Int32.ofInt 1) = (Int32.ofInt 0)) from by decide)] at k
          have k := ly_revb 1 (c' := (57, [(2, .int (nI 2)), (0, .ref Yr), (1, .int (nI i))], [.ref Yr], me_w M J)) rfl k
          have k := lz_get (a := Yr) (g := 900) (M := me_w M J) (v := .ref Rd) rfl (nt_gfR rfl hP.2.2.1.1) k
          have k := ly_revb 1 (c' := (61, [(2, .int (nI 2)), (0, .ref Yr), (1, .int (nI i))], [.int (Int32.ofInt 4), .ref Rd], me_w M J)) rfl k
          obtain ⟨d1, o1, ed, kc, k⟩ := lz_c (g := 31) (q := 1) (vs := [.ref Rd, .int (Int32.ofInt 4)]) (rest := []) rfl rfl (by decide) (Or.inr (Or.inl ⟨_, rfl, rfl⟩)) rfl k
          obtain ⟨hf, e1⟩ := (lc_fail (yc_lP hP hS) (yc_lS hP hS) hp kc).resolve_right (fun c => c.1 rfl)
          subst e1
          have hS1 := yc_Sp (q := t) hP (yc_Sf (fb := lb_c p (Int32.ofInt 4)) hP hS)
          have k : nt_rn X _ 93 (64, [(2, .int (nI 2)), (0, .ref Yr), (1, .int (nI i))], [], me_w M (nt_u (nt_u J Rd 2 (lb_c p (Int32.ofInt 4))) Rd 1 (nI t))) _ := k
          have k := ly_revb 1 (c' := (72, [(2, .int (nI 2)), (0, .ref Yr), (1, .int (nI i))], [], me_w M (nt_u (nt_u J Rd 2 (lb_c p (Int32.ofInt 4))) Rd 1 (nI t)))) rfl k
          have k := lz_rv rfl rfl k
          exact ⟨.inl (lb_c p (Int32.ofInt 4)), _, k, Or.inr ⟨2, by decide, hat, hbe, Or.inl ⟨Or.inr (Or.inl (by omega)), rfl⟩⟩, (lb_c_ne (by omega) (by decide) (by decide)), _, _, hS1⟩
        · rw [if_neg (show ¬ ((nI i) = 0) from nI_ne0 (Nat.pos_of_ne_zero h28) (by omega))] at k
          have k := ly_revb 3 (c' := (if (nI 2) = 0 then 40 else 44, [(2, .int (nI 2)), (0, .ref Yr), (1, .int (nI i))], [.int (Int32.ofInt 0)], me_w M J)) rfl k
          rw [if_neg (show ¬ ((nI 2) = 0) from by decide)] at k
          have k := ly_revb 2 (c' := (if (Int32.ofInt 0) = (Int32.ofInt 0) then 48 else 56, [(2, .int (nI 2)), (0, .ref Yr), (1, .int (nI i))], [], me_w M J)) rfl k
          rw [if_pos (show (Int32.ofInt 0) = (Int32.ofInt 0) from by decide)] at k
          have k := ly_revb 2 (c' := (50, [(2, .int (nI 2)), (0, .ref Yr), (1, .int (nI i))], [.int (nI 2), .ref Yr], me_w M J)) rfl k
          obtain ⟨d1, o1, ed, kc, k⟩ := lz_c (g := 95) (q := 1) (vs := [.ref Yr, .int (nI 2)]) (rest := []) rfl rfl (by decide) (Or.inr (Or.inl ⟨_, rfl, rfl⟩)) rfl k
          obtain ⟨a, e1, hfu⟩ := yc_fu2 hP hS hb kc
          subst e1
          rcases hfu with ⟨rfl, hfu⟩ | ⟨rfl, hfu⟩
          · have k : nt_rn X _ 93 (53, [(2, .int (nI 2)), (0, .ref Yr), (1, .int (nI i))], [.int (Int32.ofInt 1)], me_w M J) _ := k
            have k := ly_revb 1 (c' := (if (Int32.ofInt 1) = 0 then 67 else 56, [(2, .int (nI 2)), (0, .ref Yr), (1, .int (nI i))], [], me_w M J)) rfl k
            rw [if_neg (show ¬ ((Int32.ofInt 1) = 0) from by decide)] at k
            have k := ly_revb 1 (c' := (57, [(2, .int (nI 2)), (0, .ref Yr), (1, .int (nI i))], [.ref Yr], me_w M J)) rfl k
            have k := lz_get (a := Yr) (g := 900) (M := me_w M J) (v := .ref Rd) rfl (nt_gfR rfl hP.2.2.1.1) k
            have k := ly_revb 1 (c' := (61, [(2, .int (nI 2)), (0, .ref Yr), (1, .int (nI i))], [.int (Int32.ofInt 4), .ref Rd], me_w M J)) rfl k
            obtain ⟨d1, o1, ed, kc, k⟩ := lz_c (g := 31) (q := 1) (vs := [.ref Rd, .int (Int32.ofInt 4)]) (rest := []) rfl rfl (by decide) (Or.inr (Or.inl ⟨_, rfl, rfl⟩)) rfl k
            obtain ⟨hf, e1⟩ := (lc_fail (yc_lP hP hS) (yc_lS hP hS) hp kc).resolve_right (fun c => c.1 rfl)
            subst e1
            have hS1 := yc_Sp (q := t) hP (yc_Sf (fb := lb_c p (Int32.ofInt 4)) hP hS)
            have k : nt_rn X _ 93 (64, [(2, .int (nI 2)), (0, .ref Yr), (1, .int (nI i))], [], me_w M (nt_u (nt_u J Rd 2 (lb_c p (Int32.ofInt 4))) Rd 1 (nI t))) _ := k
            have k := ly_revb 1 (c' := (72, [(2, .int (nI 2)), (0, .ref Yr), (1, .int (nI i))], [], me_w M (nt_u (nt_u J Rd 2 (lb_c p (Int32.ofInt 4))) Rd 1 (nI t)))) rfl k
            have k := lz_rv rfl rfl k
            exact ⟨.inl (lb_c p (Int32.ofInt 4)), _, k, Or.inr ⟨2, by decide, hat, hbe, Or.inl ⟨Or.inr (Or.inr hfu), rfl⟩⟩, (lb_c_ne (by omega) (by decide) (by decide)), _, _, hS1⟩
          · have k : nt_rn X _ 93 (53, [(2, .int (nI 2)), (0, .ref Yr), (1, .int (nI i))], [.int (Int32.ofInt 0)], me_w M J) _ := k
            have k := ly_revb 1 (c' := (if (Int32.ofInt 0) = 0 then 67 else 56, [(2, .int (nI 2)), (0, .ref Yr), (1, .int (nI i))], [], me_w M J)) rfl k
            rw [if_pos (show (Int32.ofInt 0) = 0 from by decide)] at k
            have k := ly_revb 2 (c' := (69, [(2, .int (nI 2)), (0, .ref Yr), (1, .int (nI i))], [.int (nI 2), .ref Yr], me_w M J)) rfl k
            obtain ⟨d1, o1, ed, kc, k⟩ := lz_c (g := 96) (q := 1) (vs := [.ref Yr, .int (nI 2)]) (rest := []) rfl rfl (by decide) (Or.inr (Or.inl ⟨_, rfl, rfl⟩)) rfl k
            obtain ⟨r, J9, e1, hpa, hQ⟩ := yc_pa2 hP hS hp hb hat hfu kc
            subst e1
            have k : nt_rn X _ 93 (72, [(2, .int (nI 2)), (0, .ref Yr), (1, .int (nI i))], [], me_w M J9) _ := k
            have k := lz_rv rfl rfl k
            refine ⟨r, _, k, Or.inr ⟨2, by decide, hat, hbe, Or.inr ⟨?_, hpa⟩⟩, yc_Qm (fun v D hh => ⟨2, by decide, hat, hbe, hh⟩) hQ⟩
            intro c; rcases c with c | c | c
            · omega
            · exact c (by omega)
            · exact hfu c
    · have k : nt_rn X _ 93 (4, [(0, .ref Yr), (1, .int (nI i))], [.int (nI 3)], me_w M J) _ := k
      have k := ly_revb 4 (c' := (if (nI 3) = (Int32.ofInt (-1)) then 10 else 21, [(2, .int (nI 3)), (0, .ref Yr), (1, .int (nI i))], [], me_w M J)) rfl k
      rw [if_neg (show ¬ ((nI 3) = (Int32.ofInt (-1))) from me_nm1 (by decide))] at k
      have k := ly_revb 3 (c' := (if (Int32.ofInt 40) ≤ (nI i) then 56 else 27, [(2, .int (nI 3)), (0, .ref Yr), (1, .int (nI i))], [], me_w M J)) rfl k
      by_cases h24 : 40 ≤ i
      · rw [if_pos (show (Int32.ofInt 40) ≤ (nI i) from show nI 40 ≤ nI i from nI_le h24 (by omega))] at k
        have k := ly_revb 1 (c' := (57, [(2, .int (nI 3)), (0, .ref Yr), (1, .int (nI i))], [.ref Yr], me_w M J)) rfl k
        have k := lz_get (a := Yr) (g := 900) (M := me_w M J) (v := .ref Rd) rfl (nt_gfR rfl hP.2.2.1.1) k
        have k := ly_revb 1 (c' := (61, [(2, .int (nI 3)), (0, .ref Yr), (1, .int (nI i))], [.int (Int32.ofInt 4), .ref Rd], me_w M J)) rfl k
        obtain ⟨d1, o1, ed, kc, k⟩ := lz_c (g := 31) (q := 1) (vs := [.ref Rd, .int (Int32.ofInt 4)]) (rest := []) rfl rfl (by decide) (Or.inr (Or.inl ⟨_, rfl, rfl⟩)) rfl k
        obtain ⟨hf, e1⟩ := (lc_fail (yc_lP hP hS) (yc_lS hP hS) hp kc).resolve_right (fun c => c.1 rfl)
        subst e1
        have hS1 := yc_Sp (q := t) hP (yc_Sf (fb := lb_c p (Int32.ofInt 4)) hP hS)
        have k : nt_rn X _ 93 (64, [(2, .int (nI 3)), (0, .ref Yr), (1, .int (nI i))], [], me_w M (nt_u (nt_u J Rd 2 (lb_c p (Int32.ofInt 4))) Rd 1 (nI t))) _ := k
        have k := ly_revb 1 (c' := (72, [(2, .int (nI 3)), (0, .ref Yr), (1, .int (nI i))], [], me_w M (nt_u (nt_u J Rd 2 (lb_c p (Int32.ofInt 4))) Rd 1 (nI t)))) rfl k
        have k := lz_rv rfl rfl k
        exact ⟨.inl (lb_c p (Int32.ofInt 4)), _, k, Or.inr ⟨3, by decide, hat, hbe, Or.inl ⟨Or.inl (by omega), rfl⟩⟩, (lb_c_ne (by omega) (by decide) (by decide)), _, _, hS1⟩
      · rw [if_neg (show ¬ ((Int32.ofInt 40) ≤ (nI i)) from show ¬ nI 40 ≤ nI i from nI_ge (Nat.not_le.mp h24) (by omega))] at k
        have k := ly_revb 2 (c' := (if (nI i) = 0 then 31 else 35, [(2, .int (nI 3)), (0, .ref Yr), (1, .int (nI i))], [], me_w M J)) rfl k
        by_cases h28 : i = 0
        · rw [if_pos (show (nI i) = 0 from show nI i = nI 0 from congrArg nI h28)] at k
          have k := ly_revb 4 (c' := (if (nI 3) = 0 then 40 else 44, [(2, .int (nI 3)), (0, .ref Yr), (1, .int (nI i))], [.int (Int32.ofInt 1)], me_w M J)) rfl k
          rw [if_neg (show ¬ ((nI 3) = 0) from by decide)] at k
          have k := ly_revb 2 (c' := (if (Int32.ofInt 1) = (Int32.ofInt 0) then 48 else 56, [(2, .int (nI 3)), (0, .ref Yr), (1, .int (nI i))], [], me_w M J)) rfl k
          rw [if_neg (show ¬ ((Int32.ofInt 1) = (Int32.ofInt 0)) from by decide)] at k
          have k := ly_revb 1 (c' := (57, [(2, .int (nI 3)), (0, .ref Yr), (1, .int (nI i))], [.ref Yr], me_w M J)) rfl k
          have k := lz_get (a := Yr) (g := 900) (M := me_w M J) (v := .ref Rd) rfl (nt_gfR rfl hP.2.2.1.1) k
          have k := ly_revb 1 (c' := (61, [(2, .int (nI 3)), (0, .ref Yr), (1, .int (nI i))], [.int (Int32.ofInt 4), .ref Rd], me_w M J)) rfl k
          obtain ⟨d1, o1, ed, kc, k⟩ := lz_c (g := 31) (q := 1) (vs := [.ref Rd, .int (Int32.ofInt 4)]) (rest := []) rfl rfl (by decide) (Or.inr (Or.inl ⟨_, rfl, rfl⟩)) rfl k
          obtain ⟨hf, e1⟩ := (lc_fail (yc_lP hP hS) (yc_lS hP hS) hp kc).resolve_right (fun c => c.1 rfl)
          subst e1
          have hS1 := yc_Sp (q := t) hP (yc_Sf (fb := lb_c p (Int32.ofInt 4)) hP hS)
          have k : nt_rn X _ 93 (64, [(2, .int (nI 3)), (0, .ref Yr), (1, .int (nI i))], [], me_w M (nt_u (nt_u J Rd 2 (lb_c p (Int32.ofInt 4))) Rd 1 (nI t))) _ := k
          have k := ly_revb 1 (c' := (72, [(2, .int (nI 3)), (0, .ref Yr), (1, .int (nI i))], [], me_w M (nt_u (nt_u J Rd 2 (lb_c p (Int32.ofInt 4))) Rd 1 (nI t)))) rfl k
          have k := lz_rv rfl rfl k
          exact ⟨.inl (lb_c p (Int32.ofInt 4)), _, k, Or.inr ⟨3, by decide, hat, hbe, Or.inl ⟨Or.inr (Or.inl (by omega)), rfl⟩⟩, (lb_c_ne (by omega) (by decide) (by decide)), _, _, hS1⟩
        · rw [if_neg (show ¬ ((nI i) = 0) from nI_ne0 (Nat.pos_of_ne_zero h28) (by omega))] at k
          have k := ly_revb 3 (c' := (if (nI 3) = 0 then 40 else 44, [(2, .int (nI 3)), (0, .ref Yr), (1, .int (nI i))], [.int (Int32.ofInt 0)], me_w M J)) rfl k
          rw [if_neg (show ¬ ((nI 3) = 0) from by decide)] at k
          have k := ly_revb 2 (c' := (if (Int32.ofInt 0) = (Int32.ofInt 0) then 48 else 56, [(2, .int (nI 3)), (0, .ref Yr), (1, .int (nI i))], [], me_w M J)) rfl k
          rw [if_pos (show (Int32.ofInt 0) = (Int32.ofInt 0) from by decide)] at k
          have k := ly_revb 2 (c' := (50, [(2, .int (nI 3)), (0, .ref Yr), (1, .int (nI i))], [.int (nI 3), .ref Yr], me_w M J)) rfl k
          obtain ⟨d1, o1, ed, kc, k⟩ := lz_c (g := 95) (q := 1) (vs := [.ref Yr, .int (nI 3)]) (rest := []) rfl rfl (by decide) (Or.inr (Or.inl ⟨_, rfl, rfl⟩)) rfl k
          obtain ⟨a, e1, hfu⟩ := yc_fu3 hP hS hb kc
          subst e1
          rcases hfu with ⟨rfl, hfu⟩ | ⟨rfl, hfu⟩
          · have k : nt_rn X _ 93 (53, [(2, .int (nI 3)), (0, .ref Yr), (1, .int (nI i))], [.int (Int32.ofInt 1)], me_w M J) _ := k
            have k := ly_revb 1 (c' := (if (Int32.ofInt 1) = 0 then 67 else 56, [(2, .int (nI 3)), (0, .ref Yr), (1, .int (nI i))], [], me_w M J)) rfl k
            rw [if_neg (show ¬ ((Int32.ofInt 1) = 0) from by decide)] at k
            have k := ly_revb 1 (c' := (57, [(2, .int (nI 3)), (0, .ref Yr), (1, .int (nI i))], [.ref Yr], me_w M J)) rfl k
            have k := lz_get (a := Yr) (g := 900) (M := me_w M J) (v := .ref Rd) rfl (nt_gfR rfl hP.2.2.1.1) k
            have k := ly_revb 1 (c' := (61, [(2, .int (nI 3)), (0, .ref Yr), (1, .int (nI i))], [.int (Int32.ofInt 4), .ref Rd], me_w M J)) rfl k
            obtain ⟨d1, o1, ed, kc, k⟩ := lz_c (g := 31) (q := 1) (vs := [.ref Rd, .int (Int32.ofInt 4)]) (rest := []) rfl rfl (by decide) (Or.inr (Or.inl ⟨_, rfl, rfl⟩)) rfl k
            obtain ⟨hf, e1⟩ := (lc_fail (yc_lP hP hS) (yc_lS hP hS) hp kc).resolve_right (fun c => c.1 rfl)
            subst e1
            have hS1 := yc_Sp (q := t) hP (yc_Sf (fb := lb_c p (Int32.ofInt 4)) hP hS)
            have k : nt_rn X _ 93 (64, [(2, .int (nI 3)), (0, .ref Yr), (1, .int (nI i))], [], me_w M (nt_u (nt_u J Rd 2 (lb_c p (Int32.ofInt 4))) Rd 1 (nI t))) _ := k
            have k := ly_revb 1 (c' := (72, [(2, .int (nI 3)), (0, .ref Yr), (1, .int (nI i))], [], me_w M (nt_u (nt_u J Rd 2 (lb_c p (Int32.ofInt 4))) Rd 1 (nI t)))) rfl k
            have k := lz_rv rfl rfl k
            exact ⟨.inl (lb_c p (Int32.ofInt 4)), _, k, Or.inr ⟨3, by decide, hat, hbe, Or.inl ⟨Or.inr (Or.inr hfu), rfl⟩⟩, (lb_c_ne (by omega) (by decide) (by decide)), _, _, hS1⟩
          · have k : nt_rn X _ 93 (53, [(2, .int (nI 3)), (0, .ref Yr), (1, .int (nI i))], [.int (Int32.ofInt 0)], me_w M J) _ := k
            have k := ly_revb 1 (c' := (if (Int32.ofInt 0) = 0 then 67 else 56, [(2, .int (nI 3)), (0, .ref Yr), (1, .int (nI i))], [], me_w M J)) rfl k
            rw [if_pos (show (Int32.ofInt 0) = 0 from by decide)] at k
            have k := ly_revb 2 (c' := (69, [(2, .int (nI 3)), (0, .ref Yr), (1, .int (nI i))], [.int (nI 3), .ref Yr], me_w M J)) rfl k
            obtain ⟨d1, o1, ed, kc, k⟩ := lz_c (g := 96) (q := 1) (vs := [.ref Yr, .int (nI 3)]) (rest := []) rfl rfl (by decide) (Or.inr (Or.inl ⟨_, rfl, rfl⟩)) rfl k
            obtain ⟨r, J9, e1, hpa, hQ⟩ := yc_pa3 hP hS hp hb hat hfu kc
            subst e1
            have k : nt_rn X _ 93 (72, [(2, .int (nI 3)), (0, .ref Yr), (1, .int (nI i))], [], me_w M J9) _ := k
            have k := lz_rv rfl rfl k
            refine ⟨r, _, k, Or.inr ⟨3, by decide, hat, hbe, Or.inr ⟨?_, hpa⟩⟩, yc_Qm (fun v D hh => ⟨3, by decide, hat, hbe, hh⟩) hQ⟩
            intro c; rcases c with c | c | c
            · omega
            · exact c (by omega)
            · exact hfu c
    · have k : nt_rn X _ 93 (4, [(0, .ref Yr), (1, .int (nI i))], [.int (nI 4)], me_w M J) _ := k
      have k := ly_revb 4 (c' := (if (nI 4) = (Int32.ofInt (-1)) then 10 else 21, [(2, .int (nI 4)), (0, .ref Yr), (1, .int (nI i))], [], me_w M J)) rfl k
      rw [if_neg (show ¬ ((nI 4) = (Int32.ofInt (-1))) from me_nm1 (by decide))] at k
      have k := ly_revb 3 (c' := (if (Int32.ofInt 40) ≤ (nI i) then 56 else 27, [(2, .int (nI 4)), (0, .ref Yr), (1, .int (nI i))], [], me_w M J)) rfl k
      by_cases h24 : 40 ≤ i
      · rw [if_pos (show (Int32.ofInt 40) ≤ (nI i) from show nI 40 ≤ nI i from nI_le h24 (by omega))] at k
        have k := ly_revb 1 (c' := (57, [(2, .int (nI 4)), (0, .ref Yr), (1, .int (nI i))], [.ref Yr], me_w M J)) rfl k
        have k := lz_get (a := Yr) (g := 900) (M := me_w M J) (v := .ref Rd) rfl (nt_gfR rfl hP.2.2.1.1) k
        have k := ly_revb 1 (c' := (61, [(2, .int (nI 4)), (0, .ref Yr), (1, .int (nI i))], [.int (Int32.ofInt 4), .ref Rd], me_w M J)) rfl k
        obtain ⟨d1, o1, ed, kc, k⟩ := lz_c (g := 31) (q := 1) (vs := [.ref Rd, .int (Int32.ofInt 4)]) (rest := []) rfl rfl (by decide) (Or.inr (Or.inl ⟨_, rfl, rfl⟩)) rfl k
        obtain ⟨hf, e1⟩ := (lc_fail (yc_lP hP hS) (yc_lS hP hS) hp kc).resolve_right (fun c => c.1 rfl)
        subst e1
        have hS1 := yc_Sp (q := t) hP (yc_Sf (fb := lb_c p (Int32.ofInt 4)) hP hS)
        have k : nt_rn X _ 93 (64, [(2, .int (nI 4)), (0, .ref Yr), (1, .int (nI i))], [], me_w M (nt_u (nt_u J Rd 2 (lb_c p (Int32.ofInt 4))) Rd 1 (nI t))) _ := k
        have k := ly_revb 1 (c' := (72, [(2, .int (nI 4)), (0, .ref Yr), (1, .int (nI i))], [], me_w M (nt_u (nt_u J Rd 2 (lb_c p (Int32.ofInt 4))) Rd 1 (nI t)))) rfl k
        have k := lz_rv rfl rfl k
        exact ⟨.inl (lb_c p (Int32.ofInt 4)), _, k, Or.inr ⟨4, by decide, hat, hbe, Or.inl ⟨Or.inl (by omega), rfl⟩⟩, (lb_c_ne (by omega) (by decide) (by decide)), _, _, hS1⟩
      · rw [if_neg (show ¬ ((Int32.ofInt 40) ≤ (nI i)) from show ¬ nI 40 ≤ nI i from nI_ge (Nat.not_le.mp h24) (by omega))] at k
        have k := ly_revb 2 (c' := (if (nI i) = 0 then 31 else 35, [(2, .int (nI 4)), (0, .ref Yr), (1, .int (nI i))], [], me_w M J)) rfl k
        by_cases h28 : i = 0
        · rw [if_pos (show (nI i) = 0 from show nI i = nI 0 from congrArg nI h28)] at k
          have k := ly_revb 4 (c' := (if (nI 4) = 0 then 40 else 44, [(2, .int (nI 4)), (0, .ref Yr), (1, .int (nI i))], [.int (Int32.ofInt 1)], me_w M J)) rfl k
          rw [if_neg (show ¬ ((nI 4) = 0) from by decide)] at k
          have k := ly_revb 2 (c' := (if (Int32.ofInt 1) = (Int32.ofInt 0) then 48 else 56, [(2, .int (nI 4)), (0, .ref Yr), (1, .int (nI i))], [], me_w M J)) rfl k
          rw [if_neg (show ¬ ((Int32.ofInt 1) = (Int32.ofInt 0)) from by decide)] at k
          have k := ly_revb 1 (c' := (57, [(2, .int (nI 4)), (0, .ref Yr), (1, .int (nI i))], [.ref Yr], me_w M J)) rfl k
          have k := lz_get (a := Yr) (g := 900) (M := me_w M J) (v := .ref Rd) rfl (nt_gfR rfl hP.2.2.1.1) k
          have k := ly_revb 1 (c' := (61, [(2, .int (nI 4)), (0, .ref Yr), (1, .int (nI i))], [.int (Int32.ofInt 4), .ref Rd], me_w M J)) rfl k
          obtain ⟨d1, o1, ed, kc, k⟩ := lz_c (g := 31) (q := 1) (vs := [.ref Rd, .int (Int32.ofInt 4)]) (rest := []) rfl rfl (by decide) (Or.inr (Or.inl ⟨_, rfl, rfl⟩)) rfl k
          obtain ⟨hf, e1⟩ := (lc_fail (yc_lP hP hS) (yc_lS hP hS) hp kc).resolve_right (fun c => c.1 rfl)
          subst e1
          have hS1 := yc_Sp (q := t) hP (yc_Sf (fb := lb_c p (Int32.ofInt 4)) hP hS)
          have k : nt_rn X _ 93 (64, [(2, .int (nI 4)), (0, .ref Yr), (1, .int (nI i))], [], me_w M (nt_u (nt_u J Rd 2 (lb_c p (Int32.ofInt 4))) Rd 1 (nI t))) _ := k
          have k := ly_revb 1 (c' := (72, [(2, .int (nI 4)), (0, .ref Yr), (1, .int (nI i))], [], me_w M (nt_u (nt_u J Rd 2 (lb_c p (Int32.ofInt 4))) Rd 1 (nI t)))) rfl k
          have k := lz_rv rfl rfl k
          exact ⟨.inl (lb_c p (Int32.ofInt 4)), _, k, Or.inr ⟨4, by decide, hat, hbe, Or.inl ⟨Or.inr (Or.inl (by omega)), rfl⟩⟩, (lb_c_ne (by omega) (by decide) (by decide)), _, _, hS1⟩
        · rw [if_neg (show ¬ ((nI i) = 0) from nI_ne0 (Nat.pos_of_ne_zero h28) (by omega))] at k
          have k := ly_revb 3 (c' := (if (nI 4) = 0 then 40 else 44, [(2, .int (nI 4)), (0, .ref Yr), (1, .int (nI i))], [.int (Int32.ofInt 0)], me_w M J)) rfl k
          rw [if_neg (show ¬ ((nI 4) = 0) from by decide)] at k
          have k := ly_revb 2 (c' := (if (Int32.ofInt 0) = (Int32.ofInt 0) then 48 else 56, [(2, .int (nI 4)), (0, .ref Yr), (1, .int (nI i))], [], me_w M J)) rfl k
          rw [if_pos (show (Int32.ofInt 0) = (Int32.ofInt 0) from by decide)] at k
          have k := ly_revb 2 (c' := (50, [(2, .int (nI 4)), (0, .ref Yr), (1, .int (nI i))], [.int (nI 4), .ref Yr], me_w M J)) rfl k
          obtain ⟨d1, o1, ed, kc, k⟩ := lz_c (g := 95) (q := 1) (vs := [.ref Yr, .int (nI 4)]) (rest := []) rfl rfl (by decide) (Or.inr (Or.inl ⟨_, rfl, rfl⟩)) rfl k
          obtain ⟨a, e1, hfu⟩ := yc_fu4 hP hS hb kc
          subst e1
          rcases hfu with ⟨rfl, hfu⟩ | ⟨rfl, hfu⟩
          · have k : nt_rn X _ 93 (53, [(2, .int (nI 4)), (0, .ref Yr), (1, .int (nI i))], [.int (Int32.ofInt 1)], me_w M J) _ := k
            have k := ly_revb 1 (c' := (if (Int32.ofInt 1) = 0 then 67 else 56, [(2, .int (nI 4)), (0, .ref Yr), (1, .int (nI i))], [], me_w M J)) rfl k
            rw [if_neg (show ¬ ((Int32.ofInt 1) = 0) from by decide)] at k
            have k := ly_revb 1 (c' := (57, [(2, .int (nI 4)), (0, .ref Yr), (1, .int (nI i))], [.ref Yr], me_w M J)) rfl k
            have k := lz_get (a := Yr) (g := 900) (M := me_w M J) (v := .ref Rd) rfl (nt_gfR rfl hP.2.2.1.1) k
            have k := ly_revb 1 (c' := (61, [(2, .int (nI 4)), (0, .ref Yr), (1, .int (nI i))], [.int (Int32.ofInt 4), .ref Rd], me_w M J)) rfl k
            obtain ⟨d1, o1, ed, kc, k⟩ := lz_c (g := 31) (q := 1) (vs := [.ref Rd, .int (Int32.ofInt 4)]) (rest := []) rfl rfl (by decide) (Or.inr (Or.inl ⟨_, rfl, rfl⟩)) rfl k
            obtain ⟨hf, e1⟩ := (lc_fail (yc_lP hP hS) (yc_lS hP hS) hp kc).resolve_right (fun c => c.1 rfl)
            subst e1
            have hS1 := yc_Sp (q := t) hP (yc_Sf (fb := lb_c p (Int32.ofInt 4)) hP hS)
            have k : nt_rn X _ 93 (64, [(2, .int (nI 4)), (0, .ref Yr), (1, .int (nI i))], [], me_w M (nt_u (nt_u J Rd 2 (lb_c p (Int32.ofInt 4))) Rd 1 (nI t))) _ := k
            have k := ly_revb 1 (c' := (72, [(2, .int (nI 4)), (0, .ref Yr), (1, .int (nI i))], [], me_w M (nt_u (nt_u J Rd 2 (lb_c p (Int32.ofInt 4))) Rd 1 (nI t)))) rfl k
            have k := lz_rv rfl rfl k
            exact ⟨.inl (lb_c p (Int32.ofInt 4)), _, k, Or.inr ⟨4, by decide, hat, hbe, Or.inl ⟨Or.inr (Or.inr hfu), rfl⟩⟩, (lb_c_ne (by omega) (by decide) (by decide)), _, _, hS1⟩
          · have k : nt_rn X _ 93 (53, [(2, .int (nI 4)), (0, .ref Yr), (1, .int (nI i))], [.int (Int32.ofInt 0)], me_w M J) _ := k
            have k := ly_revb 1 (c' := (if (Int32.ofInt 0) = 0 then 67 else 56, [(2, .int (nI 4)), (0, .ref Yr), (1, .int (nI i))], [], me_w M J)) rfl k
            rw [if_pos (show (Int32.ofInt 0) = 0 from by decide)] at k
            have k := ly_revb 2 (c' := (69, [(2, .int (nI 4)), (0, .ref Yr), (1, .int (nI i))], [.int (nI 4), .ref Yr], me_w M J)) rfl k
            obtain ⟨d1, o1, ed, kc, k⟩ := lz_c (g := 96) (q := 1) (vs := [.ref Yr, .int (nI 4)]) (rest := []) rfl rfl (by decide) (Or.inr (Or.inl ⟨_, rfl, rfl⟩)) rfl k
            obtain ⟨r, J9, e1, hpa, hQ⟩ := yc_pa4 hP hS hp hb hat hfu kc
            subst e1
            have k : nt_rn X _ 93 (72, [(2, .int (nI 4)), (0, .ref Yr), (1, .int (nI i))], [], me_w M J9) _ := k
            have k := lz_rv rfl rfl k
            refine ⟨r, _, k, Or.inr ⟨4, by decide, hat, hbe, Or.inr ⟨?_, hpa⟩⟩, yc_Qm (fun v D hh => ⟨4, by decide, hat, hbe, hh⟩) hQ⟩
            intro c; rcases c with c | c | c
            · omega
            · exact c (by omega)
            · exact hfu c
  · have k : nt_rn X _ 93 (4, [(0, .ref Yr), (1, .int (nI i))], [.int (Int32.ofInt (-1))], me_w M J) _ := k
    have k := ly_revb 4 (c' := (if (Int32.ofInt (-1)) = (Int32.ofInt (-1)) then 10 else 21, [(2, .int (Int32.ofInt (-1))), (0, .ref Yr), (1, .int (nI i))], [], me_w M J)) rfl k
    rw [if_pos (show (Int32.ofInt (-1)) = (Int32.ofInt (-1)) from rfl)] at k
    have k := ly_revb 1 (c' := (11, [(2, .int (Int32.ofInt (-1))), (0, .ref Yr), (1, .int (nI i))], [.ref Yr], me_w M J)) rfl k
    have k := lz_get (a := Yr) (g := 900) (M := me_w M J) (v := .ref Rd) rfl (nt_gfR rfl hP.2.2.1.1) k
    have k := ly_revb 1 (c' := (15, [(2, .int (Int32.ofInt (-1))), (0, .ref Yr), (1, .int (nI i))], [.int (Int32.ofInt 0), .ref Rd], me_w M J)) rfl k
    obtain ⟨d1, o1, ed, kc, k⟩ := lz_c (g := 31) (q := 1) (vs := [.ref Rd, .int (Int32.ofInt 0)]) (rest := []) rfl rfl (by decide) (Or.inr (Or.inl ⟨_, rfl, rfl⟩)) rfl k
    obtain ⟨hf, e1⟩ := (lc_fail (yc_lP hP hS) (yc_lS hP hS) hp kc).resolve_right (fun c => c.1 rfl)
    subst e1
    have hS1 := yc_Sp (q := t) hP (yc_Sf (fb := lb_c p (Int32.ofInt 0)) hP hS)
    have k : nt_rn X _ 93 (18, [(2, .int (Int32.ofInt (-1))), (0, .ref Yr), (1, .int (nI i))], [], me_w M (nt_u (nt_u J Rd 2 (lb_c p (Int32.ofInt 0))) Rd 1 (nI t))) _ := k
    have k := ly_revb 1 (c' := (72, [(2, .int (Int32.ofInt (-1))), (0, .ref Yr), (1, .int (nI i))], [], me_w M (nt_u (nt_u J Rd 2 (lb_c p (Int32.ofInt 0))) Rd 1 (nI t)))) rfl k
    have k := lz_rv rfl rfl k
    exact ⟨.inl (lb_c p (Int32.ofInt 0)), _, k, Or.inl ⟨hno, rfl⟩, (lb_c_ne (by omega) (by decide) (by decide)), _, _, hS1⟩
def lb_ry : Int32 ⊕ lb_U → Int32
  | .inl c => c
  | .inr _ => 0
def lb_hd (h : Nat) : Nat := if h = 0 then 30 else h
/-- the yard's object holds what was read -/
def yc_R (Rw : Nat → Nat) (Y : Nat) (u : Nat × Nat × Nat × Nat × Nat) (D : lb_C) (J : Nat → Nat → Int32) : Prop := (J Y 0 = nI u.1 ∧ J Y 1 = nI u.2.1 ∧ J Y 2 = nI u.2.2.1 ∧ J Y 3 = nI u.2.2.2.1 ∧ J Y 4 = nI (lb_hd u.2.2.2.2)) ∧ ∀ i, 5 ≤ i → i ≤ 12 → ∀ j, J (Rw i) j = D i j
theorem yc_rdl {X : nt_X} {d t Rd Tp By RR Sp Yr Y m0 s0 : Nat} {Rw : Nat → Nat} {f : Nat → Int32} {M : nt_M} {o : Option Value × nt_M} (hP : yc_P M t Rd Tp By RR Sp Yr Y Rw) : ∀ (c i p : Nat) (u : Nat × Nat × Nat × Nat × Nat) (C : lb_C) (J : Nat → Nat → Int32), i + c = 40 → p ≤ t → lb_ub u → yc_S Rw C f t Rd Tp By RR Y m0 s0 p 0 u J → nt_rn X d 92 (23, [(3, .int (nI i)), (2, .int (Int32.ofInt 1)), (0, .ref Yr), (1, .ref Y)], [], me_w M J) o → ∃ k r J', o = (some (.int (lb_ry r)), me_w M J') ∧ lb_ya f t k i (p, u) r ∧ (∀ u1, r = .inr u1 → lb_ub u1.2 ∧ ∃ k D, lb_yaC f t k i (p, u) u1 C D ∧ yc_R Rw Y u1.2 D J') ∧ (∀ c, r = .inl c → c ≠ 0) := by
  have t4 : t ≤ 400 := hP.2.2.2.2.2.1
  intro c
  induction c with
  | zero =>
    intro i p u C J hc hp hb hS k
    have k := ly_revb 2 (c' := (if (Int32.ofInt 1) = 0 then 52 else 27, [(3, .int (nI i)), (2, .int (Int32.ofInt 1)), (0, .ref Yr), (1, .ref Y)], [], me_w M J)) rfl k
    rw [if_neg (show ¬ ((Int32.ofInt 1) = 0) from by decide)] at k
    have k := ly_revb 3 (c' := (if (Int32.ofInt 40) < (nI i) then 52 else 33, [(3, .int (nI i)), (2, .int (Int32.ofInt 1)), (0, .ref Yr), (1, .ref Y)], [], me_w M J)) rfl k
    rw [if_neg (show ¬ ((Int32.ofInt 40) < (nI i)) from show ¬ nI 40 < nI i from nI_nlt (by omega) (by omega))] at k
    have k := ly_revb 2 (c' := (35, [(3, .int (nI i)), (2, .int (Int32.ofInt 1)), (0, .ref Yr), (1, .ref Y)], [.int (nI i), .ref Yr], me_w M J)) rfl k
    obtain ⟨d1, o1, ed, kc, k⟩ := lz_c (g := 93) (q := 1) (vs := [.ref Yr, .int (nI i)]) (rest := []) rfl rfl (by decide) (Or.inr (Or.inl ⟨_, rfl, rfl⟩)) rfl k
    obtain ⟨r1, J1, e1, hy, hQ⟩ := yc_clause hP hS hp hb (by omega) kc
    subst e1
    rcases r1 with c | u1
    · obtain ⟨hc, u9, D9, hS9⟩ := hQ
      have k : nt_rn X _ 92 (38, [(3, .int (nI i)), (2, .int (Int32.ofInt 1)), (0, .ref Yr), (1, .ref Y)], [], me_w M J1) _ := k
      have k := ly_revb 1 (c' := (39, [(3, .int (nI i)), (2, .int (Int32.ofInt 1)), (0, .ref Yr), (1, .ref Y)], [.ref Yr], me_w M J1)) rfl k
      have k := lz_get (a := Yr) (g := 900) (M := me_w M J1) (v := .ref Rd) rfl (nt_gfR rfl hP.2.2.1.1) k
      obtain ⟨d1, o1, ed, kc, k⟩ := lz_c (g := 35) (q := 1) (vs := [.ref Rd]) (rest := []) rfl rfl (by decide) (Or.inr (Or.inl ⟨_, rfl, rfl⟩)) rfl k
      have hgt : lb_g f t t = Int32.ofInt (-1) := if_neg (by omega)
      have e1 : o1 = (some (.int (Int32.ofInt 0)), me_w M J1) := by
        rcases lc_nextClause (yc_lP hP hS9) (yc_lS hP hS9) (Nat.le_refl t) kc with ⟨q, _⟩ | ⟨_, q⟩ | ⟨_, q, _⟩ | ⟨_, q, _⟩
        · rw [hgt] at q; exact absurd q (by decide)
        · exact q
        · exact absurd hgt q
        · exact absurd hgt q
      subst e1
      have k : nt_rn X _ 92 (45, [(3, .int (nI i)), (2, .int (Int32.ofInt 1)), (0, .ref Yr), (1, .ref Y)], [.int (Int32.ofInt 0)], me_w M J1) _ := k
      have k := ly_revb 2 (c' := (49, [(3, .int ((nI i) + Int32.ofInt 1)), (2, .int (Int32.ofInt 0)), (0, .ref Yr), (1, .ref Y)], [], me_w M J1)) rfl k
      rw [show ((nI i) + Int32.ofInt 1 : Int32) = nI (i + 1) from me_add (k := 1)] at k
      have k := ly_revb 1 (c' := (23, [(3, .int (nI (i + 1))), (2, .int (Int32.ofInt 0)), (0, .ref Yr), (1, .ref Y)], [], me_w M J1)) rfl k
      have k := ly_revb 2 (c' := (if (Int32.ofInt 0) = 0 then 52 else 27, [(3, .int (nI (i + 1))), (2, .int (Int32.ofInt 0)), (0, .ref Yr), (1, .ref Y)], [], me_w M J1)) rfl k
      rw [if_pos (show (Int32.ofInt 0) = 0 from by decide)] at k
      have k := ly_revb 1 (c' := (53, [(3, .int (nI (i + 1))), (2, .int (Int32.ofInt 0)), (0, .ref Yr), (1, .ref Y)], [.ref Yr], me_w M J1)) rfl k
      have k := lz_get (a := Yr) (g := 901) (M := me_w M J1) (v := .ref Y) rfl (nt_gfR rfl hP.2.2.1.2) k
      have k := lz_get (a := Y) (g := 804) (M := me_w M J1) (v := .int (nI u9.2.2.2.2)) rfl (congrArg Value.int (hS9.2.2.1.2.2.2.2)) k
      have k := ly_revb 1 (c' := (if (nI u9.2.2.2.2) = 0 then 62 else 71, [(3, .int (nI (i + 1))), (2, .int (Int32.ofInt 0)), (0, .ref Yr), (1, .ref Y)], [], me_w M J1)) rfl k
      by_cases h59 : nI u9.2.2.2.2 = 0
      · rw [if_pos (show (nI u9.2.2.2.2) = 0 from h59)] at k
        have k := ly_revb 1 (c' := (63, [(3, .int (nI (i + 1))), (2, .int (Int32.ofInt 0)), (0, .ref Yr), (1, .ref Y)], [.ref Yr], me_w M J1)) rfl k
        have k := lz_get (a := Yr) (g := 901) (M := me_w M J1) (v := .ref Y) rfl (nt_gfR rfl hP.2.2.1.2) k
        have k := ly_revb 1 (c' := (68, [(3, .int (nI (i + 1))), (2, .int (Int32.ofInt 0)), (0, .ref Yr), (1, .ref Y)], [.int (Int32.ofInt 30), .ref Y], me_w M J1)) rfl k
        have k := me_put rfl (by decide) k
        have k : nt_rn X _ 92 (71, [(3, .int (nI (i + 1))), (2, .int (Int32.ofInt 0)), (0, .ref Yr), (1, .ref Y)], [], me_w M (nt_u J1 Y 4 (Int32.ofInt 30))) _ := k
        have hS1 := yc_S4 (y := 30) hP hS9
        have k := ly_revb 1 (c' := (72, [(3, .int (nI (i + 1))), (2, .int (Int32.ofInt 0)), (0, .ref Yr), (1, .ref Y)], [.ref Yr], me_w M (nt_u J1 Y 4 (Int32.ofInt 30)))) rfl k
        have k := lz_get (a := Yr) (g := 900) (M := me_w M (nt_u J1 Y 4 (Int32.ofInt 30))) (v := .ref Rd) rfl (nt_gfR rfl hP.2.2.1.1) k
        obtain ⟨d1, o1, ed, kc, k⟩ := lz_c (g := 38) (q := 1) (vs := [.ref Rd]) (rest := []) rfl rfl (by decide) (Or.inr (Or.inl ⟨_, rfl, rfl⟩)) rfl k
        have e1 := lc_fault (yc_lP hP hS1) (yc_lS hP hS1) (Nat.le_refl t) kc
        subst e1
        have k : nt_rn X _ 92 (78, [(3, .int (nI (i + 1))), (2, .int (Int32.ofInt 0)), (0, .ref Yr), (1, .ref Y)], [.int (c)], me_w M (nt_u J1 Y 4 (Int32.ofInt 30))) _ := k
        have k := lz_ri rfl (by decide) k
        exact ⟨1, .inl c, _, k, ⟨_, hy, Or.inl ⟨c, rfl, rfl⟩⟩, fun u1 e => (by cases e), fun c e => (by cases e; exact hc)⟩
      · rw [if_neg (show ¬ ((nI u9.2.2.2.2) = 0) from h59)] at k
        have k := ly_revb 1 (c' := (72, [(3, .int (nI (i + 1))), (2, .int (Int32.ofInt 0)), (0, .ref Yr), (1, .ref Y)], [.ref Yr], me_w M J1)) rfl k
        have k := lz_get (a := Yr) (g := 900) (M := me_w M J1) (v := .ref Rd) rfl (nt_gfR rfl hP.2.2.1.1) k
        obtain ⟨d1, o1, ed, kc, k⟩ := lz_c (g := 38) (q := 1) (vs := [.ref Rd]) (rest := []) rfl rfl (by decide) (Or.inr (Or.inl ⟨_, rfl, rfl⟩)) rfl k
        have e1 := lc_fault (yc_lP hP hS9) (yc_lS hP hS9) (Nat.le_refl t) kc
        subst e1
        have k : nt_rn X _ 92 (78, [(3, .int (nI (i + 1))), (2, .int (Int32.ofInt 0)), (0, .ref Yr), (1, .ref Y)], [.int (c)], me_w M J1) _ := k
        have k := lz_ri rfl (by decide) k
        exact ⟨1, .inl c, _, k, ⟨_, hy, Or.inl ⟨c, rfl, rfl⟩⟩, fun u1 e => (by cases e), fun c e => (by cases e; exact hc)⟩
    · obtain ⟨hp1, hb1, D9, hC9, hS9⟩ := hQ
      have k : nt_rn X _ 92 (38, [(3, .int (nI i)), (2, .int (Int32.ofInt 1)), (0, .ref Yr), (1, .ref Y)], [], me_w M J1) _ := k
      have k := ly_revb 1 (c' := (39, [(3, .int (nI i)), (2, .int (Int32.ofInt 1)), (0, .ref Yr), (1, .ref Y)], [.ref Yr], me_w M J1)) rfl k
      have k := lz_get (a := Yr) (g := 900) (M := me_w M J1) (v := .ref Rd) rfl (nt_gfR rfl hP.2.2.1.1) k
      obtain ⟨d1, o1, ed, kc, k⟩ := lz_c (g := 35) (q := 1) (vs := [.ref Rd]) (rest := []) rfl rfl (by decide) (Or.inr (Or.inl ⟨_, rfl, rfl⟩)) rfl k
      rcases lc_nextClause (yc_lP hP hS9) (yc_lS hP hS9) hp1 kc with ⟨hn, e1⟩ | ⟨hn, e1⟩ | ⟨hn, hn2, _, e1⟩ | ⟨_, _, hf, _⟩
      · have hlt := lb_g_lt (f := f) (t := t) (p := u1.1) (by rw [hn]; decide)
        rw [Nat.min_eq_left (show u1.1 + 1 ≤ t from hlt)] at e1
        subst e1
        have hS1 := yc_Sp (q := lb_s f t (u1.1 + 1)) hP hS9
        have hp2 : lb_s f t (u1.1 + 1) ≤ t := (lb_s_le (t - (u1.1 + 1)) (u1.1 + 1) (by omega)).2
        have k : nt_rn X _ 92 (45, [(3, .int (nI i)), (2, .int (Int32.ofInt 1)), (0, .ref Yr), (1, .ref Y)], [.int (Int32.ofInt 1)], me_w M (nt_u J1 Rd 1 (nI (lb_s f t (u1.1 + 1))))) _ := k
        have k := ly_revb 2 (c' := (49, [(3, .int ((nI i) + Int32.ofInt 1)), (2, .int (Int32.ofInt 1)), (0, .ref Yr), (1, .ref Y)], [], me_w M (nt_u J1 Rd 1 (nI (lb_s f t (u1.1 + 1)))))) rfl k
        rw [show ((nI i) + Int32.ofInt 1 : Int32) = nI (i + 1) from me_add (k := 1)] at k
        have k := ly_revb 1 (c' := (23, [(3, .int (nI (i + 1))), (2, .int (Int32.ofInt 1)), (0, .ref Yr), (1, .ref Y)], [], me_w M (nt_u J1 Rd 1 (nI (lb_s f t (u1.1 + 1)))))) rfl k
        exfalso
        obtain ⟨w, hw, hat, hbe, hh⟩ := hy.resolve_left (fun h => by cases h.2)
        rcases hh with ⟨_, h⟩ | ⟨h, _⟩
        · cases h
        · exact h (Or.inl (by omega))
      · subst e1
        have k : nt_rn X _ 92 (45, [(3, .int (nI i)), (2, .int (Int32.ofInt 1)), (0, .ref Yr), (1, .ref Y)], [.int (Int32.ofInt 0)], me_w M J1) _ := k
        have k := ly_revb 2 (c' := (49, [(3, .int ((nI i) + Int32.ofInt 1)), (2, .int (Int32.ofInt 0)), (0, .ref Yr), (1, .ref Y)], [], me_w M J1)) rfl k
        rw [show ((nI i) + Int32.ofInt 1 : Int32) = nI (i + 1) from me_add (k := 1)] at k
        have k := ly_revb 1 (c' := (23, [(3, .int (nI (i + 1))), (2, .int (Int32.ofInt 0)), (0, .ref Yr), (1, .ref Y)], [], me_w M J1)) rfl k
        have k := ly_revb 2 (c' := (if (Int32.ofInt 0) = 0 then 52 else 27, [(3, .int (nI (i + 1))), (2, .int (Int32.ofInt 0)), (0, .ref Yr), (1, .ref Y)], [], me_w M J1)) rfl k
        rw [if_pos (show (Int32.ofInt 0) = 0 from by decide)] at k
        have k := ly_revb 1 (c' := (53, [(3, .int (nI (i + 1))), (2, .int (Int32.ofInt 0)), (0, .ref Yr), (1, .ref Y)], [.ref Yr], me_w M J1)) rfl k
        have k := lz_get (a := Yr) (g := 901) (M := me_w M J1) (v := .ref Y) rfl (nt_gfR rfl hP.2.2.1.2) k
        have k := lz_get (a := Y) (g := 804) (M := me_w M J1) (v := .int (nI u1.2.2.2.2.2)) rfl (congrArg Value.int (hS9.2.2.1.2.2.2.2)) k
        have k := ly_revb 1 (c' := (if (nI u1.2.2.2.2.2) = 0 then 62 else 71, [(3, .int (nI (i + 1))), (2, .int (Int32.ofInt 0)), (0, .ref Yr), (1, .ref Y)], [], me_w M J1)) rfl k
        by_cases h59 : u1.2.2.2.2.2 = 0
        · rw [if_pos (show (nI u1.2.2.2.2.2) = 0 from show nI u1.2.2.2.2.2 = nI 0 from congrArg nI h59)] at k
          have k := ly_revb 1 (c' := (63, [(3, .int (nI (i + 1))), (2, .int (Int32.ofInt 0)), (0, .ref Yr), (1, .ref Y)], [.ref Yr], me_w M J1)) rfl k
          have k := lz_get (a := Yr) (g := 901) (M := me_w M J1) (v := .ref Y) rfl (nt_gfR rfl hP.2.2.1.2) k
          have k := ly_revb 1 (c' := (68, [(3, .int (nI (i + 1))), (2, .int (Int32.ofInt 0)), (0, .ref Yr), (1, .ref Y)], [.int (Int32.ofInt 30), .ref Y], me_w M J1)) rfl k
          have k := me_put rfl (by decide) k
          have k : nt_rn X _ 92 (71, [(3, .int (nI (i + 1))), (2, .int (Int32.ofInt 0)), (0, .ref Yr), (1, .ref Y)], [], me_w M (nt_u J1 Y 4 (Int32.ofInt 30))) _ := k
          have hS1 := yc_S4 (y := 30) hP hS9
          have k := ly_revb 1 (c' := (72, [(3, .int (nI (i + 1))), (2, .int (Int32.ofInt 0)), (0, .ref Yr), (1, .ref Y)], [.ref Yr], me_w M (nt_u J1 Y 4 (Int32.ofInt 30)))) rfl k
          have k := lz_get (a := Yr) (g := 900) (M := me_w M (nt_u J1 Y 4 (Int32.ofInt 30))) (v := .ref Rd) rfl (nt_gfR rfl hP.2.2.1.1) k
          obtain ⟨d1, o1, ed, kc, k⟩ := lz_c (g := 38) (q := 1) (vs := [.ref Rd]) (rest := []) rfl rfl (by decide) (Or.inr (Or.inl ⟨_, rfl, rfl⟩)) rfl k
          have e1 := lc_fault (yc_lP hP hS1) (yc_lS hP hS1) hp1 kc
          subst e1
          have k : nt_rn X _ 92 (78, [(3, .int (nI (i + 1))), (2, .int (Int32.ofInt 0)), (0, .ref Yr), (1, .ref Y)], [.int ((0 : Int32))], me_w M (nt_u J1 Y 4 (Int32.ofInt 30))) _ := k
          have k := lz_ri rfl (by decide) k
          exact ⟨1, .inr u1, _, k, ⟨_, hy, Or.inr ⟨u1, rfl, Or.inr (Or.inl ⟨hn, rfl⟩)⟩⟩, fun u2 e => (by cases e; exact ⟨hb1, 1, D9, ⟨_, _, hy, hC9, Or.inr ⟨hn, rfl, rfl⟩⟩, ⟨hS1.2.2.1.1, hS1.2.2.1.2.1, hS1.2.2.1.2.2.1, hS1.2.2.1.2.2.2.1, hS1.2.2.1.2.2.2.2.trans (congrArg nI (if_pos h59).symm)⟩, hS1.2.2.2.2⟩), fun c e => (by cases e)⟩
        · rw [if_neg (show ¬ ((nI u1.2.2.2.2.2) = 0) from nI_ne0 (Nat.pos_of_ne_zero h59) (by have := hb1.2.2.2.2; omega))] at k
          have k := ly_revb 1 (c' := (72, [(3, .int (nI (i + 1))), (2, .int (Int32.ofInt 0)), (0, .ref Yr), (1, .ref Y)], [.ref Yr], me_w M J1)) rfl k
          have k := lz_get (a := Yr) (g := 900) (M := me_w M J1) (v := .ref Rd) rfl (nt_gfR rfl hP.2.2.1.1) k
          obtain ⟨d1, o1, ed, kc, k⟩ := lz_c (g := 38) (q := 1) (vs := [.ref Rd]) (rest := []) rfl rfl (by decide) (Or.inr (Or.inl ⟨_, rfl, rfl⟩)) rfl k
          have e1 := lc_fault (yc_lP hP hS9) (yc_lS hP hS9) hp1 kc
          subst e1
          have k : nt_rn X _ 92 (78, [(3, .int (nI (i + 1))), (2, .int (Int32.ofInt 0)), (0, .ref Yr), (1, .ref Y)], [.int ((0 : Int32))], me_w M J1) _ := k
          have k := lz_ri rfl (by decide) k
          exact ⟨1, .inr u1, _, k, ⟨_, hy, Or.inr ⟨u1, rfl, Or.inr (Or.inl ⟨hn, rfl⟩)⟩⟩, fun u2 e => (by cases e; exact ⟨hb1, 1, D9, ⟨_, _, hy, hC9, Or.inr ⟨hn, rfl, rfl⟩⟩, ⟨hS9.2.2.1.1, hS9.2.2.1.2.1, hS9.2.2.1.2.2.1, hS9.2.2.1.2.2.2.1, hS9.2.2.1.2.2.2.2.trans (congrArg nI (if_neg h59).symm)⟩, hS9.2.2.2.2⟩), fun c e => (by cases e)⟩
      · subst e1
        have hS1 := yc_Sp (q := t) hP (yc_Sf (fb := lb_c u1.1 (Int32.ofInt 0)) hP hS9)
        have k : nt_rn X _ 92 (45, [(3, .int (nI i)), (2, .int (Int32.ofInt 1)), (0, .ref Yr), (1, .ref Y)], [.int (Int32.ofInt 0)], me_w M (nt_u (nt_u J1 Rd 2 (lb_c u1.1 (Int32.ofInt 0))) Rd 1 (nI t))) _ := k
        have k := ly_revb 2 (c' := (49, [(3, .int ((nI i) + Int32.ofInt 1)), (2, .int (Int32.ofInt 0)), (0, .ref Yr), (1, .ref Y)], [], me_w M (nt_u (nt_u J1 Rd 2 (lb_c u1.1 (Int32.ofInt 0))) Rd 1 (nI t)))) rfl k
        rw [show ((nI i) + Int32.ofInt 1 : Int32) = nI (i + 1) from me_add (k := 1)] at k
        have k := ly_revb 1 (c' := (23, [(3, .int (nI (i + 1))), (2, .int (Int32.ofInt 0)), (0, .ref Yr), (1, .ref Y)], [], me_w M (nt_u (nt_u J1 Rd 2 (lb_c u1.1 (Int32.ofInt 0))) Rd 1 (nI t)))) rfl k
        have k := ly_revb 2 (c' := (if (Int32.ofInt 0) = 0 then 52 else 27, [(3, .int (nI (i + 1))), (2, .int (Int32.ofInt 0)), (0, .ref Yr), (1, .ref Y)], [], me_w M (nt_u (nt_u J1 Rd 2 (lb_c u1.1 (Int32.ofInt 0))) Rd 1 (nI t)))) rfl k
        rw [if_pos (show (Int32.ofInt 0) = 0 from by decide)] at k
        have k := ly_revb 1 (c' := (53, [(3, .int (nI (i + 1))), (2, .int (Int32.ofInt 0)), (0, .ref Yr), (1, .ref Y)], [.ref Yr], me_w M (nt_u (nt_u J1 Rd 2 (lb_c u1.1 (Int32.ofInt 0))) Rd 1 (nI t)))) rfl k
        have k := lz_get (a := Yr) (g := 901) (M := me_w M (nt_u (nt_u J1 Rd 2 (lb_c u1.1 (Int32.ofInt 0))) Rd 1 (nI t))) (v := .ref Y) rfl (nt_gfR rfl hP.2.2.1.2) k
        have k := lz_get (a := Y) (g := 804) (M := me_w M (nt_u (nt_u J1 Rd 2 (lb_c u1.1 (Int32.ofInt 0))) Rd 1 (nI t))) (v := .int (nI u1.2.2.2.2.2)) rfl (congrArg Value.int (hS1.2.2.1.2.2.2.2)) k
        have k := ly_revb 1 (c' := (if (nI u1.2.2.2.2.2) = 0 then 62 else 71, [(3, .int (nI (i + 1))), (2, .int (Int32.ofInt 0)), (0, .ref Yr), (1, .ref Y)], [], me_w M (nt_u (nt_u J1 Rd 2 (lb_c u1.1 (Int32.ofInt 0))) Rd 1 (nI t)))) rfl k
        by_cases h59 : u1.2.2.2.2.2 = 0
        · rw [if_pos (show (nI u1.2.2.2.2.2) = 0 from show nI u1.2.2.2.2.2 = nI 0 from congrArg nI h59)] at k
          have k := ly_revb 1 (c' := (63, [(3, .int (nI (i + 1))), (2, .int (Int32.ofInt 0)), (0, .ref Yr), (1, .ref Y)], [.ref Yr], me_w M (nt_u (nt_u J1 Rd 2 (lb_c u1.1 (Int32.ofInt 0))) Rd 1 (nI t)))) rfl k
          have k := lz_get (a := Yr) (g := 901) (M := me_w M (nt_u (nt_u J1 Rd 2 (lb_c u1.1 (Int32.ofInt 0))) Rd 1 (nI t))) (v := .ref Y) rfl (nt_gfR rfl hP.2.2.1.2) k
          have k := ly_revb 1 (c' := (68, [(3, .int (nI (i + 1))), (2, .int (Int32.ofInt 0)), (0, .ref Yr), (1, .ref Y)], [.int (Int32.ofInt 30), .ref Y], me_w M (nt_u (nt_u J1 Rd 2 (lb_c u1.1 (Int32.ofInt 0))) Rd 1 (nI t)))) rfl k
          have k := me_put rfl (by decide) k
          have k : nt_rn X _ 92 (71, [(3, .int (nI (i + 1))), (2, .int (Int32.ofInt 0)), (0, .ref Yr), (1, .ref Y)], [], me_w M (nt_u (nt_u (nt_u J1 Rd 2 (lb_c u1.1 (Int32.ofInt 0))) Rd 1 (nI t)) Y 4 (Int32.ofInt 30))) _ := k
          have hS2 := yc_S4 (y := 30) hP hS1
          have k := ly_revb 1 (c' := (72, [(3, .int (nI (i + 1))), (2, .int (Int32.ofInt 0)), (0, .ref Yr), (1, .ref Y)], [.ref Yr], me_w M (nt_u (nt_u (nt_u J1 Rd 2 (lb_c u1.1 (Int32.ofInt 0))) Rd 1 (nI t)) Y 4 (Int32.ofInt 30)))) rfl k
          have k := lz_get (a := Yr) (g := 900) (M := me_w M (nt_u (nt_u (nt_u J1 Rd 2 (lb_c u1.1 (Int32.ofInt 0))) Rd 1 (nI t)) Y 4 (Int32.ofInt 30))) (v := .ref Rd) rfl (nt_gfR rfl hP.2.2.1.1) k
          obtain ⟨d1, o1, ed, kc, k⟩ := lz_c (g := 38) (q := 1) (vs := [.ref Rd]) (rest := []) rfl rfl (by decide) (Or.inr (Or.inl ⟨_, rfl, rfl⟩)) rfl k
          have e1 := lc_fault (yc_lP hP hS2) (yc_lS hP hS2) (Nat.le_refl t) kc
          subst e1
          have k : nt_rn X _ 92 (78, [(3, .int (nI (i + 1))), (2, .int (Int32.ofInt 0)), (0, .ref Yr), (1, .ref Y)], [.int (lb_c u1.1 (Int32.ofInt 0))], me_w M (nt_u (nt_u (nt_u J1 Rd 2 (lb_c u1.1 (Int32.ofInt 0))) Rd 1 (nI t)) Y 4 (Int32.ofInt 30))) _ := k
          have k := lz_ri rfl (by decide) k
          exact ⟨1, .inl (lb_c u1.1 (Int32.ofInt 0)), _, k, ⟨_, hy, Or.inr ⟨u1, rfl, Or.inr (Or.inr ⟨hn, hn2, rfl⟩)⟩⟩, fun u1 e => (by cases e), fun c e => (by cases e; exact (lb_c_ne (by omega) (by decide) (by decide)))⟩
        · rw [if_neg (show ¬ ((nI u1.2.2.2.2.2) = 0) from nI_ne0 (Nat.pos_of_ne_zero h59) (by have := hb1.2.2.2.2; omega))] at k
          have k := ly_revb 1 (c' := (72, [(3, .int (nI (i + 1))), (2, .int (Int32.ofInt 0)), (0, .ref Yr), (1, .ref Y)], [.ref Yr], me_w M (nt_u (nt_u J1 Rd 2 (lb_c u1.1 (Int32.ofInt 0))) Rd 1 (nI t)))) rfl k
          have k := lz_get (a := Yr) (g := 900) (M := me_w M (nt_u (nt_u J1 Rd 2 (lb_c u1.1 (Int32.ofInt 0))) Rd 1 (nI t))) (v := .ref Rd) rfl (nt_gfR rfl hP.2.2.1.1) k
          obtain ⟨d1, o1, ed, kc, k⟩ := lz_c (g := 38) (q := 1) (vs := [.ref Rd]) (rest := []) rfl rfl (by decide) (Or.inr (Or.inl ⟨_, rfl, rfl⟩)) rfl k
          have e1 := lc_fault (yc_lP hP hS1) (yc_lS hP hS1) (Nat.le_refl t) kc
          subst e1
          have k : nt_rn X _ 92 (78, [(3, .int (nI (i + 1))), (2, .int (Int32.ofInt 0)), (0, .ref Yr), (1, .ref Y)], [.int (lb_c u1.1 (Int32.ofInt 0))], me_w M (nt_u (nt_u J1 Rd 2 (lb_c u1.1 (Int32.ofInt 0))) Rd 1 (nI t))) _ := k
          have k := lz_ri rfl (by decide) k
          exact ⟨1, .inl (lb_c u1.1 (Int32.ofInt 0)), _, k, ⟨_, hy, Or.inr ⟨u1, rfl, Or.inr (Or.inr ⟨hn, hn2, rfl⟩)⟩⟩, fun u1 e => (by cases e), fun c e => (by cases e; exact (lb_c_ne (by omega) (by decide) (by decide)))⟩
      · exact absurd rfl hf
  | succ c ih =>
    intro i p u C J hc hp hb hS k
    have k := ly_revb 2 (c' := (if (Int32.ofInt 1) = 0 then 52 else 27, [(3, .int (nI i)), (2, .int (Int32.ofInt 1)), (0, .ref Yr), (1, .ref Y)], [], me_w M J)) rfl k
    rw [if_neg (show ¬ ((Int32.ofInt 1) = 0) from by decide)] at k
    have k := ly_revb 3 (c' := (if (Int32.ofInt 40) < (nI i) then 52 else 33, [(3, .int (nI i)), (2, .int (Int32.ofInt 1)), (0, .ref Yr), (1, .ref Y)], [], me_w M J)) rfl k
    rw [if_neg (show ¬ ((Int32.ofInt 40) < (nI i)) from show ¬ nI 40 < nI i from nI_nlt (by omega) (by omega))] at k
    have k := ly_revb 2 (c' := (35, [(3, .int (nI i)), (2, .int (Int32.ofInt 1)), (0, .ref Yr), (1, .ref Y)], [.int (nI i), .ref Yr], me_w M J)) rfl k
    obtain ⟨d1, o1, ed, kc, k⟩ := lz_c (g := 93) (q := 1) (vs := [.ref Yr, .int (nI i)]) (rest := []) rfl rfl (by decide) (Or.inr (Or.inl ⟨_, rfl, rfl⟩)) rfl k
    obtain ⟨r1, J1, e1, hy, hQ⟩ := yc_clause hP hS hp hb (by omega) kc
    subst e1
    rcases r1 with c | u1
    · obtain ⟨hc, u9, D9, hS9⟩ := hQ
      have k : nt_rn X _ 92 (38, [(3, .int (nI i)), (2, .int (Int32.ofInt 1)), (0, .ref Yr), (1, .ref Y)], [], me_w M J1) _ := k
      have k := ly_revb 1 (c' := (39, [(3, .int (nI i)), (2, .int (Int32.ofInt 1)), (0, .ref Yr), (1, .ref Y)], [.ref Yr], me_w M J1)) rfl k
      have k := lz_get (a := Yr) (g := 900) (M := me_w M J1) (v := .ref Rd) rfl (nt_gfR rfl hP.2.2.1.1) k
      obtain ⟨d1, o1, ed, kc, k⟩ := lz_c (g := 35) (q := 1) (vs := [.ref Rd]) (rest := []) rfl rfl (by decide) (Or.inr (Or.inl ⟨_, rfl, rfl⟩)) rfl k
      have hgt : lb_g f t t = Int32.ofInt (-1) := if_neg (by omega)
      have e1 : o1 = (some (.int (Int32.ofInt 0)), me_w M J1) := by
        rcases lc_nextClause (yc_lP hP hS9) (yc_lS hP hS9) (Nat.le_refl t) kc with ⟨q, _⟩ | ⟨_, q⟩ | ⟨_, q, _⟩ | ⟨_, q, _⟩
        · rw [hgt] at q; exact absurd q (by decide)
        · exact q
        · exact absurd hgt q
        · exact absurd hgt q
      subst e1
      have k : nt_rn X _ 92 (45, [(3, .int (nI i)), (2, .int (Int32.ofInt 1)), (0, .ref Yr), (1, .ref Y)], [.int (Int32.ofInt 0)], me_w M J1) _ := k
      have k := ly_revb 2 (c' := (49, [(3, .int ((nI i) + Int32.ofInt 1)), (2, .int (Int32.ofInt 0)), (0, .ref Yr), (1, .ref Y)], [], me_w M J1)) rfl k
      rw [show ((nI i) + Int32.ofInt 1 : Int32) = nI (i + 1) from me_add (k := 1)] at k
      have k := ly_revb 1 (c' := (23, [(3, .int (nI (i + 1))), (2, .int (Int32.ofInt 0)), (0, .ref Yr), (1, .ref Y)], [], me_w M J1)) rfl k
      have k := ly_revb 2 (c' := (if (Int32.ofInt 0) = 0 then 52 else 27, [(3, .int (nI (i + 1))), (2, .int (Int32.ofInt 0)), (0, .ref Yr), (1, .ref Y)], [], me_w M J1)) rfl k
      rw [if_pos (show (Int32.ofInt 0) = 0 from by decide)] at k
      have k := ly_revb 1 (c' := (53, [(3, .int (nI (i + 1))), (2, .int (Int32.ofInt 0)), (0, .ref Yr), (1, .ref Y)], [.ref Yr], me_w M J1)) rfl k
      have k := lz_get (a := Yr) (g := 901) (M := me_w M J1) (v := .ref Y) rfl (nt_gfR rfl hP.2.2.1.2) k
      have k := lz_get (a := Y) (g := 804) (M := me_w M J1) (v := .int (nI u9.2.2.2.2)) rfl (congrArg Value.int (hS9.2.2.1.2.2.2.2)) k
      have k := ly_revb 1 (c' := (if (nI u9.2.2.2.2) = 0 then 62 else 71, [(3, .int (nI (i + 1))), (2, .int (Int32.ofInt 0)), (0, .ref Yr), (1, .ref Y)], [], me_w M J1)) rfl k
      by_cases h59 : nI u9.2.2.2.2 = 0
      · rw [if_pos (show (nI u9.2.2.2.2) = 0 from h59)] at k
        have k := ly_revb 1 (c' := (63, [(3, .int (nI (i + 1))), (2, .int (Int32.ofInt 0)), (0, .ref Yr), (1, .ref Y)], [.ref Yr], me_w M J1)) rfl k
        have k := lz_get (a := Yr) (g := 901) (M := me_w M J1) (v := .ref Y) rfl (nt_gfR rfl hP.2.2.1.2) k
        have k := ly_revb 1 (c' := (68, [(3, .int (nI (i + 1))), (2, .int (Int32.ofInt 0)), (0, .ref Yr), (1, .ref Y)], [.int (Int32.ofInt 30), .ref Y], me_w M J1)) rfl k
        have k := me_put rfl (by decide) k
        have k : nt_rn X _ 92 (71, [(3, .int (nI (i + 1))), (2, .int (Int32.ofInt 0)), (0, .ref Yr), (1, .ref Y)], [], me_w M (nt_u J1 Y 4 (Int32.ofInt 30))) _ := k
        have hS1 := yc_S4 (y := 30) hP hS9
        have k := ly_revb 1 (c' := (72, [(3, .int (nI (i + 1))), (2, .int (Int32.ofInt 0)), (0, .ref Yr), (1, .ref Y)], [.ref Yr], me_w M (nt_u J1 Y 4 (Int32.ofInt 30)))) rfl k
        have k := lz_get (a := Yr) (g := 900) (M := me_w M (nt_u J1 Y 4 (Int32.ofInt 30))) (v := .ref Rd) rfl (nt_gfR rfl hP.2.2.1.1) k
        obtain ⟨d1, o1, ed, kc, k⟩ := lz_c (g := 38) (q := 1) (vs := [.ref Rd]) (rest := []) rfl rfl (by decide) (Or.inr (Or.inl ⟨_, rfl, rfl⟩)) rfl k
        have e1 := lc_fault (yc_lP hP hS1) (yc_lS hP hS1) (Nat.le_refl t) kc
        subst e1
        have k : nt_rn X _ 92 (78, [(3, .int (nI (i + 1))), (2, .int (Int32.ofInt 0)), (0, .ref Yr), (1, .ref Y)], [.int (c)], me_w M (nt_u J1 Y 4 (Int32.ofInt 30))) _ := k
        have k := lz_ri rfl (by decide) k
        exact ⟨1, .inl c, _, k, ⟨_, hy, Or.inl ⟨c, rfl, rfl⟩⟩, fun u1 e => (by cases e), fun c e => (by cases e; exact hc)⟩
      · rw [if_neg (show ¬ ((nI u9.2.2.2.2) = 0) from h59)] at k
        have k := ly_revb 1 (c' := (72, [(3, .int (nI (i + 1))), (2, .int (Int32.ofInt 0)), (0, .ref Yr), (1, .ref Y)], [.ref Yr], me_w M J1)) rfl k
        have k := lz_get (a := Yr) (g := 900) (M := me_w M J1) (v := .ref Rd) rfl (nt_gfR rfl hP.2.2.1.1) k
        obtain ⟨d1, o1, ed, kc, k⟩ := lz_c (g := 38) (q := 1) (vs := [.ref Rd]) (rest := []) rfl rfl (by decide) (Or.inr (Or.inl ⟨_, rfl, rfl⟩)) rfl k
        have e1 := lc_fault (yc_lP hP hS9) (yc_lS hP hS9) (Nat.le_refl t) kc
        subst e1
        have k : nt_rn X _ 92 (78, [(3, .int (nI (i + 1))), (2, .int (Int32.ofInt 0)), (0, .ref Yr), (1, .ref Y)], [.int (c)], me_w M J1) _ := k
        have k := lz_ri rfl (by decide) k
        exact ⟨1, .inl c, _, k, ⟨_, hy, Or.inl ⟨c, rfl, rfl⟩⟩, fun u1 e => (by cases e), fun c e => (by cases e; exact hc)⟩
    · obtain ⟨hp1, hb1, D9, hC9, hS9⟩ := hQ
      have k : nt_rn X _ 92 (38, [(3, .int (nI i)), (2, .int (Int32.ofInt 1)), (0, .ref Yr), (1, .ref Y)], [], me_w M J1) _ := k
      have k := ly_revb 1 (c' := (39, [(3, .int (nI i)), (2, .int (Int32.ofInt 1)), (0, .ref Yr), (1, .ref Y)], [.ref Yr], me_w M J1)) rfl k
      have k := lz_get (a := Yr) (g := 900) (M := me_w M J1) (v := .ref Rd) rfl (nt_gfR rfl hP.2.2.1.1) k
      obtain ⟨d1, o1, ed, kc, k⟩ := lz_c (g := 35) (q := 1) (vs := [.ref Rd]) (rest := []) rfl rfl (by decide) (Or.inr (Or.inl ⟨_, rfl, rfl⟩)) rfl k
      rcases lc_nextClause (yc_lP hP hS9) (yc_lS hP hS9) hp1 kc with ⟨hn, e1⟩ | ⟨hn, e1⟩ | ⟨hn, hn2, _, e1⟩ | ⟨_, _, hf, _⟩
      · have hlt := lb_g_lt (f := f) (t := t) (p := u1.1) (by rw [hn]; decide)
        rw [Nat.min_eq_left (show u1.1 + 1 ≤ t from hlt)] at e1
        subst e1
        have hS1 := yc_Sp (q := lb_s f t (u1.1 + 1)) hP hS9
        have hp2 : lb_s f t (u1.1 + 1) ≤ t := (lb_s_le (t - (u1.1 + 1)) (u1.1 + 1) (by omega)).2
        have k : nt_rn X _ 92 (45, [(3, .int (nI i)), (2, .int (Int32.ofInt 1)), (0, .ref Yr), (1, .ref Y)], [.int (Int32.ofInt 1)], me_w M (nt_u J1 Rd 1 (nI (lb_s f t (u1.1 + 1))))) _ := k
        have k := ly_revb 2 (c' := (49, [(3, .int ((nI i) + Int32.ofInt 1)), (2, .int (Int32.ofInt 1)), (0, .ref Yr), (1, .ref Y)], [], me_w M (nt_u J1 Rd 1 (nI (lb_s f t (u1.1 + 1)))))) rfl k
        rw [show ((nI i) + Int32.ofInt 1 : Int32) = nI (i + 1) from me_add (k := 1)] at k
        have k := ly_revb 1 (c' := (23, [(3, .int (nI (i + 1))), (2, .int (Int32.ofInt 1)), (0, .ref Yr), (1, .ref Y)], [], me_w M (nt_u J1 Rd 1 (nI (lb_s f t (u1.1 + 1)))))) rfl k
        obtain ⟨k9, r, J', e9, hya, hf1, hf2⟩ := ih (i + 1) (lb_s f t (u1.1 + 1)) u1.2 _ _ (by omega) hp2 hb1 hS1 k
        exact ⟨k9 + 1, r, J', e9, ⟨_, hy, Or.inr ⟨u1, rfl, Or.inl ⟨hn, hya⟩⟩⟩, fun u2 e2 => (fun ⟨x0, k0, D0, x1, x2⟩ => ⟨x0, k0 + 1, D0, ⟨_, _, hy, hC9, Or.inl ⟨hn, x1⟩⟩, x2⟩) (hf1 u2 e2), hf2⟩
      · subst e1
        have k : nt_rn X _ 92 (45, [(3, .int (nI i)), (2, .int (Int32.ofInt 1)), (0, .ref Yr), (1, .ref Y)], [.int (Int32.ofInt 0)], me_w M J1) _ := k
        have k := ly_revb 2 (c' := (49, [(3, .int ((nI i) + Int32.ofInt 1)), (2, .int (Int32.ofInt 0)), (0, .ref Yr), (1, .ref Y)], [], me_w M J1)) rfl k
        rw [show ((nI i) + Int32.ofInt 1 : Int32) = nI (i + 1) from me_add (k := 1)] at k
        have k := ly_revb 1 (c' := (23, [(3, .int (nI (i + 1))), (2, .int (Int32.ofInt 0)), (0, .ref Yr), (1, .ref Y)], [], me_w M J1)) rfl k
        have k := ly_revb 2 (c' := (if (Int32.ofInt 0) = 0 then 52 else 27, [(3, .int (nI (i + 1))), (2, .int (Int32.ofInt 0)), (0, .ref Yr), (1, .ref Y)], [], me_w M J1)) rfl k
        rw [if_pos (show (Int32.ofInt 0) = 0 from by decide)] at k
        have k := ly_revb 1 (c' := (53, [(3, .int (nI (i + 1))), (2, .int (Int32.ofInt 0)), (0, .ref Yr), (1, .ref Y)], [.ref Yr], me_w M J1)) rfl k
        have k := lz_get (a := Yr) (g := 901) (M := me_w M J1) (v := .ref Y) rfl (nt_gfR rfl hP.2.2.1.2) k
        have k := lz_get (a := Y) (g := 804) (M := me_w M J1) (v := .int (nI u1.2.2.2.2.2)) rfl (congrArg Value.int (hS9.2.2.1.2.2.2.2)) k
        have k := ly_revb 1 (c' := (if (nI u1.2.2.2.2.2) = 0 then 62 else 71, [(3, .int (nI (i + 1))), (2, .int (Int32.ofInt 0)), (0, .ref Yr), (1, .ref Y)], [], me_w M J1)) rfl k
        by_cases h59 : u1.2.2.2.2.2 = 0
        · rw [if_pos (show (nI u1.2.2.2.2.2) = 0 from show nI u1.2.2.2.2.2 = nI 0 from congrArg nI h59)] at k
          have k := ly_revb 1 (c' := (63, [(3, .int (nI (i + 1))), (2, .int (Int32.ofInt 0)), (0, .ref Yr), (1, .ref Y)], [.ref Yr], me_w M J1)) rfl k
          have k := lz_get (a := Yr) (g := 901) (M := me_w M J1) (v := .ref Y) rfl (nt_gfR rfl hP.2.2.1.2) k
          have k := ly_revb 1 (c' := (68, [(3, .int (nI (i + 1))), (2, .int (Int32.ofInt 0)), (0, .ref Yr), (1, .ref Y)], [.int (Int32.ofInt 30), .ref Y], me_w M J1)) rfl k
          have k := me_put rfl (by decide) k
          have k : nt_rn X _ 92 (71, [(3, .int (nI (i + 1))), (2, .int (Int32.ofInt 0)), (0, .ref Yr), (1, .ref Y)], [], me_w M (nt_u J1 Y 4 (Int32.ofInt 30))) _ := k
          have hS1 := yc_S4 (y := 30) hP hS9
          have k := ly_revb 1 (c' := (72, [(3, .int (nI (i + 1))), (2, .int (Int32.ofInt 0)), (0, .ref Yr), (1, .ref Y)], [.ref Yr], me_w M (nt_u J1 Y 4 (Int32.ofInt 30)))) rfl k
          have k := lz_get (a := Yr) (g := 900) (M := me_w M (nt_u J1 Y 4 (Int32.ofInt 30))) (v := .ref Rd) rfl (nt_gfR rfl hP.2.2.1.1) k
          obtain ⟨d1, o1, ed, kc, k⟩ := lz_c (g := 38) (q := 1) (vs := [.ref Rd]) (rest := []) rfl rfl (by decide) (Or.inr (Or.inl ⟨_, rfl, rfl⟩)) rfl k
          have e1 := lc_fault (yc_lP hP hS1) (yc_lS hP hS1) hp1 kc
          subst e1
          have k : nt_rn X _ 92 (78, [(3, .int (nI (i + 1))), (2, .int (Int32.ofInt 0)), (0, .ref Yr), (1, .ref Y)], [.int ((0 : Int32))], me_w M (nt_u J1 Y 4 (Int32.ofInt 30))) _ := k
          have k := lz_ri rfl (by decide) k
          exact ⟨1, .inr u1, _, k, ⟨_, hy, Or.inr ⟨u1, rfl, Or.inr (Or.inl ⟨hn, rfl⟩)⟩⟩, fun u2 e => (by cases e; exact ⟨hb1, 1, D9, ⟨_, _, hy, hC9, Or.inr ⟨hn, rfl, rfl⟩⟩, ⟨hS1.2.2.1.1, hS1.2.2.1.2.1, hS1.2.2.1.2.2.1, hS1.2.2.1.2.2.2.1, hS1.2.2.1.2.2.2.2.trans (congrArg nI (if_pos h59).symm)⟩, hS1.2.2.2.2⟩), fun c e => (by cases e)⟩
        · rw [if_neg (show ¬ ((nI u1.2.2.2.2.2) = 0) from nI_ne0 (Nat.pos_of_ne_zero h59) (by have := hb1.2.2.2.2; omega))] at k
          have k := ly_revb 1 (c' := (72, [(3, .int (nI (i + 1))), (2, .int (Int32.ofInt 0)), (0, .ref Yr), (1, .ref Y)], [.ref Yr], me_w M J1)) rfl k
          have k := lz_get (a := Yr) (g := 900) (M := me_w M J1) (v := .ref Rd) rfl (nt_gfR rfl hP.2.2.1.1) k
          obtain ⟨d1, o1, ed, kc, k⟩ := lz_c (g := 38) (q := 1) (vs := [.ref Rd]) (rest := []) rfl rfl (by decide) (Or.inr (Or.inl ⟨_, rfl, rfl⟩)) rfl k
          have e1 := lc_fault (yc_lP hP hS9) (yc_lS hP hS9) hp1 kc
          subst e1
          have k : nt_rn X _ 92 (78, [(3, .int (nI (i + 1))), (2, .int (Int32.ofInt 0)), (0, .ref Yr), (1, .ref Y)], [.int ((0 : Int32))], me_w M J1) _ := k
          have k := lz_ri rfl (by decide) k
          exact ⟨1, .inr u1, _, k, ⟨_, hy, Or.inr ⟨u1, rfl, Or.inr (Or.inl ⟨hn, rfl⟩)⟩⟩, fun u2 e => (by cases e; exact ⟨hb1, 1, D9, ⟨_, _, hy, hC9, Or.inr ⟨hn, rfl, rfl⟩⟩, ⟨hS9.2.2.1.1, hS9.2.2.1.2.1, hS9.2.2.1.2.2.1, hS9.2.2.1.2.2.2.1, hS9.2.2.1.2.2.2.2.trans (congrArg nI (if_neg h59).symm)⟩, hS9.2.2.2.2⟩), fun c e => (by cases e)⟩
      · subst e1
        have hS1 := yc_Sp (q := t) hP (yc_Sf (fb := lb_c u1.1 (Int32.ofInt 0)) hP hS9)
        have k : nt_rn X _ 92 (45, [(3, .int (nI i)), (2, .int (Int32.ofInt 1)), (0, .ref Yr), (1, .ref Y)], [.int (Int32.ofInt 0)], me_w M (nt_u (nt_u J1 Rd 2 (lb_c u1.1 (Int32.ofInt 0))) Rd 1 (nI t))) _ := k
        have k := ly_revb 2 (c' := (49, [(3, .int ((nI i) + Int32.ofInt 1)), (2, .int (Int32.ofInt 0)), (0, .ref Yr), (1, .ref Y)], [], me_w M (nt_u (nt_u J1 Rd 2 (lb_c u1.1 (Int32.ofInt 0))) Rd 1 (nI t)))) rfl k
        rw [show ((nI i) + Int32.ofInt 1 : Int32) = nI (i + 1) from me_add (k := 1)] at k
        have k := ly_revb 1 (c' := (23, [(3, .int (nI (i + 1))), (2, .int (Int32.ofInt 0)), (0, .ref Yr), (1, .ref Y)], [], me_w M (nt_u (nt_u J1 Rd 2 (lb_c u1.1 (Int32.ofInt 0))) Rd 1 (nI t)))) rfl k
        have k := ly_revb 2 (c' := (if (Int32.ofInt 0) = 0 then 52 else 27, [(3, .int (nI (i + 1))), (2, .int (Int32.ofInt 0)), (0, .ref Yr), (1, .ref Y)], [], me_w M (nt_u (nt_u J1 Rd 2 (lb_c u1.1 (Int32.ofInt 0))) Rd 1 (nI t)))) rfl k
        rw [if_pos (show (Int32.ofInt 0) = 0 from by decide)] at k
        have k := ly_revb 1 (c' := (53, [(3, .int (nI (i + 1))), (2, .int (Int32.ofInt 0)), (0, .ref Yr), (1, .ref Y)], [.ref Yr], me_w M (nt_u (nt_u J1 Rd 2 (lb_c u1.1 (Int32.ofInt 0))) Rd 1 (nI t)))) rfl k
        have k := lz_get (a := Yr) (g := 901) (M := me_w M (nt_u (nt_u J1 Rd 2 (lb_c u1.1 (Int32.ofInt 0))) Rd 1 (nI t))) (v := .ref Y) rfl (nt_gfR rfl hP.2.2.1.2) k
        have k := lz_get (a := Y) (g := 804) (M := me_w M (nt_u (nt_u J1 Rd 2 (lb_c u1.1 (Int32.ofInt 0))) Rd 1 (nI t))) (v := .int (nI u1.2.2.2.2.2)) rfl (congrArg Value.int (hS1.2.2.1.2.2.2.2)) k
        have k := ly_revb 1 (c' := (if (nI u1.2.2.2.2.2) = 0 then 62 else 71, [(3, .int (nI (i + 1))), (2, .int (Int32.ofInt 0)), (0, .ref Yr), (1, .ref Y)], [], me_w M (nt_u (nt_u J1 Rd 2 (lb_c u1.1 (Int32.ofInt 0))) Rd 1 (nI t)))) rfl k
        by_cases h59 : u1.2.2.2.2.2 = 0
        · rw [if_pos (show (nI u1.2.2.2.2.2) = 0 from show nI u1.2.2.2.2.2 = nI 0 from congrArg nI h59)] at k
          have k := ly_revb 1 (c' := (63, [(3, .int (nI (i + 1))), (2, .int (Int32.ofInt 0)), (0, .ref Yr), (1, .ref Y)], [.ref Yr], me_w M (nt_u (nt_u J1 Rd 2 (lb_c u1.1 (Int32.ofInt 0))) Rd 1 (nI t)))) rfl k
          have k := lz_get (a := Yr) (g := 901) (M := me_w M (nt_u (nt_u J1 Rd 2 (lb_c u1.1 (Int32.ofInt 0))) Rd 1 (nI t))) (v := .ref Y) rfl (nt_gfR rfl hP.2.2.1.2) k
          have k := ly_revb 1 (c' := (68, [(3, .int (nI (i + 1))), (2, .int (Int32.ofInt 0)), (0, .ref Yr), (1, .ref Y)], [.int (Int32.ofInt 30), .ref Y], me_w M (nt_u (nt_u J1 Rd 2 (lb_c u1.1 (Int32.ofInt 0))) Rd 1 (nI t)))) rfl k
          have k := me_put rfl (by decide) k
          have k : nt_rn X _ 92 (71, [(3, .int (nI (i + 1))), (2, .int (Int32.ofInt 0)), (0, .ref Yr), (1, .ref Y)], [], me_w M (nt_u (nt_u (nt_u J1 Rd 2 (lb_c u1.1 (Int32.ofInt 0))) Rd 1 (nI t)) Y 4 (Int32.ofInt 30))) _ := k
          have hS2 := yc_S4 (y := 30) hP hS1
          have k := ly_revb 1 (c' := (72, [(3, .int (nI (i + 1))), (2, .int (Int32.ofInt 0)), (0, .ref Yr), (1, .ref Y)], [.ref Yr], me_w M (nt_u (nt_u (nt_u J1 Rd 2 (lb_c u1.1 (Int32.ofInt 0))) Rd 1 (nI t)) Y 4 (Int32.ofInt 30)))) rfl k
          have k := lz_get (a := Yr) (g := 900) (M := me_w M (nt_u (nt_u (nt_u J1 Rd 2 (lb_c u1.1 (Int32.ofInt 0))) Rd 1 (nI t)) Y 4 (Int32.ofInt 30))) (v := .ref Rd) rfl (nt_gfR rfl hP.2.2.1.1) k
          obtain ⟨d1, o1, ed, kc, k⟩ := lz_c (g := 38) (q := 1) (vs := [.ref Rd]) (rest := []) rfl rfl (by decide) (Or.inr (Or.inl ⟨_, rfl, rfl⟩)) rfl k
          have e1 := lc_fault (yc_lP hP hS2) (yc_lS hP hS2) (Nat.le_refl t) kc
          subst e1
          have k : nt_rn X _ 92 (78, [(3, .int (nI (i + 1))), (2, .int (Int32.ofInt 0)), (0, .ref Yr), (1, .ref Y)], [.int (lb_c u1.1 (Int32.ofInt 0))], me_w M (nt_u (nt_u (nt_u J1 Rd 2 (lb_c u1.1 (Int32.ofInt 0))) Rd 1 (nI t)) Y 4 (Int32.ofInt 30))) _ := k
          have k := lz_ri rfl (by decide) k
          exact ⟨1, .inl (lb_c u1.1 (Int32.ofInt 0)), _, k, ⟨_, hy, Or.inr ⟨u1, rfl, Or.inr (Or.inr ⟨hn, hn2, rfl⟩)⟩⟩, fun u1 e => (by cases e), fun c e => (by cases e; exact (lb_c_ne (by omega) (by decide) (by decide)))⟩
        · rw [if_neg (show ¬ ((nI u1.2.2.2.2.2) = 0) from nI_ne0 (Nat.pos_of_ne_zero h59) (by have := hb1.2.2.2.2; omega))] at k
          have k := ly_revb 1 (c' := (72, [(3, .int (nI (i + 1))), (2, .int (Int32.ofInt 0)), (0, .ref Yr), (1, .ref Y)], [.ref Yr], me_w M (nt_u (nt_u J1 Rd 2 (lb_c u1.1 (Int32.ofInt 0))) Rd 1 (nI t)))) rfl k
          have k := lz_get (a := Yr) (g := 900) (M := me_w M (nt_u (nt_u J1 Rd 2 (lb_c u1.1 (Int32.ofInt 0))) Rd 1 (nI t))) (v := .ref Rd) rfl (nt_gfR rfl hP.2.2.1.1) k
          obtain ⟨d1, o1, ed, kc, k⟩ := lz_c (g := 38) (q := 1) (vs := [.ref Rd]) (rest := []) rfl rfl (by decide) (Or.inr (Or.inl ⟨_, rfl, rfl⟩)) rfl k
          have e1 := lc_fault (yc_lP hP hS1) (yc_lS hP hS1) (Nat.le_refl t) kc
          subst e1
          have k : nt_rn X _ 92 (78, [(3, .int (nI (i + 1))), (2, .int (Int32.ofInt 0)), (0, .ref Yr), (1, .ref Y)], [.int (lb_c u1.1 (Int32.ofInt 0))], me_w M (nt_u (nt_u J1 Rd 2 (lb_c u1.1 (Int32.ofInt 0))) Rd 1 (nI t))) _ := k
          have k := lz_ri rfl (by decide) k
          exact ⟨1, .inl (lb_c u1.1 (Int32.ofInt 0)), _, k, ⟨_, hy, Or.inr ⟨u1, rfl, Or.inr (Or.inr ⟨hn, hn2, rfl⟩)⟩⟩, fun u1 e => (by cases e), fun c e => (by cases e; exact (lb_c_ne (by omega) (by decide) (by decide)))⟩
      · exact absurd rfl hf
theorem yc_clear {X : nt_X} {d Y : Nat} {M : nt_M} {J : Nat → Nat → Int32} {o : Option Value × nt_M} (k : nt_ev X d 86 [.ref Y] (me_w M J) o) : o = (none, me_w M (nt_u (nt_u (nt_u (nt_u (nt_u J Y 0 (Int32.ofInt 0)) Y 1 (Int32.ofInt 0)) Y 2 (Int32.ofInt 0)) Y 3 (Int32.ofInt 0)) Y 4 (Int32.ofInt 0))) := by
  have k : nt_rn X d 86 (0, [(0, .ref Y)], [], me_w M J) o := k
  have k := ly_revb 2 (c' := (2, [(0, .ref Y)], [.int (Int32.ofInt 0), .ref Y], me_w M J)) rfl k
  have k := me_put rfl (by decide) k
  have k : nt_rn X _ 86 (5, [(0, .ref Y)], [], me_w M (nt_u J Y 0 (Int32.ofInt 0))) _ := k
  have k := ly_revb 2 (c' := (7, [(0, .ref Y)], [.int (Int32.ofInt 0), .ref Y], me_w M (nt_u J Y 0 (Int32.ofInt 0)))) rfl k
  have k := me_put rfl (by decide) k
  have k : nt_rn X _ 86 (10, [(0, .ref Y)], [], me_w M (nt_u (nt_u J Y 0 (Int32.ofInt 0)) Y 1 (Int32.ofInt 0))) _ := k
  have k := ly_revb 2 (c' := (12, [(0, .ref Y)], [.int (Int32.ofInt 0), .ref Y], me_w M (nt_u (nt_u J Y 0 (Int32.ofInt 0)) Y 1 (Int32.ofInt 0)))) rfl k
  have k := me_put rfl (by decide) k
  have k : nt_rn X _ 86 (15, [(0, .ref Y)], [], me_w M (nt_u (nt_u (nt_u J Y 0 (Int32.ofInt 0)) Y 1 (Int32.ofInt 0)) Y 2 (Int32.ofInt 0))) _ := k
  have k := ly_revb 2 (c' := (17, [(0, .ref Y)], [.int (Int32.ofInt 0), .ref Y], me_w M (nt_u (nt_u (nt_u J Y 0 (Int32.ofInt 0)) Y 1 (Int32.ofInt 0)) Y 2 (Int32.ofInt 0)))) rfl k
  have k := me_put rfl (by decide) k
  have k : nt_rn X _ 86 (20, [(0, .ref Y)], [], me_w M (nt_u (nt_u (nt_u (nt_u J Y 0 (Int32.ofInt 0)) Y 1 (Int32.ofInt 0)) Y 2 (Int32.ofInt 0)) Y 3 (Int32.ofInt 0))) _ := k
  have k := ly_revb 2 (c' := (22, [(0, .ref Y)], [.int (Int32.ofInt 0), .ref Y], me_w M (nt_u (nt_u (nt_u (nt_u J Y 0 (Int32.ofInt 0)) Y 1 (Int32.ofInt 0)) Y 2 (Int32.ofInt 0)) Y 3 (Int32.ofInt 0)))) rfl k
  have k := me_put rfl (by decide) k
  have k : nt_rn X _ 86 (25, [(0, .ref Y)], [], me_w M (nt_u (nt_u (nt_u (nt_u (nt_u J Y 0 (Int32.ofInt 0)) Y 1 (Int32.ofInt 0)) Y 2 (Int32.ofInt 0)) Y 3 (Int32.ofInt 0)) Y 4 (Int32.ofInt 0))) _ := k
  have k := lz_rv rfl rfl k
  exact k
end
section
/-! what a yard's text says is the same, whoever reads it; how large its numbers are -/
theorem lb_nu_b {f : Nat → Int32} {t p : Nat} {lo hi : Int32} {q : Nat} {x : Int32} (h : lb_nu f t p lo hi (.inr (q, x))) : lo.toInt ≤ x.toInt ∧ x.toInt ≤ hi.toInt := by
  rcases h with ⟨a, h⟩ | ⟨a, b, h⟩ | ⟨a, b, c, h⟩
  · cases h
  · cases h
  · have e := Sum.inr.inj h
    have e2 : x = lb_v f p (lb_d f t p) := congrArg Prod.snd e
    rw [e2]
    exact c
theorem lb_nu_e {f : Nat → Int32} {t p : Nat} {lo hi : Int32} {q q' : Nat} {x x' : Int32} (h : lb_nu f t p lo hi (.inr (q, x))) (h' : lb_nu f t p lo hi (.inr (q', x'))) : q' = q ∧ x' = x := by
  have e := Sum.inr.inj (lb_nu_det h' h)
  exact ⟨congrArg Prod.fst e, congrArg Prod.snd e⟩
theorem lb_shC2 {f : Nat → Int32} {t s : Nat} : ∀ (j i p q q' : Nat) (C C' D D' : lb_C), lb_shC f t s j i p q C D → lb_shC f t s j i p q' C' D' → q' = q ∧ (∀ m, i ≤ m → m < i + j → D 5 (4 * s + m) = D' 5 (4 * s + m) ∧ 0 ≤ (D 5 (4 * s + m)).toInt ∧ (D 5 (4 * s + m)).toInt ≤ 5) ∧ (∀ n, n < 4 * s + i ∨ 4 * s + i + j ≤ n → D 5 n = C 5 n ∧ D' 5 n = C' 5 n) ∧ (∀ a, a ≠ 5 → D a = C a ∧ D' a = C' a) := by
  intro j
  induction j with
  | zero =>
    intro i p q q' C C' D D' h h'
    obtain ⟨e1, e2⟩ := h
    obtain ⟨e3, e4⟩ := h'
    subst e2
    subst e4
    exact ⟨e3.trans e1.symm, fun m a b => by omega, fun _ _ => ⟨rfl, rfl⟩, fun _ _ => ⟨rfl, rfl⟩⟩
  | succ j ih =>
    intro i p q q' C C' D D' h h'
    obtain ⟨q1, x, hn, h⟩ := h
    obtain ⟨q1', x', hn', h'⟩ := h'
    obtain ⟨e1, e2⟩ := lb_nu_e hn hn'
    subst e1
    subst e2
    have hb := lb_nu_b hn
    obtain ⟨a1, a2, a3, a4⟩ := ih (i + 1) _ _ _ _ _ _ _ h h'
    have z0 : (Int32.ofInt 0).toInt = 0 := by decide
    have z5 : (Int32.ofInt 5).toInt = 5 := by decide
    refine ⟨a1, fun m m1 m2 => ?_, fun n hn => ?_, fun a ha => ?_⟩
    · by_cases e : m = i
      · subst e
        obtain ⟨b1, b2⟩ := a3 (4 * s + m) (Or.inl (by omega))
        rw [b1, b2, me_us, me_us]
        exact ⟨rfl, by omega, by omega⟩
      · exact a2 m (by omega) (by omega)
    · obtain ⟨b1, b2⟩ := a3 n (by omega)
      rw [b1, b2, me_uk (by omega), me_uk (by omega)]
      exact ⟨rfl, rfl⟩
    · obtain ⟨b1, b2⟩ := a4 a ha
      rw [b1, b2, me_uo ha, me_uo ha]
      exact ⟨rfl, rfl⟩
def yz (u : Nat × Nat × Nat × Nat × Nat) (C C' : lb_C) : Prop := (∀ s k, s < u.2.1 → k < u.1 → C 5 (4 * s + k) = C' 5 (4 * s + k)) ∧ (∀ n, n < u.2.2.1 → C 6 n = C' 6 n ∧ C 7 n = C' 7 n ∧ C 8 n = C' 8 n) ∧ (∀ n, n < u.2.2.2.1 → C 9 n = C' 9 n ∧ C 10 n = C' 10 n ∧ C 11 n = C' 11 n ∧ C 12 n = C' 12 n)
def yb (u : Nat × Nat × Nat × Nat × Nat) (C : lb_C) : Prop := (∀ s k, s < u.2.1 → k < u.1 → 0 ≤ (C 5 (4 * s + k)).toInt ∧ (C 5 (4 * s + k)).toInt ≤ 5) ∧ (∀ n, n < u.2.2.1 → (0 ≤ (C 6 n).toInt ∧ (C 6 n).toInt < u.1) ∧ (1 ≤ (C 7 n).toInt ∧ (C 7 n).toInt ≤ 99) ∧ (0 ≤ (C 8 n).toInt ∧ (C 8 n).toInt < u.2.1)) ∧ (∀ n, n < u.2.2.2.1 → (0 ≤ (C 9 n).toInt ∧ (C 9 n).toInt < u.2.1) ∧ 0 ≤ (C 10 n).toInt ∧ (C 10 n).toInt < (C 11 n).toInt ∧ (C 11 n).toInt ≤ 99 ∧ 0 ≤ (C 12 n).toInt ∧ (C 12 n).toInt ≤ 999)
def yk (u : Nat × Nat × Nat × Nat × Nat) (C C' : lb_C) : Prop := yz u C C' ∧ yb u C
theorem yk_0 {k h : Nat} {C C' : lb_C} : yk (k, 0, 0, 0, h) C C' := ⟨⟨fun s k hs => absurd hs (Nat.not_lt_zero _), fun n hn => absurd hn (Nat.not_lt_zero _), fun n hn => absurd hn (Nat.not_lt_zero _)⟩, fun s k hs => absurd hs (Nat.not_lt_zero _), fun n hn => absurd hn (Nat.not_lt_zero _), fun n hn => absurd hn (Nat.not_lt_zero _)⟩
theorem yn1 {k : Nat} {x : Int32} (hk : k ≤ 1000) (h0 : (Int32.ofInt 0).toInt ≤ x.toInt) (h1 : x.toInt ≤ (nI k - Int32.ofInt 1).toInt) : 0 ≤ x.toInt ∧ x.toInt < k := by
  have z0 : (Int32.ofInt 0).toInt = 0 := by decide
  have z1 : (Int32.ofInt 1).toInt = 1 := by decide
  rw [Int32.toInt_sub, z1, nI_toInt (by omega), Int.bmod_eq_of_le (by omega) (by omega)] at h1
  omega
/-- one clause -/
theorem yk_1 {f : Nat → Int32} {t i : Nat} {u u1 : lb_U} {C C' D D' : lb_C} (h0 : i = 0 → u.2.2.1 = 0 ∧ u.2.2.2.1 = 0 ∧ u.2.2.2.2.1 = 0) (hk4 : u.2.1 ≤ 4) (hs6 : u.2.2.1 ≤ 6) (hk : yk u.2 C C') (hy : lb_yc f t i u (.inr u1)) (hC : lb_ycC f t u u1 C D) (hC' : lb_ycC f t u u1 C' D') : yk u1.2 D D' ∧ u1.2.1 ≤ 4 ∧ u1.2.2.1 ≤ 6 ∧ (i = 0 → 1 ≤ u1.2.1) ∧ (i ≠ 0 → u1.2.1 = u.2.1) := by
  rcases hy with ⟨_, e⟩ | ⟨w, hw, a, b, hy⟩
  · cases e
  rcases hy with ⟨_, e⟩ | ⟨hx, hy⟩
  · cases e
  obtain ⟨w1, hw1, a1, b1, hC⟩ := hC
  obtain ⟨w2, hw2, a2, b2, hC'⟩ := hC'
  have e1 : w1 = w := by
    rcases Nat.lt_trichotomy w1 w with q | q | q
    · exact absurd a1 (b _ q)
    · exact q
    · exact absurd a (b1 _ q)
  have e2 : w2 = w := by
    rcases Nat.lt_trichotomy w2 w with q | q | q
    · exact absurd a2 (b _ q)
    · exact q
    · exact absurd a (b2 _ q)
  subst e1
  subst e2
  have hxi : i = 0 ↔ w2 = 0 := Classical.byContradiction fun c => hx (Or.inr (Or.inl c))
  have hxf : ¬ lb_fu u w2 := fun c => hx (Or.inr (Or.inr c))
  obtain ⟨⟨k1, k2, k3⟩, l1, l2, l3⟩ := hk
  obtain ⟨p, uk, us, up, uv, uh⟩ := u
  dsimp only at h0 hk4 hs6 k1 k2 k3 l1 l2 l3 hC hC' hy hxf
  have z0 : (Int32.ofInt 0).toInt = 0 := by decide
  have z1 : (Int32.ofInt 1).toInt = 1 := by decide
  have z4 : (Int32.ofInt 4).toInt = 4 := by decide
  have z98 : (Int32.ofInt 98).toInt = 98 := by decide
  have z99 : (Int32.ofInt 99).toInt = 99 := by decide
  have z999 : (Int32.ofInt 999).toInt = 999 := by decide
  rcases (by omega : w2 = 0 ∨ w2 = 1 ∨ w2 = 2 ∨ w2 = 3 ∨ w2 = 4) with rfl | rfl | rfl | rfl | rfl
  · obtain ⟨r1, hn, hr⟩ := hy
    rcases hr with ⟨c, _, e⟩ | ⟨q, x, er, e⟩
    · cases e
    subst er
    have hb := lb_nu_b hn
    have e := Sum.inr.inj e
    subst e
    obtain ⟨g1, g2, g3⟩ := h0 (hxi.mpr rfl)
    subst g1
    subst g2
    subst g3
    have eD : D = C := hC
    have eD' : D' = C' := hC'
    dsimp only
    exact ⟨yk_0, by omega, by omega, fun _ => by omega, fun c => absurd (hxi.mpr rfl) c⟩
  · obtain ⟨r1, hn, hr⟩ := hy
    rcases hr with ⟨c, _, e⟩ | ⟨q, er, e⟩
    · cases e
    subst er
    have e := Sum.inr.inj e
    subst e
    dsimp only at hC hC' ⊢
    have hC : lb_shC f t us uk 0 _ q C D := hC
    have hC' : lb_shC f t us uk 0 _ q C' D' := hC'
    obtain ⟨_, c1, c2, c3⟩ := lb_shC2 _ _ _ _ _ _ _ _ _ hC hC'
    have hf : ¬ 6 ≤ us := hxf
    refine ⟨⟨⟨fun s k hs hk => ?_, fun n hn => ?_, fun n hn => ?_⟩, fun s k hs hk => ?_, fun n hn => ?_, fun n hn => ?_⟩, hk4, by omega, fun c => absurd (hxi.mp c) (by decide), fun _ => rfl⟩
    · dsimp only at hs hk
      by_cases e : s = us
      · subst e
        exact (c1 k (by omega) (by omega)).1
      · obtain ⟨d1, d2⟩ := c2 (4 * s + k) (Or.inl (by omega))
        rw [d1, d2]
        exact k1 s k (by omega) hk
    · rw [(c3 6 (by decide)).1, (c3 6 (by decide)).2, (c3 7 (by decide)).1, (c3 7 (by decide)).2, (c3 8 (by decide)).1, (c3 8 (by decide)).2]
      exact k2 n hn
    · rw [(c3 9 (by decide)).1, (c3 9 (by decide)).2, (c3 10 (by decide)).1, (c3 10 (by decide)).2, (c3 11 (by decide)).1, (c3 11 (by decide)).2, (c3 12 (by decide)).1, (c3 12 (by decide)).2]
      exact k3 n hn
    · dsimp only at hs hk
      by_cases e : s = us
      · subst e
        exact (c1 k (by omega) (by omega)).2
      · obtain ⟨d1, d2⟩ := c2 (4 * s + k) (Or.inl (by omega))
        rw [d1]
        exact l1 s k (by omega) hk
    · rw [(c3 6 (by decide)).1, (c3 7 (by decide)).1, (c3 8 (by decide)).1]
      have := l2 n hn
      dsimp only at this ⊢
      omega
    · rw [(c3 9 (by decide)).1, (c3 10 (by decide)).1, (c3 11 (by decide)).1, (c3 12 (by decide)).1]
      have := l3 n hn
      dsimp only at this ⊢
      omega
  · obtain ⟨r1, hn, hr⟩ := hy
    rcases hr with ⟨c, _, e⟩ | ⟨q, er, e⟩
    · cases e
    subst er
    have e := Sum.inr.inj e
    subst e
    dsimp only at hC hC' ⊢
    obtain ⟨q1, q2, x1, x2, x3, m1, m2, m3, eD⟩ := hC
    obtain ⟨q1', q2', x1', x2', x3', m1', m2', m3', eD'⟩ := hC'
    obtain ⟨f1, f2⟩ := lb_nu_e m1 m1'
    subst f1
    subst f2
    obtain ⟨f1, f2⟩ := lb_nu_e m2 m2'
    subst f1
    subst f2
    obtain ⟨_, f2⟩ := lb_nu_e m3 m3'
    subst f2
    have y1 := lb_nu_b m1
    have y2 := lb_nu_b m2
    have y3 := lb_nu_b m3
    have yy1 := yn1 (k := uk) (by omega) y1.1 y1.2
    have yy3 := yn1 (k := us) (by omega) y3.1 y3.2
    have F : ∀ (E : lb_C), (∀ a, a ≠ 6 → a ≠ 7 → a ≠ 8 → nt_u (nt_u (nt_u E 6 up x1') 7 up x2') 8 up x3' a = E a) ∧ (∀ n, n ≠ up → nt_u (nt_u (nt_u E 6 up x1') 7 up x2') 8 up x3' 6 n = E 6 n ∧ nt_u (nt_u (nt_u E 6 up x1') 7 up x2') 8 up x3' 7 n = E 7 n ∧ nt_u (nt_u (nt_u E 6 up x1') 7 up x2') 8 up x3' 8 n = E 8 n) ∧ nt_u (nt_u (nt_u E 6 up x1') 7 up x2') 8 up x3' 6 up = x1' ∧ nt_u (nt_u (nt_u E 6 up x1') 7 up x2') 8 up x3' 7 up = x2' ∧ nt_u (nt_u (nt_u E 6 up x1') 7 up x2') 8 up x3' 8 up = x3' := by
      intro E
      refine ⟨fun a g1 g2 g3 => ?_, fun n g => ⟨?_, ?_, ?_⟩, ?_, ?_, me_us⟩
      · rw [me_uo g3, me_uo g2, me_uo g1]
      · rw [me_uo (by decide), me_uo (by decide), me_uk g]
      · rw [me_uo (by decide), me_uk g, me_uo (by decide)]
      · rw [me_uk g, me_uo (by decide), me_uo (by decide)]
      · rw [me_uo (by decide), me_uo (by decide), me_us]
      · rw [me_uo (by decide), me_us]
    obtain ⟨F1, F2, F3, F4, F5⟩ := F C
    obtain ⟨G1, G2, G3, G4, G5⟩ := F C'
    rw [← eD] at F1 F2 F3 F4 F5
    rw [← eD'] at G1 G2 G3 G4 G5
    refine ⟨⟨⟨fun s k hs hk => ?_, fun n hn => ?_, fun n hn => ?_⟩, fun s k hs hk => ?_, fun n hn => ?_, fun n hn => ?_⟩, hk4, hs6, fun c => absurd (hxi.mp c) (by decide), fun _ => rfl⟩
    · rw [F1 5 (by decide) (by decide) (by decide), G1 5 (by decide) (by decide) (by decide)]
      exact k1 s k hs hk
    · dsimp only at hn
      by_cases e : n = up
      · subst e
        rw [F3, F4, F5, G3, G4, G5]
        exact ⟨rfl, rfl, rfl⟩
      · rw [(F2 n e).1, (F2 n e).2.1, (F2 n e).2.2, (G2 n e).1, (G2 n e).2.1, (G2 n e).2.2]
        exact k2 n (by omega)
    · rw [F1 9 (by decide) (by decide) (by decide), G1 9 (by decide) (by decide) (by decide), F1 10 (by decide) (by decide) (by decide), G1 10 (by decide) (by decide) (by decide), F1 11 (by decide) (by decide) (by decide), G1 11 (by decide) (by decide) (by decide), F1 12 (by decide) (by decide) (by decide), G1 12 (by decide) (by decide) (by decide)]
      exact k3 n hn
    · rw [F1 5 (by decide) (by decide) (by decide)]
      exact l1 s k hs hk
    · dsimp only at hn
      by_cases e : n = up
      · subst e
        rw [F3, F4, F5]
        dsimp only
        exact ⟨yy1, by omega, yy3⟩
      · rw [(F2 n e).1, (F2 n e).2.1, (F2 n e).2.2]
        exact l2 n (by omega)
    · rw [F1 9 (by decide) (by decide) (by decide), F1 10 (by decide) (by decide) (by decide), F1 11 (by decide) (by decide) (by decide), F1 12 (by decide) (by decide) (by decide)]
      exact l3 n hn
  · obtain ⟨r1, hn, hr⟩ := hy
    rcases hr with ⟨c, _, e⟩ | ⟨q, er, e⟩
    · cases e
    subst er
    have e := Sum.inr.inj e
    subst e
    dsimp only at hC hC' ⊢
    obtain ⟨q1, q2, q3, x1, x2, x3, x4, m1, m2, m3, m4, eD⟩ := hC
    obtain ⟨q1', q2', q3', x1', x2', x3', x4', m1', m2', m3', m4', eD'⟩ := hC'
    obtain ⟨f1, f2⟩ := lb_nu_e m1 m1'
    subst f1
    subst f2
    obtain ⟨f1, f2⟩ := lb_nu_e m2 m2'
    subst f1
    subst f2
    obtain ⟨f1, f2⟩ := lb_nu_e m3 m3'
    subst f1
    subst f2
    obtain ⟨_, f2⟩ := lb_nu_e m4 m4'
    subst f2
    have y1 := lb_nu_b m1
    have y2 := lb_nu_b m2
    have y3 := lb_nu_b m3
    have y4 := lb_nu_b m4
    have yy1 := yn1 (k := us) (by omega) y1.1 y1.2
    have ex : (x2' + Int32.ofInt 1).toInt = x2'.toInt + 1 := by
      rw [Int32.toInt_add, z1, Int.bmod_eq_of_le (by omega) (by omega)]
    have F : ∀ (E : lb_C), (∀ a, a ≠ 9 → a ≠ 10 → a ≠ 11 → a ≠ 12 → nt_u (nt_u (nt_u (nt_u E 9 uv x1') 10 uv x2') 11 uv x3') 12 uv x4' a = E a) ∧ (∀ n, n ≠ uv → nt_u (nt_u (nt_u (nt_u E 9 uv x1') 10 uv x2') 11 uv x3') 12 uv x4' 9 n = E 9 n ∧ nt_u (nt_u (nt_u (nt_u E 9 uv x1') 10 uv x2') 11 uv x3') 12 uv x4' 10 n = E 10 n ∧ nt_u (nt_u (nt_u (nt_u E 9 uv x1') 10 uv x2') 11 uv x3') 12 uv x4' 11 n = E 11 n ∧ nt_u (nt_u (nt_u (nt_u E 9 uv x1') 10 uv x2') 11 uv x3') 12 uv x4' 12 n = E 12 n) ∧ nt_u (nt_u (nt_u (nt_u E 9 uv x1') 10 uv x2') 11 uv x3') 12 uv x4' 9 uv = x1' ∧ nt_u (nt_u (nt_u (nt_u E 9 uv x1') 10 uv x2') 11 uv x3') 12 uv x4' 10 uv = x2' ∧ nt_u (nt_u (nt_u (nt_u E 9 uv x1') 10 uv x2') 11 uv x3') 12 uv x4' 11 uv = x3' ∧ nt_u (nt_u (nt_u (nt_u E 9 uv x1') 10 uv x2') 11 uv x3') 12 uv x4' 12 uv = x4' := by
      intro E
      refine ⟨fun a g1 g2 g3 g4 => ?_, fun n g => ⟨?_, ?_, ?_, ?_⟩, ?_, ?_, ?_, me_us⟩
      · rw [me_uo g4, me_uo g3, me_uo g2, me_uo g1]
      · rw [me_uo (by decide), me_uo (by decide), me_uo (by decide), me_uk g]
      · rw [me_uo (by decide), me_uo (by decide), me_uk g, me_uo (by decide)]
      · rw [me_uo (by decide), me_uk g, me_uo (by decide), me_uo (by decide)]
      · rw [me_uk g, me_uo (by decide), me_uo (by decide), me_uo (by decide)]
      · rw [me_uo (by decide), me_uo (by decide), me_uo (by decide), me_us]
      · rw [me_uo (by decide), me_uo (by decide), me_us]
      · rw [me_uo (by decide), me_us]
    obtain ⟨F1, F2, F3, F4, F5, F6⟩ := F C
    obtain ⟨G1, G2, G3, G4, G5, G6⟩ := F C'
    rw [← eD] at F1 F2 F3 F4 F5 F6
    rw [← eD'] at G1 G2 G3 G4 G5 G6
    refine ⟨⟨⟨fun s k hs hk => ?_, fun n hn => ?_, fun n hn => ?_⟩, fun s k hs hk => ?_, fun n hn => ?_, fun n hn => ?_⟩, hk4, hs6, fun c => absurd (hxi.mp c) (by decide), fun _ => rfl⟩
    · rw [F1 5 (by decide) (by decide) (by decide) (by decide), G1 5 (by decide) (by decide) (by decide) (by decide)]
      exact k1 s k hs hk
    · rw [F1 6 (by decide) (by decide) (by decide) (by decide), G1 6 (by decide) (by decide) (by decide) (by decide), F1 7 (by decide) (by decide) (by decide) (by decide), G1 7 (by decide) (by decide) (by decide) (by decide), F1 8 (by decide) (by decide) (by decide) (by decide), G1 8 (by decide) (by decide) (by decide) (by decide)]
      exact k2 n hn
    · dsimp only at hn
      by_cases e : n = uv
      · subst e
        rw [F3, F4, F5, F6, G3, G4, G5, G6]
        exact ⟨rfl, rfl, rfl, rfl⟩
      · rw [(F2 n e).1, (F2 n e).2.1, (F2 n e).2.2.1, (F2 n e).2.2.2, (G2 n e).1, (G2 n e).2.1, (G2 n e).2.2.1, (G2 n e).2.2.2]
        exact k3 n (by omega)
    · rw [F1 5 (by decide) (by decide) (by decide) (by decide)]
      exact l1 s k hs hk
    · rw [F1 6 (by decide) (by decide) (by decide) (by decide), F1 7 (by decide) (by decide) (by decide) (by decide), F1 8 (by decide) (by decide) (by decide) (by decide)]
      exact l2 n hn
    · dsimp only at hn
      by_cases e : n = uv
      · subst e
        rw [F3, F4, F5, F6]
        dsimp only
        exact ⟨yy1, by omega, by omega, by omega, by omega, by omega⟩
      · rw [(F2 n e).1, (F2 n e).2.1, (F2 n e).2.2.1, (F2 n e).2.2.2]
        exact l3 n (by omega)
  · obtain ⟨r1, hn, hr⟩ := hy
    rcases hr with ⟨c, _, e⟩ | ⟨q, x, er, e⟩
    · cases e
    have e := Sum.inr.inj e
    subst e
    have eD : D = C := hC
    have eD' : D' = C' := hC'
    rw [eD, eD']
    exact ⟨⟨⟨k1, k2, k3⟩, l1, l2, l3⟩, hk4, hs6, fun c => absurd (hxi.mp c) (by decide), fun _ => rfl⟩
theorem lb_yaC2 {f : Nat → Int32} {t : Nat} : ∀ (k k' i : Nat) (u v v' : lb_U) (C C' D D' : lb_C), (i = 0 → u.2.2.1 = 0 ∧ u.2.2.2.1 = 0 ∧ u.2.2.2.2.1 = 0) → (i ≠ 0 → 1 ≤ u.2.1) → u.2.1 ≤ 4 → u.2.2.1 ≤ 6 → yk u.2 C C' → lb_yaC f t k i u v C D → lb_yaC f t k' i u v' C' D' → v' = v ∧ yk v.2 D D' ∧ 1 ≤ v.2.1 := by
  intro k
  induction k with
  | zero => intro k' i u v v' C C' D D' _ _ _ _ _ h; exact h.elim
  | succ k ih =>
    intro k' i u v v' C C' D D' h0 h1 h4 h6 hk h h'
    cases k' with
    | zero => exact h'.elim
    | succ k' =>
      obtain ⟨u1, C1, hy, hC, h⟩ := h
      obtain ⟨u1', C1', hy', hC', h'⟩ := h'
      have e := Sum.inr.inj (lb_yc_det hy' hy)
      subst e
      obtain ⟨g1, g2, g3, g4, g5⟩ := yk_1 h0 h4 h6 hk hy hC hC'
      have g6 : 1 ≤ u1'.2.1 := by
        by_cases e : i = 0
        · exact g4 e
        · rw [g5 e]
          exact h1 e
      rcases h with ⟨a, h⟩ | ⟨a, h, hD⟩ <;> rcases h' with ⟨a', h'⟩ | ⟨a', h', hD'⟩
      · exact ih k' (i + 1) (lb_s f t (u1'.1 + 1), u1'.2) v v' C1 C1' D D' (fun c => absurd c (Nat.succ_ne_zero _)) (fun _ => g6) g2 g3 g1 h h'
      · rw [a] at a'
        exact absurd a' (by decide)
      · rw [a] at a'
        exact absurd a' (by decide)
      · subst h
        subst hD
        subst hD'
        exact ⟨h', g1, g6⟩
end
section
/-! a new yard begins -/
theorem mw_R {M : nt_M} {J : Nat → Nat → Int32} {a k b : Nat} (h : nt_R M a k = some b) : nt_R (me_w M J) a k = some b := h
theorem mw_gI {M : nt_M} {J : Nat → Nat → Int32} {a c j : Nat} {x : Int32} (ht : nt_tg c j = 0) (h : J a j = x) : nt_gf (me_w M J) a c j = .int x := by
  unfold nt_gf
  rw [ht]
  exact congrArg Value.int h
theorem mw_RL {M : nt_M} {J : Nat → Nat → Int32} {L : Nat → Nat → Int64} {a k b : Nat} (h : nt_R M a k = some b) : nt_R (me_w (lw M L) J) a k = some b := h
/-! $State.begin -/
def x64_32 (q : Nat → Nat) : Nat → Int32 → (Nat → Nat → Int32) → (Nat → Nat → Int32)
  | 0, v2, J => J
  | c + 1, v2, J => if (Int32.ofInt 6) ≤ v2 then J
    else (x64_32 q c (v2 + (Int32.ofInt 1)) (nt_u (nt_u (nt_u J (q 10) v2.toNatClampNeg (Int32.ofInt 0)) (q 11) v2.toNatClampNeg (Int32.ofInt 0)) (q 12) v2.toNatClampNeg (Int32.ofInt (-1))))
theorem xt64_32 {X : nt_X} {d : Nat} {M : nt_M} {o : Option Value × nt_M} {q : Nat → Nat} {v1 : Int32} (hq : xs_Q M q) : ∀ (c : Nat) (v2 : Int32) (J : Nat → Nat → Int32), (Int32.ofInt 6).toInt - v2.toInt ≤ c → nt_rn X d 64 (32, [(0, .ref (q 0)), (1, .int v1), (2, .int v2)], [], me_w M J) o → ∃ (w2 : Int32), nt_rn X d 64 (65, [(0, .ref (q 0)), (1, .int v1), (2, .int w2)], [], me_w M (x64_32 q c v2 J)) o := by
  intro c
  induction c with
  | zero =>
    intro v2 J hc k
    have k := ly_revb 3 (c' := (if (Int32.ofInt 6) ≤ v2 then 65 else 38, [(0, .ref (q 0)), (1, .int v1), (2, .int v2)], [], me_w M J)) rfl k
    have h35 : (Int32.ofInt 6) ≤ v2 := lx_end hc
    rw [if_pos h35] at k
    have k := nt_rn_w (a := [(0, .ref (q 0)), (1, .int v1), (2, .int v2)]) (b := [(0, .ref (q 0)), (1, .int v1), (2, .int v2)]) ⟨rfl, rfl, rfl, trivial⟩ rfl k
    rw [x64_32]
    exact ⟨_, k⟩
  | succ c ih =>
    intro v2 J hc k
    have k := ly_revb 3 (c' := (if (Int32.ofInt 6) ≤ v2 then 65 else 38, [(0, .ref (q 0)), (1, .int v1), (2, .int v2)], [], me_w M J)) rfl k
    by_cases h35 : (Int32.ofInt 6) ≤ v2
    · rw [if_pos h35] at k
      have k := nt_rn_w (a := [(0, .ref (q 0)), (1, .int v1), (2, .int v2)]) (b := [(0, .ref (q 0)), (1, .int v1), (2, .int v2)]) ⟨rfl, rfl, rfl, trivial⟩ rfl k
      rw [x64_32, if_pos h35]
      exact ⟨_, k⟩
    · rw [if_neg h35] at k
      have k := ly_revb 1 (c' := (39, [(0, .ref (q 0)), (1, .int v1), (2, .int v2)], [.ref (q 0)], me_w M J)) rfl k
      have k := lz_get (a := (q 0)) (g := 607) (M := me_w M J) (v := .ref (q 10)) rfl (nt_gfR rfl (hq.1 (0, 7, 10) (by decide))) k
      have k := ly_revb 2 (c' := (44, [(0, .ref (q 0)), (1, .int v1), (2, .int v2)], [.int (Int32.ofInt 0), .int v2, .ref (q 10)], me_w M J)) rfl k
      have k := mx_iast (q := v2.toNatClampNeg) rfl rfl k
      have k : nt_rn X _ 64 (45, [(0, .ref (q 0)), (1, .int v1), (2, .int v2)], [], me_w M (nt_u J (q 10) v2.toNatClampNeg (Int32.ofInt 0))) _ := k
      have k := ly_revb 1 (c' := (46, [(0, .ref (q 0)), (1, .int v1), (2, .int v2)], [.ref (q 0)], me_w M (nt_u J (q 10) v2.toNatClampNeg (Int32.ofInt 0)))) rfl k
      have k := lz_get (a := (q 0)) (g := 608) (M := me_w M (nt_u J (q 10) v2.toNatClampNeg (Int32.ofInt 0))) (v := .ref (q 11)) rfl (nt_gfR rfl (hq.1 (0, 8, 11) (by decide))) k
      have k := ly_revb 2 (c' := (51, [(0, .ref (q 0)), (1, .int v1), (2, .int v2)], [.int (Int32.ofInt 0), .int v2, .ref (q 11)], me_w M (nt_u J (q 10) v2.toNatClampNeg (Int32.ofInt 0)))) rfl k
      have k := mx_iast (q := v2.toNatClampNeg) rfl rfl k
      have k : nt_rn X _ 64 (52, [(0, .ref (q 0)), (1, .int v1), (2, .int v2)], [], me_w M (nt_u (nt_u J (q 10) v2.toNatClampNeg (Int32.ofInt 0)) (q 11) v2.toNatClampNeg (Int32.ofInt 0))) _ := k
      have k := ly_revb 1 (c' := (53, [(0, .ref (q 0)), (1, .int v1), (2, .int v2)], [.ref (q 0)], me_w M (nt_u (nt_u J (q 10) v2.toNatClampNeg (Int32.ofInt 0)) (q 11) v2.toNatClampNeg (Int32.ofInt 0)))) rfl k
      have k := lz_get (a := (q 0)) (g := 609) (M := me_w M (nt_u (nt_u J (q 10) v2.toNatClampNeg (Int32.ofInt 0)) (q 11) v2.toNatClampNeg (Int32.ofInt 0))) (v := .ref (q 12)) rfl (nt_gfR rfl (hq.1 (0, 9, 12) (by decide))) k
      have k := ly_revb 2 (c' := (58, [(0, .ref (q 0)), (1, .int v1), (2, .int v2)], [.int (Int32.ofInt (-1)), .int v2, .ref (q 12)], me_w M (nt_u (nt_u J (q 10) v2.toNatClampNeg (Int32.ofInt 0)) (q 11) v2.toNatClampNeg (Int32.ofInt 0)))) rfl k
      have k := mx_iast (q := v2.toNatClampNeg) rfl rfl k
      have k : nt_rn X _ 64 (59, [(0, .ref (q 0)), (1, .int v1), (2, .int v2)], [], me_w M (nt_u (nt_u (nt_u J (q 10) v2.toNatClampNeg (Int32.ofInt 0)) (q 11) v2.toNatClampNeg (Int32.ofInt 0)) (q 12) v2.toNatClampNeg (Int32.ofInt (-1)))) _ := k
      have k := ly_revb 2 (c' := (32, [(2, .int (v2 + (Int32.ofInt 1))), (0, .ref (q 0)), (1, .int v1)], [], me_w M (nt_u (nt_u (nt_u J (q 10) v2.toNatClampNeg (Int32.ofInt 0)) (q 11) v2.toNatClampNeg (Int32.ofInt 0)) (q 12) v2.toNatClampNeg (Int32.ofInt (-1))))) rfl k
      have k := nt_rn_w (a := [(2, .int (v2 + (Int32.ofInt 1))), (0, .ref (q 0)), (1, .int v1)]) (b := [(0, .ref (q 0)), (1, .int v1), (2, .int (v2 + (Int32.ofInt 1)))]) ⟨rfl, rfl, rfl, trivial⟩ rfl k
      have k := ih (v2 + (Int32.ofInt 1)) (nt_u (nt_u (nt_u J (q 10) v2.toNatClampNeg (Int32.ofInt 0)) (q 11) v2.toNatClampNeg (Int32.ofInt 0)) (q 12) v2.toNatClampNeg (Int32.ofInt (-1))) (lx_dec h35 hc) k
      rw [x64_32, if_neg h35]
      exact k
theorem x64_32_rule {q : Nat → Nat} {I : Nat → Int32 → (Nat → Nat → Int32) → Prop} {Q : (Nat → Nat → Int32) → Prop} (h0 : ∀ (v2 : Int32) (J : Nat → Nat → Int32), I 0 v2 J → Q J) (h1 : ∀ (c : Nat) (v2 : Int32) (J : Nat → Nat → Int32), I (c + 1) v2 J →
    if (Int32.ofInt 6) ≤ v2 then (Q J)
    else (I c (v2 + (Int32.ofInt 1)) (nt_u (nt_u (nt_u J (q 10) v2.toNatClampNeg (Int32.ofInt 0)) (q 11) v2.toNatClampNeg (Int32.ofInt 0)) (q 12) v2.toNatClampNeg (Int32.ofInt (-1))))) : ∀ (c : Nat) (v2 : Int32) (J : Nat → Nat → Int32), I c v2 J → Q (x64_32 q c v2 J) := by
  intro c
  induction c with
  | zero =>
    intro v2 J hi
    rw [x64_32]
    exact h0 v2 J hi
  | succ c ih =>
    intro v2 J hi
    have hi := h1 c v2 J hi
    rw [x64_32]
    by_cases h : (Int32.ofInt 6) ≤ v2
    · rw [if_pos h] at hi ⊢
      exact hi
    · rw [if_neg h] at hi ⊢
      exact ih _ _ hi
theorem x64_32_frJ {q : Nat → Nat} {b : Nat} : ∀ (c : Nat) (v2 : Int32) (J : Nat → Nat → Int32), b ≠ q 10 → b ≠ q 11 → b ≠ q 12 → x64_32 q c v2 J b = J b := by
  intro c
  induction c with
  | zero =>
    intro v2 J n0 n1 n2
    rw [x64_32]
    all_goals first | (dsimp only; exact (show J b = J b from rfl)) | exact (show J b = J b from rfl)
  | succ c ih =>
    intro v2 J n0 n1 n2
    rw [x64_32]
    by_cases h : (Int32.ofInt 6) ≤ v2
    · rw [if_pos h]
      all_goals first | (dsimp only; exact (show J b = J b from rfl)) | exact (show J b = J b from rfl)
    · rw [if_neg h]
      exact (ih _ _ n0 n1 n2).trans ((mu_o n2).trans ((mu_o n1).trans (mu_o n0)))
def x64_67 (q : Nat → Nat) : Nat → Int32 → (Nat → Nat → Int32) → (Nat → Nat → Int32)
  | 0, v2, J => J
  | c + 1, v2, J => if (Int32.ofInt 24) ≤ v2 then J
    else (x64_67 q c (v2 + (Int32.ofInt 1)) (nt_u (nt_u (nt_u J (q 13) v2.toNatClampNeg (J (q 4) v2.toNatClampNeg)) (q 14) v2.toNatClampNeg (Int32.ofInt (-1))) (q 15) v2.toNatClampNeg (vp_nar .boolean (Int32.ofInt 0))))
theorem xt64_67 {X : nt_X} {d : Nat} {M : nt_M} {o : Option Value × nt_M} {q : Nat → Nat} {v1 : Int32} (hq : xs_Q M q) : ∀ (c : Nat) (v2 : Int32) (J : Nat → Nat → Int32), (Int32.ofInt 24).toInt - v2.toInt ≤ c → nt_rn X d 64 (67, [(0, .ref (q 0)), (1, .int v1), (2, .int v2)], [], me_w M J) o → ∃ (w2 : Int32), nt_rn X d 64 (108, [(0, .ref (q 0)), (1, .int v1), (2, .int w2)], [], me_w M (x64_67 q c v2 J)) o := by
  intro c
  induction c with
  | zero =>
    intro v2 J hc k
    have k := ly_revb 3 (c' := (if (Int32.ofInt 24) ≤ v2 then 108 else 73, [(0, .ref (q 0)), (1, .int v1), (2, .int v2)], [], me_w M J)) rfl k
    have h70 : (Int32.ofInt 24) ≤ v2 := lx_end hc
    rw [if_pos h70] at k
    have k := nt_rn_w (a := [(0, .ref (q 0)), (1, .int v1), (2, .int v2)]) (b := [(0, .ref (q 0)), (1, .int v1), (2, .int v2)]) ⟨rfl, rfl, rfl, trivial⟩ rfl k
    rw [x64_67]
    exact ⟨_, k⟩
  | succ c ih =>
    intro v2 J hc k
    have k := ly_revb 3 (c' := (if (Int32.ofInt 24) ≤ v2 then 108 else 73, [(0, .ref (q 0)), (1, .int v1), (2, .int v2)], [], me_w M J)) rfl k
    by_cases h70 : (Int32.ofInt 24) ≤ v2
    · rw [if_pos h70] at k
      have k := nt_rn_w (a := [(0, .ref (q 0)), (1, .int v1), (2, .int v2)]) (b := [(0, .ref (q 0)), (1, .int v1), (2, .int v2)]) ⟨rfl, rfl, rfl, trivial⟩ rfl k
      rw [x64_67, if_pos h70]
      exact ⟨_, k⟩
    · rw [if_neg h70] at k
      have k := ly_revb 1 (c' := (74, [(0, .ref (q 0)), (1, .int v1), (2, .int v2)], [.ref (q 0)], me_w M J)) rfl k
      have k := lz_get (a := (q 0)) (g := 610) (M := me_w M J) (v := .ref (q 13)) rfl (nt_gfR rfl (hq.1 (0, 10, 13) (by decide))) k
      have k := ly_revb 2 (c' := (79, [(0, .ref (q 0)), (1, .int v1), (2, .int v2)], [.ref (q 0), .int v2, .ref (q 13)], me_w M J)) rfl k
      have k := lz_get (a := (q 0)) (g := 600) (M := me_w M J) (v := .ref (q 1)) rfl (nt_gfR rfl (hq.1 (0, 0, 1) (by decide))) k
      have k := lz_get (a := (q 1)) (g := 807) (M := me_w M J) (v := .ref (q 4)) rfl (nt_gfR rfl (hq.1 (1, 7, 4) (by decide))) k
      have k := ly_revb 1 (c' := (86, [(0, .ref (q 0)), (1, .int v1), (2, .int v2)], [.int v2, .ref (q 4), .int v2, .ref (q 13)], me_w M J)) rfl k
      have k := mx_iald (v := J (q 4) v2.toNatClampNeg) rfl (hq.2.2.1 4 (by omega)) (rfl) k
      have k := mx_iast (q := v2.toNatClampNeg) rfl rfl k
      have k : nt_rn X _ 64 (88, [(0, .ref (q 0)), (1, .int v1), (2, .int v2)], [], me_w M (nt_u J (q 13) v2.toNatClampNeg (J (q 4) v2.toNatClampNeg))) _ := k
      have k := ly_revb 1 (c' := (89, [(0, .ref (q 0)), (1, .int v1), (2, .int v2)], [.ref (q 0)], me_w M (nt_u J (q 13) v2.toNatClampNeg (J (q 4) v2.toNatClampNeg)))) rfl k
      have k := lz_get (a := (q 0)) (g := 611) (M := me_w M (nt_u J (q 13) v2.toNatClampNeg (J (q 4) v2.toNatClampNeg))) (v := .ref (q 14)) rfl (nt_gfR rfl (hq.1 (0, 11, 14) (by decide))) k
      have k := ly_revb 2 (c' := (94, [(0, .ref (q 0)), (1, .int v1), (2, .int v2)], [.int (Int32.ofInt (-1)), .int v2, .ref (q 14)], me_w M (nt_u J (q 13) v2.toNatClampNeg (J (q 4) v2.toNatClampNeg)))) rfl k
      have k := mx_iast (q := v2.toNatClampNeg) rfl rfl k
      have k : nt_rn X _ 64 (95, [(0, .ref (q 0)), (1, .int v1), (2, .int v2)], [], me_w M (nt_u (nt_u J (q 13) v2.toNatClampNeg (J (q 4) v2.toNatClampNeg)) (q 14) v2.toNatClampNeg (Int32.ofInt (-1)))) _ := k
      have k := ly_revb 1 (c' := (96, [(0, .ref (q 0)), (1, .int v1), (2, .int v2)], [.ref (q 0)], me_w M (nt_u (nt_u J (q 13) v2.toNatClampNeg (J (q 4) v2.toNatClampNeg)) (q 14) v2.toNatClampNeg (Int32.ofInt (-1))))) rfl k
      have k := lz_get (a := (q 0)) (g := 612) (M := me_w M (nt_u (nt_u J (q 13) v2.toNatClampNeg (J (q 4) v2.toNatClampNeg)) (q 14) v2.toNatClampNeg (Int32.ofInt (-1)))) (v := .ref (q 15)) rfl (nt_gfR rfl (hq.1 (0, 12, 15) (by decide))) k
      have k := ly_revb 2 (c' := (101, [(0, .ref (q 0)), (1, .int v1), (2, .int v2)], [.int (Int32.ofInt 0), .int v2, .ref (q 15)], me_w M (nt_u (nt_u J (q 13) v2.toNatClampNeg (J (q 4) v2.toNatClampNeg)) (q 14) v2.toNatClampNeg (Int32.ofInt (-1))))) rfl k
      have k := mx_bast (q := v2.toNatClampNeg) rfl hq.2.2.2 rfl k
      have k : nt_rn X _ 64 (102, [(0, .ref (q 0)), (1, .int v1), (2, .int v2)], [], me_w M (nt_u (nt_u (nt_u J (q 13) v2.toNatClampNeg (J (q 4) v2.toNatClampNeg)) (q 14) v2.toNatClampNeg (Int32.ofInt (-1))) (q 15) v2.toNatClampNeg (vp_nar .boolean (Int32.ofInt 0)))) _ := k
      have k := ly_revb 2 (c' := (67, [(2, .int (v2 + (Int32.ofInt 1))), (0, .ref (q 0)), (1, .int v1)], [], me_w M (nt_u (nt_u (nt_u J (q 13) v2.toNatClampNeg (J (q 4) v2.toNatClampNeg)) (q 14) v2.toNatClampNeg (Int32.ofInt (-1))) (q 15) v2.toNatClampNeg (vp_nar .boolean (Int32.ofInt 0))))) rfl k
      have k := nt_rn_w (a := [(2, .int (v2 + (Int32.ofInt 1))), (0, .ref (q 0)), (1, .int v1)]) (b := [(0, .ref (q 0)), (1, .int v1), (2, .int (v2 + (Int32.ofInt 1)))]) ⟨rfl, rfl, rfl, trivial⟩ rfl k
      have k := ih (v2 + (Int32.ofInt 1)) (nt_u (nt_u (nt_u J (q 13) v2.toNatClampNeg (J (q 4) v2.toNatClampNeg)) (q 14) v2.toNatClampNeg (Int32.ofInt (-1))) (q 15) v2.toNatClampNeg (vp_nar .boolean (Int32.ofInt 0))) (lx_dec h70 hc) k
      rw [x64_67, if_neg h70]
      exact k
theorem x64_67_rule {q : Nat → Nat} {I : Nat → Int32 → (Nat → Nat → Int32) → Prop} {Q : (Nat → Nat → Int32) → Prop} (h0 : ∀ (v2 : Int32) (J : Nat → Nat → Int32), I 0 v2 J → Q J) (h1 : ∀ (c : Nat) (v2 : Int32) (J : Nat → Nat → Int32), I (c + 1) v2 J →
    if (Int32.ofInt 24) ≤ v2 then (Q J)
    else (I c (v2 + (Int32.ofInt 1)) (nt_u (nt_u (nt_u J (q 13) v2.toNatClampNeg (J (q 4) v2.toNatClampNeg)) (q 14) v2.toNatClampNeg (Int32.ofInt (-1))) (q 15) v2.toNatClampNeg (vp_nar .boolean (Int32.ofInt 0))))) : ∀ (c : Nat) (v2 : Int32) (J : Nat → Nat → Int32), I c v2 J → Q (x64_67 q c v2 J) := by
  intro c
  induction c with
  | zero =>
    intro v2 J hi
    rw [x64_67]
    exact h0 v2 J hi
  | succ c ih =>
    intro v2 J hi
    have hi := h1 c v2 J hi
    rw [x64_67]
    by_cases h : (Int32.ofInt 24) ≤ v2
    · rw [if_pos h] at hi ⊢
      exact hi
    · rw [if_neg h] at hi ⊢
      exact ih _ _ hi
theorem x64_67_frJ {q : Nat → Nat} {b : Nat} : ∀ (c : Nat) (v2 : Int32) (J : Nat → Nat → Int32), b ≠ q 13 → b ≠ q 14 → b ≠ q 15 → x64_67 q c v2 J b = J b := by
  intro c
  induction c with
  | zero =>
    intro v2 J n0 n1 n2
    rw [x64_67]
    all_goals first | (dsimp only; exact (show J b = J b from rfl)) | exact (show J b = J b from rfl)
  | succ c ih =>
    intro v2 J n0 n1 n2
    rw [x64_67]
    by_cases h : (Int32.ofInt 24) ≤ v2
    · rw [if_pos h]
      all_goals first | (dsimp only; exact (show J b = J b from rfl)) | exact (show J b = J b from rfl)
    · rw [if_neg h]
      exact (ih _ _ n0 n1 n2).trans ((mu_o n2).trans ((mu_o n1).trans (mu_o n0)))
def x64_110 (q : Nat → Nat) : Nat → Int32 → (Nat → Nat → Int32) → (Nat → Nat → Int32)
  | 0, v2, J => J
  | c + 1, v2, J => if (Int32.ofInt 8) ≤ v2 then J
    else (x64_110 q c (v2 + (Int32.ofInt 1)) (nt_u J (q 16) v2.toNatClampNeg (Int32.ofInt 0)))
theorem xt64_110 {X : nt_X} {d : Nat} {M : nt_M} {o : Option Value × nt_M} {q : Nat → Nat} {v1 : Int32} (hq : xs_Q M q) : ∀ (c : Nat) (v2 : Int32) (J : Nat → Nat → Int32), (Int32.ofInt 8).toInt - v2.toInt ≤ c → nt_rn X d 64 (110, [(0, .ref (q 0)), (1, .int v1), (2, .int v2)], [], me_w M J) o → ∃ (w2 : Int32), nt_rn X d 64 (129, [(0, .ref (q 0)), (1, .int v1), (2, .int w2)], [], me_w M (x64_110 q c v2 J)) o := by
  intro c
  induction c with
  | zero =>
    intro v2 J hc k
    have k := ly_revb 3 (c' := (if (Int32.ofInt 8) ≤ v2 then 129 else 116, [(0, .ref (q 0)), (1, .int v1), (2, .int v2)], [], me_w M J)) rfl k
    have h113 : (Int32.ofInt 8) ≤ v2 := lx_end hc
    rw [if_pos h113] at k
    have k := nt_rn_w (a := [(0, .ref (q 0)), (1, .int v1), (2, .int v2)]) (b := [(0, .ref (q 0)), (1, .int v1), (2, .int v2)]) ⟨rfl, rfl, rfl, trivial⟩ rfl k
    rw [x64_110]
    exact ⟨_, k⟩
  | succ c ih =>
    intro v2 J hc k
    have k := ly_revb 3 (c' := (if (Int32.ofInt 8) ≤ v2 then 129 else 116, [(0, .ref (q 0)), (1, .int v1), (2, .int v2)], [], me_w M J)) rfl k
    by_cases h113 : (Int32.ofInt 8) ≤ v2
    · rw [if_pos h113] at k
      have k := nt_rn_w (a := [(0, .ref (q 0)), (1, .int v1), (2, .int v2)]) (b := [(0, .ref (q 0)), (1, .int v1), (2, .int v2)]) ⟨rfl, rfl, rfl, trivial⟩ rfl k
      rw [x64_110, if_pos h113]
      exact ⟨_, k⟩
    · rw [if_neg h113] at k
      have k := ly_revb 1 (c' := (117, [(0, .ref (q 0)), (1, .int v1), (2, .int v2)], [.ref (q 0)], me_w M J)) rfl k
      have k := lz_get (a := (q 0)) (g := 613) (M := me_w M J) (v := .ref (q 16)) rfl (nt_gfR rfl (hq.1 (0, 13, 16) (by decide))) k
      have k := ly_revb 2 (c' := (122, [(0, .ref (q 0)), (1, .int v1), (2, .int v2)], [.int (Int32.ofInt 0), .int v2, .ref (q 16)], me_w M J)) rfl k
      have k := mx_iast (q := v2.toNatClampNeg) rfl rfl k
      have k : nt_rn X _ 64 (123, [(0, .ref (q 0)), (1, .int v1), (2, .int v2)], [], me_w M (nt_u J (q 16) v2.toNatClampNeg (Int32.ofInt 0))) _ := k
      have k := ly_revb 2 (c' := (110, [(2, .int (v2 + (Int32.ofInt 1))), (0, .ref (q 0)), (1, .int v1)], [], me_w M (nt_u J (q 16) v2.toNatClampNeg (Int32.ofInt 0)))) rfl k
      have k := nt_rn_w (a := [(2, .int (v2 + (Int32.ofInt 1))), (0, .ref (q 0)), (1, .int v1)]) (b := [(0, .ref (q 0)), (1, .int v1), (2, .int (v2 + (Int32.ofInt 1)))]) ⟨rfl, rfl, rfl, trivial⟩ rfl k
      have k := ih (v2 + (Int32.ofInt 1)) (nt_u J (q 16) v2.toNatClampNeg (Int32.ofInt 0)) (lx_dec h113 hc) k
      rw [x64_110, if_neg h113]
      exact k
theorem x64_110_rule {q : Nat → Nat} {I : Nat → Int32 → (Nat → Nat → Int32) → Prop} {Q : (Nat → Nat → Int32) → Prop} (h0 : ∀ (v2 : Int32) (J : Nat → Nat → Int32), I 0 v2 J → Q J) (h1 : ∀ (c : Nat) (v2 : Int32) (J : Nat → Nat → Int32), I (c + 1) v2 J →
    if (Int32.ofInt 8) ≤ v2 then (Q J)
    else (I c (v2 + (Int32.ofInt 1)) (nt_u J (q 16) v2.toNatClampNeg (Int32.ofInt 0)))) : ∀ (c : Nat) (v2 : Int32) (J : Nat → Nat → Int32), I c v2 J → Q (x64_110 q c v2 J) := by
  intro c
  induction c with
  | zero =>
    intro v2 J hi
    rw [x64_110]
    exact h0 v2 J hi
  | succ c ih =>
    intro v2 J hi
    have hi := h1 c v2 J hi
    rw [x64_110]
    by_cases h : (Int32.ofInt 8) ≤ v2
    · rw [if_pos h] at hi ⊢
      exact hi
    · rw [if_neg h] at hi ⊢
      exact ih _ _ hi
theorem x64_110_frJ {q : Nat → Nat} {b : Nat} : ∀ (c : Nat) (v2 : Int32) (J : Nat → Nat → Int32), b ≠ q 16 → x64_110 q c v2 J b = J b := by
  intro c
  induction c with
  | zero =>
    intro v2 J n0
    rw [x64_110]
    all_goals first | (dsimp only; exact (show J b = J b from rfl)) | exact (show J b = J b from rfl)
  | succ c ih =>
    intro v2 J n0
    rw [x64_110]
    by_cases h : (Int32.ofInt 8) ≤ v2
    · rw [if_pos h]
      all_goals first | (dsimp only; exact (show J b = J b from rfl)) | exact (show J b = J b from rfl)
    · rw [if_neg h]
      exact (ih _ _ n0).trans (mu_o n0)
def x64 (q : Nat → Nat) (v1 : Int32) (J : Nat → Nat → Int32) : (Nat → Nat → Int32) := (x64_110 q ((Int32.ofInt 8).toNatClampNeg) (Int32.ofInt 0) (x64_67 q ((Int32.ofInt 24).toNatClampNeg) (Int32.ofInt 0) (x64_32 q ((Int32.ofInt 6).toNatClampNeg) (Int32.ofInt 0) (nt_u (nt_u (nt_u (nt_u (nt_u (nt_u J (q 0) 1 (Int32.ofInt 1)) (q 0) 2 (Int32.ofInt 0)) (q 0) 3 (Int32.ofInt 0)) (q 0) 4 (Int32.ofInt 0)) (q 0) 5 (Int32.ofInt 0)) (q 0) 6 v1))))
theorem xt64 {X : nt_X} {d : Nat} {M : nt_M} {o : Option Value × nt_M} {q : Nat → Nat} {v1 : Int32} {J : Nat → Nat → Int32} (hq : xs_Q M q) (k : nt_ev X d 64 [.ref (q 0), .int v1] (me_w M J) o) : o = (none, me_w M (x64 q v1 J)) := by
  have k : nt_rn X d 64 (0, [(0, .ref (q 0)), (1, .int v1)], [], me_w M J) o := k
  have k := ly_revb 2 (c' := (2, [(0, .ref (q 0)), (1, .int v1)], [.int (Int32.ofInt 1), .ref (q 0)], me_w M J)) rfl k
  have k := me_put rfl (by decide) k
  have k : nt_rn X _ 64 (5, [(0, .ref (q 0)), (1, .int v1)], [], me_w M (nt_u J (q 0) 1 (Int32.ofInt 1))) _ := k
  have k := ly_revb 2 (c' := (7, [(0, .ref (q 0)), (1, .int v1)], [.int (Int32.ofInt 0), .ref (q 0)], me_w M (nt_u J (q 0) 1 (Int32.ofInt 1)))) rfl k
  have k := me_put rfl (by decide) k
  have k : nt_rn X _ 64 (10, [(0, .ref (q 0)), (1, .int v1)], [], me_w M (nt_u (nt_u J (q 0) 1 (Int32.ofInt 1)) (q 0) 2 (Int32.ofInt 0))) _ := k
  have k := ly_revb 2 (c' := (12, [(0, .ref (q 0)), (1, .int v1)], [.int (Int32.ofInt 0), .ref (q 0)], me_w M (nt_u (nt_u J (q 0) 1 (Int32.ofInt 1)) (q 0) 2 (Int32.ofInt 0)))) rfl k
  have k := me_put rfl (by decide) k
  have k : nt_rn X _ 64 (15, [(0, .ref (q 0)), (1, .int v1)], [], me_w M (nt_u (nt_u (nt_u J (q 0) 1 (Int32.ofInt 1)) (q 0) 2 (Int32.ofInt 0)) (q 0) 3 (Int32.ofInt 0))) _ := k
  have k := ly_revb 2 (c' := (17, [(0, .ref (q 0)), (1, .int v1)], [.int (Int32.ofInt 0), .ref (q 0)], me_w M (nt_u (nt_u (nt_u J (q 0) 1 (Int32.ofInt 1)) (q 0) 2 (Int32.ofInt 0)) (q 0) 3 (Int32.ofInt 0)))) rfl k
  have k := me_put rfl (by decide) k
  have k : nt_rn X _ 64 (20, [(0, .ref (q 0)), (1, .int v1)], [], me_w M (nt_u (nt_u (nt_u (nt_u J (q 0) 1 (Int32.ofInt 1)) (q 0) 2 (Int32.ofInt 0)) (q 0) 3 (Int32.ofInt 0)) (q 0) 4 (Int32.ofInt 0))) _ := k
  have k := ly_revb 2 (c' := (22, [(0, .ref (q 0)), (1, .int v1)], [.int (Int32.ofInt 0), .ref (q 0)], me_w M (nt_u (nt_u (nt_u (nt_u J (q 0) 1 (Int32.ofInt 1)) (q 0) 2 (Int32.ofInt 0)) (q 0) 3 (Int32.ofInt 0)) (q 0) 4 (Int32.ofInt 0)))) rfl k
  have k := me_put rfl (by decide) k
  have k : nt_rn X _ 64 (25, [(0, .ref (q 0)), (1, .int v1)], [], me_w M (nt_u (nt_u (nt_u (nt_u (nt_u J (q 0) 1 (Int32.ofInt 1)) (q 0) 2 (Int32.ofInt 0)) (q 0) 3 (Int32.ofInt 0)) (q 0) 4 (Int32.ofInt 0)) (q 0) 5 (Int32.ofInt 0))) _ := k
  have k := ly_revb 2 (c' := (27, [(0, .ref (q 0)), (1, .int v1)], [.int v1, .ref (q 0)], me_w M (nt_u (nt_u (nt_u (nt_u (nt_u J (q 0) 1 (Int32.ofInt 1)) (q 0) 2 (Int32.ofInt 0)) (q 0) 3 (Int32.ofInt 0)) (q 0) 4 (Int32.ofInt 0)) (q 0) 5 (Int32.ofInt 0)))) rfl k
  have k := me_put rfl (by decide) k
  have k : nt_rn X _ 64 (30, [(0, .ref (q 0)), (1, .int v1)], [], me_w M (nt_u (nt_u (nt_u (nt_u (nt_u (nt_u J (q 0) 1 (Int32.ofInt 1)) (q 0) 2 (Int32.ofInt 0)) (q 0) 3 (Int32.ofInt 0)) (q 0) 4 (Int32.ofInt 0)) (q 0) 5 (Int32.ofInt 0)) (q 0) 6 v1)) _ := k
  have k := ly_revb 2 (c' := (32, [(2, .int (Int32.ofInt 0)), (0, .ref (q 0)), (1, .int v1)], [], me_w M (nt_u (nt_u (nt_u (nt_u (nt_u (nt_u J (q 0) 1 (Int32.ofInt 1)) (q 0) 2 (Int32.ofInt 0)) (q 0) 3 (Int32.ofInt 0)) (q 0) 4 (Int32.ofInt 0)) (q 0) 5 (Int32.ofInt 0)) (q 0) 6 v1))) rfl k
  have k := nt_rn_w (a := [(2, .int (Int32.ofInt 0)), (0, .ref (q 0)), (1, .int v1)]) (b := [(0, .ref (q 0)), (1, .int v1), (2, .int (Int32.ofInt 0))]) ⟨rfl, rfl, rfl, trivial⟩ rfl k
  have k := xt64_32 hq  ((Int32.ofInt 6).toNatClampNeg) (Int32.ofInt 0) (nt_u (nt_u (nt_u (nt_u (nt_u (nt_u J (q 0) 1 (Int32.ofInt 1)) (q 0) 2 (Int32.ofInt 0)) (q 0) 3 (Int32.ofInt 0)) (q 0) 4 (Int32.ofInt 0)) (q 0) 5 (Int32.ofInt 0)) (q 0) 6 v1) (lx_beg (by decide)) k
  obtain ⟨w2, k⟩ := k
  have k : nt_rn X _ 64 (65, [(0, .ref (q 0)), (1, .int v1), (2, .int w2)], [], me_w M (x64_32 q ((Int32.ofInt 6).toNatClampNeg) (Int32.ofInt 0) (nt_u (nt_u (nt_u (nt_u (nt_u (nt_u J (q 0) 1 (Int32.ofInt 1)) (q 0) 2 (Int32.ofInt 0)) (q 0) 3 (Int32.ofInt 0)) (q 0) 4 (Int32.ofInt 0)) (q 0) 5 (Int32.ofInt 0)) (q 0) 6 v1))) _ := k
  have k := ly_revb 2 (c' := (67, [(2, .int (Int32.ofInt 0)), (0, .ref (q 0)), (1, .int v1)], [], me_w M (x64_32 q ((Int32.ofInt 6).toNatClampNeg) (Int32.ofInt 0) (nt_u (nt_u (nt_u (nt_u (nt_u (nt_u J (q 0) 1 (Int32.ofInt 1)) (q 0) 2 (Int32.ofInt 0)) (q 0) 3 (Int32.ofInt 0)) (q 0) 4 (Int32.ofInt 0)) (q 0) 5 (Int32.ofInt 0)) (q 0) 6 v1)))) rfl k
  have k := nt_rn_w (a := [(2, .int (Int32.ofInt 0)), (0, .ref (q 0)), (1, .int v1)]) (b := [(0, .ref (q 0)), (1, .int v1), (2, .int (Int32.ofInt 0))]) ⟨rfl, rfl, rfl, trivial⟩ rfl k
  have k := xt64_67 hq  ((Int32.ofInt 24).toNatClampNeg) (Int32.ofInt 0) (x64_32 q ((Int32.ofInt 6).toNatClampNeg) (Int32.ofInt 0) (nt_u (nt_u (nt_u (nt_u (nt_u (nt_u J (q 0) 1 (Int32.ofInt 1)) (q 0) 2 (Int32.ofInt 0)) (q 0) 3 (Int32.ofInt 0)) (q 0) 4 (Int32.ofInt 0)) (q 0) 5 (Int32.ofInt 0)) (q 0) 6 v1)) (lx_beg (by decide)) k
  obtain ⟨w2, k⟩ := k
  have k : nt_rn X _ 64 (108, [(0, .ref (q 0)), (1, .int v1), (2, .int w2)], [], me_w M (x64_67 q ((Int32.ofInt 24).toNatClampNeg) (Int32.ofInt 0) (x64_32 q ((Int32.ofInt 6).toNatClampNeg) (Int32.ofInt 0) (nt_u (nt_u (nt_u (nt_u (nt_u (nt_u J (q 0) 1 (Int32.ofInt 1)) (q 0) 2 (Int32.ofInt 0)) (q 0) 3 (Int32.ofInt 0)) (q 0) 4 (Int32.ofInt 0)) (q 0) 5 (Int32.ofInt 0)) (q 0) 6 v1)))) _ := k
  have k := ly_revb 2 (c' := (110, [(2, .int (Int32.ofInt 0)), (0, .ref (q 0)), (1, .int v1)], [], me_w M (x64_67 q ((Int32.ofInt 24).toNatClampNeg) (Int32.ofInt 0) (x64_32 q ((Int32.ofInt 6).toNatClampNeg) (Int32.ofInt 0) (nt_u (nt_u (nt_u (nt_u (nt_u (nt_u J (q 0) 1 (Int32.ofInt 1)) (q 0) 2 (Int32.ofInt 0)) (q 0) 3 (Int32.ofInt 0)) (q 0) 4 (Int32.ofInt 0)) (q 0) 5 (Int32.ofInt 0)) (q 0) 6 v1))))) rfl k
  have k := nt_rn_w (a := [(2, .int (Int32.ofInt 0)), (0, .ref (q 0)), (1, .int v1)]) (b := [(0, .ref (q 0)), (1, .int v1), (2, .int (Int32.ofInt 0))]) ⟨rfl, rfl, rfl, trivial⟩ rfl k
  have k := xt64_110 hq  ((Int32.ofInt 8).toNatClampNeg) (Int32.ofInt 0) (x64_67 q ((Int32.ofInt 24).toNatClampNeg) (Int32.ofInt 0) (x64_32 q ((Int32.ofInt 6).toNatClampNeg) (Int32.ofInt 0) (nt_u (nt_u (nt_u (nt_u (nt_u (nt_u J (q 0) 1 (Int32.ofInt 1)) (q 0) 2 (Int32.ofInt 0)) (q 0) 3 (Int32.ofInt 0)) (q 0) 4 (Int32.ofInt 0)) (q 0) 5 (Int32.ofInt 0)) (q 0) 6 v1))) (lx_beg (by decide)) k
  obtain ⟨w2, k⟩ := k
  have k : nt_rn X _ 64 (129, [(0, .ref (q 0)), (1, .int v1), (2, .int w2)], [], me_w M (x64_110 q ((Int32.ofInt 8).toNatClampNeg) (Int32.ofInt 0) (x64_67 q ((Int32.ofInt 24).toNatClampNeg) (Int32.ofInt 0) (x64_32 q ((Int32.ofInt 6).toNatClampNeg) (Int32.ofInt 0) (nt_u (nt_u (nt_u (nt_u (nt_u (nt_u J (q 0) 1 (Int32.ofInt 1)) (q 0) 2 (Int32.ofInt 0)) (q 0) 3 (Int32.ofInt 0)) (q 0) 4 (Int32.ofInt 0)) (q 0) 5 (Int32.ofInt 0)) (q 0) 6 v1))))) _ := k
  have k := lz_rv rfl rfl k
  rw [k, x64]
theorem x64_frJ {q : Nat → Nat} {v1 : Int32} {J : Nat → Nat → Int32} {b : Nat} (n0 : b ≠ q 0) (n1 : b ≠ q 10) (n2 : b ≠ q 11) (n3 : b ≠ q 12) (n4 : b ≠ q 13) (n5 : b ≠ q 14) (n6 : b ≠ q 15) (n7 : b ≠ q 16) : x64 q v1 J b = J b := by
  unfold x64
  all_goals first | (dsimp only; exact (show (x64_110 q ((Int32.ofInt 8).toNatClampNeg) (Int32.ofInt 0) (x64_67 q ((Int32.ofInt 24).toNatClampNeg) (Int32.ofInt 0) (x64_32 q ((Int32.ofInt 6).toNatClampNeg) (Int32.ofInt 0) (nt_u (nt_u (nt_u (nt_u (nt_u (nt_u J (q 0) 1 (Int32.ofInt 1)) (q 0) 2 (Int32.ofInt 0)) (q 0) 3 (Int32.ofInt 0)) (q 0) 4 (Int32.ofInt 0)) (q 0) 5 (Int32.ofInt 0)) (q 0) 6 v1)))) b = J b from (x64_110_frJ _ _ _ n7).trans ((x64_67_frJ _ _ _ n4 n5 n6).trans ((x64_32_frJ _ _ _ n1 n2 n3).trans ((mu_o n0).trans ((mu_o n0).trans ((mu_o n0).trans ((mu_o n0).trans ((mu_o n0).trans (mu_o n0)))))))))) | exact (show (x64_110 q ((Int32.ofInt 8).toNatClampNeg) (Int32.ofInt 0) (x64_67 q ((Int32.ofInt 24).toNatClampNeg) (Int32.ofInt 0) (x64_32 q ((Int32.ofInt 6).toNatClampNeg) (Int32.ofInt 0) (nt_u (nt_u (nt_u (nt_u (nt_u (nt_u J (q 0) 1 (Int32.ofInt 1)) (q 0) 2 (Int32.ofInt 0)) (q 0) 3 (Int32.ofInt 0)) (q 0) 4 (Int32.ofInt 0)) (q 0) 5 (Int32.ofInt 0)) (q 0) 6 v1)))) b = J b from (x64_110_frJ _ _ _ n7).trans ((x64_67_frJ _ _ _ n4 n5 n6).trans ((x64_32_frJ _ _ _ n1 n2 n3).trans ((mu_o n0).trans ((mu_o n0).trans ((mu_o n0).trans ((mu_o n0).trans ((mu_o n0).trans (mu_o n0)))))))))
/-! Model.yard -/
def x166F_56 (p : Nat → Nat) (v1 : Int32) : Nat → Int32 → (Nat → Nat → Int32) → (Nat → Nat → Int32)
  | 0, v2, J => J
  | c + 1, v2, J => if (Int32.ofInt 212) ≤ v2 then J
    else (x166F_56 p v1 c (v2 + (Int32.ofInt 1)) (nt_u J (p 4) v2.toNatClampNeg (Int32.ofInt 0)))
theorem xt166F_56 {X : nt_X} {d : Nat} {M : nt_M} {o : Option Value × nt_M} {p : Nat → Nat} {v1 : Int32} (hp : xs_P M p) : ∀ (c : Nat) (v2 : Int32) (J : Nat → Nat → Int32), (Int32.ofInt 212).toInt - v2.toInt ≤ c → nt_rn X d 166 (56, [(0, .ref (p 0)), (1, .int v1), (2, .int v2)], [], me_w M J) o → ∃ (w2 : Int32), nt_rn X d 166 (76, [(0, .ref (p 0)), (1, .int v1), (2, .int w2)], [], me_w M (x166F_56 p v1 c v2 J)) o := by
  intro c
  induction c with
  | zero =>
    intro v2 J hc k
    have k := ly_revb 3 (c' := (if (Int32.ofInt 212) ≤ v2 then 76 else 63, [(0, .ref (p 0)), (1, .int v1), (2, .int v2)], [], me_w M J)) rfl k
    have h60 : (Int32.ofInt 212) ≤ v2 := lx_end hc
    rw [if_pos h60] at k
    have k := nt_rn_w (a := [(0, .ref (p 0)), (1, .int v1), (2, .int v2)]) (b := [(0, .ref (p 0)), (1, .int v1), (2, .int v2)]) ⟨rfl, rfl, rfl, trivial⟩ rfl k
    rw [x166F_56]
    exact ⟨_, k⟩
  | succ c ih =>
    intro v2 J hc k
    have k := ly_revb 3 (c' := (if (Int32.ofInt 212) ≤ v2 then 76 else 63, [(0, .ref (p 0)), (1, .int v1), (2, .int v2)], [], me_w M J)) rfl k
    by_cases h60 : (Int32.ofInt 212) ≤ v2
    · rw [if_pos h60] at k
      have k := nt_rn_w (a := [(0, .ref (p 0)), (1, .int v1), (2, .int v2)]) (b := [(0, .ref (p 0)), (1, .int v1), (2, .int v2)]) ⟨rfl, rfl, rfl, trivial⟩ rfl k
      rw [x166F_56, if_pos h60]
      exact ⟨_, k⟩
    · rw [if_neg h60] at k
      have k := ly_revb 1 (c' := (64, [(0, .ref (p 0)), (1, .int v1), (2, .int v2)], [.ref (p 0)], me_w M J)) rfl k
      have k := lz_get (a := (p 0)) (g := 1127) (M := me_w M J) (v := .ref (p 4)) rfl (nt_gfR rfl (mw_R (hp.1 (0, 27, 4) (by decide)))) k
      have k := ly_revb 2 (c' := (69, [(0, .ref (p 0)), (1, .int v1), (2, .int v2)], [.int (Int32.ofInt 0), .int v2, .ref (p 4)], me_w M J)) rfl k
      have k := mx_iast (q := v2.toNatClampNeg) rfl rfl k
      have k : nt_rn X _ 166 (70, [(0, .ref (p 0)), (1, .int v1), (2, .int v2)], [], me_w M (nt_u J (p 4) v2.toNatClampNeg (Int32.ofInt 0))) _ := k
      have k := ly_revb 2 (c' := (56, [(2, .int (v2 + (Int32.ofInt 1))), (0, .ref (p 0)), (1, .int v1)], [], me_w M (nt_u J (p 4) v2.toNatClampNeg (Int32.ofInt 0)))) rfl k
      have k := nt_rn_w (a := [(2, .int (v2 + (Int32.ofInt 1))), (0, .ref (p 0)), (1, .int v1)]) (b := [(0, .ref (p 0)), (1, .int v1), (2, .int (v2 + (Int32.ofInt 1)))]) ⟨rfl, rfl, rfl, trivial⟩ rfl k
      have k := ih (v2 + (Int32.ofInt 1)) (nt_u J (p 4) v2.toNatClampNeg (Int32.ofInt 0)) (lx_dec h60 hc) k
      rw [x166F_56, if_neg h60]
      exact k
theorem x166F_56_rule {p : Nat → Nat} {v1 : Int32} {I : Nat → Int32 → (Nat → Nat → Int32) → Prop} {Q : (Nat → Nat → Int32) → Prop} (h0 : ∀ (v2 : Int32) (J : Nat → Nat → Int32), I 0 v2 J → Q J) (h1 : ∀ (c : Nat) (v2 : Int32) (J : Nat → Nat → Int32), I (c + 1) v2 J →
    if (Int32.ofInt 212) ≤ v2 then (Q J)
    else (I c (v2 + (Int32.ofInt 1)) (nt_u J (p 4) v2.toNatClampNeg (Int32.ofInt 0)))) : ∀ (c : Nat) (v2 : Int32) (J : Nat → Nat → Int32), I c v2 J → Q (x166F_56 p v1 c v2 J) := by
  intro c
  induction c with
  | zero =>
    intro v2 J hi
    rw [x166F_56]
    exact h0 v2 J hi
  | succ c ih =>
    intro v2 J hi
    have hi := h1 c v2 J hi
    rw [x166F_56]
    by_cases h : (Int32.ofInt 212) ≤ v2
    · rw [if_pos h] at hi ⊢
      exact hi
    · rw [if_neg h] at hi ⊢
      exact ih _ _ hi
theorem x166F_56_frJ {p : Nat → Nat} {v1 : Int32} {b : Nat} : ∀ (c : Nat) (v2 : Int32) (J : Nat → Nat → Int32), b ≠ p 4 → x166F_56 p v1 c v2 J b = J b := by
  intro c
  induction c with
  | zero =>
    intro v2 J n0
    rw [x166F_56]
    all_goals first | (dsimp only; exact (show J b = J b from rfl)) | exact (show J b = J b from rfl)
  | succ c ih =>
    intro v2 J n0
    rw [x166F_56]
    by_cases h : (Int32.ofInt 212) ≤ v2
    · rw [if_pos h]
      all_goals first | (dsimp only; exact (show J b = J b from rfl)) | exact (show J b = J b from rfl)
    · rw [if_neg h]
      exact (ih _ _ n0).trans (mu_o n0)
def x166F_158 (p : Nat → Nat) (v2 : Int32) : Nat → Int32 → (Nat → Nat → Int32) → (Nat → Nat → Int32)
  | 0, v3, J => J
  | c + 1, v3, J => if (J (p 0) 7) ≤ v3 then J
    else (x166F_158 p v2 c (v3 + (Int32.ofInt 1)) (nt_u J (p 4) ((((Int32.ofInt 10) + ((Int32.ofInt 7) * v2)) + v3).toNatClampNeg) (J (p 11) ((((Int32.ofInt 4) * v2) + v3).toNatClampNeg))))
theorem xt166F_158 {X : nt_X} {d : Nat} {M : nt_M} {o : Option Value × nt_M} {p : Nat → Nat} {v1 : Int32} {v2 : Int32} (hp : xs_P M p) : ∀ (c : Nat) (v3 : Int32) (J : Nat → Nat → Int32), (J (p 0) 7).toInt - v3.toInt ≤ c → nt_rn X d 166 (158, [(0, .ref (p 0)), (1, .int v1), (2, .int v2), (3, .int v3)], [], me_w M J) o → ∃ (w3 : Int32), nt_rn X d 166 (196, [(0, .ref (p 0)), (1, .int v1), (2, .int v2), (3, .int w3)], [], me_w M (x166F_158 p v2 c v3 J)) o := by
  intro c
  induction c with
  | zero =>
    intro v3 J hc k
    have k := ly_revb 2 (c' := (160, [(0, .ref (p 0)), (1, .int v1), (2, .int v2), (3, .int v3)], [.ref (p 0), .int v3], me_w M J)) rfl k
    have k := lz_get (a := (p 0)) (g := 1107) (M := me_w M J) (v := .int (J (p 0) 7)) rfl (mw_gI (by decide) (rfl)) k
    have k := ly_revb 1 (c' := (if (J (p 0) 7) ≤ v3 then 196 else 166, [(0, .ref (p 0)), (1, .int v1), (2, .int v2), (3, .int v3)], [], me_w M J)) rfl k
    have h163 : (J (p 0) 7) ≤ v3 := lx_end hc
    rw [if_pos h163] at k
    have k := nt_rn_w (a := [(0, .ref (p 0)), (1, .int v1), (2, .int v2), (3, .int v3)]) (b := [(0, .ref (p 0)), (1, .int v1), (2, .int v2), (3, .int v3)]) ⟨rfl, rfl, rfl, rfl, trivial⟩ rfl k
    rw [x166F_158]
    exact ⟨_, k⟩
  | succ c ih =>
    intro v3 J hc k
    have k := ly_revb 2 (c' := (160, [(0, .ref (p 0)), (1, .int v1), (2, .int v2), (3, .int v3)], [.ref (p 0), .int v3], me_w M J)) rfl k
    have k := lz_get (a := (p 0)) (g := 1107) (M := me_w M J) (v := .int (J (p 0) 7)) rfl (mw_gI (by decide) (rfl)) k
    have k := ly_revb 1 (c' := (if (J (p 0) 7) ≤ v3 then 196 else 166, [(0, .ref (p 0)), (1, .int v1), (2, .int v2), (3, .int v3)], [], me_w M J)) rfl k
    by_cases h163 : (J (p 0) 7) ≤ v3
    · rw [if_pos h163] at k
      have k := nt_rn_w (a := [(0, .ref (p 0)), (1, .int v1), (2, .int v2), (3, .int v3)]) (b := [(0, .ref (p 0)), (1, .int v1), (2, .int v2), (3, .int v3)]) ⟨rfl, rfl, rfl, rfl, trivial⟩ rfl k
      rw [x166F_158, if_pos h163]
      exact ⟨_, k⟩
    · rw [if_neg h163] at k
      have k := ly_revb 1 (c' := (167, [(0, .ref (p 0)), (1, .int v1), (2, .int v2), (3, .int v3)], [.ref (p 0)], me_w M J)) rfl k
      have k := lz_get (a := (p 0)) (g := 1127) (M := me_w M J) (v := .ref (p 4)) rfl (nt_gfR rfl (mw_R (hp.1 (0, 27, 4) (by decide)))) k
      have k := ly_revb 8 (c' := (180, [(0, .ref (p 0)), (1, .int v1), (2, .int v2), (3, .int v3)], [.ref (p 0), .int (((Int32.ofInt 10) + ((Int32.ofInt 7) * v2)) + v3), .ref (p 4)], me_w M J)) rfl k
      have k := lz_get (a := (p 0)) (g := 1112) (M := me_w M J) (v := .ref (p 11)) rfl (nt_gfR rfl (mw_R (hp.1 (0, 12, 11) (by decide)))) k
      have k := ly_revb 5 (c' := (188, [(0, .ref (p 0)), (1, .int v1), (2, .int v2), (3, .int v3)], [.int (((Int32.ofInt 4) * v2) + v3), .ref (p 11), .int (((Int32.ofInt 10) + ((Int32.ofInt 7) * v2)) + v3), .ref (p 4)], me_w M J)) rfl k
      have k := mx_iald (v := J (p 11) ((((Int32.ofInt 4) * v2) + v3).toNatClampNeg)) rfl (hp.2.2.1 11 (by omega)) (rfl) k
      have k := mx_iast (q := (((Int32.ofInt 10) + ((Int32.ofInt 7) * v2)) + v3).toNatClampNeg) rfl rfl k
      have k : nt_rn X _ 166 (190, [(0, .ref (p 0)), (1, .int v1), (2, .int v2), (3, .int v3)], [], me_w M (nt_u J (p 4) ((((Int32.ofInt 10) + ((Int32.ofInt 7) * v2)) + v3).toNatClampNeg) (J (p 11) ((((Int32.ofInt 4) * v2) + v3).toNatClampNeg)))) _ := k
      have k := ly_revb 2 (c' := (158, [(3, .int (v3 + (Int32.ofInt 1))), (0, .ref (p 0)), (1, .int v1), (2, .int v2)], [], me_w M (nt_u J (p 4) ((((Int32.ofInt 10) + ((Int32.ofInt 7) * v2)) + v3).toNatClampNeg) (J (p 11) ((((Int32.ofInt 4) * v2) + v3).toNatClampNeg))))) rfl k
      have k := nt_rn_w (a := [(3, .int (v3 + (Int32.ofInt 1))), (0, .ref (p 0)), (1, .int v1), (2, .int v2)]) (b := [(0, .ref (p 0)), (1, .int v1), (2, .int v2), (3, .int (v3 + (Int32.ofInt 1)))]) ⟨rfl, rfl, rfl, rfl, trivial⟩ rfl k
      have k := ih (v3 + (Int32.ofInt 1)) (nt_u J (p 4) ((((Int32.ofInt 10) + ((Int32.ofInt 7) * v2)) + v3).toNatClampNeg) (J (p 11) ((((Int32.ofInt 4) * v2) + v3).toNatClampNeg))) (by rw [show (nt_u J (p 4) ((((Int32.ofInt 10) + ((Int32.ofInt 7) * v2)) + v3).toNatClampNeg) (J (p 11) ((((Int32.ofInt 4) * v2) + v3).toNatClampNeg))) (p 0) 7 = J (p 0) 7 from mu_j (hp.2.1 0 4 (by omega) (by omega) (by decide))]; exact lx_dec h163 hc) k
      rw [x166F_158, if_neg h163]
      exact k
theorem x166F_158_rule {p : Nat → Nat} {v2 : Int32} {I : Nat → Int32 → (Nat → Nat → Int32) → Prop} {Q : (Nat → Nat → Int32) → Prop} (h0 : ∀ (v3 : Int32) (J : Nat → Nat → Int32), I 0 v3 J → Q J) (h1 : ∀ (c : Nat) (v3 : Int32) (J : Nat → Nat → Int32), I (c + 1) v3 J →
    if (J (p 0) 7) ≤ v3 then (Q J)
    else (I c (v3 + (Int32.ofInt 1)) (nt_u J (p 4) ((((Int32.ofInt 10) + ((Int32.ofInt 7) * v2)) + v3).toNatClampNeg) (J (p 11) ((((Int32.ofInt 4) * v2) + v3).toNatClampNeg))))) : ∀ (c : Nat) (v3 : Int32) (J : Nat → Nat → Int32), I c v3 J → Q (x166F_158 p v2 c v3 J) := by
  intro c
  induction c with
  | zero =>
    intro v3 J hi
    rw [x166F_158]
    exact h0 v3 J hi
  | succ c ih =>
    intro v3 J hi
    have hi := h1 c v3 J hi
    rw [x166F_158]
    by_cases h : (J (p 0) 7) ≤ v3
    · rw [if_pos h] at hi ⊢
      exact hi
    · rw [if_neg h] at hi ⊢
      exact ih _ _ hi
theorem x166F_158_frJ {p : Nat → Nat} {v2 : Int32} {b : Nat} : ∀ (c : Nat) (v3 : Int32) (J : Nat → Nat → Int32), b ≠ p 4 → x166F_158 p v2 c v3 J b = J b := by
  intro c
  induction c with
  | zero =>
    intro v3 J n0
    rw [x166F_158]
    all_goals first | (dsimp only; exact (show J b = J b from rfl)) | exact (show J b = J b from rfl)
  | succ c ih =>
    intro v3 J n0
    rw [x166F_158]
    by_cases h : (J (p 0) 7) ≤ v3
    · rw [if_pos h]
      all_goals first | (dsimp only; exact (show J b = J b from rfl)) | exact (show J b = J b from rfl)
    · rw [if_neg h]
      exact (ih _ _ n0).trans (mu_o n0)
def x166F_148 (p : Nat → Nat) : Nat → Int32 → (Nat → Nat → Int32) → (Nat → Nat → Int32)
  | 0, v2, J => J
  | c + 1, v2, J => if (J (p 0) 8) ≤ v2 then J
    else (x166F_148 p c (v2 + (Int32.ofInt 1)) (nt_u (x166F_158 p v2 ((J (p 0) 7).toNatClampNeg) (Int32.ofInt 0) J) (p 4) ((((Int32.ofInt 10) + ((Int32.ofInt 7) * v2)) + (Int32.ofInt 5)).toNatClampNeg) (Int32.ofInt (-1))))
theorem xt166F_148 {X : nt_X} {d : Nat} {M : nt_M} {o : Option Value × nt_M} {p : Nat → Nat} {v1 : Int32} (hp : xs_P M p) : ∀ (c : Nat) (v2 : Int32) (v3 : Int32) (J : Nat → Nat → Int32), (J (p 0) 8).toInt - v2.toInt ≤ c → nt_rn X d 166 (148, [(0, .ref (p 0)), (1, .int v1), (2, .int v2), (3, .int v3)], [], me_w M J) o → ∃ (w2 : Int32) (w3 : Int32), nt_rn X d 166 (217, [(0, .ref (p 0)), (1, .int v1), (2, .int w2), (3, .int w3)], [], me_w M (x166F_148 p c v2 J)) o := by
  intro c
  induction c with
  | zero =>
    intro v2 v3 J hc k
    have k := ly_revb 2 (c' := (150, [(0, .ref (p 0)), (1, .int v1), (2, .int v2), (3, .int v3)], [.ref (p 0), .int v2], me_w M J)) rfl k
    have k := lz_get (a := (p 0)) (g := 1108) (M := me_w M J) (v := .int (J (p 0) 8)) rfl (mw_gI (by decide) (rfl)) k
    have k := ly_revb 1 (c' := (if (J (p 0) 8) ≤ v2 then 217 else 156, [(0, .ref (p 0)), (1, .int v1), (2, .int v2), (3, .int v3)], [], me_w M J)) rfl k
    have h153 : (J (p 0) 8) ≤ v2 := lx_end hc
    rw [if_pos h153] at k
    have k := nt_rn_w (a := [(0, .ref (p 0)), (1, .int v1), (2, .int v2), (3, .int v3)]) (b := [(0, .ref (p 0)), (1, .int v1), (2, .int v2), (3, .int v3)]) ⟨rfl, rfl, rfl, rfl, trivial⟩ rfl k
    rw [x166F_148]
    exact ⟨_, _, k⟩
  | succ c ih =>
    intro v2 v3 J hc k
    have k := ly_revb 2 (c' := (150, [(0, .ref (p 0)), (1, .int v1), (2, .int v2), (3, .int v3)], [.ref (p 0), .int v2], me_w M J)) rfl k
    have k := lz_get (a := (p 0)) (g := 1108) (M := me_w M J) (v := .int (J (p 0) 8)) rfl (mw_gI (by decide) (rfl)) k
    have k := ly_revb 1 (c' := (if (J (p 0) 8) ≤ v2 then 217 else 156, [(0, .ref (p 0)), (1, .int v1), (2, .int v2), (3, .int v3)], [], me_w M J)) rfl k
    by_cases h153 : (J (p 0) 8) ≤ v2
    · rw [if_pos h153] at k
      have k := nt_rn_w (a := [(0, .ref (p 0)), (1, .int v1), (2, .int v2), (3, .int v3)]) (b := [(0, .ref (p 0)), (1, .int v1), (2, .int v2), (3, .int v3)]) ⟨rfl, rfl, rfl, rfl, trivial⟩ rfl k
      rw [x166F_148, if_pos h153]
      exact ⟨_, _, k⟩
    · rw [if_neg h153] at k
      have k := ly_revb 2 (c' := (158, [(3, .int (Int32.ofInt 0)), (0, .ref (p 0)), (1, .int v1), (2, .int v2)], [], me_w M J)) rfl k
      have k := nt_rn_w (a := [(3, .int (Int32.ofInt 0)), (0, .ref (p 0)), (1, .int v1), (2, .int v2)]) (b := [(0, .ref (p 0)), (1, .int v1), (2, .int v2), (3, .int (Int32.ofInt 0))]) ⟨rfl, rfl, rfl, rfl, trivial⟩ rfl k
      have k := xt166F_158 hp  ((J (p 0) 7).toNatClampNeg) (Int32.ofInt 0) J (lx_beg (by decide)) k
      obtain ⟨w3, k⟩ := k
      have k : nt_rn X _ 166 (196, [(0, .ref (p 0)), (1, .int v1), (2, .int v2), (3, .int w3)], [], me_w M (x166F_158 p v2 ((J (p 0) 7).toNatClampNeg) (Int32.ofInt 0) J)) _ := k
      have k := ly_revb 1 (c' := (197, [(0, .ref (p 0)), (1, .int v1), (2, .int v2), (3, .int w3)], [.ref (p 0)], me_w M (x166F_158 p v2 ((J (p 0) 7).toNatClampNeg) (Int32.ofInt 0) J))) rfl k
      have k := lz_get (a := (p 0)) (g := 1127) (M := me_w M (x166F_158 p v2 ((J (p 0) 7).toNatClampNeg) (Int32.ofInt 0) J)) (v := .ref (p 4)) rfl (nt_gfR rfl (mw_R (hp.1 (0, 27, 4) (by decide)))) k
      have k := ly_revb 8 (c' := (210, [(0, .ref (p 0)), (1, .int v1), (2, .int v2), (3, .int w3)], [.int (Int32.ofInt (-1)), .int (((Int32.ofInt 10) + ((Int32.ofInt 7) * v2)) + (Int32.ofInt 5)), .ref (p 4)], me_w M (x166F_158 p v2 ((J (p 0) 7).toNatClampNeg) (Int32.ofInt 0) J))) rfl k
      have k := mx_iast (q := (((Int32.ofInt 10) + ((Int32.ofInt 7) * v2)) + (Int32.ofInt 5)).toNatClampNeg) rfl rfl k
      have k : nt_rn X _ 166 (211, [(0, .ref (p 0)), (1, .int v1), (2, .int v2), (3, .int w3)], [], me_w M (nt_u (x166F_158 p v2 ((J (p 0) 7).toNatClampNeg) (Int32.ofInt 0) J) (p 4) ((((Int32.ofInt 10) + ((Int32.ofInt 7) * v2)) + (Int32.ofInt 5)).toNatClampNeg) (Int32.ofInt (-1)))) _ := k
      have k := ly_revb 2 (c' := (148, [(2, .int (v2 + (Int32.ofInt 1))), (0, .ref (p 0)), (1, .int v1), (3, .int w3)], [], me_w M (nt_u (x166F_158 p v2 ((J (p 0) 7).toNatClampNeg) (Int32.ofInt 0) J) (p 4) ((((Int32.ofInt 10) + ((Int32.ofInt 7) * v2)) + (Int32.ofInt 5)).toNatClampNeg) (Int32.ofInt (-1))))) rfl k
      have k := nt_rn_w (a := [(2, .int (v2 + (Int32.ofInt 1))), (0, .ref (p 0)), (1, .int v1), (3, .int w3)]) (b := [(0, .ref (p 0)), (1, .int v1), (2, .int (v2 + (Int32.ofInt 1))), (3, .int w3)]) ⟨rfl, rfl, rfl, rfl, trivial⟩ rfl k
      have k := ih (v2 + (Int32.ofInt 1)) w3 (nt_u (x166F_158 p v2 ((J (p 0) 7).toNatClampNeg) (Int32.ofInt 0) J) (p 4) ((((Int32.ofInt 10) + ((Int32.ofInt 7) * v2)) + (Int32.ofInt 5)).toNatClampNeg) (Int32.ofInt (-1))) (by rw [show (nt_u (x166F_158 p v2 ((J (p 0) 7).toNatClampNeg) (Int32.ofInt 0) J) (p 4) ((((Int32.ofInt 10) + ((Int32.ofInt 7) * v2)) + (Int32.ofInt 5)).toNatClampNeg) (Int32.ofInt (-1))) (p 0) 8 = J (p 0) 8 from (mu_j (hp.2.1 0 4 (by omega) (by omega) (by decide))).trans (congrFun (x166F_158_frJ _ _ _ (hp.2.1 0 4 (by omega) (by omega) (by decide))) 8)]; exact lx_dec h153 hc) k
      rw [x166F_148, if_neg h153]
      exact k
theorem x166F_148_rule {p : Nat → Nat} {I : Nat → Int32 → (Nat → Nat → Int32) → Prop} {Q : (Nat → Nat → Int32) → Prop} (h0 : ∀ (v2 : Int32) (J : Nat → Nat → Int32), I 0 v2 J → Q J) (h1 : ∀ (c : Nat) (v2 : Int32) (J : Nat → Nat → Int32), I (c + 1) v2 J →
    if (J (p 0) 8) ≤ v2 then (Q J)
    else (I c (v2 + (Int32.ofInt 1)) (nt_u (x166F_158 p v2 ((J (p 0) 7).toNatClampNeg) (Int32.ofInt 0) J) (p 4) ((((Int32.ofInt 10) + ((Int32.ofInt 7) * v2)) + (Int32.ofInt 5)).toNatClampNeg) (Int32.ofInt (-1))))) : ∀ (c : Nat) (v2 : Int32) (J : Nat → Nat → Int32), I c v2 J → Q (x166F_148 p c v2 J) := by
  intro c
  induction c with
  | zero =>
    intro v2 J hi
    rw [x166F_148]
    exact h0 v2 J hi
  | succ c ih =>
    intro v2 J hi
    have hi := h1 c v2 J hi
    rw [x166F_148]
    by_cases h : (J (p 0) 8) ≤ v2
    · rw [if_pos h] at hi ⊢
      exact hi
    · rw [if_neg h] at hi ⊢
      exact ih _ _ hi
theorem x166F_148_frJ {p : Nat → Nat} {b : Nat} : ∀ (c : Nat) (v2 : Int32) (J : Nat → Nat → Int32), b ≠ p 4 → x166F_148 p c v2 J b = J b := by
  intro c
  induction c with
  | zero =>
    intro v2 J n0
    rw [x166F_148]
    all_goals first | (dsimp only; exact (show J b = J b from rfl)) | exact (show J b = J b from rfl)
  | succ c ih =>
    intro v2 J n0
    rw [x166F_148]
    by_cases h : (J (p 0) 8) ≤ v2
    · rw [if_pos h]
      all_goals first | (dsimp only; exact (show J b = J b from rfl)) | exact (show J b = J b from rfl)
    · rw [if_neg h]
      exact (ih _ _ n0).trans ((mu_o n0).trans (x166F_158_frJ _ _ _ n0))
def x166F_229 (p : Nat → Nat) (v2 : Int32) : Nat → Int32 → (Nat → Nat → Int32) → (Nat → Nat → Int32)
  | 0, v3, J => J
  | c + 1, v3, J => if (Int32.ofInt 3) ≤ v3 then J
    else (x166F_229 p v2 c (v3 + (Int32.ofInt 1)) (nt_u J (p 4) ((((Int32.ofInt 52) + ((Int32.ofInt 5) * v2)) + v3).toNatClampNeg) (J (p 12) ((((Int32.ofInt 3) * v2) + v3).toNatClampNeg))))
theorem xt166F_229 {X : nt_X} {d : Nat} {M : nt_M} {o : Option Value × nt_M} {p : Nat → Nat} {v1 : Int32} {v2 : Int32} (hp : xs_P M p) : ∀ (c : Nat) (v3 : Int32) (J : Nat → Nat → Int32), (Int32.ofInt 3).toInt - v3.toInt ≤ c → nt_rn X d 166 (229, [(0, .ref (p 0)), (1, .int v1), (2, .int v2), (3, .int v3)], [], me_w M J) o → ∃ (w3 : Int32), nt_rn X d 166 (263, [(0, .ref (p 0)), (1, .int v1), (2, .int v2), (3, .int w3)], [], me_w M (x166F_229 p v2 c v3 J)) o := by
  intro c
  induction c with
  | zero =>
    intro v3 J hc k
    have k := ly_revb 3 (c' := (if (Int32.ofInt 3) ≤ v3 then 263 else 234, [(0, .ref (p 0)), (1, .int v1), (2, .int v2), (3, .int v3)], [], me_w M J)) rfl k
    have h231 : (Int32.ofInt 3) ≤ v3 := lx_end hc
    rw [if_pos h231] at k
    have k := nt_rn_w (a := [(0, .ref (p 0)), (1, .int v1), (2, .int v2), (3, .int v3)]) (b := [(0, .ref (p 0)), (1, .int v1), (2, .int v2), (3, .int v3)]) ⟨rfl, rfl, rfl, rfl, trivial⟩ rfl k
    rw [x166F_229]
    exact ⟨_, k⟩
  | succ c ih =>
    intro v3 J hc k
    have k := ly_revb 3 (c' := (if (Int32.ofInt 3) ≤ v3 then 263 else 234, [(0, .ref (p 0)), (1, .int v1), (2, .int v2), (3, .int v3)], [], me_w M J)) rfl k
    by_cases h231 : (Int32.ofInt 3) ≤ v3
    · rw [if_pos h231] at k
      have k := nt_rn_w (a := [(0, .ref (p 0)), (1, .int v1), (2, .int v2), (3, .int v3)]) (b := [(0, .ref (p 0)), (1, .int v1), (2, .int v2), (3, .int v3)]) ⟨rfl, rfl, rfl, rfl, trivial⟩ rfl k
      rw [x166F_229, if_pos h231]
      exact ⟨_, k⟩
    · rw [if_neg h231] at k
      have k := ly_revb 1 (c' := (235, [(0, .ref (p 0)), (1, .int v1), (2, .int v2), (3, .int v3)], [.ref (p 0)], me_w M J)) rfl k
      have k := lz_get (a := (p 0)) (g := 1127) (M := me_w M J) (v := .ref (p 4)) rfl (nt_gfR rfl (mw_R (hp.1 (0, 27, 4) (by decide)))) k
      have k := ly_revb 8 (c' := (247, [(0, .ref (p 0)), (1, .int v1), (2, .int v2), (3, .int v3)], [.ref (p 0), .int (((Int32.ofInt 52) + ((Int32.ofInt 5) * v2)) + v3), .ref (p 4)], me_w M J)) rfl k
      have k := lz_get (a := (p 0)) (g := 1113) (M := me_w M J) (v := .ref (p 12)) rfl (nt_gfR rfl (mw_R (hp.1 (0, 13, 12) (by decide)))) k
      have k := ly_revb 5 (c' := (255, [(0, .ref (p 0)), (1, .int v1), (2, .int v2), (3, .int v3)], [.int (((Int32.ofInt 3) * v2) + v3), .ref (p 12), .int (((Int32.ofInt 52) + ((Int32.ofInt 5) * v2)) + v3), .ref (p 4)], me_w M J)) rfl k
      have k := mx_iald (v := J (p 12) ((((Int32.ofInt 3) * v2) + v3).toNatClampNeg)) rfl (hp.2.2.1 12 (by omega)) (rfl) k
      have k := mx_iast (q := (((Int32.ofInt 52) + ((Int32.ofInt 5) * v2)) + v3).toNatClampNeg) rfl rfl k
      have k : nt_rn X _ 166 (257, [(0, .ref (p 0)), (1, .int v1), (2, .int v2), (3, .int v3)], [], me_w M (nt_u J (p 4) ((((Int32.ofInt 52) + ((Int32.ofInt 5) * v2)) + v3).toNatClampNeg) (J (p 12) ((((Int32.ofInt 3) * v2) + v3).toNatClampNeg)))) _ := k
      have k := ly_revb 2 (c' := (229, [(3, .int (v3 + (Int32.ofInt 1))), (0, .ref (p 0)), (1, .int v1), (2, .int v2)], [], me_w M (nt_u J (p 4) ((((Int32.ofInt 52) + ((Int32.ofInt 5) * v2)) + v3).toNatClampNeg) (J (p 12) ((((Int32.ofInt 3) * v2) + v3).toNatClampNeg))))) rfl k
      have k := nt_rn_w (a := [(3, .int (v3 + (Int32.ofInt 1))), (0, .ref (p 0)), (1, .int v1), (2, .int v2)]) (b := [(0, .ref (p 0)), (1, .int v1), (2, .int v2), (3, .int (v3 + (Int32.ofInt 1)))]) ⟨rfl, rfl, rfl, rfl, trivial⟩ rfl k
      have k := ih (v3 + (Int32.ofInt 1)) (nt_u J (p 4) ((((Int32.ofInt 52) + ((Int32.ofInt 5) * v2)) + v3).toNatClampNeg) (J (p 12) ((((Int32.ofInt 3) * v2) + v3).toNatClampNeg))) (lx_dec h231 hc) k
      rw [x166F_229, if_neg h231]
      exact k
theorem x166F_229_rule {p : Nat → Nat} {v2 : Int32} {I : Nat → Int32 → (Nat → Nat → Int32) → Prop} {Q : (Nat → Nat → Int32) → Prop} (h0 : ∀ (v3 : Int32) (J : Nat → Nat → Int32), I 0 v3 J → Q J) (h1 : ∀ (c : Nat) (v3 : Int32) (J : Nat → Nat → Int32), I (c + 1) v3 J →
    if (Int32.ofInt 3) ≤ v3 then (Q J)
    else (I c (v3 + (Int32.ofInt 1)) (nt_u J (p 4) ((((Int32.ofInt 52) + ((Int32.ofInt 5) * v2)) + v3).toNatClampNeg) (J (p 12) ((((Int32.ofInt 3) * v2) + v3).toNatClampNeg))))) : ∀ (c : Nat) (v3 : Int32) (J : Nat → Nat → Int32), I c v3 J → Q (x166F_229 p v2 c v3 J) := by
  intro c
  induction c with
  | zero =>
    intro v3 J hi
    rw [x166F_229]
    exact h0 v3 J hi
  | succ c ih =>
    intro v3 J hi
    have hi := h1 c v3 J hi
    rw [x166F_229]
    by_cases h : (Int32.ofInt 3) ≤ v3
    · rw [if_pos h] at hi ⊢
      exact hi
    · rw [if_neg h] at hi ⊢
      exact ih _ _ hi
theorem x166F_229_frJ {p : Nat → Nat} {v2 : Int32} {b : Nat} : ∀ (c : Nat) (v3 : Int32) (J : Nat → Nat → Int32), b ≠ p 4 → x166F_229 p v2 c v3 J b = J b := by
  intro c
  induction c with
  | zero =>
    intro v3 J n0
    rw [x166F_229]
    all_goals first | (dsimp only; exact (show J b = J b from rfl)) | exact (show J b = J b from rfl)
  | succ c ih =>
    intro v3 J n0
    rw [x166F_229]
    by_cases h : (Int32.ofInt 3) ≤ v3
    · rw [if_pos h]
      all_goals first | (dsimp only; exact (show J b = J b from rfl)) | exact (show J b = J b from rfl)
    · rw [if_neg h]
      exact (ih _ _ n0).trans (mu_o n0)
def x166F_219 (p : Nat → Nat) : Nat → Int32 → (Nat → Nat → Int32) → (Nat → Nat → Int32)
  | 0, v2, J => J
  | c + 1, v2, J => if (J (p 0) 9) ≤ v2 then J
    else (x166F_219 p c (v2 + (Int32.ofInt 1)) (nt_u (x166F_229 p v2 ((Int32.ofInt 3).toNatClampNeg) (Int32.ofInt 0) J) (p 4) ((((Int32.ofInt 52) + ((Int32.ofInt 5) * v2)) + (Int32.ofInt 3)).toNatClampNeg) (Int32.ofInt (-1))))
theorem xt166F_219 {X : nt_X} {d : Nat} {M : nt_M} {o : Option Value × nt_M} {p : Nat → Nat} {v1 : Int32} (hp : xs_P M p) : ∀ (c : Nat) (v2 : Int32) (v3 : Int32) (J : Nat → Nat → Int32), (J (p 0) 9).toInt - v2.toInt ≤ c → nt_rn X d 166 (219, [(0, .ref (p 0)), (1, .int v1), (2, .int v2), (3, .int v3)], [], me_w M J) o → ∃ (w2 : Int32) (w3 : Int32), nt_rn X d 166 (283, [(0, .ref (p 0)), (1, .int v1), (2, .int w2), (3, .int w3)], [], me_w M (x166F_219 p c v2 J)) o := by
  intro c
  induction c with
  | zero =>
    intro v2 v3 J hc k
    have k := ly_revb 2 (c' := (221, [(0, .ref (p 0)), (1, .int v1), (2, .int v2), (3, .int v3)], [.ref (p 0), .int v2], me_w M J)) rfl k
    have k := lz_get (a := (p 0)) (g := 1109) (M := me_w M J) (v := .int (J (p 0) 9)) rfl (mw_gI (by decide) (rfl)) k
    have k := ly_revb 1 (c' := (if (J (p 0) 9) ≤ v2 then 283 else 227, [(0, .ref (p 0)), (1, .int v1), (2, .int v2), (3, .int v3)], [], me_w M J)) rfl k
    have h224 : (J (p 0) 9) ≤ v2 := lx_end hc
    rw [if_pos h224] at k
    have k := nt_rn_w (a := [(0, .ref (p 0)), (1, .int v1), (2, .int v2), (3, .int v3)]) (b := [(0, .ref (p 0)), (1, .int v1), (2, .int v2), (3, .int v3)]) ⟨rfl, rfl, rfl, rfl, trivial⟩ rfl k
    rw [x166F_219]
    exact ⟨_, _, k⟩
  | succ c ih =>
    intro v2 v3 J hc k
    have k := ly_revb 2 (c' := (221, [(0, .ref (p 0)), (1, .int v1), (2, .int v2), (3, .int v3)], [.ref (p 0), .int v2], me_w M J)) rfl k
    have k := lz_get (a := (p 0)) (g := 1109) (M := me_w M J) (v := .int (J (p 0) 9)) rfl (mw_gI (by decide) (rfl)) k
    have k := ly_revb 1 (c' := (if (J (p 0) 9) ≤ v2 then 283 else 227, [(0, .ref (p 0)), (1, .int v1), (2, .int v2), (3, .int v3)], [], me_w M J)) rfl k
    by_cases h224 : (J (p 0) 9) ≤ v2
    · rw [if_pos h224] at k
      have k := nt_rn_w (a := [(0, .ref (p 0)), (1, .int v1), (2, .int v2), (3, .int v3)]) (b := [(0, .ref (p 0)), (1, .int v1), (2, .int v2), (3, .int v3)]) ⟨rfl, rfl, rfl, rfl, trivial⟩ rfl k
      rw [x166F_219, if_pos h224]
      exact ⟨_, _, k⟩
    · rw [if_neg h224] at k
      have k := ly_revb 2 (c' := (229, [(3, .int (Int32.ofInt 0)), (0, .ref (p 0)), (1, .int v1), (2, .int v2)], [], me_w M J)) rfl k
      have k := nt_rn_w (a := [(3, .int (Int32.ofInt 0)), (0, .ref (p 0)), (1, .int v1), (2, .int v2)]) (b := [(0, .ref (p 0)), (1, .int v1), (2, .int v2), (3, .int (Int32.ofInt 0))]) ⟨rfl, rfl, rfl, rfl, trivial⟩ rfl k
      have k := xt166F_229 hp  ((Int32.ofInt 3).toNatClampNeg) (Int32.ofInt 0) J (lx_beg (by decide)) k
      obtain ⟨w3, k⟩ := k
      have k : nt_rn X _ 166 (263, [(0, .ref (p 0)), (1, .int v1), (2, .int v2), (3, .int w3)], [], me_w M (x166F_229 p v2 ((Int32.ofInt 3).toNatClampNeg) (Int32.ofInt 0) J)) _ := k
      have k := ly_revb 1 (c' := (264, [(0, .ref (p 0)), (1, .int v1), (2, .int v2), (3, .int w3)], [.ref (p 0)], me_w M (x166F_229 p v2 ((Int32.ofInt 3).toNatClampNeg) (Int32.ofInt 0) J))) rfl k
      have k := lz_get (a := (p 0)) (g := 1127) (M := me_w M (x166F_229 p v2 ((Int32.ofInt 3).toNatClampNeg) (Int32.ofInt 0) J)) (v := .ref (p 4)) rfl (nt_gfR rfl (mw_R (hp.1 (0, 27, 4) (by decide)))) k
      have k := ly_revb 8 (c' := (276, [(0, .ref (p 0)), (1, .int v1), (2, .int v2), (3, .int w3)], [.int (Int32.ofInt (-1)), .int (((Int32.ofInt 52) + ((Int32.ofInt 5) * v2)) + (Int32.ofInt 3)), .ref (p 4)], me_w M (x166F_229 p v2 ((Int32.ofInt 3).toNatClampNeg) (Int32.ofInt 0) J))) rfl k
      have k := mx_iast (q := (((Int32.ofInt 52) + ((Int32.ofInt 5) * v2)) + (Int32.ofInt 3)).toNatClampNeg) rfl rfl k
      have k : nt_rn X _ 166 (277, [(0, .ref (p 0)), (1, .int v1), (2, .int v2), (3, .int w3)], [], me_w M (nt_u (x166F_229 p v2 ((Int32.ofInt 3).toNatClampNeg) (Int32.ofInt 0) J) (p 4) ((((Int32.ofInt 52) + ((Int32.ofInt 5) * v2)) + (Int32.ofInt 3)).toNatClampNeg) (Int32.ofInt (-1)))) _ := k
      have k := ly_revb 2 (c' := (219, [(2, .int (v2 + (Int32.ofInt 1))), (0, .ref (p 0)), (1, .int v1), (3, .int w3)], [], me_w M (nt_u (x166F_229 p v2 ((Int32.ofInt 3).toNatClampNeg) (Int32.ofInt 0) J) (p 4) ((((Int32.ofInt 52) + ((Int32.ofInt 5) * v2)) + (Int32.ofInt 3)).toNatClampNeg) (Int32.ofInt (-1))))) rfl k
      have k := nt_rn_w (a := [(2, .int (v2 + (Int32.ofInt 1))), (0, .ref (p 0)), (1, .int v1), (3, .int w3)]) (b := [(0, .ref (p 0)), (1, .int v1), (2, .int (v2 + (Int32.ofInt 1))), (3, .int w3)]) ⟨rfl, rfl, rfl, rfl, trivial⟩ rfl k
      have k := ih (v2 + (Int32.ofInt 1)) w3 (nt_u (x166F_229 p v2 ((Int32.ofInt 3).toNatClampNeg) (Int32.ofInt 0) J) (p 4) ((((Int32.ofInt 52) + ((Int32.ofInt 5) * v2)) + (Int32.ofInt 3)).toNatClampNeg) (Int32.ofInt (-1))) (by rw [show (nt_u (x166F_229 p v2 ((Int32.ofInt 3).toNatClampNeg) (Int32.ofInt 0) J) (p 4) ((((Int32.ofInt 52) + ((Int32.ofInt 5) * v2)) + (Int32.ofInt 3)).toNatClampNeg) (Int32.ofInt (-1))) (p 0) 9 = J (p 0) 9 from (mu_j (hp.2.1 0 4 (by omega) (by omega) (by decide))).trans (congrFun (x166F_229_frJ _ _ _ (hp.2.1 0 4 (by omega) (by omega) (by decide))) 9)]; exact lx_dec h224 hc) k
      rw [x166F_219, if_neg h224]
      exact k
theorem x166F_219_rule {p : Nat → Nat} {I : Nat → Int32 → (Nat → Nat → Int32) → Prop} {Q : (Nat → Nat → Int32) → Prop} (h0 : ∀ (v2 : Int32) (J : Nat → Nat → Int32), I 0 v2 J → Q J) (h1 : ∀ (c : Nat) (v2 : Int32) (J : Nat → Nat → Int32), I (c + 1) v2 J →
    if (J (p 0) 9) ≤ v2 then (Q J)
    else (I c (v2 + (Int32.ofInt 1)) (nt_u (x166F_229 p v2 ((Int32.ofInt 3).toNatClampNeg) (Int32.ofInt 0) J) (p 4) ((((Int32.ofInt 52) + ((Int32.ofInt 5) * v2)) + (Int32.ofInt 3)).toNatClampNeg) (Int32.ofInt (-1))))) : ∀ (c : Nat) (v2 : Int32) (J : Nat → Nat → Int32), I c v2 J → Q (x166F_219 p c v2 J) := by
  intro c
  induction c with
  | zero =>
    intro v2 J hi
    rw [x166F_219]
    exact h0 v2 J hi
  | succ c ih =>
    intro v2 J hi
    have hi := h1 c v2 J hi
    rw [x166F_219]
    by_cases h : (J (p 0) 9) ≤ v2
    · rw [if_pos h] at hi ⊢
      exact hi
    · rw [if_neg h] at hi ⊢
      exact ih _ _ hi
theorem x166F_219_frJ {p : Nat → Nat} {b : Nat} : ∀ (c : Nat) (v2 : Int32) (J : Nat → Nat → Int32), b ≠ p 4 → x166F_219 p c v2 J b = J b := by
  intro c
  induction c with
  | zero =>
    intro v2 J n0
    rw [x166F_219]
    all_goals first | (dsimp only; exact (show J b = J b from rfl)) | exact (show J b = J b from rfl)
  | succ c ih =>
    intro v2 J n0
    rw [x166F_219]
    by_cases h : (J (p 0) 9) ≤ v2
    · rw [if_pos h]
      all_goals first | (dsimp only; exact (show J b = J b from rfl)) | exact (show J b = J b from rfl)
    · rw [if_neg h]
      exact (ih _ _ n0).trans ((mu_o n0).trans (x166F_229_frJ _ _ _ n0))
def x166F_295 (p : Nat → Nat) (v2 : Int32) : Nat → Int32 → (Nat → Nat → Int32) → (Nat → Nat → Int32)
  | 0, v3, J => J
  | c + 1, v3, J => if (Int32.ofInt 4) ≤ v3 then J
    else (x166F_295 p v2 c (v3 + (Int32.ofInt 1)) (nt_u J (p 4) ((((Int32.ofInt 172) + ((Int32.ofInt 5) * v2)) + v3).toNatClampNeg) (J (p 13) ((((Int32.ofInt 4) * v2) + v3).toNatClampNeg))))
theorem xt166F_295 {X : nt_X} {d : Nat} {M : nt_M} {o : Option Value × nt_M} {p : Nat → Nat} {v1 : Int32} {v2 : Int32} (hp : xs_P M p) : ∀ (c : Nat) (v3 : Int32) (J : Nat → Nat → Int32), (Int32.ofInt 4).toInt - v3.toInt ≤ c → nt_rn X d 166 (295, [(0, .ref (p 0)), (1, .int v1), (2, .int v2), (3, .int v3)], [], me_w M J) o → ∃ (w3 : Int32), nt_rn X d 166 (330, [(0, .ref (p 0)), (1, .int v1), (2, .int v2), (3, .int w3)], [], me_w M (x166F_295 p v2 c v3 J)) o := by
  intro c
  induction c with
  | zero =>
    intro v3 J hc k
    have k := ly_revb 3 (c' := (if (Int32.ofInt 4) ≤ v3 then 330 else 300, [(0, .ref (p 0)), (1, .int v1), (2, .int v2), (3, .int v3)], [], me_w M J)) rfl k
    have h297 : (Int32.ofInt 4) ≤ v3 := lx_end hc
    rw [if_pos h297] at k
    have k := nt_rn_w (a := [(0, .ref (p 0)), (1, .int v1), (2, .int v2), (3, .int v3)]) (b := [(0, .ref (p 0)), (1, .int v1), (2, .int v2), (3, .int v3)]) ⟨rfl, rfl, rfl, rfl, trivial⟩ rfl k
    rw [x166F_295]
    exact ⟨_, k⟩
  | succ c ih =>
    intro v3 J hc k
    have k := ly_revb 3 (c' := (if (Int32.ofInt 4) ≤ v3 then 330 else 300, [(0, .ref (p 0)), (1, .int v1), (2, .int v2), (3, .int v3)], [], me_w M J)) rfl k
    by_cases h297 : (Int32.ofInt 4) ≤ v3
    · rw [if_pos h297] at k
      have k := nt_rn_w (a := [(0, .ref (p 0)), (1, .int v1), (2, .int v2), (3, .int v3)]) (b := [(0, .ref (p 0)), (1, .int v1), (2, .int v2), (3, .int v3)]) ⟨rfl, rfl, rfl, rfl, trivial⟩ rfl k
      rw [x166F_295, if_pos h297]
      exact ⟨_, k⟩
    · rw [if_neg h297] at k
      have k := ly_revb 1 (c' := (301, [(0, .ref (p 0)), (1, .int v1), (2, .int v2), (3, .int v3)], [.ref (p 0)], me_w M J)) rfl k
      have k := lz_get (a := (p 0)) (g := 1127) (M := me_w M J) (v := .ref (p 4)) rfl (nt_gfR rfl (mw_R (hp.1 (0, 27, 4) (by decide)))) k
      have k := ly_revb 8 (c' := (314, [(0, .ref (p 0)), (1, .int v1), (2, .int v2), (3, .int v3)], [.ref (p 0), .int (((Int32.ofInt 172) + ((Int32.ofInt 5) * v2)) + v3), .ref (p 4)], me_w M J)) rfl k
      have k := lz_get (a := (p 0)) (g := 1114) (M := me_w M J) (v := .ref (p 13)) rfl (nt_gfR rfl (mw_R (hp.1 (0, 14, 13) (by decide)))) k
      have k := ly_revb 5 (c' := (322, [(0, .ref (p 0)), (1, .int v1), (2, .int v2), (3, .int v3)], [.int (((Int32.ofInt 4) * v2) + v3), .ref (p 13), .int (((Int32.ofInt 172) + ((Int32.ofInt 5) * v2)) + v3), .ref (p 4)], me_w M J)) rfl k
      have k := mx_iald (v := J (p 13) ((((Int32.ofInt 4) * v2) + v3).toNatClampNeg)) rfl (hp.2.2.1 13 (by omega)) (rfl) k
      have k := mx_iast (q := (((Int32.ofInt 172) + ((Int32.ofInt 5) * v2)) + v3).toNatClampNeg) rfl rfl k
      have k : nt_rn X _ 166 (324, [(0, .ref (p 0)), (1, .int v1), (2, .int v2), (3, .int v3)], [], me_w M (nt_u J (p 4) ((((Int32.ofInt 172) + ((Int32.ofInt 5) * v2)) + v3).toNatClampNeg) (J (p 13) ((((Int32.ofInt 4) * v2) + v3).toNatClampNeg)))) _ := k
      have k := ly_revb 2 (c' := (295, [(3, .int (v3 + (Int32.ofInt 1))), (0, .ref (p 0)), (1, .int v1), (2, .int v2)], [], me_w M (nt_u J (p 4) ((((Int32.ofInt 172) + ((Int32.ofInt 5) * v2)) + v3).toNatClampNeg) (J (p 13) ((((Int32.ofInt 4) * v2) + v3).toNatClampNeg))))) rfl k
      have k := nt_rn_w (a := [(3, .int (v3 + (Int32.ofInt 1))), (0, .ref (p 0)), (1, .int v1), (2, .int v2)]) (b := [(0, .ref (p 0)), (1, .int v1), (2, .int v2), (3, .int (v3 + (Int32.ofInt 1)))]) ⟨rfl, rfl, rfl, rfl, trivial⟩ rfl k
      have k := ih (v3 + (Int32.ofInt 1)) (nt_u J (p 4) ((((Int32.ofInt 172) + ((Int32.ofInt 5) * v2)) + v3).toNatClampNeg) (J (p 13) ((((Int32.ofInt 4) * v2) + v3).toNatClampNeg))) (lx_dec h297 hc) k
      rw [x166F_295, if_neg h297]
      exact k
theorem x166F_295_rule {p : Nat → Nat} {v2 : Int32} {I : Nat → Int32 → (Nat → Nat → Int32) → Prop} {Q : (Nat → Nat → Int32) → Prop} (h0 : ∀ (v3 : Int32) (J : Nat → Nat → Int32), I 0 v3 J → Q J) (h1 : ∀ (c : Nat) (v3 : Int32) (J : Nat → Nat → Int32), I (c + 1) v3 J →
    if (Int32.ofInt 4) ≤ v3 then (Q J)
    else (I c (v3 + (Int32.ofInt 1)) (nt_u J (p 4) ((((Int32.ofInt 172) + ((Int32.ofInt 5) * v2)) + v3).toNatClampNeg) (J (p 13) ((((Int32.ofInt 4) * v2) + v3).toNatClampNeg))))) : ∀ (c : Nat) (v3 : Int32) (J : Nat → Nat → Int32), I c v3 J → Q (x166F_295 p v2 c v3 J) := by
  intro c
  induction c with
  | zero =>
    intro v3 J hi
    rw [x166F_295]
    exact h0 v3 J hi
  | succ c ih =>
    intro v3 J hi
    have hi := h1 c v3 J hi
    rw [x166F_295]
    by_cases h : (Int32.ofInt 4) ≤ v3
    · rw [if_pos h] at hi ⊢
      exact hi
    · rw [if_neg h] at hi ⊢
      exact ih _ _ hi
theorem x166F_295_frJ {p : Nat → Nat} {v2 : Int32} {b : Nat} : ∀ (c : Nat) (v3 : Int32) (J : Nat → Nat → Int32), b ≠ p 4 → x166F_295 p v2 c v3 J b = J b := by
  intro c
  induction c with
  | zero =>
    intro v3 J n0
    rw [x166F_295]
    all_goals first | (dsimp only; exact (show J b = J b from rfl)) | exact (show J b = J b from rfl)
  | succ c ih =>
    intro v3 J n0
    rw [x166F_295]
    by_cases h : (Int32.ofInt 4) ≤ v3
    · rw [if_pos h]
      all_goals first | (dsimp only; exact (show J b = J b from rfl)) | exact (show J b = J b from rfl)
    · rw [if_neg h]
      exact (ih _ _ n0).trans (mu_o n0)
def x166F_285 (p : Nat → Nat) : Nat → Int32 → (Nat → Nat → Int32) → (Nat → Nat → Int32)
  | 0, v2, J => J
  | c + 1, v2, J => if (J (p 0) 10) ≤ v2 then J
    else (x166F_285 p c (v2 + (Int32.ofInt 1)) (x166F_295 p v2 ((Int32.ofInt 4).toNatClampNeg) (Int32.ofInt 0) J))
theorem xt166F_285 {X : nt_X} {d : Nat} {M : nt_M} {o : Option Value × nt_M} {p : Nat → Nat} {v1 : Int32} (hp : xs_P M p) : ∀ (c : Nat) (v2 : Int32) (v3 : Int32) (J : Nat → Nat → Int32), (J (p 0) 10).toInt - v2.toInt ≤ c → nt_rn X d 166 (285, [(0, .ref (p 0)), (1, .int v1), (2, .int v2), (3, .int v3)], [], me_w M J) o → ∃ (w2 : Int32) (w3 : Int32), nt_rn X d 166 (336, [(0, .ref (p 0)), (1, .int v1), (2, .int w2), (3, .int w3)], [], me_w M (x166F_285 p c v2 J)) o := by
  intro c
  induction c with
  | zero =>
    intro v2 v3 J hc k
    have k := ly_revb 2 (c' := (287, [(0, .ref (p 0)), (1, .int v1), (2, .int v2), (3, .int v3)], [.ref (p 0), .int v2], me_w M J)) rfl k
    have k := lz_get (a := (p 0)) (g := 1110) (M := me_w M J) (v := .int (J (p 0) 10)) rfl (mw_gI (by decide) (rfl)) k
    have k := ly_revb 1 (c' := (if (J (p 0) 10) ≤ v2 then 336 else 293, [(0, .ref (p 0)), (1, .int v1), (2, .int v2), (3, .int v3)], [], me_w M J)) rfl k
    have h290 : (J (p 0) 10) ≤ v2 := lx_end hc
    rw [if_pos h290] at k
    have k := nt_rn_w (a := [(0, .ref (p 0)), (1, .int v1), (2, .int v2), (3, .int v3)]) (b := [(0, .ref (p 0)), (1, .int v1), (2, .int v2), (3, .int v3)]) ⟨rfl, rfl, rfl, rfl, trivial⟩ rfl k
    rw [x166F_285]
    exact ⟨_, _, k⟩
  | succ c ih =>
    intro v2 v3 J hc k
    have k := ly_revb 2 (c' := (287, [(0, .ref (p 0)), (1, .int v1), (2, .int v2), (3, .int v3)], [.ref (p 0), .int v2], me_w M J)) rfl k
    have k := lz_get (a := (p 0)) (g := 1110) (M := me_w M J) (v := .int (J (p 0) 10)) rfl (mw_gI (by decide) (rfl)) k
    have k := ly_revb 1 (c' := (if (J (p 0) 10) ≤ v2 then 336 else 293, [(0, .ref (p 0)), (1, .int v1), (2, .int v2), (3, .int v3)], [], me_w M J)) rfl k
    by_cases h290 : (J (p 0) 10) ≤ v2
    · rw [if_pos h290] at k
      have k := nt_rn_w (a := [(0, .ref (p 0)), (1, .int v1), (2, .int v2), (3, .int v3)]) (b := [(0, .ref (p 0)), (1, .int v1), (2, .int v2), (3, .int v3)]) ⟨rfl, rfl, rfl, rfl, trivial⟩ rfl k
      rw [x166F_285, if_pos h290]
      exact ⟨_, _, k⟩
    · rw [if_neg h290] at k
      have k := ly_revb 2 (c' := (295, [(3, .int (Int32.ofInt 0)), (0, .ref (p 0)), (1, .int v1), (2, .int v2)], [], me_w M J)) rfl k
      have k := nt_rn_w (a := [(3, .int (Int32.ofInt 0)), (0, .ref (p 0)), (1, .int v1), (2, .int v2)]) (b := [(0, .ref (p 0)), (1, .int v1), (2, .int v2), (3, .int (Int32.ofInt 0))]) ⟨rfl, rfl, rfl, rfl, trivial⟩ rfl k
      have k := xt166F_295 hp  ((Int32.ofInt 4).toNatClampNeg) (Int32.ofInt 0) J (lx_beg (by decide)) k
      obtain ⟨w3, k⟩ := k
      have k : nt_rn X _ 166 (330, [(0, .ref (p 0)), (1, .int v1), (2, .int v2), (3, .int w3)], [], me_w M (x166F_295 p v2 ((Int32.ofInt 4).toNatClampNeg) (Int32.ofInt 0) J)) _ := k
      have k := ly_revb 2 (c' := (285, [(2, .int (v2 + (Int32.ofInt 1))), (0, .ref (p 0)), (1, .int v1), (3, .int w3)], [], me_w M (x166F_295 p v2 ((Int32.ofInt 4).toNatClampNeg) (Int32.ofInt 0) J))) rfl k
      have k := nt_rn_w (a := [(2, .int (v2 + (Int32.ofInt 1))), (0, .ref (p 0)), (1, .int v1), (3, .int w3)]) (b := [(0, .ref (p 0)), (1, .int v1), (2, .int (v2 + (Int32.ofInt 1))), (3, .int w3)]) ⟨rfl, rfl, rfl, rfl, trivial⟩ rfl k
      have k := ih (v2 + (Int32.ofInt 1)) w3 (x166F_295 p v2 ((Int32.ofInt 4).toNatClampNeg) (Int32.ofInt 0) J) (by rw [show (x166F_295 p v2 ((Int32.ofInt 4).toNatClampNeg) (Int32.ofInt 0) J) (p 0) 10 = J (p 0) 10 from congrFun (x166F_295_frJ _ _ _ (hp.2.1 0 4 (by omega) (by omega) (by decide))) 10]; exact lx_dec h290 hc) k
      rw [x166F_285, if_neg h290]
      exact k
theorem x166F_285_rule {p : Nat → Nat} {I : Nat → Int32 → (Nat → Nat → Int32) → Prop} {Q : (Nat → Nat → Int32) → Prop} (h0 : ∀ (v2 : Int32) (J : Nat → Nat → Int32), I 0 v2 J → Q J) (h1 : ∀ (c : Nat) (v2 : Int32) (J : Nat → Nat → Int32), I (c + 1) v2 J →
    if (J (p 0) 10) ≤ v2 then (Q J)
    else (I c (v2 + (Int32.ofInt 1)) (x166F_295 p v2 ((Int32.ofInt 4).toNatClampNeg) (Int32.ofInt 0) J))) : ∀ (c : Nat) (v2 : Int32) (J : Nat → Nat → Int32), I c v2 J → Q (x166F_285 p c v2 J) := by
  intro c
  induction c with
  | zero =>
    intro v2 J hi
    rw [x166F_285]
    exact h0 v2 J hi
  | succ c ih =>
    intro v2 J hi
    have hi := h1 c v2 J hi
    rw [x166F_285]
    by_cases h : (J (p 0) 10) ≤ v2
    · rw [if_pos h] at hi ⊢
      exact hi
    · rw [if_neg h] at hi ⊢
      exact ih _ _ hi
theorem x166F_285_frJ {p : Nat → Nat} {b : Nat} : ∀ (c : Nat) (v2 : Int32) (J : Nat → Nat → Int32), b ≠ p 4 → x166F_285 p c v2 J b = J b := by
  intro c
  induction c with
  | zero =>
    intro v2 J n0
    rw [x166F_285]
    all_goals first | (dsimp only; exact (show J b = J b from rfl)) | exact (show J b = J b from rfl)
  | succ c ih =>
    intro v2 J n0
    rw [x166F_285]
    by_cases h : (J (p 0) 10) ≤ v2
    · rw [if_pos h]
      all_goals first | (dsimp only; exact (show J b = J b from rfl)) | exact (show J b = J b from rfl)
    · rw [if_neg h]
      exact (ih _ _ n0).trans (x166F_295_frJ _ _ _ n0)
def x166F (p : Nat → Nat) (J : Nat → Nat → Int32) : Int32 × (Nat → Nat → Int32) := if 0 ≤ (J (p 0) 11) then (J (p 0) 8, x166F_285 p (((x166F_219 p (((x166F_148 p (((nt_u (nt_u (nt_u (nt_u (nt_u (nt_u (x166F_56 p (J (p 4) 9) ((Int32.ofInt 212).toNatClampNeg) (Int32.ofInt 0) J) (p 4) 0 (J (p 0) 7)) (p 4) 1 (J (p 0) 8)) (p 4) 2 (J (p 0) 9)) (p 4) 3 (J (p 0) 10)) (p 4) 5 (J (p 0) 11)) (p 4) 9 (J (p 4) 9)) (p 0) 8).toNatClampNeg) (Int32.ofInt 0) (nt_u (nt_u (nt_u (nt_u (nt_u (nt_u (x166F_56 p (J (p 4) 9) ((Int32.ofInt 212).toNatClampNeg) (Int32.ofInt 0) J) (p 4) 0 (J (p 0) 7)) (p 4) 1 (J (p 0) 8)) (p 4) 2 (J (p 0) 9)) (p 4) 3 (J (p 0) 10)) (p 4) 5 (J (p 0) 11)) (p 4) 9 (J (p 4) 9))) (p 0) 9).toNatClampNeg) (Int32.ofInt 0) (x166F_148 p (((nt_u (nt_u (nt_u (nt_u (nt_u (nt_u (x166F_56 p (J (p 4) 9) ((Int32.ofInt 212).toNatClampNeg) (Int32.ofInt 0) J) (p 4) 0 (J (p 0) 7)) (p 4) 1 (J (p 0) 8)) (p 4) 2 (J (p 0) 9)) (p 4) 3 (J (p 0) 10)) (p 4) 5 (J (p 0) 11)) (p 4) 9 (J (p 4) 9)) (p 0) 8).toNatClampNeg) (Int32.ofInt 0) (nt_u (nt_u (nt_u (nt_u (nt_u (nt_u (x166F_56 p (J (p 4) 9) ((Int32.ofInt 212).toNatClampNeg) (Int32.ofInt 0) J) (p 4) 0 (J (p 0) 7)) (p 4) 1 (J (p 0) 8)) (p 4) 2 (J (p 0) 9)) (p 4) 3 (J (p 0) 10)) (p 4) 5 (J (p 0) 11)) (p 4) 9 (J (p 4) 9)))) (p 0) 10).toNatClampNeg) (Int32.ofInt 0) (x166F_219 p (((x166F_148 p (((nt_u (nt_u (nt_u (nt_u (nt_u (nt_u (x166F_56 p (J (p 4) 9) ((Int32.ofInt 212).toNatClampNeg) (Int32.ofInt 0) J) (p 4) 0 (J (p 0) 7)) (p 4) 1 (J (p 0) 8)) (p 4) 2 (J (p 0) 9)) (p 4) 3 (J (p 0) 10)) (p 4) 5 (J (p 0) 11)) (p 4) 9 (J (p 4) 9)) (p 0) 8).toNatClampNeg) (Int32.ofInt 0) (nt_u (nt_u (nt_u (nt_u (nt_u (nt_u (x166F_56 p (J (p 4) 9) ((Int32.ofInt 212).toNatClampNeg) (Int32.ofInt 0) J) (p 4) 0 (J (p 0) 7)) (p 4) 1 (J (p 0) 8)) (p 4) 2 (J (p 0) 9)) (p 4) 3 (J (p 0) 10)) (p 4) 5 (J (p 0) 11)) (p 4) 9 (J (p 4) 9))) (p 0) 9).toNatClampNeg) (Int32.ofInt 0) (x166F_148 p (((nt_u (nt_u (nt_u (nt_u (nt_u (nt_u (x166F_56 p (J (p 4) 9) ((Int32.ofInt 212).toNatClampNeg) (Int32.ofInt 0) J) (p 4) 0 (J (p 0) 7)) (p 4) 1 (J (p 0) 8)) (p 4) 2 (J (p 0) 9)) (p 4) 3 (J (p 0) 10)) (p 4) 5 (J (p 0) 11)) (p 4) 9 (J (p 4) 9)) (p 0) 8).toNatClampNeg) (Int32.ofInt 0) (nt_u (nt_u (nt_u (nt_u (nt_u (nt_u (x166F_56 p (J (p 4) 9) ((Int32.ofInt 212).toNatClampNeg) (Int32.ofInt 0) J) (p 4) 0 (J (p 0) 7)) (p 4) 1 (J (p 0) 8)) (p 4) 2 (J (p 0) 9)) (p 4) 3 (J (p 0) 10)) (p 4) 5 (J (p 0) 11)) (p 4) 9 (J (p 4) 9)))))
  else (J (p 0) 8, x166F_285 p (((x166F_219 p (((x166F_148 p (((nt_u (nt_u (nt_u (nt_u (nt_u (nt_u (x166F_56 p (J (p 4) 9) ((Int32.ofInt 212).toNatClampNeg) (Int32.ofInt 0) J) (p 4) 0 (J (p 0) 7)) (p 4) 1 (J (p 0) 8)) (p 4) 2 (J (p 0) 9)) (p 4) 3 (J (p 0) 10)) (p 4) 5 (Int32.ofInt 30)) (p 4) 9 (J (p 4) 9)) (p 0) 8).toNatClampNeg) (Int32.ofInt 0) (nt_u (nt_u (nt_u (nt_u (nt_u (nt_u (x166F_56 p (J (p 4) 9) ((Int32.ofInt 212).toNatClampNeg) (Int32.ofInt 0) J) (p 4) 0 (J (p 0) 7)) (p 4) 1 (J (p 0) 8)) (p 4) 2 (J (p 0) 9)) (p 4) 3 (J (p 0) 10)) (p 4) 5 (Int32.ofInt 30)) (p 4) 9 (J (p 4) 9))) (p 0) 9).toNatClampNeg) (Int32.ofInt 0) (x166F_148 p (((nt_u (nt_u (nt_u (nt_u (nt_u (nt_u (x166F_56 p (J (p 4) 9) ((Int32.ofInt 212).toNatClampNeg) (Int32.ofInt 0) J) (p 4) 0 (J (p 0) 7)) (p 4) 1 (J (p 0) 8)) (p 4) 2 (J (p 0) 9)) (p 4) 3 (J (p 0) 10)) (p 4) 5 (Int32.ofInt 30)) (p 4) 9 (J (p 4) 9)) (p 0) 8).toNatClampNeg) (Int32.ofInt 0) (nt_u (nt_u (nt_u (nt_u (nt_u (nt_u (x166F_56 p (J (p 4) 9) ((Int32.ofInt 212).toNatClampNeg) (Int32.ofInt 0) J) (p 4) 0 (J (p 0) 7)) (p 4) 1 (J (p 0) 8)) (p 4) 2 (J (p 0) 9)) (p 4) 3 (J (p 0) 10)) (p 4) 5 (Int32.ofInt 30)) (p 4) 9 (J (p 4) 9)))) (p 0) 10).toNatClampNeg) (Int32.ofInt 0) (x166F_219 p (((x166F_148 p (((nt_u (nt_u (nt_u (nt_u (nt_u (nt_u (x166F_56 p (J (p 4) 9) ((Int32.ofInt 212).toNatClampNeg) (Int32.ofInt 0) J) (p 4) 0 (J (p 0) 7)) (p 4) 1 (J (p 0) 8)) (p 4) 2 (J (p 0) 9)) (p 4) 3 (J (p 0) 10)) (p 4) 5 (Int32.ofInt 30)) (p 4) 9 (J (p 4) 9)) (p 0) 8).toNatClampNeg) (Int32.ofInt 0) (nt_u (nt_u (nt_u (nt_u (nt_u (nt_u (x166F_56 p (J (p 4) 9) ((Int32.ofInt 212).toNatClampNeg) (Int32.ofInt 0) J) (p 4) 0 (J (p 0) 7)) (p 4) 1 (J (p 0) 8)) (p 4) 2 (J (p 0) 9)) (p 4) 3 (J (p 0) 10)) (p 4) 5 (Int32.ofInt 30)) (p 4) 9 (J (p 4) 9))) (p 0) 9).toNatClampNeg) (Int32.ofInt 0) (x166F_148 p (((nt_u (nt_u (nt_u (nt_u (nt_u (nt_u (x166F_56 p (J (p 4) 9) ((Int32.ofInt 212).toNatClampNeg) (Int32.ofInt 0) J) (p 4) 0 (J (p 0) 7)) (p 4) 1 (J (p 0) 8)) (p 4) 2 (J (p 0) 9)) (p 4) 3 (J (p 0) 10)) (p 4) 5 (Int32.ofInt 30)) (p 4) 9 (J (p 4) 9)) (p 0) 8).toNatClampNeg) (Int32.ofInt 0) (nt_u (nt_u (nt_u (nt_u (nt_u (nt_u (x166F_56 p (J (p 4) 9) ((Int32.ofInt 212).toNatClampNeg) (Int32.ofInt 0) J) (p 4) 0 (J (p 0) 7)) (p 4) 1 (J (p 0) 8)) (p 4) 2 (J (p 0) 9)) (p 4) 3 (J (p 0) 10)) (p 4) 5 (Int32.ofInt 30)) (p 4) 9 (J (p 4) 9)))))
theorem xt166F {X : nt_X} {d : Nat} {M : nt_M} {o : Option Value × nt_M} {p : Nat → Nat} {J : Nat → Nat → Int32} (hp : xs_P M p) (k : nt_rn X d 166 (46, [(0, .ref (p 0))], [], me_w M J) o) : o = (some (.int ((x166F p J).1)), me_w M ((x166F p J).2)) := by
  have k : nt_rn X d 166 (46, [(0, .ref (p 0))], [], me_w M J) o := k
  have k := ly_revb 1 (c' := (47, [(0, .ref (p 0))], [.ref (p 0)], me_w M J)) rfl k
  have k := lz_get (a := (p 0)) (g := 1127) (M := me_w M J) (v := .ref (p 4)) rfl (nt_gfR rfl (mw_R (hp.1 (0, 27, 4) (by decide)))) k
  have k := ly_revb 1 (c' := (52, [(0, .ref (p 0))], [.int (Int32.ofInt 9), .ref (p 4)], me_w M J)) rfl k
  have k := mx_iald (v := J (p 4) 9) rfl (hp.2.2.1 4 (by omega)) ((congrArg (J (p 4)) (show (Int32.ofInt 9).toNatClampNeg = 9 from rfl)).trans (rfl)) k
  have k := ly_revb 3 (c' := (56, [(2, .int (Int32.ofInt 0)), (1, .int (J (p 4) 9)), (0, .ref (p 0))], [], me_w M J)) rfl k
  have k := nt_rn_w (a := [(2, .int (Int32.ofInt 0)), (1, .int (J (p 4) 9)), (0, .ref (p 0))]) (b := [(0, .ref (p 0)), (1, .int (J (p 4) 9)), (2, .int (Int32.ofInt 0))]) ⟨rfl, rfl, rfl, trivial⟩ rfl k
  have k := xt166F_56 hp  ((Int32.ofInt 212).toNatClampNeg) (Int32.ofInt 0) J (lx_beg (by decide)) k
  obtain ⟨w2, k⟩ := k
  have k : nt_rn X _ 166 (76, [(0, .ref (p 0)), (1, .int (J (p 4) 9)), (2, .int w2)], [], me_w M (x166F_56 p (J (p 4) 9) ((Int32.ofInt 212).toNatClampNeg) (Int32.ofInt 0) J)) _ := k
  have k := ly_revb 1 (c' := (77, [(0, .ref (p 0)), (1, .int (J (p 4) 9)), (2, .int w2)], [.ref (p 0)], me_w M (x166F_56 p (J (p 4) 9) ((Int32.ofInt 212).toNatClampNeg) (Int32.ofInt 0) J))) rfl k
  have k := lz_get (a := (p 0)) (g := 1127) (M := me_w M (x166F_56 p (J (p 4) 9) ((Int32.ofInt 212).toNatClampNeg) (Int32.ofInt 0) J)) (v := .ref (p 4)) rfl (nt_gfR rfl (mw_R (hp.1 (0, 27, 4) (by decide)))) k
  have k := ly_revb 2 (c' := (82, [(0, .ref (p 0)), (1, .int (J (p 4) 9)), (2, .int w2)], [.ref (p 0), .int (Int32.ofInt 0), .ref (p 4)], me_w M (x166F_56 p (J (p 4) 9) ((Int32.ofInt 212).toNatClampNeg) (Int32.ofInt 0) J))) rfl k
  have k := lz_get (a := (p 0)) (g := 1107) (M := me_w M (x166F_56 p (J (p 4) 9) ((Int32.ofInt 212).toNatClampNeg) (Int32.ofInt 0) J)) (v := .int (J (p 0) 7)) rfl (mw_gI (by decide) (congrFun (x166F_56_frJ _ _ _ (hp.2.1 0 4 (by omega) (by omega) (by decide))) 7)) k
  have k := mx_iast (q := 0) rfl (show (Int32.ofInt 0).toNatClampNeg = 0 from rfl) k
  have k : nt_rn X _ 166 (86, [(0, .ref (p 0)), (1, .int (J (p 4) 9)), (2, .int w2)], [], me_w M (nt_u (x166F_56 p (J (p 4) 9) ((Int32.ofInt 212).toNatClampNeg) (Int32.ofInt 0) J) (p 4) 0 (J (p 0) 7))) _ := k
  have k := ly_revb 1 (c' := (87, [(0, .ref (p 0)), (1, .int (J (p 4) 9)), (2, .int w2)], [.ref (p 0)], me_w M (nt_u (x166F_56 p (J (p 4) 9) ((Int32.ofInt 212).toNatClampNeg) (Int32.ofInt 0) J) (p 4) 0 (J (p 0) 7)))) rfl k
  have k := lz_get (a := (p 0)) (g := 1127) (M := me_w M (nt_u (x166F_56 p (J (p 4) 9) ((Int32.ofInt 212).toNatClampNeg) (Int32.ofInt 0) J) (p 4) 0 (J (p 0) 7))) (v := .ref (p 4)) rfl (nt_gfR rfl (mw_R (hp.1 (0, 27, 4) (by decide)))) k
  have k := ly_revb 2 (c' := (92, [(0, .ref (p 0)), (1, .int (J (p 4) 9)), (2, .int w2)], [.ref (p 0), .int (Int32.ofInt 1), .ref (p 4)], me_w M (nt_u (x166F_56 p (J (p 4) 9) ((Int32.ofInt 212).toNatClampNeg) (Int32.ofInt 0) J) (p 4) 0 (J (p 0) 7)))) rfl k
  have k := lz_get (a := (p 0)) (g := 1108) (M := me_w M (nt_u (x166F_56 p (J (p 4) 9) ((Int32.ofInt 212).toNatClampNeg) (Int32.ofInt 0) J) (p 4) 0 (J (p 0) 7))) (v := .int (J (p 0) 8)) rfl (mw_gI (by decide) ((mu_j (hp.2.1 0 4 (by omega) (by omega) (by decide))).trans (congrFun (x166F_56_frJ _ _ _ (hp.2.1 0 4 (by omega) (by omega) (by decide))) 8))) k
  have k := mx_iast (q := 1) rfl (show (Int32.ofInt 1).toNatClampNeg = 1 from rfl) k
  have k : nt_rn X _ 166 (96, [(0, .ref (p 0)), (1, .int (J (p 4) 9)), (2, .int w2)], [], me_w M (nt_u (nt_u (x166F_56 p (J (p 4) 9) ((Int32.ofInt 212).toNatClampNeg) (Int32.ofInt 0) J) (p 4) 0 (J (p 0) 7)) (p 4) 1 (J (p 0) 8))) _ := k
  have k := ly_revb 1 (c' := (97, [(0, .ref (p 0)), (1, .int (J (p 4) 9)), (2, .int w2)], [.ref (p 0)], me_w M (nt_u (nt_u (x166F_56 p (J (p 4) 9) ((Int32.ofInt 212).toNatClampNeg) (Int32.ofInt 0) J) (p 4) 0 (J (p 0) 7)) (p 4) 1 (J (p 0) 8)))) rfl k
  have k := lz_get (a := (p 0)) (g := 1127) (M := me_w M (nt_u (nt_u (x166F_56 p (J (p 4) 9) ((Int32.ofInt 212).toNatClampNeg) (Int32.ofInt 0) J) (p 4) 0 (J (p 0) 7)) (p 4) 1 (J (p 0) 8))) (v := .ref (p 4)) rfl (nt_gfR rfl (mw_R (hp.1 (0, 27, 4) (by decide)))) k
  have k := ly_revb 2 (c' := (102, [(0, .ref (p 0)), (1, .int (J (p 4) 9)), (2, .int w2)], [.ref (p 0), .int (Int32.ofInt 2), .ref (p 4)], me_w M (nt_u (nt_u (x166F_56 p (J (p 4) 9) ((Int32.ofInt 212).toNatClampNeg) (Int32.ofInt 0) J) (p 4) 0 (J (p 0) 7)) (p 4) 1 (J (p 0) 8)))) rfl k
  have k := lz_get (a := (p 0)) (g := 1109) (M := me_w M (nt_u (nt_u (x166F_56 p (J (p 4) 9) ((Int32.ofInt 212).toNatClampNeg) (Int32.ofInt 0) J) (p 4) 0 (J (p 0) 7)) (p 4) 1 (J (p 0) 8))) (v := .int (J (p 0) 9)) rfl (mw_gI (by decide) ((mu_j (hp.2.1 0 4 (by omega) (by omega) (by decide))).trans ((mu_j (hp.2.1 0 4 (by omega) (by omega) (by decide))).trans (congrFun (x166F_56_frJ _ _ _ (hp.2.1 0 4 (by omega) (by omega) (by decide))) 9)))) k
  have k := mx_iast (q := 2) rfl (show (Int32.ofInt 2).toNatClampNeg = 2 from rfl) k
  have k : nt_rn X _ 166 (106, [(0, .ref (p 0)), (1, .int (J (p 4) 9)), (2, .int w2)], [], me_w M (nt_u (nt_u (nt_u (x166F_56 p (J (p 4) 9) ((Int32.ofInt 212).toNatClampNeg) (Int32.ofInt 0) J) (p 4) 0 (J (p 0) 7)) (p 4) 1 (J (p 0) 8)) (p 4) 2 (J (p 0) 9))) _ := k
  have k := ly_revb 1 (c' := (107, [(0, .ref (p 0)), (1, .int (J (p 4) 9)), (2, .int w2)], [.ref (p 0)], me_w M (nt_u (nt_u (nt_u (x166F_56 p (J (p 4) 9) ((Int32.ofInt 212).toNatClampNeg) (Int32.ofInt 0) J) (p 4) 0 (J (p 0) 7)) (p 4) 1 (J (p 0) 8)) (p 4) 2 (J (p 0) 9)))) rfl k
  have k := lz_get (a := (p 0)) (g := 1127) (M := me_w M (nt_u (nt_u (nt_u (x166F_56 p (J (p 4) 9) ((Int32.ofInt 212).toNatClampNeg) (Int32.ofInt 0) J) (p 4) 0 (J (p 0) 7)) (p 4) 1 (J (p 0) 8)) (p 4) 2 (J (p 0) 9))) (v := .ref (p 4)) rfl (nt_gfR rfl (mw_R (hp.1 (0, 27, 4) (by decide)))) k
  have k := ly_revb 2 (c' := (112, [(0, .ref (p 0)), (1, .int (J (p 4) 9)), (2, .int w2)], [.ref (p 0), .int (Int32.ofInt 3), .ref (p 4)], me_w M (nt_u (nt_u (nt_u (x166F_56 p (J (p 4) 9) ((Int32.ofInt 212).toNatClampNeg) (Int32.ofInt 0) J) (p 4) 0 (J (p 0) 7)) (p 4) 1 (J (p 0) 8)) (p 4) 2 (J (p 0) 9)))) rfl k
  have k := lz_get (a := (p 0)) (g := 1110) (M := me_w M (nt_u (nt_u (nt_u (x166F_56 p (J (p 4) 9) ((Int32.ofInt 212).toNatClampNeg) (Int32.ofInt 0) J) (p 4) 0 (J (p 0) 7)) (p 4) 1 (J (p 0) 8)) (p 4) 2 (J (p 0) 9))) (v := .int (J (p 0) 10)) rfl (mw_gI (by decide) ((mu_j (hp.2.1 0 4 (by omega) (by omega) (by decide))).trans ((mu_j (hp.2.1 0 4 (by omega) (by omega) (by decide))).trans ((mu_j (hp.2.1 0 4 (by omega) (by omega) (by decide))).trans (congrFun (x166F_56_frJ _ _ _ (hp.2.1 0 4 (by omega) (by omega) (by decide))) 10))))) k
  have k := mx_iast (q := 3) rfl (show (Int32.ofInt 3).toNatClampNeg = 3 from rfl) k
  have k : nt_rn X _ 166 (116, [(0, .ref (p 0)), (1, .int (J (p 4) 9)), (2, .int w2)], [], me_w M (nt_u (nt_u (nt_u (nt_u (x166F_56 p (J (p 4) 9) ((Int32.ofInt 212).toNatClampNeg) (Int32.ofInt 0) J) (p 4) 0 (J (p 0) 7)) (p 4) 1 (J (p 0) 8)) (p 4) 2 (J (p 0) 9)) (p 4) 3 (J (p 0) 10))) _ := k
  have k := ly_revb 1 (c' := (117, [(0, .ref (p 0)), (1, .int (J (p 4) 9)), (2, .int w2)], [.ref (p 0)], me_w M (nt_u (nt_u (nt_u (nt_u (x166F_56 p (J (p 4) 9) ((Int32.ofInt 212).toNatClampNeg) (Int32.ofInt 0) J) (p 4) 0 (J (p 0) 7)) (p 4) 1 (J (p 0) 8)) (p 4) 2 (J (p 0) 9)) (p 4) 3 (J (p 0) 10)))) rfl k
  have k := lz_get (a := (p 0)) (g := 1127) (M := me_w M (nt_u (nt_u (nt_u (nt_u (x166F_56 p (J (p 4) 9) ((Int32.ofInt 212).toNatClampNeg) (Int32.ofInt 0) J) (p 4) 0 (J (p 0) 7)) (p 4) 1 (J (p 0) 8)) (p 4) 2 (J (p 0) 9)) (p 4) 3 (J (p 0) 10))) (v := .ref (p 4)) rfl (nt_gfR rfl (mw_R (hp.1 (0, 27, 4) (by decide)))) k
  have k := ly_revb 2 (c' := (122, [(0, .ref (p 0)), (1, .int (J (p 4) 9)), (2, .int w2)], [.ref (p 0), .int (Int32.ofInt 5), .ref (p 4)], me_w M (nt_u (nt_u (nt_u (nt_u (x166F_56 p (J (p 4) 9) ((Int32.ofInt 212).toNatClampNeg) (Int32.ofInt 0) J) (p 4) 0 (J (p 0) 7)) (p 4) 1 (J (p 0) 8)) (p 4) 2 (J (p 0) 9)) (p 4) 3 (J (p 0) 10)))) rfl k
  have k := lz_get (a := (p 0)) (g := 1111) (M := me_w M (nt_u (nt_u (nt_u (nt_u (x166F_56 p (J (p 4) 9) ((Int32.ofInt 212).toNatClampNeg) (Int32.ofInt 0) J) (p 4) 0 (J (p 0) 7)) (p 4) 1 (J (p 0) 8)) (p 4) 2 (J (p 0) 9)) (p 4) 3 (J (p 0) 10))) (v := .int (J (p 0) 11)) rfl (mw_gI (by decide) ((mu_j (hp.2.1 0 4 (by omega) (by omega) (by decide))).trans ((mu_j (hp.2.1 0 4 (by omega) (by omega) (by decide))).trans ((mu_j (hp.2.1 0 4 (by omega) (by omega) (by decide))).trans ((mu_j (hp.2.1 0 4 (by omega) (by omega) (by decide))).trans (congrFun (x166F_56_frJ _ _ _ (hp.2.1 0 4 (by omega) (by omega) (by decide))) 11)))))) k
  have k := ly_revb 1 (c' := (if 0 ≤ (J (p 0) 11) then 133 else 128, [(0, .ref (p 0)), (1, .int (J (p 4) 9)), (2, .int w2)], [.int (Int32.ofInt 5), .ref (p 4)], me_w M (nt_u (nt_u (nt_u (nt_u (x166F_56 p (J (p 4) 9) ((Int32.ofInt 212).toNatClampNeg) (Int32.ofInt 0) J) (p 4) 0 (J (p 0) 7)) (p 4) 1 (J (p 0) 8)) (p 4) 2 (J (p 0) 9)) (p 4) 3 (J (p 0) 10)))) rfl k
  by_cases h125 : 0 ≤ (J (p 0) 11)
  · rw [if_pos h125] at k
    have k := ly_revb 1 (c' := (134, [(0, .ref (p 0)), (1, .int (J (p 4) 9)), (2, .int w2)], [.ref (p 0), .int (Int32.ofInt 5), .ref (p 4)], me_w M (nt_u (nt_u (nt_u (nt_u (x166F_56 p (J (p 4) 9) ((Int32.ofInt 212).toNatClampNeg) (Int32.ofInt 0) J) (p 4) 0 (J (p 0) 7)) (p 4) 1 (J (p 0) 8)) (p 4) 2 (J (p 0) 9)) (p 4) 3 (J (p 0) 10)))) rfl k
    have k := lz_get (a := (p 0)) (g := 1111) (M := me_w M (nt_u (nt_u (nt_u (nt_u (x166F_56 p (J (p 4) 9) ((Int32.ofInt 212).toNatClampNeg) (Int32.ofInt 0) J) (p 4) 0 (J (p 0) 7)) (p 4) 1 (J (p 0) 8)) (p 4) 2 (J (p 0) 9)) (p 4) 3 (J (p 0) 10))) (v := .int (J (p 0) 11)) rfl (mw_gI (by decide) ((mu_j (hp.2.1 0 4 (by omega) (by omega) (by decide))).trans ((mu_j (hp.2.1 0 4 (by omega) (by omega) (by decide))).trans ((mu_j (hp.2.1 0 4 (by omega) (by omega) (by decide))).trans ((mu_j (hp.2.1 0 4 (by omega) (by omega) (by decide))).trans (congrFun (x166F_56_frJ _ _ _ (hp.2.1 0 4 (by omega) (by omega) (by decide))) 11)))))) k
    have k := mx_iast (q := 5) rfl (show (Int32.ofInt 5).toNatClampNeg = 5 from rfl) k
    have k : nt_rn X _ 166 (138, [(0, .ref (p 0)), (1, .int (J (p 4) 9)), (2, .int w2)], [], me_w M (nt_u (nt_u (nt_u (nt_u (nt_u (x166F_56 p (J (p 4) 9) ((Int32.ofInt 212).toNatClampNeg) (Int32.ofInt 0) J) (p 4) 0 (J (p 0) 7)) (p 4) 1 (J (p 0) 8)) (p 4) 2 (J (p 0) 9)) (p 4) 3 (J (p 0) 10)) (p 4) 5 (J (p 0) 11))) _ := k
    have k := ly_revb 1 (c' := (139, [(0, .ref (p 0)), (1, .int (J (p 4) 9)), (2, .int w2)], [.ref (p 0)], me_w M (nt_u (nt_u (nt_u (nt_u (nt_u (x166F_56 p (J (p 4) 9) ((Int32.ofInt 212).toNatClampNeg) (Int32.ofInt 0) J) (p 4) 0 (J (p 0) 7)) (p 4) 1 (J (p 0) 8)) (p 4) 2 (J (p 0) 9)) (p 4) 3 (J (p 0) 10)) (p 4) 5 (J (p 0) 11)))) rfl k
    have k := lz_get (a := (p 0)) (g := 1127) (M := me_w M (nt_u (nt_u (nt_u (nt_u (nt_u (x166F_56 p (J (p 4) 9) ((Int32.ofInt 212).toNatClampNeg) (Int32.ofInt 0) J) (p 4) 0 (J (p 0) 7)) (p 4) 1 (J (p 0) 8)) (p 4) 2 (J (p 0) 9)) (p 4) 3 (J (p 0) 10)) (p 4) 5 (J (p 0) 11))) (v := .ref (p 4)) rfl (nt_gfR rfl (mw_R (hp.1 (0, 27, 4) (by decide)))) k
    have k := ly_revb 2 (c' := (145, [(0, .ref (p 0)), (1, .int (J (p 4) 9)), (2, .int w2)], [.int (J (p 4) 9), .int (Int32.ofInt 9), .ref (p 4)], me_w M (nt_u (nt_u (nt_u (nt_u (nt_u (x166F_56 p (J (p 4) 9) ((Int32.ofInt 212).toNatClampNeg) (Int32.ofInt 0) J) (p 4) 0 (J (p 0) 7)) (p 4) 1 (J (p 0) 8)) (p 4) 2 (J (p 0) 9)) (p 4) 3 (J (p 0) 10)) (p 4) 5 (J (p 0) 11)))) rfl k
    have k := mx_iast (q := 9) rfl (show (Int32.ofInt 9).toNatClampNeg = 9 from rfl) k
    have k : nt_rn X _ 166 (146, [(0, .ref (p 0)), (1, .int (J (p 4) 9)), (2, .int w2)], [], me_w M (nt_u (nt_u (nt_u (nt_u (nt_u (nt_u (x166F_56 p (J (p 4) 9) ((Int32.ofInt 212).toNatClampNeg) (Int32.ofInt 0) J) (p 4) 0 (J (p 0) 7)) (p 4) 1 (J (p 0) 8)) (p 4) 2 (J (p 0) 9)) (p 4) 3 (J (p 0) 10)) (p 4) 5 (J (p 0) 11)) (p 4) 9 (J (p 4) 9))) _ := k
    have k := ly_revb 2 (c' := (148, [(2, .int (Int32.ofInt 0)), (0, .ref (p 0)), (1, .int (J (p 4) 9))], [], me_w M (nt_u (nt_u (nt_u (nt_u (nt_u (nt_u (x166F_56 p (J (p 4) 9) ((Int32.ofInt 212).toNatClampNeg) (Int32.ofInt 0) J) (p 4) 0 (J (p 0) 7)) (p 4) 1 (J (p 0) 8)) (p 4) 2 (J (p 0) 9)) (p 4) 3 (J (p 0) 10)) (p 4) 5 (J (p 0) 11)) (p 4) 9 (J (p 4) 9)))) rfl k
    have k := nt_rn_w (a := [(2, .int (Int32.ofInt 0)), (0, .ref (p 0)), (1, .int (J (p 4) 9))]) (b := [(0, .ref (p 0)), (1, .int (J (p 4) 9)), (2, .int (Int32.ofInt 0)), (3, .int (Int32.ofInt 0))]) ⟨rfl, rfl, rfl, trivial⟩ rfl k
    have k := xt166F_148 hp  (((nt_u (nt_u (nt_u (nt_u (nt_u (nt_u (x166F_56 p (J (p 4) 9) ((Int32.ofInt 212).toNatClampNeg) (Int32.ofInt 0) J) (p 4) 0 (J (p 0) 7)) (p 4) 1 (J (p 0) 8)) (p 4) 2 (J (p 0) 9)) (p 4) 3 (J (p 0) 10)) (p 4) 5 (J (p 0) 11)) (p 4) 9 (J (p 4) 9)) (p 0) 8).toNatClampNeg) (Int32.ofInt 0) (Int32.ofInt 0) (nt_u (nt_u (nt_u (nt_u (nt_u (nt_u (x166F_56 p (J (p 4) 9) ((Int32.ofInt 212).toNatClampNeg) (Int32.ofInt 0) J) (p 4) 0 (J (p 0) 7)) (p 4) 1 (J (p 0) 8)) (p 4) 2 (J (p 0) 9)) (p 4) 3 (J (p 0) 10)) (p 4) 5 (J (p 0) 11)) (p 4) 9 (J (p 4) 9)) (lx_beg (by decide)) k
    obtain ⟨w2, w3, k⟩ := k
    have k : nt_rn X _ 166 (217, [(0, .ref (p 0)), (1, .int (J (p 4) 9)), (2, .int w2), (3, .int w3)], [], me_w M (x166F_148 p (((nt_u (nt_u (nt_u (nt_u (nt_u (nt_u (x166F_56 p (J (p 4) 9) ((Int32.ofInt 212).toNatClampNeg) (Int32.ofInt 0) J) (p 4) 0 (J (p 0) 7)) (p 4) 1 (J (p 0) 8)) (p 4) 2 (J (p 0) 9)) (p 4) 3 (J (p 0) 10)) (p 4) 5 (J (p 0) 11)) (p 4) 9 (J (p 4) 9)) (p 0) 8).toNatClampNeg) (Int32.ofInt 0) (nt_u (nt_u (nt_u (nt_u (nt_u (nt_u (x166F_56 p (J (p 4) 9) ((Int32.ofInt 212).toNatClampNeg) (Int32.ofInt 0) J) (p 4) 0 (J (p 0) 7)) (p 4) 1 (J (p 0) 8)) (p 4) 2 (J (p 0) 9)) (p 4) 3 (J (p 0) 10)) (p 4) 5 (J (p 0) 11)) (p 4) 9 (J (p 4) 9)))) _ := k
    have k := ly_revb 2 (c' := (219, [(2, .int (Int32.ofInt 0)), (0, .ref (p 0)), (1, .int (J (p 4) 9)), (3, .int w3)], [], me_w M (x166F_148 p (((nt_u (nt_u (nt_u (nt_u (nt_u (nt_u (x166F_56 p (J (p 4) 9) ((Int32.ofInt 212).toNatClampNeg) (Int32.ofInt 0) J) (p 4) 0 (J (p 0) 7)) (p 4) 1 (J (p 0) 8)) (p 4) 2 (J (p 0) 9)) (p 4) 3 (J (p 0) 10)) (p 4) 5 (J (p 0) 11)) (p 4) 9 (J (p 4) 9)) (p 0) 8).toNatClampNeg) (Int32.ofInt 0) (nt_u (nt_u (nt_u (nt_u (nt_u (nt_u (x166F_56 p (J (p 4) 9) ((Int32.ofInt 212).toNatClampNeg) (Int32.ofInt 0) J) (p 4) 0 (J (p 0) 7)) (p 4) 1 (J (p 0) 8)) (p 4) 2 (J (p 0) 9)) (p 4) 3 (J (p 0) 10)) (p 4) 5 (J (p 0) 11)) (p 4) 9 (J (p 4) 9))))) rfl k
    have k := nt_rn_w (a := [(2, .int (Int32.ofInt 0)), (0, .ref (p 0)), (1, .int (J (p 4) 9)), (3, .int w3)]) (b := [(0, .ref (p 0)), (1, .int (J (p 4) 9)), (2, .int (Int32.ofInt 0)), (3, .int w3)]) ⟨rfl, rfl, rfl, rfl, trivial⟩ rfl k
    have k := xt166F_219 hp  (((x166F_148 p (((nt_u (nt_u (nt_u (nt_u (nt_u (nt_u (x166F_56 p (J (p 4) 9) ((Int32.ofInt 212).toNatClampNeg) (Int32.ofInt 0) J) (p 4) 0 (J (p 0) 7)) (p 4) 1 (J (p 0) 8)) (p 4) 2 (J (p 0) 9)) (p 4) 3 (J (p 0) 10)) (p 4) 5 (J (p 0) 11)) (p 4) 9 (J (p 4) 9)) (p 0) 8).toNatClampNeg) (Int32.ofInt 0) (nt_u (nt_u (nt_u (nt_u (nt_u (nt_u (x166F_56 p (J (p 4) 9) ((Int32.ofInt 212).toNatClampNeg) (Int32.ofInt 0) J) (p 4) 0 (J (p 0) 7)) (p 4) 1 (J (p 0) 8)) (p 4) 2 (J (p 0) 9)) (p 4) 3 (J (p 0) 10)) (p 4) 5 (J (p 0) 11)) (p 4) 9 (J (p 4) 9))) (p 0) 9).toNatClampNeg) (Int32.ofInt 0) w3 (x166F_148 p (((nt_u (nt_u (nt_u (nt_u (nt_u (nt_u (x166F_56 p (J (p 4) 9) ((Int32.ofInt 212).toNatClampNeg) (Int32.ofInt 0) J) (p 4) 0 (J (p 0) 7)) (p 4) 1 (J (p 0) 8)) (p 4) 2 (J (p 0) 9)) (p 4) 3 (J (p 0) 10)) (p 4) 5 (J (p 0) 11)) (p 4) 9 (J (p 4) 9)) (p 0) 8).toNatClampNeg) (Int32.ofInt 0) (nt_u (nt_u (nt_u (nt_u (nt_u (nt_u (x166F_56 p (J (p 4) 9) ((Int32.ofInt 212).toNatClampNeg) (Int32.ofInt 0) J) (p 4) 0 (J (p 0) 7)) (p 4) 1 (J (p 0) 8)) (p 4) 2 (J (p 0) 9)) (p 4) 3 (J (p 0) 10)) (p 4) 5 (J (p 0) 11)) (p 4) 9 (J (p 4) 9))) (lx_beg (by decide)) k
    obtain ⟨w2, w3, k⟩ := k
    have k : nt_rn X _ 166 (283, [(0, .ref (p 0)), (1, .int (J (p 4) 9)), (2, .int w2), (3, .int w3)], [], me_w M (x166F_219 p (((x166F_148 p (((nt_u (nt_u (nt_u (nt_u (nt_u (nt_u (x166F_56 p (J (p 4) 9) ((Int32.ofInt 212).toNatClampNeg) (Int32.ofInt 0) J) (p 4) 0 (J (p 0) 7)) (p 4) 1 (J (p 0) 8)) (p 4) 2 (J (p 0) 9)) (p 4) 3 (J (p 0) 10)) (p 4) 5 (J (p 0) 11)) (p 4) 9 (J (p 4) 9)) (p 0) 8).toNatClampNeg) (Int32.ofInt 0) (nt_u (nt_u (nt_u (nt_u (nt_u (nt_u (x166F_56 p (J (p 4) 9) ((Int32.ofInt 212).toNatClampNeg) (Int32.ofInt 0) J) (p 4) 0 (J (p 0) 7)) (p 4) 1 (J (p 0) 8)) (p 4) 2 (J (p 0) 9)) (p 4) 3 (J (p 0) 10)) (p 4) 5 (J (p 0) 11)) (p 4) 9 (J (p 4) 9))) (p 0) 9).toNatClampNeg) (Int32.ofInt 0) (x166F_148 p (((nt_u (nt_u (nt_u (nt_u (nt_u (nt_u (x166F_56 p (J (p 4) 9) ((Int32.ofInt 212).toNatClampNeg) (Int32.ofInt 0) J) (p 4) 0 (J (p 0) 7)) (p 4) 1 (J (p 0) 8)) (p 4) 2 (J (p 0) 9)) (p 4) 3 (J (p 0) 10)) (p 4) 5 (J (p 0) 11)) (p 4) 9 (J (p 4) 9)) (p 0) 8).toNatClampNeg) (Int32.ofInt 0) (nt_u (nt_u (nt_u (nt_u (nt_u (nt_u (x166F_56 p (J (p 4) 9) ((Int32.ofInt 212).toNatClampNeg) (Int32.ofInt 0) J) (p 4) 0 (J (p 0) 7)) (p 4) 1 (J (p 0) 8)) (p 4) 2 (J (p 0) 9)) (p 4) 3 (J (p 0) 10)) (p 4) 5 (J (p 0) 11)) (p 4) 9 (J (p 4) 9))))) _ := k
    have k := ly_revb 2 (c' := (285, [(2, .int (Int32.ofInt 0)), (0, .ref (p 0)), (1, .int (J (p 4) 9)), (3, .int w3)], [], me_w M (x166F_219 p (((x166F_148 p (((nt_u (nt_u (nt_u (nt_u (nt_u (nt_u (x166F_56 p (J (p 4) 9) ((Int32.ofInt 212).toNatClampNeg) (Int32.ofInt 0) J) (p 4) 0 (J (p 0) 7)) (p 4) 1 (J (p 0) 8)) (p 4) 2 (J (p 0) 9)) (p 4) 3 (J (p 0) 10)) (p 4) 5 (J (p 0) 11)) (p 4) 9 (J (p 4) 9)) (p 0) 8).toNatClampNeg) (Int32.ofInt 0) (nt_u (nt_u (nt_u (nt_u (nt_u (nt_u (x166F_56 p (J (p 4) 9) ((Int32.ofInt 212).toNatClampNeg) (Int32.ofInt 0) J) (p 4) 0 (J (p 0) 7)) (p 4) 1 (J (p 0) 8)) (p 4) 2 (J (p 0) 9)) (p 4) 3 (J (p 0) 10)) (p 4) 5 (J (p 0) 11)) (p 4) 9 (J (p 4) 9))) (p 0) 9).toNatClampNeg) (Int32.ofInt 0) (x166F_148 p (((nt_u (nt_u (nt_u (nt_u (nt_u (nt_u (x166F_56 p (J (p 4) 9) ((Int32.ofInt 212).toNatClampNeg) (Int32.ofInt 0) J) (p 4) 0 (J (p 0) 7)) (p 4) 1 (J (p 0) 8)) (p 4) 2 (J (p 0) 9)) (p 4) 3 (J (p 0) 10)) (p 4) 5 (J (p 0) 11)) (p 4) 9 (J (p 4) 9)) (p 0) 8).toNatClampNeg) (Int32.ofInt 0) (nt_u (nt_u (nt_u (nt_u (nt_u (nt_u (x166F_56 p (J (p 4) 9) ((Int32.ofInt 212).toNatClampNeg) (Int32.ofInt 0) J) (p 4) 0 (J (p 0) 7)) (p 4) 1 (J (p 0) 8)) (p 4) 2 (J (p 0) 9)) (p 4) 3 (J (p 0) 10)) (p 4) 5 (J (p 0) 11)) (p 4) 9 (J (p 4) 9)))))) rfl k
    have k := nt_rn_w (a := [(2, .int (Int32.ofInt 0)), (0, .ref (p 0)), (1, .int (J (p 4) 9)), (3, .int w3)]) (b := [(0, .ref (p 0)), (1, .int (J (p 4) 9)), (2, .int (Int32.ofInt 0)), (3, .int w3)]) ⟨rfl, rfl, rfl, rfl, trivial⟩ rfl k
    have k := xt166F_285 hp  (((x166F_219 p (((x166F_148 p (((nt_u (nt_u (nt_u (nt_u (nt_u (nt_u (x166F_56 p (J (p 4) 9) ((Int32.ofInt 212).toNatClampNeg) (Int32.ofInt 0) J) (p 4) 0 (J (p 0) 7)) (p 4) 1 (J (p 0) 8)) (p 4) 2 (J (p 0) 9)) (p 4) 3 (J (p 0) 10)) (p 4) 5 (J (p 0) 11)) (p 4) 9 (J (p 4) 9)) (p 0) 8).toNatClampNeg) (Int32.ofInt 0) (nt_u (nt_u (nt_u (nt_u (nt_u (nt_u (x166F_56 p (J (p 4) 9) ((Int32.ofInt 212).toNatClampNeg) (Int32.ofInt 0) J) (p 4) 0 (J (p 0) 7)) (p 4) 1 (J (p 0) 8)) (p 4) 2 (J (p 0) 9)) (p 4) 3 (J (p 0) 10)) (p 4) 5 (J (p 0) 11)) (p 4) 9 (J (p 4) 9))) (p 0) 9).toNatClampNeg) (Int32.ofInt 0) (x166F_148 p (((nt_u (nt_u (nt_u (nt_u (nt_u (nt_u (x166F_56 p (J (p 4) 9) ((Int32.ofInt 212).toNatClampNeg) (Int32.ofInt 0) J) (p 4) 0 (J (p 0) 7)) (p 4) 1 (J (p 0) 8)) (p 4) 2 (J (p 0) 9)) (p 4) 3 (J (p 0) 10)) (p 4) 5 (J (p 0) 11)) (p 4) 9 (J (p 4) 9)) (p 0) 8).toNatClampNeg) (Int32.ofInt 0) (nt_u (nt_u (nt_u (nt_u (nt_u (nt_u (x166F_56 p (J (p 4) 9) ((Int32.ofInt 212).toNatClampNeg) (Int32.ofInt 0) J) (p 4) 0 (J (p 0) 7)) (p 4) 1 (J (p 0) 8)) (p 4) 2 (J (p 0) 9)) (p 4) 3 (J (p 0) 10)) (p 4) 5 (J (p 0) 11)) (p 4) 9 (J (p 4) 9)))) (p 0) 10).toNatClampNeg) (Int32.ofInt 0) w3 (x166F_219 p (((x166F_148 p (((nt_u (nt_u (nt_u (nt_u (nt_u (nt_u (x166F_56 p (J (p 4) 9) ((Int32.ofInt 212).toNatClampNeg) (Int32.ofInt 0) J) (p 4) 0 (J (p 0) 7)) (p 4) 1 (J (p 0) 8)) (p 4) 2 (J (p 0) 9)) (p 4) 3 (J (p 0) 10)) (p 4) 5 (J (p 0) 11)) (p 4) 9 (J (p 4) 9)) (p 0) 8).toNatClampNeg) (Int32.ofInt 0) (nt_u (nt_u (nt_u (nt_u (nt_u (nt_u (x166F_56 p (J (p 4) 9) ((Int32.ofInt 212).toNatClampNeg) (Int32.ofInt 0) J) (p 4) 0 (J (p 0) 7)) (p 4) 1 (J (p 0) 8)) (p 4) 2 (J (p 0) 9)) (p 4) 3 (J (p 0) 10)) (p 4) 5 (J (p 0) 11)) (p 4) 9 (J (p 4) 9))) (p 0) 9).toNatClampNeg) (Int32.ofInt 0) (x166F_148 p (((nt_u (nt_u (nt_u (nt_u (nt_u (nt_u (x166F_56 p (J (p 4) 9) ((Int32.ofInt 212).toNatClampNeg) (Int32.ofInt 0) J) (p 4) 0 (J (p 0) 7)) (p 4) 1 (J (p 0) 8)) (p 4) 2 (J (p 0) 9)) (p 4) 3 (J (p 0) 10)) (p 4) 5 (J (p 0) 11)) (p 4) 9 (J (p 4) 9)) (p 0) 8).toNatClampNeg) (Int32.ofInt 0) (nt_u (nt_u (nt_u (nt_u (nt_u (nt_u (x166F_56 p (J (p 4) 9) ((Int32.ofInt 212).toNatClampNeg) (Int32.ofInt 0) J) (p 4) 0 (J (p 0) 7)) (p 4) 1 (J (p 0) 8)) (p 4) 2 (J (p 0) 9)) (p 4) 3 (J (p 0) 10)) (p 4) 5 (J (p 0) 11)) (p 4) 9 (J (p 4) 9)))) (lx_beg (by decide)) k
    obtain ⟨w2, w3, k⟩ := k
    have k : nt_rn X _ 166 (336, [(0, .ref (p 0)), (1, .int (J (p 4) 9)), (2, .int w2), (3, .int w3)], [], me_w M (x166F_285 p (((x166F_219 p (((x166F_148 p (((nt_u (nt_u (nt_u (nt_u (nt_u (nt_u (x166F_56 p (J (p 4) 9) ((Int32.ofInt 212).toNatClampNeg) (Int32.ofInt 0) J) (p 4) 0 (J (p 0) 7)) (p 4) 1 (J (p 0) 8)) (p 4) 2 (J (p 0) 9)) (p 4) 3 (J (p 0) 10)) (p 4) 5 (J (p 0) 11)) (p 4) 9 (J (p 4) 9)) (p 0) 8).toNatClampNeg) (Int32.ofInt 0) (nt_u (nt_u (nt_u (nt_u (nt_u (nt_u (x166F_56 p (J (p 4) 9) ((Int32.ofInt 212).toNatClampNeg) (Int32.ofInt 0) J) (p 4) 0 (J (p 0) 7)) (p 4) 1 (J (p 0) 8)) (p 4) 2 (J (p 0) 9)) (p 4) 3 (J (p 0) 10)) (p 4) 5 (J (p 0) 11)) (p 4) 9 (J (p 4) 9))) (p 0) 9).toNatClampNeg) (Int32.ofInt 0) (x166F_148 p (((nt_u (nt_u (nt_u (nt_u (nt_u (nt_u (x166F_56 p (J (p 4) 9) ((Int32.ofInt 212).toNatClampNeg) (Int32.ofInt 0) J) (p 4) 0 (J (p 0) 7)) (p 4) 1 (J (p 0) 8)) (p 4) 2 (J (p 0) 9)) (p 4) 3 (J (p 0) 10)) (p 4) 5 (J (p 0) 11)) (p 4) 9 (J (p 4) 9)) (p 0) 8).toNatClampNeg) (Int32.ofInt 0) (nt_u (nt_u (nt_u (nt_u (nt_u (nt_u (x166F_56 p (J (p 4) 9) ((Int32.ofInt 212).toNatClampNeg) (Int32.ofInt 0) J) (p 4) 0 (J (p 0) 7)) (p 4) 1 (J (p 0) 8)) (p 4) 2 (J (p 0) 9)) (p 4) 3 (J (p 0) 10)) (p 4) 5 (J (p 0) 11)) (p 4) 9 (J (p 4) 9)))) (p 0) 10).toNatClampNeg) (Int32.ofInt 0) (x166F_219 p (((x166F_148 p (((nt_u (nt_u (nt_u (nt_u (nt_u (nt_u (x166F_56 p (J (p 4) 9) ((Int32.ofInt 212).toNatClampNeg) (Int32.ofInt 0) J) (p 4) 0 (J (p 0) 7)) (p 4) 1 (J (p 0) 8)) (p 4) 2 (J (p 0) 9)) (p 4) 3 (J (p 0) 10)) (p 4) 5 (J (p 0) 11)) (p 4) 9 (J (p 4) 9)) (p 0) 8).toNatClampNeg) (Int32.ofInt 0) (nt_u (nt_u (nt_u (nt_u (nt_u (nt_u (x166F_56 p (J (p 4) 9) ((Int32.ofInt 212).toNatClampNeg) (Int32.ofInt 0) J) (p 4) 0 (J (p 0) 7)) (p 4) 1 (J (p 0) 8)) (p 4) 2 (J (p 0) 9)) (p 4) 3 (J (p 0) 10)) (p 4) 5 (J (p 0) 11)) (p 4) 9 (J (p 4) 9))) (p 0) 9).toNatClampNeg) (Int32.ofInt 0) (x166F_148 p (((nt_u (nt_u (nt_u (nt_u (nt_u (nt_u (x166F_56 p (J (p 4) 9) ((Int32.ofInt 212).toNatClampNeg) (Int32.ofInt 0) J) (p 4) 0 (J (p 0) 7)) (p 4) 1 (J (p 0) 8)) (p 4) 2 (J (p 0) 9)) (p 4) 3 (J (p 0) 10)) (p 4) 5 (J (p 0) 11)) (p 4) 9 (J (p 4) 9)) (p 0) 8).toNatClampNeg) (Int32.ofInt 0) (nt_u (nt_u (nt_u (nt_u (nt_u (nt_u (x166F_56 p (J (p 4) 9) ((Int32.ofInt 212).toNatClampNeg) (Int32.ofInt 0) J) (p 4) 0 (J (p 0) 7)) (p 4) 1 (J (p 0) 8)) (p 4) 2 (J (p 0) 9)) (p 4) 3 (J (p 0) 10)) (p 4) 5 (J (p 0) 11)) (p 4) 9 (J (p 4) 9)))))) _ := k
    have k := ly_revb 1 (c' := (337, [(0, .ref (p 0)), (1, .int (J (p 4) 9)), (2, .int w2), (3, .int w3)], [.ref (p 0)], me_w M (x166F_285 p (((x166F_219 p (((x166F_148 p (((nt_u (nt_u (nt_u (nt_u (nt_u (nt_u (x166F_56 p (J (p 4) 9) ((Int32.ofInt 212).toNatClampNeg) (Int32.ofInt 0) J) (p 4) 0 (J (p 0) 7)) (p 4) 1 (J (p 0) 8)) (p 4) 2 (J (p 0) 9)) (p 4) 3 (J (p 0) 10)) (p 4) 5 (J (p 0) 11)) (p 4) 9 (J (p 4) 9)) (p 0) 8).toNatClampNeg) (Int32.ofInt 0) (nt_u (nt_u (nt_u (nt_u (nt_u (nt_u (x166F_56 p (J (p 4) 9) ((Int32.ofInt 212).toNatClampNeg) (Int32.ofInt 0) J) (p 4) 0 (J (p 0) 7)) (p 4) 1 (J (p 0) 8)) (p 4) 2 (J (p 0) 9)) (p 4) 3 (J (p 0) 10)) (p 4) 5 (J (p 0) 11)) (p 4) 9 (J (p 4) 9))) (p 0) 9).toNatClampNeg) (Int32.ofInt 0) (x166F_148 p (((nt_u (nt_u (nt_u (nt_u (nt_u (nt_u (x166F_56 p (J (p 4) 9) ((Int32.ofInt 212).toNatClampNeg) (Int32.ofInt 0) J) (p 4) 0 (J (p 0) 7)) (p 4) 1 (J (p 0) 8)) (p 4) 2 (J (p 0) 9)) (p 4) 3 (J (p 0) 10)) (p 4) 5 (J (p 0) 11)) (p 4) 9 (J (p 4) 9)) (p 0) 8).toNatClampNeg) (Int32.ofInt 0) (nt_u (nt_u (nt_u (nt_u (nt_u (nt_u (x166F_56 p (J (p 4) 9) ((Int32.ofInt 212).toNatClampNeg) (Int32.ofInt 0) J) (p 4) 0 (J (p 0) 7)) (p 4) 1 (J (p 0) 8)) (p 4) 2 (J (p 0) 9)) (p 4) 3 (J (p 0) 10)) (p 4) 5 (J (p 0) 11)) (p 4) 9 (J (p 4) 9)))) (p 0) 10).toNatClampNeg) (Int32.ofInt 0) (x166F_219 p (((x166F_148 p (((nt_u (nt_u (nt_u (nt_u (nt_u (nt_u (x166F_56 p (J (p 4) 9) ((Int32.ofInt 212).toNatClampNeg) (Int32.ofInt 0) J) (p 4) 0 (J (p 0) 7)) (p 4) 1 (J (p 0) 8)) (p 4) 2 (J (p 0) 9)) (p 4) 3 (J (p 0) 10)) (p 4) 5 (J (p 0) 11)) (p 4) 9 (J (p 4) 9)) (p 0) 8).toNatClampNeg) (Int32.ofInt 0) (nt_u (nt_u (nt_u (nt_u (nt_u (nt_u (x166F_56 p (J (p 4) 9) ((Int32.ofInt 212).toNatClampNeg) (Int32.ofInt 0) J) (p 4) 0 (J (p 0) 7)) (p 4) 1 (J (p 0) 8)) (p 4) 2 (J (p 0) 9)) (p 4) 3 (J (p 0) 10)) (p 4) 5 (J (p 0) 11)) (p 4) 9 (J (p 4) 9))) (p 0) 9).toNatClampNeg) (Int32.ofInt 0) (x166F_148 p (((nt_u (nt_u (nt_u (nt_u (nt_u (nt_u (x166F_56 p (J (p 4) 9) ((Int32.ofInt 212).toNatClampNeg) (Int32.ofInt 0) J) (p 4) 0 (J (p 0) 7)) (p 4) 1 (J (p 0) 8)) (p 4) 2 (J (p 0) 9)) (p 4) 3 (J (p 0) 10)) (p 4) 5 (J (p 0) 11)) (p 4) 9 (J (p 4) 9)) (p 0) 8).toNatClampNeg) (Int32.ofInt 0) (nt_u (nt_u (nt_u (nt_u (nt_u (nt_u (x166F_56 p (J (p 4) 9) ((Int32.ofInt 212).toNatClampNeg) (Int32.ofInt 0) J) (p 4) 0 (J (p 0) 7)) (p 4) 1 (J (p 0) 8)) (p 4) 2 (J (p 0) 9)) (p 4) 3 (J (p 0) 10)) (p 4) 5 (J (p 0) 11)) (p 4) 9 (J (p 4) 9))))))) rfl k
    have k := lz_get (a := (p 0)) (g := 1108) (M := me_w M (x166F_285 p (((x166F_219 p (((x166F_148 p (((nt_u (nt_u (nt_u (nt_u (nt_u (nt_u (x166F_56 p (J (p 4) 9) ((Int32.ofInt 212).toNatClampNeg) (Int32.ofInt 0) J) (p 4) 0 (J (p 0) 7)) (p 4) 1 (J (p 0) 8)) (p 4) 2 (J (p 0) 9)) (p 4) 3 (J (p 0) 10)) (p 4) 5 (J (p 0) 11)) (p 4) 9 (J (p 4) 9)) (p 0) 8).toNatClampNeg) (Int32.ofInt 0) (nt_u (nt_u (nt_u (nt_u (nt_u (nt_u (x166F_56 p (J (p 4) 9) ((Int32.ofInt 212).toNatClampNeg) (Int32.ofInt 0) J) (p 4) 0 (J (p 0) 7)) (p 4) 1 (J (p 0) 8)) (p 4) 2 (J (p 0) 9)) (p 4) 3 (J (p 0) 10)) (p 4) 5 (J (p 0) 11)) (p 4) 9 (J (p 4) 9))) (p 0) 9).toNatClampNeg) (Int32.ofInt 0) (x166F_148 p (((nt_u (nt_u (nt_u (nt_u (nt_u (nt_u (x166F_56 p (J (p 4) 9) ((Int32.ofInt 212).toNatClampNeg) (Int32.ofInt 0) J) (p 4) 0 (J (p 0) 7)) (p 4) 1 (J (p 0) 8)) (p 4) 2 (J (p 0) 9)) (p 4) 3 (J (p 0) 10)) (p 4) 5 (J (p 0) 11)) (p 4) 9 (J (p 4) 9)) (p 0) 8).toNatClampNeg) (Int32.ofInt 0) (nt_u (nt_u (nt_u (nt_u (nt_u (nt_u (x166F_56 p (J (p 4) 9) ((Int32.ofInt 212).toNatClampNeg) (Int32.ofInt 0) J) (p 4) 0 (J (p 0) 7)) (p 4) 1 (J (p 0) 8)) (p 4) 2 (J (p 0) 9)) (p 4) 3 (J (p 0) 10)) (p 4) 5 (J (p 0) 11)) (p 4) 9 (J (p 4) 9)))) (p 0) 10).toNatClampNeg) (Int32.ofInt 0) (x166F_219 p (((x166F_148 p (((nt_u (nt_u (nt_u (nt_u (nt_u (nt_u (x166F_56 p (J (p 4) 9) ((Int32.ofInt 212).toNatClampNeg) (Int32.ofInt 0) J) (p 4) 0 (J (p 0) 7)) (p 4) 1 (J (p 0) 8)) (p 4) 2 (J (p 0) 9)) (p 4) 3 (J (p 0) 10)) (p 4) 5 (J (p 0) 11)) (p 4) 9 (J (p 4) 9)) (p 0) 8).toNatClampNeg) (Int32.ofInt 0) (nt_u (nt_u (nt_u (nt_u (nt_u (nt_u (x166F_56 p (J (p 4) 9) ((Int32.ofInt 212).toNatClampNeg) (Int32.ofInt 0) J) (p 4) 0 (J (p 0) 7)) (p 4) 1 (J (p 0) 8)) (p 4) 2 (J (p 0) 9)) (p 4) 3 (J (p 0) 10)) (p 4) 5 (J (p 0) 11)) (p 4) 9 (J (p 4) 9))) (p 0) 9).toNatClampNeg) (Int32.ofInt 0) (x166F_148 p (((nt_u (nt_u (nt_u (nt_u (nt_u (nt_u (x166F_56 p (J (p 4) 9) ((Int32.ofInt 212).toNatClampNeg) (Int32.ofInt 0) J) (p 4) 0 (J (p 0) 7)) (p 4) 1 (J (p 0) 8)) (p 4) 2 (J (p 0) 9)) (p 4) 3 (J (p 0) 10)) (p 4) 5 (J (p 0) 11)) (p 4) 9 (J (p 4) 9)) (p 0) 8).toNatClampNeg) (Int32.ofInt 0) (nt_u (nt_u (nt_u (nt_u (nt_u (nt_u (x166F_56 p (J (p 4) 9) ((Int32.ofInt 212).toNatClampNeg) (Int32.ofInt 0) J) (p 4) 0 (J (p 0) 7)) (p 4) 1 (J (p 0) 8)) (p 4) 2 (J (p 0) 9)) (p 4) 3 (J (p 0) 10)) (p 4) 5 (J (p 0) 11)) (p 4) 9 (J (p 4) 9)))))) (v := .int (J (p 0) 8)) rfl (mw_gI (by decide) ((congrFun (x166F_285_frJ _ _ _ (hp.2.1 0 4 (by omega) (by omega) (by decide))) 8).trans ((congrFun (x166F_219_frJ _ _ _ (hp.2.1 0 4 (by omega) (by omega) (by decide))) 8).trans ((congrFun (x166F_148_frJ _ _ _ (hp.2.1 0 4 (by omega) (by omega) (by decide))) 8).trans ((mu_j (hp.2.1 0 4 (by omega) (by omega) (by decide))).trans ((mu_j (hp.2.1 0 4 (by omega) (by omega) (by decide))).trans ((mu_j (hp.2.1 0 4 (by omega) (by omega) (by decide))).trans ((mu_j (hp.2.1 0 4 (by omega) (by omega) (by decide))).trans ((mu_j (hp.2.1 0 4 (by omega) (by omega) (by decide))).trans ((mu_j (hp.2.1 0 4 (by omega) (by omega) (by decide))).trans (congrFun (x166F_56_frJ _ _ _ (hp.2.1 0 4 (by omega) (by omega) (by decide))) 8))))))))))) k
    have k := lz_ri rfl (by decide) k
    rw [k, x166F, if_pos h125]
  · rw [if_neg h125] at k
    have k := ly_revb 2 (c' := (137, [(0, .ref (p 0)), (1, .int (J (p 4) 9)), (2, .int w2)], [.int (Int32.ofInt 30), .int (Int32.ofInt 5), .ref (p 4)], me_w M (nt_u (nt_u (nt_u (nt_u (x166F_56 p (J (p 4) 9) ((Int32.ofInt 212).toNatClampNeg) (Int32.ofInt 0) J) (p 4) 0 (J (p 0) 7)) (p 4) 1 (J (p 0) 8)) (p 4) 2 (J (p 0) 9)) (p 4) 3 (J (p 0) 10)))) rfl k
    have k := mx_iast (q := 5) rfl (show (Int32.ofInt 5).toNatClampNeg = 5 from rfl) k
    have k : nt_rn X _ 166 (138, [(0, .ref (p 0)), (1, .int (J (p 4) 9)), (2, .int w2)], [], me_w M (nt_u (nt_u (nt_u (nt_u (nt_u (x166F_56 p (J (p 4) 9) ((Int32.ofInt 212).toNatClampNeg) (Int32.ofInt 0) J) (p 4) 0 (J (p 0) 7)) (p 4) 1 (J (p 0) 8)) (p 4) 2 (J (p 0) 9)) (p 4) 3 (J (p 0) 10)) (p 4) 5 (Int32.ofInt 30))) _ := k
    have k := ly_revb 1 (c' := (139, [(0, .ref (p 0)), (1, .int (J (p 4) 9)), (2, .int w2)], [.ref (p 0)], me_w M (nt_u (nt_u (nt_u (nt_u (nt_u (x166F_56 p (J (p 4) 9) ((Int32.ofInt 212).toNatClampNeg) (Int32.ofInt 0) J) (p 4) 0 (J (p 0) 7)) (p 4) 1 (J (p 0) 8)) (p 4) 2 (J (p 0) 9)) (p 4) 3 (J (p 0) 10)) (p 4) 5 (Int32.ofInt 30)))) rfl k
    have k := lz_get (a := (p 0)) (g := 1127) (M := me_w M (nt_u (nt_u (nt_u (nt_u (nt_u (x166F_56 p (J (p 4) 9) ((Int32.ofInt 212).toNatClampNeg) (Int32.ofInt 0) J) (p 4) 0 (J (p 0) 7)) (p 4) 1 (J (p 0) 8)) (p 4) 2 (J (p 0) 9)) (p 4) 3 (J (p 0) 10)) (p 4) 5 (Int32.ofInt 30))) (v := .ref (p 4)) rfl (nt_gfR rfl (mw_R (hp.1 (0, 27, 4) (by decide)))) k
    have k := ly_revb 2 (c' := (145, [(0, .ref (p 0)), (1, .int (J (p 4) 9)), (2, .int w2)], [.int (J (p 4) 9), .int (Int32.ofInt 9), .ref (p 4)], me_w M (nt_u (nt_u (nt_u (nt_u (nt_u (x166F_56 p (J (p 4) 9) ((Int32.ofInt 212).toNatClampNeg) (Int32.ofInt 0) J) (p 4) 0 (J (p 0) 7)) (p 4) 1 (J (p 0) 8)) (p 4) 2 (J (p 0) 9)) (p 4) 3 (J (p 0) 10)) (p 4) 5 (Int32.ofInt 30)))) rfl k
    have k := mx_iast (q := 9) rfl (show (Int32.ofInt 9).toNatClampNeg = 9 from rfl) k
    have k : nt_rn X _ 166 (146, [(0, .ref (p 0)), (1, .int (J (p 4) 9)), (2, .int w2)], [], me_w M (nt_u (nt_u (nt_u (nt_u (nt_u (nt_u (x166F_56 p (J (p 4) 9) ((Int32.ofInt 212).toNatClampNeg) (Int32.ofInt 0) J) (p 4) 0 (J (p 0) 7)) (p 4) 1 (J (p 0) 8)) (p 4) 2 (J (p 0) 9)) (p 4) 3 (J (p 0) 10)) (p 4) 5 (Int32.ofInt 30)) (p 4) 9 (J (p 4) 9))) _ := k
    have k := ly_revb 2 (c' := (148, [(2, .int (Int32.ofInt 0)), (0, .ref (p 0)), (1, .int (J (p 4) 9))], [], me_w M (nt_u (nt_u (nt_u (nt_u (nt_u (nt_u (x166F_56 p (J (p 4) 9) ((Int32.ofInt 212).toNatClampNeg) (Int32.ofInt 0) J) (p 4) 0 (J (p 0) 7)) (p 4) 1 (J (p 0) 8)) (p 4) 2 (J (p 0) 9)) (p 4) 3 (J (p 0) 10)) (p 4) 5 (Int32.ofInt 30)) (p 4) 9 (J (p 4) 9)))) rfl k
    have k := nt_rn_w (a := [(2, .int (Int32.ofInt 0)), (0, .ref (p 0)), (1, .int (J (p 4) 9))]) (b := [(0, .ref (p 0)), (1, .int (J (p 4) 9)), (2, .int (Int32.ofInt 0)), (3, .int (Int32.ofInt 0))]) ⟨rfl, rfl, rfl, trivial⟩ rfl k
    have k := xt166F_148 hp  (((nt_u (nt_u (nt_u (nt_u (nt_u (nt_u (x166F_56 p (J (p 4) 9) ((Int32.ofInt 212).toNatClampNeg) (Int32.ofInt 0) J) (p 4) 0 (J (p 0) 7)) (p 4) 1 (J (p 0) 8)) (p 4) 2 (J (p 0) 9)) (p 4) 3 (J (p 0) 10)) (p 4) 5 (Int32.ofInt 30)) (p 4) 9 (J (p 4) 9)) (p 0) 8).toNatClampNeg) (Int32.ofInt 0) (Int32.ofInt 0) (nt_u (nt_u (nt_u (nt_u (nt_u (nt_u (x166F_56 p (J (p 4) 9) ((Int32.ofInt 212).toNatClampNeg) (Int32.ofInt 0) J) (p 4) 0 (J (p 0) 7)) (p 4) 1 (J (p 0) 8)) (p 4) 2 (J (p 0) 9)) (p 4) 3 (J (p 0) 10)) (p 4) 5 (Int32.ofInt 30)) (p 4) 9 (J (p 4) 9)) (lx_beg (by decide)) k
    obtain ⟨w2, w3, k⟩ := k
    have k : nt_rn X _ 166 (217, [(0, .ref (p 0)), (1, .int (J (p 4) 9)), (2, .int w2), (3, .int w3)], [], me_w M (x166F_148 p (((nt_u (nt_u (nt_u (nt_u (nt_u (nt_u (x166F_56 p (J (p 4) 9) ((Int32.ofInt 212).toNatClampNeg) (Int32.ofInt 0) J) (p 4) 0 (J (p 0) 7)) (p 4) 1 (J (p 0) 8)) (p 4) 2 (J (p 0) 9)) (p 4) 3 (J (p 0) 10)) (p 4) 5 (Int32.ofInt 30)) (p 4) 9 (J (p 4) 9)) (p 0) 8).toNatClampNeg) (Int32.ofInt 0) (nt_u (nt_u (nt_u (nt_u (nt_u (nt_u (x166F_56 p (J (p 4) 9) ((Int32.ofInt 212).toNatClampNeg) (Int32.ofInt 0) J) (p 4) 0 (J (p 0) 7)) (p 4) 1 (J (p 0) 8)) (p 4) 2 (J (p 0) 9)) (p 4) 3 (J (p 0) 10)) (p 4) 5 (Int32.ofInt 30)) (p 4) 9 (J (p 4) 9)))) _ := k
    have k := ly_revb 2 (c' := (219, [(2, .int (Int32.ofInt 0)), (0, .ref (p 0)), (1, .int (J (p 4) 9)), (3, .int w3)], [], me_w M (x166F_148 p (((nt_u (nt_u (nt_u (nt_u (nt_u (nt_u (x166F_56 p (J (p 4) 9) ((Int32.ofInt 212).toNatClampNeg) (Int32.ofInt 0) J) (p 4) 0 (J (p 0) 7)) (p 4) 1 (J (p 0) 8)) (p 4) 2 (J (p 0) 9)) (p 4) 3 (J (p 0) 10)) (p 4) 5 (Int32.ofInt 30)) (p 4) 9 (J (p 4) 9)) (p 0) 8).toNatClampNeg) (Int32.ofInt 0) (nt_u (nt_u (nt_u (nt_u (nt_u (nt_u (x166F_56 p (J (p 4) 9) ((Int32.ofInt 212).toNatClampNeg) (Int32.ofInt 0) J) (p 4) 0 (J (p 0) 7)) (p 4) 1 (J (p 0) 8)) (p 4) 2 (J (p 0) 9)) (p 4) 3 (J (p 0) 10)) (p 4) 5 (Int32.ofInt 30)) (p 4) 9 (J (p 4) 9))))) rfl k
    have k := nt_rn_w (a := [(2, .int (Int32.ofInt 0)), (0, .ref (p 0)), (1, .int (J (p 4) 9)), (3, .int w3)]) (b := [(0, .ref (p 0)), (1, .int (J (p 4) 9)), (2, .int (Int32.ofInt 0)), (3, .int w3)]) ⟨rfl, rfl, rfl, rfl, trivial⟩ rfl k
    have k := xt166F_219 hp  (((x166F_148 p (((nt_u (nt_u (nt_u (nt_u (nt_u (nt_u (x166F_56 p (J (p 4) 9) ((Int32.ofInt 212).toNatClampNeg) (Int32.ofInt 0) J) (p 4) 0 (J (p 0) 7)) (p 4) 1 (J (p 0) 8)) (p 4) 2 (J (p 0) 9)) (p 4) 3 (J (p 0) 10)) (p 4) 5 (Int32.ofInt 30)) (p 4) 9 (J (p 4) 9)) (p 0) 8).toNatClampNeg) (Int32.ofInt 0) (nt_u (nt_u (nt_u (nt_u (nt_u (nt_u (x166F_56 p (J (p 4) 9) ((Int32.ofInt 212).toNatClampNeg) (Int32.ofInt 0) J) (p 4) 0 (J (p 0) 7)) (p 4) 1 (J (p 0) 8)) (p 4) 2 (J (p 0) 9)) (p 4) 3 (J (p 0) 10)) (p 4) 5 (Int32.ofInt 30)) (p 4) 9 (J (p 4) 9))) (p 0) 9).toNatClampNeg) (Int32.ofInt 0) w3 (x166F_148 p (((nt_u (nt_u (nt_u (nt_u (nt_u (nt_u (x166F_56 p (J (p 4) 9) ((Int32.ofInt 212).toNatClampNeg) (Int32.ofInt 0) J) (p 4) 0 (J (p 0) 7)) (p 4) 1 (J (p 0) 8)) (p 4) 2 (J (p 0) 9)) (p 4) 3 (J (p 0) 10)) (p 4) 5 (Int32.ofInt 30)) (p 4) 9 (J (p 4) 9)) (p 0) 8).toNatClampNeg) (Int32.ofInt 0) (nt_u (nt_u (nt_u (nt_u (nt_u (nt_u (x166F_56 p (J (p 4) 9) ((Int32.ofInt 212).toNatClampNeg) (Int32.ofInt 0) J) (p 4) 0 (J (p 0) 7)) (p 4) 1 (J (p 0) 8)) (p 4) 2 (J (p 0) 9)) (p 4) 3 (J (p 0) 10)) (p 4) 5 (Int32.ofInt 30)) (p 4) 9 (J (p 4) 9))) (lx_beg (by decide)) k
    obtain ⟨w2, w3, k⟩ := k
    have k : nt_rn X _ 166 (283, [(0, .ref (p 0)), (1, .int (J (p 4) 9)), (2, .int w2), (3, .int w3)], [], me_w M (x166F_219 p (((x166F_148 p (((nt_u (nt_u (nt_u (nt_u (nt_u (nt_u (x166F_56 p (J (p 4) 9) ((Int32.ofInt 212).toNatClampNeg) (Int32.ofInt 0) J) (p 4) 0 (J (p 0) 7)) (p 4) 1 (J (p 0) 8)) (p 4) 2 (J (p 0) 9)) (p 4) 3 (J (p 0) 10)) (p 4) 5 (Int32.ofInt 30)) (p 4) 9 (J (p 4) 9)) (p 0) 8).toNatClampNeg) (Int32.ofInt 0) (nt_u (nt_u (nt_u (nt_u (nt_u (nt_u (x166F_56 p (J (p 4) 9) ((Int32.ofInt 212).toNatClampNeg) (Int32.ofInt 0) J) (p 4) 0 (J (p 0) 7)) (p 4) 1 (J (p 0) 8)) (p 4) 2 (J (p 0) 9)) (p 4) 3 (J (p 0) 10)) (p 4) 5 (Int32.ofInt 30)) (p 4) 9 (J (p 4) 9))) (p 0) 9).toNatClampNeg) (Int32.ofInt 0) (x166F_148 p (((nt_u (nt_u (nt_u (nt_u (nt_u (nt_u (x166F_56 p (J (p 4) 9) ((Int32.ofInt 212).toNatClampNeg) (Int32.ofInt 0) J) (p 4) 0 (J (p 0) 7)) (p 4) 1 (J (p 0) 8)) (p 4) 2 (J (p 0) 9)) (p 4) 3 (J (p 0) 10)) (p 4) 5 (Int32.ofInt 30)) (p 4) 9 (J (p 4) 9)) (p 0) 8).toNatClampNeg) (Int32.ofInt 0) (nt_u (nt_u (nt_u (nt_u (nt_u (nt_u (x166F_56 p (J (p 4) 9) ((Int32.ofInt 212).toNatClampNeg) (Int32.ofInt 0) J) (p 4) 0 (J (p 0) 7)) (p 4) 1 (J (p 0) 8)) (p 4) 2 (J (p 0) 9)) (p 4) 3 (J (p 0) 10)) (p 4) 5 (Int32.ofInt 30)) (p 4) 9 (J (p 4) 9))))) _ := k
    have k := ly_revb 2 (c' := (285, [(2, .int (Int32.ofInt 0)), (0, .ref (p 0)), (1, .int (J (p 4) 9)), (3, .int w3)], [], me_w M (x166F_219 p (((x166F_148 p (((nt_u (nt_u (nt_u (nt_u (nt_u (nt_u (x166F_56 p (J (p 4) 9) ((Int32.ofInt 212).toNatClampNeg) (Int32.ofInt 0) J) (p 4) 0 (J (p 0) 7)) (p 4) 1 (J (p 0) 8)) (p 4) 2 (J (p 0) 9)) (p 4) 3 (J (p 0) 10)) (p 4) 5 (Int32.ofInt 30)) (p 4) 9 (J (p 4) 9)) (p 0) 8).toNatClampNeg) (Int32.ofInt 0) (nt_u (nt_u (nt_u (nt_u (nt_u (nt_u (x166F_56 p (J (p 4) 9) ((Int32.ofInt 212).toNatClampNeg) (Int32.ofInt 0) J) (p 4) 0 (J (p 0) 7)) (p 4) 1 (J (p 0) 8)) (p 4) 2 (J (p 0) 9)) (p 4) 3 (J (p 0) 10)) (p 4) 5 (Int32.ofInt 30)) (p 4) 9 (J (p 4) 9))) (p 0) 9).toNatClampNeg) (Int32.ofInt 0) (x166F_148 p (((nt_u (nt_u (nt_u (nt_u (nt_u (nt_u (x166F_56 p (J (p 4) 9) ((Int32.ofInt 212).toNatClampNeg) (Int32.ofInt 0) J) (p 4) 0 (J (p 0) 7)) (p 4) 1 (J (p 0) 8)) (p 4) 2 (J (p 0) 9)) (p 4) 3 (J (p 0) 10)) (p 4) 5 (Int32.ofInt 30)) (p 4) 9 (J (p 4) 9)) (p 0) 8).toNatClampNeg) (Int32.ofInt 0) (nt_u (nt_u (nt_u (nt_u (nt_u (nt_u (x166F_56 p (J (p 4) 9) ((Int32.ofInt 212).toNatClampNeg) (Int32.ofInt 0) J) (p 4) 0 (J (p 0) 7)) (p 4) 1 (J (p 0) 8)) (p 4) 2 (J (p 0) 9)) (p 4) 3 (J (p 0) 10)) (p 4) 5 (Int32.ofInt 30)) (p 4) 9 (J (p 4) 9)))))) rfl k
    have k := nt_rn_w (a := [(2, .int (Int32.ofInt 0)), (0, .ref (p 0)), (1, .int (J (p 4) 9)), (3, .int w3)]) (b := [(0, .ref (p 0)), (1, .int (J (p 4) 9)), (2, .int (Int32.ofInt 0)), (3, .int w3)]) ⟨rfl, rfl, rfl, rfl, trivial⟩ rfl k
    have k := xt166F_285 hp  (((x166F_219 p (((x166F_148 p (((nt_u (nt_u (nt_u (nt_u (nt_u (nt_u (x166F_56 p (J (p 4) 9) ((Int32.ofInt 212).toNatClampNeg) (Int32.ofInt 0) J) (p 4) 0 (J (p 0) 7)) (p 4) 1 (J (p 0) 8)) (p 4) 2 (J (p 0) 9)) (p 4) 3 (J (p 0) 10)) (p 4) 5 (Int32.ofInt 30)) (p 4) 9 (J (p 4) 9)) (p 0) 8).toNatClampNeg) (Int32.ofInt 0) (nt_u (nt_u (nt_u (nt_u (nt_u (nt_u (x166F_56 p (J (p 4) 9) ((Int32.ofInt 212).toNatClampNeg) (Int32.ofInt 0) J) (p 4) 0 (J (p 0) 7)) (p 4) 1 (J (p 0) 8)) (p 4) 2 (J (p 0) 9)) (p 4) 3 (J (p 0) 10)) (p 4) 5 (Int32.ofInt 30)) (p 4) 9 (J (p 4) 9))) (p 0) 9).toNatClampNeg) (Int32.ofInt 0) (x166F_148 p (((nt_u (nt_u (nt_u (nt_u (nt_u (nt_u (x166F_56 p (J (p 4) 9) ((Int32.ofInt 212).toNatClampNeg) (Int32.ofInt 0) J) (p 4) 0 (J (p 0) 7)) (p 4) 1 (J (p 0) 8)) (p 4) 2 (J (p 0) 9)) (p 4) 3 (J (p 0) 10)) (p 4) 5 (Int32.ofInt 30)) (p 4) 9 (J (p 4) 9)) (p 0) 8).toNatClampNeg) (Int32.ofInt 0) (nt_u (nt_u (nt_u (nt_u (nt_u (nt_u (x166F_56 p (J (p 4) 9) ((Int32.ofInt 212).toNatClampNeg) (Int32.ofInt 0) J) (p 4) 0 (J (p 0) 7)) (p 4) 1 (J (p 0) 8)) (p 4) 2 (J (p 0) 9)) (p 4) 3 (J (p 0) 10)) (p 4) 5 (Int32.ofInt 30)) (p 4) 9 (J (p 4) 9)))) (p 0) 10).toNatClampNeg) (Int32.ofInt 0) w3 (x166F_219 p (((x166F_148 p (((nt_u (nt_u (nt_u (nt_u (nt_u (nt_u (x166F_56 p (J (p 4) 9) ((Int32.ofInt 212).toNatClampNeg) (Int32.ofInt 0) J) (p 4) 0 (J (p 0) 7)) (p 4) 1 (J (p 0) 8)) (p 4) 2 (J (p 0) 9)) (p 4) 3 (J (p 0) 10)) (p 4) 5 (Int32.ofInt 30)) (p 4) 9 (J (p 4) 9)) (p 0) 8).toNatClampNeg) (Int32.ofInt 0) (nt_u (nt_u (nt_u (nt_u (nt_u (nt_u (x166F_56 p (J (p 4) 9) ((Int32.ofInt 212).toNatClampNeg) (Int32.ofInt 0) J) (p 4) 0 (J (p 0) 7)) (p 4) 1 (J (p 0) 8)) (p 4) 2 (J (p 0) 9)) (p 4) 3 (J (p 0) 10)) (p 4) 5 (Int32.ofInt 30)) (p 4) 9 (J (p 4) 9))) (p 0) 9).toNatClampNeg) (Int32.ofInt 0) (x166F_148 p (((nt_u (nt_u (nt_u (nt_u (nt_u (nt_u (x166F_56 p (J (p 4) 9) ((Int32.ofInt 212).toNatClampNeg) (Int32.ofInt 0) J) (p 4) 0 (J (p 0) 7)) (p 4) 1 (J (p 0) 8)) (p 4) 2 (J (p 0) 9)) (p 4) 3 (J (p 0) 10)) (p 4) 5 (Int32.ofInt 30)) (p 4) 9 (J (p 4) 9)) (p 0) 8).toNatClampNeg) (Int32.ofInt 0) (nt_u (nt_u (nt_u (nt_u (nt_u (nt_u (x166F_56 p (J (p 4) 9) ((Int32.ofInt 212).toNatClampNeg) (Int32.ofInt 0) J) (p 4) 0 (J (p 0) 7)) (p 4) 1 (J (p 0) 8)) (p 4) 2 (J (p 0) 9)) (p 4) 3 (J (p 0) 10)) (p 4) 5 (Int32.ofInt 30)) (p 4) 9 (J (p 4) 9)))) (lx_beg (by decide)) k
    obtain ⟨w2, w3, k⟩ := k
    have k : nt_rn X _ 166 (336, [(0, .ref (p 0)), (1, .int (J (p 4) 9)), (2, .int w2), (3, .int w3)], [], me_w M (x166F_285 p (((x166F_219 p (((x166F_148 p (((nt_u (nt_u (nt_u (nt_u (nt_u (nt_u (x166F_56 p (J (p 4) 9) ((Int32.ofInt 212).toNatClampNeg) (Int32.ofInt 0) J) (p 4) 0 (J (p 0) 7)) (p 4) 1 (J (p 0) 8)) (p 4) 2 (J (p 0) 9)) (p 4) 3 (J (p 0) 10)) (p 4) 5 (Int32.ofInt 30)) (p 4) 9 (J (p 4) 9)) (p 0) 8).toNatClampNeg) (Int32.ofInt 0) (nt_u (nt_u (nt_u (nt_u (nt_u (nt_u (x166F_56 p (J (p 4) 9) ((Int32.ofInt 212).toNatClampNeg) (Int32.ofInt 0) J) (p 4) 0 (J (p 0) 7)) (p 4) 1 (J (p 0) 8)) (p 4) 2 (J (p 0) 9)) (p 4) 3 (J (p 0) 10)) (p 4) 5 (Int32.ofInt 30)) (p 4) 9 (J (p 4) 9))) (p 0) 9).toNatClampNeg) (Int32.ofInt 0) (x166F_148 p (((nt_u (nt_u (nt_u (nt_u (nt_u (nt_u (x166F_56 p (J (p 4) 9) ((Int32.ofInt 212).toNatClampNeg) (Int32.ofInt 0) J) (p 4) 0 (J (p 0) 7)) (p 4) 1 (J (p 0) 8)) (p 4) 2 (J (p 0) 9)) (p 4) 3 (J (p 0) 10)) (p 4) 5 (Int32.ofInt 30)) (p 4) 9 (J (p 4) 9)) (p 0) 8).toNatClampNeg) (Int32.ofInt 0) (nt_u (nt_u (nt_u (nt_u (nt_u (nt_u (x166F_56 p (J (p 4) 9) ((Int32.ofInt 212).toNatClampNeg) (Int32.ofInt 0) J) (p 4) 0 (J (p 0) 7)) (p 4) 1 (J (p 0) 8)) (p 4) 2 (J (p 0) 9)) (p 4) 3 (J (p 0) 10)) (p 4) 5 (Int32.ofInt 30)) (p 4) 9 (J (p 4) 9)))) (p 0) 10).toNatClampNeg) (Int32.ofInt 0) (x166F_219 p (((x166F_148 p (((nt_u (nt_u (nt_u (nt_u (nt_u (nt_u (x166F_56 p (J (p 4) 9) ((Int32.ofInt 212).toNatClampNeg) (Int32.ofInt 0) J) (p 4) 0 (J (p 0) 7)) (p 4) 1 (J (p 0) 8)) (p 4) 2 (J (p 0) 9)) (p 4) 3 (J (p 0) 10)) (p 4) 5 (Int32.ofInt 30)) (p 4) 9 (J (p 4) 9)) (p 0) 8).toNatClampNeg) (Int32.ofInt 0) (nt_u (nt_u (nt_u (nt_u (nt_u (nt_u (x166F_56 p (J (p 4) 9) ((Int32.ofInt 212).toNatClampNeg) (Int32.ofInt 0) J) (p 4) 0 (J (p 0) 7)) (p 4) 1 (J (p 0) 8)) (p 4) 2 (J (p 0) 9)) (p 4) 3 (J (p 0) 10)) (p 4) 5 (Int32.ofInt 30)) (p 4) 9 (J (p 4) 9))) (p 0) 9).toNatClampNeg) (Int32.ofInt 0) (x166F_148 p (((nt_u (nt_u (nt_u (nt_u (nt_u (nt_u (x166F_56 p (J (p 4) 9) ((Int32.ofInt 212).toNatClampNeg) (Int32.ofInt 0) J) (p 4) 0 (J (p 0) 7)) (p 4) 1 (J (p 0) 8)) (p 4) 2 (J (p 0) 9)) (p 4) 3 (J (p 0) 10)) (p 4) 5 (Int32.ofInt 30)) (p 4) 9 (J (p 4) 9)) (p 0) 8).toNatClampNeg) (Int32.ofInt 0) (nt_u (nt_u (nt_u (nt_u (nt_u (nt_u (x166F_56 p (J (p 4) 9) ((Int32.ofInt 212).toNatClampNeg) (Int32.ofInt 0) J) (p 4) 0 (J (p 0) 7)) (p 4) 1 (J (p 0) 8)) (p 4) 2 (J (p 0) 9)) (p 4) 3 (J (p 0) 10)) (p 4) 5 (Int32.ofInt 30)) (p 4) 9 (J (p 4) 9)))))) _ := k
    have k := ly_revb 1 (c' := (337, [(0, .ref (p 0)), (1, .int (J (p 4) 9)), (2, .int w2), (3, .int w3)], [.ref (p 0)], me_w M (x166F_285 p (((x166F_219 p (((x166F_148 p (((nt_u (nt_u (nt_u (nt_u (nt_u (nt_u (x166F_56 p (J (p 4) 9) ((Int32.ofInt 212).toNatClampNeg) (Int32.ofInt 0) J) (p 4) 0 (J (p 0) 7)) (p 4) 1 (J (p 0) 8)) (p 4) 2 (J (p 0) 9)) (p 4) 3 (J (p 0) 10)) (p 4) 5 (Int32.ofInt 30)) (p 4) 9 (J (p 4) 9)) (p 0) 8).toNatClampNeg) (Int32.ofInt 0) (nt_u (nt_u (nt_u (nt_u (nt_u (nt_u (x166F_56 p (J (p 4) 9) ((Int32.ofInt 212).toNatClampNeg) (Int32.ofInt 0) J) (p 4) 0 (J (p 0) 7)) (p 4) 1 (J (p 0) 8)) (p 4) 2 (J (p 0) 9)) (p 4) 3 (J (p 0) 10)) (p 4) 5 (Int32.ofInt 30)) (p 4) 9 (J (p 4) 9))) (p 0) 9).toNatClampNeg) (Int32.ofInt 0) (x166F_148 p (((nt_u (nt_u (nt_u (nt_u (nt_u (nt_u (x166F_56 p (J (p 4) 9) ((Int32.ofInt 212).toNatClampNeg) (Int32.ofInt 0) J) (p 4) 0 (J (p 0) 7)) (p 4) 1 (J (p 0) 8)) (p 4) 2 (J (p 0) 9)) (p 4) 3 (J (p 0) 10)) (p 4) 5 (Int32.ofInt 30)) (p 4) 9 (J (p 4) 9)) (p 0) 8).toNatClampNeg) (Int32.ofInt 0) (nt_u (nt_u (nt_u (nt_u (nt_u (nt_u (x166F_56 p (J (p 4) 9) ((Int32.ofInt 212).toNatClampNeg) (Int32.ofInt 0) J) (p 4) 0 (J (p 0) 7)) (p 4) 1 (J (p 0) 8)) (p 4) 2 (J (p 0) 9)) (p 4) 3 (J (p 0) 10)) (p 4) 5 (Int32.ofInt 30)) (p 4) 9 (J (p 4) 9)))) (p 0) 10).toNatClampNeg) (Int32.ofInt 0) (x166F_219 p (((x166F_148 p (((nt_u (nt_u (nt_u (nt_u (nt_u (nt_u (x166F_56 p (J (p 4) 9) ((Int32.ofInt 212).toNatClampNeg) (Int32.ofInt 0) J) (p 4) 0 (J (p 0) 7)) (p 4) 1 (J (p 0) 8)) (p 4) 2 (J (p 0) 9)) (p 4) 3 (J (p 0) 10)) (p 4) 5 (Int32.ofInt 30)) (p 4) 9 (J (p 4) 9)) (p 0) 8).toNatClampNeg) (Int32.ofInt 0) (nt_u (nt_u (nt_u (nt_u (nt_u (nt_u (x166F_56 p (J (p 4) 9) ((Int32.ofInt 212).toNatClampNeg) (Int32.ofInt 0) J) (p 4) 0 (J (p 0) 7)) (p 4) 1 (J (p 0) 8)) (p 4) 2 (J (p 0) 9)) (p 4) 3 (J (p 0) 10)) (p 4) 5 (Int32.ofInt 30)) (p 4) 9 (J (p 4) 9))) (p 0) 9).toNatClampNeg) (Int32.ofInt 0) (x166F_148 p (((nt_u (nt_u (nt_u (nt_u (nt_u (nt_u (x166F_56 p (J (p 4) 9) ((Int32.ofInt 212).toNatClampNeg) (Int32.ofInt 0) J) (p 4) 0 (J (p 0) 7)) (p 4) 1 (J (p 0) 8)) (p 4) 2 (J (p 0) 9)) (p 4) 3 (J (p 0) 10)) (p 4) 5 (Int32.ofInt 30)) (p 4) 9 (J (p 4) 9)) (p 0) 8).toNatClampNeg) (Int32.ofInt 0) (nt_u (nt_u (nt_u (nt_u (nt_u (nt_u (x166F_56 p (J (p 4) 9) ((Int32.ofInt 212).toNatClampNeg) (Int32.ofInt 0) J) (p 4) 0 (J (p 0) 7)) (p 4) 1 (J (p 0) 8)) (p 4) 2 (J (p 0) 9)) (p 4) 3 (J (p 0) 10)) (p 4) 5 (Int32.ofInt 30)) (p 4) 9 (J (p 4) 9))))))) rfl k
    have k := lz_get (a := (p 0)) (g := 1108) (M := me_w M (x166F_285 p (((x166F_219 p (((x166F_148 p (((nt_u (nt_u (nt_u (nt_u (nt_u (nt_u (x166F_56 p (J (p 4) 9) ((Int32.ofInt 212).toNatClampNeg) (Int32.ofInt 0) J) (p 4) 0 (J (p 0) 7)) (p 4) 1 (J (p 0) 8)) (p 4) 2 (J (p 0) 9)) (p 4) 3 (J (p 0) 10)) (p 4) 5 (Int32.ofInt 30)) (p 4) 9 (J (p 4) 9)) (p 0) 8).toNatClampNeg) (Int32.ofInt 0) (nt_u (nt_u (nt_u (nt_u (nt_u (nt_u (x166F_56 p (J (p 4) 9) ((Int32.ofInt 212).toNatClampNeg) (Int32.ofInt 0) J) (p 4) 0 (J (p 0) 7)) (p 4) 1 (J (p 0) 8)) (p 4) 2 (J (p 0) 9)) (p 4) 3 (J (p 0) 10)) (p 4) 5 (Int32.ofInt 30)) (p 4) 9 (J (p 4) 9))) (p 0) 9).toNatClampNeg) (Int32.ofInt 0) (x166F_148 p (((nt_u (nt_u (nt_u (nt_u (nt_u (nt_u (x166F_56 p (J (p 4) 9) ((Int32.ofInt 212).toNatClampNeg) (Int32.ofInt 0) J) (p 4) 0 (J (p 0) 7)) (p 4) 1 (J (p 0) 8)) (p 4) 2 (J (p 0) 9)) (p 4) 3 (J (p 0) 10)) (p 4) 5 (Int32.ofInt 30)) (p 4) 9 (J (p 4) 9)) (p 0) 8).toNatClampNeg) (Int32.ofInt 0) (nt_u (nt_u (nt_u (nt_u (nt_u (nt_u (x166F_56 p (J (p 4) 9) ((Int32.ofInt 212).toNatClampNeg) (Int32.ofInt 0) J) (p 4) 0 (J (p 0) 7)) (p 4) 1 (J (p 0) 8)) (p 4) 2 (J (p 0) 9)) (p 4) 3 (J (p 0) 10)) (p 4) 5 (Int32.ofInt 30)) (p 4) 9 (J (p 4) 9)))) (p 0) 10).toNatClampNeg) (Int32.ofInt 0) (x166F_219 p (((x166F_148 p (((nt_u (nt_u (nt_u (nt_u (nt_u (nt_u (x166F_56 p (J (p 4) 9) ((Int32.ofInt 212).toNatClampNeg) (Int32.ofInt 0) J) (p 4) 0 (J (p 0) 7)) (p 4) 1 (J (p 0) 8)) (p 4) 2 (J (p 0) 9)) (p 4) 3 (J (p 0) 10)) (p 4) 5 (Int32.ofInt 30)) (p 4) 9 (J (p 4) 9)) (p 0) 8).toNatClampNeg) (Int32.ofInt 0) (nt_u (nt_u (nt_u (nt_u (nt_u (nt_u (x166F_56 p (J (p 4) 9) ((Int32.ofInt 212).toNatClampNeg) (Int32.ofInt 0) J) (p 4) 0 (J (p 0) 7)) (p 4) 1 (J (p 0) 8)) (p 4) 2 (J (p 0) 9)) (p 4) 3 (J (p 0) 10)) (p 4) 5 (Int32.ofInt 30)) (p 4) 9 (J (p 4) 9))) (p 0) 9).toNatClampNeg) (Int32.ofInt 0) (x166F_148 p (((nt_u (nt_u (nt_u (nt_u (nt_u (nt_u (x166F_56 p (J (p 4) 9) ((Int32.ofInt 212).toNatClampNeg) (Int32.ofInt 0) J) (p 4) 0 (J (p 0) 7)) (p 4) 1 (J (p 0) 8)) (p 4) 2 (J (p 0) 9)) (p 4) 3 (J (p 0) 10)) (p 4) 5 (Int32.ofInt 30)) (p 4) 9 (J (p 4) 9)) (p 0) 8).toNatClampNeg) (Int32.ofInt 0) (nt_u (nt_u (nt_u (nt_u (nt_u (nt_u (x166F_56 p (J (p 4) 9) ((Int32.ofInt 212).toNatClampNeg) (Int32.ofInt 0) J) (p 4) 0 (J (p 0) 7)) (p 4) 1 (J (p 0) 8)) (p 4) 2 (J (p 0) 9)) (p 4) 3 (J (p 0) 10)) (p 4) 5 (Int32.ofInt 30)) (p 4) 9 (J (p 4) 9)))))) (v := .int (J (p 0) 8)) rfl (mw_gI (by decide) ((congrFun (x166F_285_frJ _ _ _ (hp.2.1 0 4 (by omega) (by omega) (by decide))) 8).trans ((congrFun (x166F_219_frJ _ _ _ (hp.2.1 0 4 (by omega) (by omega) (by decide))) 8).trans ((congrFun (x166F_148_frJ _ _ _ (hp.2.1 0 4 (by omega) (by omega) (by decide))) 8).trans ((mu_j (hp.2.1 0 4 (by omega) (by omega) (by decide))).trans ((mu_j (hp.2.1 0 4 (by omega) (by omega) (by decide))).trans ((mu_j (hp.2.1 0 4 (by omega) (by omega) (by decide))).trans ((mu_j (hp.2.1 0 4 (by omega) (by omega) (by decide))).trans ((mu_j (hp.2.1 0 4 (by omega) (by omega) (by decide))).trans ((mu_j (hp.2.1 0 4 (by omega) (by omega) (by decide))).trans (congrFun (x166F_56_frJ _ _ _ (hp.2.1 0 4 (by omega) (by omega) (by decide))) 8))))))))))) k
    have k := lz_ri rfl (by decide) k
    rw [k, x166F, if_neg h125]
theorem x166F_frJ {p : Nat → Nat} {J : Nat → Nat → Int32} {b : Nat} (n0 : b ≠ p 4) : (x166F p J).2 b = J b := by
  unfold x166F
  by_cases h : 0 ≤ (J (p 0) 11)
  · rw [if_pos h]
    all_goals first | (dsimp only; exact (show (x166F_285 p (((x166F_219 p (((x166F_148 p (((nt_u (nt_u (nt_u (nt_u (nt_u (nt_u (x166F_56 p (J (p 4) 9) ((Int32.ofInt 212).toNatClampNeg) (Int32.ofInt 0) J) (p 4) 0 (J (p 0) 7)) (p 4) 1 (J (p 0) 8)) (p 4) 2 (J (p 0) 9)) (p 4) 3 (J (p 0) 10)) (p 4) 5 (J (p 0) 11)) (p 4) 9 (J (p 4) 9)) (p 0) 8).toNatClampNeg) (Int32.ofInt 0) (nt_u (nt_u (nt_u (nt_u (nt_u (nt_u (x166F_56 p (J (p 4) 9) ((Int32.ofInt 212).toNatClampNeg) (Int32.ofInt 0) J) (p 4) 0 (J (p 0) 7)) (p 4) 1 (J (p 0) 8)) (p 4) 2 (J (p 0) 9)) (p 4) 3 (J (p 0) 10)) (p 4) 5 (J (p 0) 11)) (p 4) 9 (J (p 4) 9))) (p 0) 9).toNatClampNeg) (Int32.ofInt 0) (x166F_148 p (((nt_u (nt_u (nt_u (nt_u (nt_u (nt_u (x166F_56 p (J (p 4) 9) ((Int32.ofInt 212).toNatClampNeg) (Int32.ofInt 0) J) (p 4) 0 (J (p 0) 7)) (p 4) 1 (J (p 0) 8)) (p 4) 2 (J (p 0) 9)) (p 4) 3 (J (p 0) 10)) (p 4) 5 (J (p 0) 11)) (p 4) 9 (J (p 4) 9)) (p 0) 8).toNatClampNeg) (Int32.ofInt 0) (nt_u (nt_u (nt_u (nt_u (nt_u (nt_u (x166F_56 p (J (p 4) 9) ((Int32.ofInt 212).toNatClampNeg) (Int32.ofInt 0) J) (p 4) 0 (J (p 0) 7)) (p 4) 1 (J (p 0) 8)) (p 4) 2 (J (p 0) 9)) (p 4) 3 (J (p 0) 10)) (p 4) 5 (J (p 0) 11)) (p 4) 9 (J (p 4) 9)))) (p 0) 10).toNatClampNeg) (Int32.ofInt 0) (x166F_219 p (((x166F_148 p (((nt_u (nt_u (nt_u (nt_u (nt_u (nt_u (x166F_56 p (J (p 4) 9) ((Int32.ofInt 212).toNatClampNeg) (Int32.ofInt 0) J) (p 4) 0 (J (p 0) 7)) (p 4) 1 (J (p 0) 8)) (p 4) 2 (J (p 0) 9)) (p 4) 3 (J (p 0) 10)) (p 4) 5 (J (p 0) 11)) (p 4) 9 (J (p 4) 9)) (p 0) 8).toNatClampNeg) (Int32.ofInt 0) (nt_u (nt_u (nt_u (nt_u (nt_u (nt_u (x166F_56 p (J (p 4) 9) ((Int32.ofInt 212).toNatClampNeg) (Int32.ofInt 0) J) (p 4) 0 (J (p 0) 7)) (p 4) 1 (J (p 0) 8)) (p 4) 2 (J (p 0) 9)) (p 4) 3 (J (p 0) 10)) (p 4) 5 (J (p 0) 11)) (p 4) 9 (J (p 4) 9))) (p 0) 9).toNatClampNeg) (Int32.ofInt 0) (x166F_148 p (((nt_u (nt_u (nt_u (nt_u (nt_u (nt_u (x166F_56 p (J (p 4) 9) ((Int32.ofInt 212).toNatClampNeg) (Int32.ofInt 0) J) (p 4) 0 (J (p 0) 7)) (p 4) 1 (J (p 0) 8)) (p 4) 2 (J (p 0) 9)) (p 4) 3 (J (p 0) 10)) (p 4) 5 (J (p 0) 11)) (p 4) 9 (J (p 4) 9)) (p 0) 8).toNatClampNeg) (Int32.ofInt 0) (nt_u (nt_u (nt_u (nt_u (nt_u (nt_u (x166F_56 p (J (p 4) 9) ((Int32.ofInt 212).toNatClampNeg) (Int32.ofInt 0) J) (p 4) 0 (J (p 0) 7)) (p 4) 1 (J (p 0) 8)) (p 4) 2 (J (p 0) 9)) (p 4) 3 (J (p 0) 10)) (p 4) 5 (J (p 0) 11)) (p 4) 9 (J (p 4) 9))))) b = J b from (x166F_285_frJ _ _ _ n0).trans ((x166F_219_frJ _ _ _ n0).trans ((x166F_148_frJ _ _ _ n0).trans ((mu_o n0).trans ((mu_o n0).trans ((mu_o n0).trans ((mu_o n0).trans ((mu_o n0).trans ((mu_o n0).trans (x166F_56_frJ _ _ _ n0))))))))))) | exact (show (x166F_285 p (((x166F_219 p (((x166F_148 p (((nt_u (nt_u (nt_u (nt_u (nt_u (nt_u (x166F_56 p (J (p 4) 9) ((Int32.ofInt 212).toNatClampNeg) (Int32.ofInt 0) J) (p 4) 0 (J (p 0) 7)) (p 4) 1 (J (p 0) 8)) (p 4) 2 (J (p 0) 9)) (p 4) 3 (J (p 0) 10)) (p 4) 5 (J (p 0) 11)) (p 4) 9 (J (p 4) 9)) (p 0) 8).toNatClampNeg) (Int32.ofInt 0) (nt_u (nt_u (nt_u (nt_u (nt_u (nt_u (x166F_56 p (J (p 4) 9) ((Int32.ofInt 212).toNatClampNeg) (Int32.ofInt 0) J) (p 4) 0 (J (p 0) 7)) (p 4) 1 (J (p 0) 8)) (p 4) 2 (J (p 0) 9)) (p 4) 3 (J (p 0) 10)) (p 4) 5 (J (p 0) 11)) (p 4) 9 (J (p 4) 9))) (p 0) 9).toNatClampNeg) (Int32.ofInt 0) (x166F_148 p (((nt_u (nt_u (nt_u (nt_u (nt_u (nt_u (x166F_56 p (J (p 4) 9) ((Int32.ofInt 212).toNatClampNeg) (Int32.ofInt 0) J) (p 4) 0 (J (p 0) 7)) (p 4) 1 (J (p 0) 8)) (p 4) 2 (J (p 0) 9)) (p 4) 3 (J (p 0) 10)) (p 4) 5 (J (p 0) 11)) (p 4) 9 (J (p 4) 9)) (p 0) 8).toNatClampNeg) (Int32.ofInt 0) (nt_u (nt_u (nt_u (nt_u (nt_u (nt_u (x166F_56 p (J (p 4) 9) ((Int32.ofInt 212).toNatClampNeg) (Int32.ofInt 0) J) (p 4) 0 (J (p 0) 7)) (p 4) 1 (J (p 0) 8)) (p 4) 2 (J (p 0) 9)) (p 4) 3 (J (p 0) 10)) (p 4) 5 (J (p 0) 11)) (p 4) 9 (J (p 4) 9)))) (p 0) 10).toNatClampNeg) (Int32.ofInt 0) (x166F_219 p (((x166F_148 p (((nt_u (nt_u (nt_u (nt_u (nt_u (nt_u (x166F_56 p (J (p 4) 9) ((Int32.ofInt 212).toNatClampNeg) (Int32.ofInt 0) J) (p 4) 0 (J (p 0) 7)) (p 4) 1 (J (p 0) 8)) (p 4) 2 (J (p 0) 9)) (p 4) 3 (J (p 0) 10)) (p 4) 5 (J (p 0) 11)) (p 4) 9 (J (p 4) 9)) (p 0) 8).toNatClampNeg) (Int32.ofInt 0) (nt_u (nt_u (nt_u (nt_u (nt_u (nt_u (x166F_56 p (J (p 4) 9) ((Int32.ofInt 212).toNatClampNeg) (Int32.ofInt 0) J) (p 4) 0 (J (p 0) 7)) (p 4) 1 (J (p 0) 8)) (p 4) 2 (J (p 0) 9)) (p 4) 3 (J (p 0) 10)) (p 4) 5 (J (p 0) 11)) (p 4) 9 (J (p 4) 9))) (p 0) 9).toNatClampNeg) (Int32.ofInt 0) (x166F_148 p (((nt_u (nt_u (nt_u (nt_u (nt_u (nt_u (x166F_56 p (J (p 4) 9) ((Int32.ofInt 212).toNatClampNeg) (Int32.ofInt 0) J) (p 4) 0 (J (p 0) 7)) (p 4) 1 (J (p 0) 8)) (p 4) 2 (J (p 0) 9)) (p 4) 3 (J (p 0) 10)) (p 4) 5 (J (p 0) 11)) (p 4) 9 (J (p 4) 9)) (p 0) 8).toNatClampNeg) (Int32.ofInt 0) (nt_u (nt_u (nt_u (nt_u (nt_u (nt_u (x166F_56 p (J (p 4) 9) ((Int32.ofInt 212).toNatClampNeg) (Int32.ofInt 0) J) (p 4) 0 (J (p 0) 7)) (p 4) 1 (J (p 0) 8)) (p 4) 2 (J (p 0) 9)) (p 4) 3 (J (p 0) 10)) (p 4) 5 (J (p 0) 11)) (p 4) 9 (J (p 4) 9))))) b = J b from (x166F_285_frJ _ _ _ n0).trans ((x166F_219_frJ _ _ _ n0).trans ((x166F_148_frJ _ _ _ n0).trans ((mu_o n0).trans ((mu_o n0).trans ((mu_o n0).trans ((mu_o n0).trans ((mu_o n0).trans ((mu_o n0).trans (x166F_56_frJ _ _ _ n0))))))))))
  · rw [if_neg h]
    all_goals first | (dsimp only; exact (show (x166F_285 p (((x166F_219 p (((x166F_148 p (((nt_u (nt_u (nt_u (nt_u (nt_u (nt_u (x166F_56 p (J (p 4) 9) ((Int32.ofInt 212).toNatClampNeg) (Int32.ofInt 0) J) (p 4) 0 (J (p 0) 7)) (p 4) 1 (J (p 0) 8)) (p 4) 2 (J (p 0) 9)) (p 4) 3 (J (p 0) 10)) (p 4) 5 (Int32.ofInt 30)) (p 4) 9 (J (p 4) 9)) (p 0) 8).toNatClampNeg) (Int32.ofInt 0) (nt_u (nt_u (nt_u (nt_u (nt_u (nt_u (x166F_56 p (J (p 4) 9) ((Int32.ofInt 212).toNatClampNeg) (Int32.ofInt 0) J) (p 4) 0 (J (p 0) 7)) (p 4) 1 (J (p 0) 8)) (p 4) 2 (J (p 0) 9)) (p 4) 3 (J (p 0) 10)) (p 4) 5 (Int32.ofInt 30)) (p 4) 9 (J (p 4) 9))) (p 0) 9).toNatClampNeg) (Int32.ofInt 0) (x166F_148 p (((nt_u (nt_u (nt_u (nt_u (nt_u (nt_u (x166F_56 p (J (p 4) 9) ((Int32.ofInt 212).toNatClampNeg) (Int32.ofInt 0) J) (p 4) 0 (J (p 0) 7)) (p 4) 1 (J (p 0) 8)) (p 4) 2 (J (p 0) 9)) (p 4) 3 (J (p 0) 10)) (p 4) 5 (Int32.ofInt 30)) (p 4) 9 (J (p 4) 9)) (p 0) 8).toNatClampNeg) (Int32.ofInt 0) (nt_u (nt_u (nt_u (nt_u (nt_u (nt_u (x166F_56 p (J (p 4) 9) ((Int32.ofInt 212).toNatClampNeg) (Int32.ofInt 0) J) (p 4) 0 (J (p 0) 7)) (p 4) 1 (J (p 0) 8)) (p 4) 2 (J (p 0) 9)) (p 4) 3 (J (p 0) 10)) (p 4) 5 (Int32.ofInt 30)) (p 4) 9 (J (p 4) 9)))) (p 0) 10).toNatClampNeg) (Int32.ofInt 0) (x166F_219 p (((x166F_148 p (((nt_u (nt_u (nt_u (nt_u (nt_u (nt_u (x166F_56 p (J (p 4) 9) ((Int32.ofInt 212).toNatClampNeg) (Int32.ofInt 0) J) (p 4) 0 (J (p 0) 7)) (p 4) 1 (J (p 0) 8)) (p 4) 2 (J (p 0) 9)) (p 4) 3 (J (p 0) 10)) (p 4) 5 (Int32.ofInt 30)) (p 4) 9 (J (p 4) 9)) (p 0) 8).toNatClampNeg) (Int32.ofInt 0) (nt_u (nt_u (nt_u (nt_u (nt_u (nt_u (x166F_56 p (J (p 4) 9) ((Int32.ofInt 212).toNatClampNeg) (Int32.ofInt 0) J) (p 4) 0 (J (p 0) 7)) (p 4) 1 (J (p 0) 8)) (p 4) 2 (J (p 0) 9)) (p 4) 3 (J (p 0) 10)) (p 4) 5 (Int32.ofInt 30)) (p 4) 9 (J (p 4) 9))) (p 0) 9).toNatClampNeg) (Int32.ofInt 0) (x166F_148 p (((nt_u (nt_u (nt_u (nt_u (nt_u (nt_u (x166F_56 p (J (p 4) 9) ((Int32.ofInt 212).toNatClampNeg) (Int32.ofInt 0) J) (p 4) 0 (J (p 0) 7)) (p 4) 1 (J (p 0) 8)) (p 4) 2 (J (p 0) 9)) (p 4) 3 (J (p 0) 10)) (p 4) 5 (Int32.ofInt 30)) (p 4) 9 (J (p 4) 9)) (p 0) 8).toNatClampNeg) (Int32.ofInt 0) (nt_u (nt_u (nt_u (nt_u (nt_u (nt_u (x166F_56 p (J (p 4) 9) ((Int32.ofInt 212).toNatClampNeg) (Int32.ofInt 0) J) (p 4) 0 (J (p 0) 7)) (p 4) 1 (J (p 0) 8)) (p 4) 2 (J (p 0) 9)) (p 4) 3 (J (p 0) 10)) (p 4) 5 (Int32.ofInt 30)) (p 4) 9 (J (p 4) 9))))) b = J b from (x166F_285_frJ _ _ _ n0).trans ((x166F_219_frJ _ _ _ n0).trans ((x166F_148_frJ _ _ _ n0).trans ((mu_o n0).trans ((mu_o n0).trans ((mu_o n0).trans ((mu_o n0).trans ((mu_o n0).trans ((mu_o n0).trans (x166F_56_frJ _ _ _ n0))))))))))) | exact (show (x166F_285 p (((x166F_219 p (((x166F_148 p (((nt_u (nt_u (nt_u (nt_u (nt_u (nt_u (x166F_56 p (J (p 4) 9) ((Int32.ofInt 212).toNatClampNeg) (Int32.ofInt 0) J) (p 4) 0 (J (p 0) 7)) (p 4) 1 (J (p 0) 8)) (p 4) 2 (J (p 0) 9)) (p 4) 3 (J (p 0) 10)) (p 4) 5 (Int32.ofInt 30)) (p 4) 9 (J (p 4) 9)) (p 0) 8).toNatClampNeg) (Int32.ofInt 0) (nt_u (nt_u (nt_u (nt_u (nt_u (nt_u (x166F_56 p (J (p 4) 9) ((Int32.ofInt 212).toNatClampNeg) (Int32.ofInt 0) J) (p 4) 0 (J (p 0) 7)) (p 4) 1 (J (p 0) 8)) (p 4) 2 (J (p 0) 9)) (p 4) 3 (J (p 0) 10)) (p 4) 5 (Int32.ofInt 30)) (p 4) 9 (J (p 4) 9))) (p 0) 9).toNatClampNeg) (Int32.ofInt 0) (x166F_148 p (((nt_u (nt_u (nt_u (nt_u (nt_u (nt_u (x166F_56 p (J (p 4) 9) ((Int32.ofInt 212).toNatClampNeg) (Int32.ofInt 0) J) (p 4) 0 (J (p 0) 7)) (p 4) 1 (J (p 0) 8)) (p 4) 2 (J (p 0) 9)) (p 4) 3 (J (p 0) 10)) (p 4) 5 (Int32.ofInt 30)) (p 4) 9 (J (p 4) 9)) (p 0) 8).toNatClampNeg) (Int32.ofInt 0) (nt_u (nt_u (nt_u (nt_u (nt_u (nt_u (x166F_56 p (J (p 4) 9) ((Int32.ofInt 212).toNatClampNeg) (Int32.ofInt 0) J) (p 4) 0 (J (p 0) 7)) (p 4) 1 (J (p 0) 8)) (p 4) 2 (J (p 0) 9)) (p 4) 3 (J (p 0) 10)) (p 4) 5 (Int32.ofInt 30)) (p 4) 9 (J (p 4) 9)))) (p 0) 10).toNatClampNeg) (Int32.ofInt 0) (x166F_219 p (((x166F_148 p (((nt_u (nt_u (nt_u (nt_u (nt_u (nt_u (x166F_56 p (J (p 4) 9) ((Int32.ofInt 212).toNatClampNeg) (Int32.ofInt 0) J) (p 4) 0 (J (p 0) 7)) (p 4) 1 (J (p 0) 8)) (p 4) 2 (J (p 0) 9)) (p 4) 3 (J (p 0) 10)) (p 4) 5 (Int32.ofInt 30)) (p 4) 9 (J (p 4) 9)) (p 0) 8).toNatClampNeg) (Int32.ofInt 0) (nt_u (nt_u (nt_u (nt_u (nt_u (nt_u (x166F_56 p (J (p 4) 9) ((Int32.ofInt 212).toNatClampNeg) (Int32.ofInt 0) J) (p 4) 0 (J (p 0) 7)) (p 4) 1 (J (p 0) 8)) (p 4) 2 (J (p 0) 9)) (p 4) 3 (J (p 0) 10)) (p 4) 5 (Int32.ofInt 30)) (p 4) 9 (J (p 4) 9))) (p 0) 9).toNatClampNeg) (Int32.ofInt 0) (x166F_148 p (((nt_u (nt_u (nt_u (nt_u (nt_u (nt_u (x166F_56 p (J (p 4) 9) ((Int32.ofInt 212).toNatClampNeg) (Int32.ofInt 0) J) (p 4) 0 (J (p 0) 7)) (p 4) 1 (J (p 0) 8)) (p 4) 2 (J (p 0) 9)) (p 4) 3 (J (p 0) 10)) (p 4) 5 (Int32.ofInt 30)) (p 4) 9 (J (p 4) 9)) (p 0) 8).toNatClampNeg) (Int32.ofInt 0) (nt_u (nt_u (nt_u (nt_u (nt_u (nt_u (x166F_56 p (J (p 4) 9) ((Int32.ofInt 212).toNatClampNeg) (Int32.ofInt 0) J) (p 4) 0 (J (p 0) 7)) (p 4) 1 (J (p 0) 8)) (p 4) 2 (J (p 0) 9)) (p 4) 3 (J (p 0) 10)) (p 4) 5 (Int32.ofInt 30)) (p 4) 9 (J (p 4) 9))))) b = J b from (x166F_285_frJ _ _ _ n0).trans ((x166F_219_frJ _ _ _ n0).trans ((x166F_148_frJ _ _ _ n0).trans ((mu_o n0).trans ((mu_o n0).trans ((mu_o n0).trans ((mu_o n0).trans ((mu_o n0).trans ((mu_o n0).trans (x166F_56_frJ _ _ _ n0))))))))))
end
section
/-! the other side reads a yard -/
def lb_hh (h : Nat) : Int32 := if h = 0 then Int32.ofInt (-1) else nI h
def yr_C (R0 R1 R2 B Sg Ln : Nat) (C : lb_C) (J : Nat → Nat → Int32) : Prop := ((R0 ≠ B ∧ R0 ≠ Sg ∧ R0 ≠ Ln) ∧ (R1 ≠ B ∧ R1 ≠ Sg ∧ R1 ≠ Ln) ∧ (R2 ≠ B ∧ R2 ≠ Sg ∧ R2 ≠ Ln)) ∧ (R0 ≠ R1 ∧ R0 ≠ R2 ∧ R1 ≠ R2) ∧ (∀ n, J R0 n = C 5 n) ∧ (∀ n, J R1 (3 * n + 0) = C 6 n ∧ J R1 (3 * n + 1) = C 7 n ∧ J R1 (3 * n + 2) = C 8 n) ∧ (∀ n, J R2 (4 * n + 0) = C 9 n ∧ J R2 (4 * n + 1) = C 10 n ∧ J R2 (4 * n + 2) = C 11 n ∧ J R2 (4 * n + 3) = C 12 n)
theorem yr_Cr {R0 R1 R2 B Sg Ln : Nat} {C : lb_C} {J J' : Nat → Nat → Int32} (h : yr_C R0 R1 R2 B Sg Ln C J) (e : ∀ a, a ≠ B → a ≠ Sg → a ≠ Ln → J' a = J a) : yr_C R0 R1 R2 B Sg Ln C J' := by
  obtain ⟨⟨⟨a1, a2, a3⟩, ⟨b1, b2, b3⟩, ⟨c1, c2, c3⟩⟩, n, h0, h1, h2⟩ := h
  refine ⟨⟨⟨a1, a2, a3⟩, ⟨b1, b2, b3⟩, ⟨c1, c2, c3⟩⟩, n, ?_, ?_, ?_⟩
  · rw [e R0 a1 a2 a3]; exact h0
  · rw [e R1 b1 b2 b3]; exact h1
  · rw [e R2 c1 c2 c3]; exact h2
theorem yr_C0 {R0 R1 R2 B Sg Ln n j : Nat} {x : Int32} {C : lb_C} {J : Nat → Nat → Int32} (ej : j = n) (h : yr_C R0 R1 R2 B Sg Ln C J) : yr_C R0 R1 R2 B Sg Ln (nt_u C 5 n x) (nt_u J R0 j x) := by
  subst ej
  obtain ⟨ha, ⟨n1, n2, n3⟩, h0, h1, h2⟩ := h
  refine ⟨ha, ⟨n1, n2, n3⟩, fun m => ?_, fun m => ?_, fun m => ?_⟩
  · by_cases e : m = j
    · subst e
      rw [me_us, me_us]
    · rw [me_uk e, me_uk e]
      exact h0 m
  · rw [me_uo (Ne.symm n1), me_uo (by decide), me_uo (by decide), me_uo (by decide)]
    exact h1 m
  · rw [me_uo (Ne.symm n2), me_uo (by decide), me_uo (by decide), me_uo (by decide), me_uo (by decide)]
    exact h2 m
theorem yr_C10 {R0 R1 R2 B Sg Ln n j : Nat} {x : Int32} {C : lb_C} {J : Nat → Nat → Int32} (ej : j = 3 * n + 0) (h : yr_C R0 R1 R2 B Sg Ln C J) : yr_C R0 R1 R2 B Sg Ln (nt_u C 6 n x) (nt_u J R1 j x) := by
  subst ej
  obtain ⟨ha, ⟨n1, n2, n3⟩, h0, h1, h2⟩ := h
  refine ⟨ha, ⟨n1, n2, n3⟩, fun m => ?_, fun m => ⟨?_, ?_, ?_⟩, fun m => ?_⟩
  · rw [me_uo n1, me_uo (by decide)]
    exact h0 m
  · by_cases e : m = n
    · subst e
      rw [me_us, me_us]
    · rw [me_uk (by omega), me_uk e]
      exact (h1 m).1
  · rw [me_uk (by omega), me_uo (by decide)]
    exact (h1 m).2.1
  · rw [me_uk (by omega), me_uo (by decide)]
    exact (h1 m).2.2
  · rw [me_uo (Ne.symm n3), me_uo (by decide), me_uo (by decide), me_uo (by decide), me_uo (by decide)]
    exact h2 m
theorem yr_C11 {R0 R1 R2 B Sg Ln n j : Nat} {x : Int32} {C : lb_C} {J : Nat → Nat → Int32} (ej : j = 3 * n + 1) (h : yr_C R0 R1 R2 B Sg Ln C J) : yr_C R0 R1 R2 B Sg Ln (nt_u C 7 n x) (nt_u J R1 j x) := by
  subst ej
  obtain ⟨ha, ⟨n1, n2, n3⟩, h0, h1, h2⟩ := h
  refine ⟨ha, ⟨n1, n2, n3⟩, fun m => ?_, fun m => ⟨?_, ?_, ?_⟩, fun m => ?_⟩
  · rw [me_uo n1, me_uo (by decide)]
    exact h0 m
  · rw [me_uk (by omega), me_uo (by decide)]
    exact (h1 m).1
  · by_cases e : m = n
    · subst e
      rw [me_us, me_us]
    · rw [me_uk (by omega), me_uk e]
      exact (h1 m).2.1
  · rw [me_uk (by omega), me_uo (by decide)]
    exact (h1 m).2.2
  · rw [me_uo (Ne.symm n3), me_uo (by decide), me_uo (by decide), me_uo (by decide), me_uo (by decide)]
    exact h2 m
theorem yr_C12 {R0 R1 R2 B Sg Ln n j : Nat} {x : Int32} {C : lb_C} {J : Nat → Nat → Int32} (ej : j = 3 * n + 2) (h : yr_C R0 R1 R2 B Sg Ln C J) : yr_C R0 R1 R2 B Sg Ln (nt_u C 8 n x) (nt_u J R1 j x) := by
  subst ej
  obtain ⟨ha, ⟨n1, n2, n3⟩, h0, h1, h2⟩ := h
  refine ⟨ha, ⟨n1, n2, n3⟩, fun m => ?_, fun m => ⟨?_, ?_, ?_⟩, fun m => ?_⟩
  · rw [me_uo n1, me_uo (by decide)]
    exact h0 m
  · rw [me_uk (by omega), me_uo (by decide)]
    exact (h1 m).1
  · rw [me_uk (by omega), me_uo (by decide)]
    exact (h1 m).2.1
  · by_cases e : m = n
    · subst e
      rw [me_us, me_us]
    · rw [me_uk (by omega), me_uk e]
      exact (h1 m).2.2
  · rw [me_uo (Ne.symm n3), me_uo (by decide), me_uo (by decide), me_uo (by decide), me_uo (by decide)]
    exact h2 m
theorem yr_C20 {R0 R1 R2 B Sg Ln n j : Nat} {x : Int32} {C : lb_C} {J : Nat → Nat → Int32} (ej : j = 4 * n + 0) (h : yr_C R0 R1 R2 B Sg Ln C J) : yr_C R0 R1 R2 B Sg Ln (nt_u C 9 n x) (nt_u J R2 j x) := by
  subst ej
  obtain ⟨ha, ⟨n1, n2, n3⟩, h0, h1, h2⟩ := h
  refine ⟨ha, ⟨n1, n2, n3⟩, fun m => ?_, fun m => ?_, fun m => ⟨?_, ?_, ?_, ?_⟩⟩
  · rw [me_uo n2, me_uo (by decide)]
    exact h0 m
  · rw [me_uo n3, me_uo (by decide), me_uo (by decide), me_uo (by decide)]
    exact h1 m
  · by_cases e : m = n
    · subst e
      rw [me_us, me_us]
    · rw [me_uk (by omega), me_uk e]
      exact (h2 m).1
  · rw [me_uk (by omega), me_uo (by decide)]
    exact (h2 m).2.1
  · rw [me_uk (by omega), me_uo (by decide)]
    exact (h2 m).2.2.1
  · rw [me_uk (by omega), me_uo (by decide)]
    exact (h2 m).2.2.2
theorem yr_C21 {R0 R1 R2 B Sg Ln n j : Nat} {x : Int32} {C : lb_C} {J : Nat → Nat → Int32} (ej : j = 4 * n + 1) (h : yr_C R0 R1 R2 B Sg Ln C J) : yr_C R0 R1 R2 B Sg Ln (nt_u C 10 n x) (nt_u J R2 j x) := by
  subst ej
  obtain ⟨ha, ⟨n1, n2, n3⟩, h0, h1, h2⟩ := h
  refine ⟨ha, ⟨n1, n2, n3⟩, fun m => ?_, fun m => ?_, fun m => ⟨?_, ?_, ?_, ?_⟩⟩
  · rw [me_uo n2, me_uo (by decide)]
    exact h0 m
  · rw [me_uo n3, me_uo (by decide), me_uo (by decide), me_uo (by decide)]
    exact h1 m
  · rw [me_uk (by omega), me_uo (by decide)]
    exact (h2 m).1
  · by_cases e : m = n
    · subst e
      rw [me_us, me_us]
    · rw [me_uk (by omega), me_uk e]
      exact (h2 m).2.1
  · rw [me_uk (by omega), me_uo (by decide)]
    exact (h2 m).2.2.1
  · rw [me_uk (by omega), me_uo (by decide)]
    exact (h2 m).2.2.2
theorem yr_C22 {R0 R1 R2 B Sg Ln n j : Nat} {x : Int32} {C : lb_C} {J : Nat → Nat → Int32} (ej : j = 4 * n + 2) (h : yr_C R0 R1 R2 B Sg Ln C J) : yr_C R0 R1 R2 B Sg Ln (nt_u C 11 n x) (nt_u J R2 j x) := by
  subst ej
  obtain ⟨ha, ⟨n1, n2, n3⟩, h0, h1, h2⟩ := h
  refine ⟨ha, ⟨n1, n2, n3⟩, fun m => ?_, fun m => ?_, fun m => ⟨?_, ?_, ?_, ?_⟩⟩
  · rw [me_uo n2, me_uo (by decide)]
    exact h0 m
  · rw [me_uo n3, me_uo (by decide), me_uo (by decide), me_uo (by decide)]
    exact h1 m
  · rw [me_uk (by omega), me_uo (by decide)]
    exact (h2 m).1
  · rw [me_uk (by omega), me_uo (by decide)]
    exact (h2 m).2.1
  · by_cases e : m = n
    · subst e
      rw [me_us, me_us]
    · rw [me_uk (by omega), me_uk e]
      exact (h2 m).2.2.1
  · rw [me_uk (by omega), me_uo (by decide)]
    exact (h2 m).2.2.2
theorem yr_C23 {R0 R1 R2 B Sg Ln n j : Nat} {x : Int32} {C : lb_C} {J : Nat → Nat → Int32} (ej : j = 4 * n + 3) (h : yr_C R0 R1 R2 B Sg Ln C J) : yr_C R0 R1 R2 B Sg Ln (nt_u C 12 n x) (nt_u J R2 j x) := by
  subst ej
  obtain ⟨ha, ⟨n1, n2, n3⟩, h0, h1, h2⟩ := h
  refine ⟨ha, ⟨n1, n2, n3⟩, fun m => ?_, fun m => ?_, fun m => ⟨?_, ?_, ?_, ?_⟩⟩
  · rw [me_uo n2, me_uo (by decide)]
    exact h0 m
  · rw [me_uo n3, me_uo (by decide), me_uo (by decide), me_uo (by decide)]
    exact h1 m
  · rw [me_uk (by omega), me_uo (by decide)]
    exact (h2 m).1
  · rw [me_uk (by omega), me_uo (by decide)]
    exact (h2 m).2.1
  · rw [me_uk (by omega), me_uo (by decide)]
    exact (h2 m).2.2.1
  · by_cases e : m = n
    · subst e
      rw [me_us, me_us]
    · rw [me_uk (by omega), me_uk e]
      exact (h2 m).2.2.2
def yr_T (R0 R1 R2 : Nat) (C : lb_C) (M : nt_M) (f : Nat → Int32) (t B Tb Sg Ln q : Nat) (wr : Int32) (m : Nat) (e : Nat × (Nat → Int32)) (u : Nat × Nat × Nat × Nat × Nat) (li : Nat) (J : Nat → Nat → Int32) : Prop := md_P M J f t 6 B Tb Sg Ln ∧ md_S J B Sg Ln 6 q wr m e J ∧ (J B 7 = nI u.1 ∧ J B 8 = nI u.2.1 ∧ J B 9 = nI u.2.2.1 ∧ J B 10 = nI u.2.2.2.1 ∧ J B 11 = lb_hh u.2.2.2.2) ∧ J B 21 = nI li ∧ yr_C R0 R1 R2 B Sg Ln C J
theorem yr_up {R0 R1 R2 : Nat} {C : lb_C} {M : nt_M} {f : Nat → Int32} {t B Tb Sg Ln q m li : Nat} {wr : Int32} {e : Nat × (Nat → Int32)} {u : Nat × Nat × Nat × Nat × Nat} {J : Nat → Nat → Int32} (hT : yr_T R0 R1 R2 C M f t B Tb Sg Ln q wr m e u li J) {J' : Nat → Nat → Int32} {q' m' : Nat} {wr' : Int32} {e' : Nat × (Nat → Int32)} (hS : md_S J B Sg Ln 6 q' wr' m' e' J') : yr_T R0 R1 R2 C M f t B Tb Sg Ln q' wr' m' e' u li J' := by
  obtain ⟨⟨p1, p2, p3, p4, p5, p6⟩, h1, ⟨c1, c2, c3, c4, c5⟩, c6, c7⟩ := hT
  have b1 := hS.2.2.2.2.2.1
  have b2 := hS.2.2.2.2.2.2.1
  exact ⟨⟨p1, p2, (b1 1 (by decide) (by decide) (by decide) (by decide)).trans p3, (b1 18 (by decide) (by decide) (by decide) (by decide)).trans p4, fun j => by rw [b2 Tb p2.1 p2.2.1 p2.2.2.1]; exact p5 j, p6⟩, md_Sself hS, ⟨(b1 7 (by decide) (by decide) (by decide) (by decide)).trans c1, (b1 8 (by decide) (by decide) (by decide) (by decide)).trans c2, (b1 9 (by decide) (by decide) (by decide) (by decide)).trans c3, (b1 10 (by decide) (by decide) (by decide) (by decide)).trans c4, (b1 11 (by decide) (by decide) (by decide) (by decide)).trans c5⟩, (b1 21 (by decide) (by decide) (by decide) (by decide)).trans c6, yr_Cr c7 b2⟩
theorem yr_u0 {R0 R1 R2 : Nat} {C : lb_C} {M : nt_M} {f : Nat → Int32} {t B Tb Sg Ln q m li : Nat} {wr : Int32} {e : Nat × (Nat → Int32)} {u : Nat × Nat × Nat × Nat × Nat} {J : Nat → Nat → Int32} {y : Nat} (hT : yr_T R0 R1 R2 C M f t B Tb Sg Ln q wr m e u li J) : yr_T R0 R1 R2 C M f t B Tb Sg Ln q wr m e (y, u.2.1, u.2.2.1, u.2.2.2.1, u.2.2.2.2) li (nt_u J B 7 (nI y)) := by
  obtain ⟨⟨p1, p2, p3, p4, p5, p6⟩, ⟨a1, a2, a3, a4, a5, a6, a7, a8⟩, ⟨c1, c2, c3, c4, c5⟩, c6, c7⟩ := hT
  have n1 := p2.2.2.2.1
  have n2 := p2.2.2.2.2.1
  exact ⟨⟨p1, p2, (me_uk (by decide)).trans p3, (me_uk (by decide)).trans p4, fun j => (me_uj p2.1).trans (p5 j), p6⟩, ⟨(me_uk (by decide)).trans a1, (me_uk (by decide)).trans a2, (me_uk (by decide)).trans a3, (me_uj (Ne.symm n2)).trans a4, fun j hj => (me_uj (Ne.symm n1)).trans (a5 j hj), fun _ _ _ _ _ => rfl, fun _ _ _ _ => rfl, a8⟩, ⟨me_us, (me_uk (by decide)).trans c2, (me_uk (by decide)).trans c3, (me_uk (by decide)).trans c4, (me_uk (by decide)).trans c5⟩, (me_uk (by decide)).trans c6, yr_Cr c7 (fun a h1 _ _ => me_uo h1)⟩
theorem yr_u1 {R0 R1 R2 : Nat} {C : lb_C} {M : nt_M} {f : Nat → Int32} {t B Tb Sg Ln q m li : Nat} {wr : Int32} {e : Nat × (Nat → Int32)} {u : Nat × Nat × Nat × Nat × Nat} {J : Nat → Nat → Int32} {y : Nat} (hT : yr_T R0 R1 R2 C M f t B Tb Sg Ln q wr m e u li J) : yr_T R0 R1 R2 C M f t B Tb Sg Ln q wr m e (u.1, y, u.2.2.1, u.2.2.2.1, u.2.2.2.2) li (nt_u J B 8 (nI y)) := by
  obtain ⟨⟨p1, p2, p3, p4, p5, p6⟩, ⟨a1, a2, a3, a4, a5, a6, a7, a8⟩, ⟨c1, c2, c3, c4, c5⟩, c6, c7⟩ := hT
  have n1 := p2.2.2.2.1
  have n2 := p2.2.2.2.2.1
  exact ⟨⟨p1, p2, (me_uk (by decide)).trans p3, (me_uk (by decide)).trans p4, fun j => (me_uj p2.1).trans (p5 j), p6⟩, ⟨(me_uk (by decide)).trans a1, (me_uk (by decide)).trans a2, (me_uk (by decide)).trans a3, (me_uj (Ne.symm n2)).trans a4, fun j hj => (me_uj (Ne.symm n1)).trans (a5 j hj), fun _ _ _ _ _ => rfl, fun _ _ _ _ => rfl, a8⟩, ⟨(me_uk (by decide)).trans c1, me_us, (me_uk (by decide)).trans c3, (me_uk (by decide)).trans c4, (me_uk (by decide)).trans c5⟩, (me_uk (by decide)).trans c6, yr_Cr c7 (fun a h1 _ _ => me_uo h1)⟩
theorem yr_u2 {R0 R1 R2 : Nat} {C : lb_C} {M : nt_M} {f : Nat → Int32} {t B Tb Sg Ln q m li : Nat} {wr : Int32} {e : Nat × (Nat → Int32)} {u : Nat × Nat × Nat × Nat × Nat} {J : Nat → Nat → Int32} {y : Nat} (hT : yr_T R0 R1 R2 C M f t B Tb Sg Ln q wr m e u li J) : yr_T R0 R1 R2 C M f t B Tb Sg Ln q wr m e (u.1, u.2.1, y, u.2.2.2.1, u.2.2.2.2) li (nt_u J B 9 (nI y)) := by
  obtain ⟨⟨p1, p2, p3, p4, p5, p6⟩, ⟨a1, a2, a3, a4, a5, a6, a7, a8⟩, ⟨c1, c2, c3, c4, c5⟩, c6, c7⟩ := hT
  have n1 := p2.2.2.2.1
  have n2 := p2.2.2.2.2.1
  exact ⟨⟨p1, p2, (me_uk (by decide)).trans p3, (me_uk (by decide)).trans p4, fun j => (me_uj p2.1).trans (p5 j), p6⟩, ⟨(me_uk (by decide)).trans a1, (me_uk (by decide)).trans a2, (me_uk (by decide)).trans a3, (me_uj (Ne.symm n2)).trans a4, fun j hj => (me_uj (Ne.symm n1)).trans (a5 j hj), fun _ _ _ _ _ => rfl, fun _ _ _ _ => rfl, a8⟩, ⟨(me_uk (by decide)).trans c1, (me_uk (by decide)).trans c2, me_us, (me_uk (by decide)).trans c4, (me_uk (by decide)).trans c5⟩, (me_uk (by decide)).trans c6, yr_Cr c7 (fun a h1 _ _ => me_uo h1)⟩
theorem yr_u3 {R0 R1 R2 : Nat} {C : lb_C} {M : nt_M} {f : Nat → Int32} {t B Tb Sg Ln q m li : Nat} {wr : Int32} {e : Nat × (Nat → Int32)} {u : Nat × Nat × Nat × Nat × Nat} {J : Nat → Nat → Int32} {y : Nat} (hT : yr_T R0 R1 R2 C M f t B Tb Sg Ln q wr m e u li J) : yr_T R0 R1 R2 C M f t B Tb Sg Ln q wr m e (u.1, u.2.1, u.2.2.1, y, u.2.2.2.2) li (nt_u J B 10 (nI y)) := by
  obtain ⟨⟨p1, p2, p3, p4, p5, p6⟩, ⟨a1, a2, a3, a4, a5, a6, a7, a8⟩, ⟨c1, c2, c3, c4, c5⟩, c6, c7⟩ := hT
  have n1 := p2.2.2.2.1
  have n2 := p2.2.2.2.2.1
  exact ⟨⟨p1, p2, (me_uk (by decide)).trans p3, (me_uk (by decide)).trans p4, fun j => (me_uj p2.1).trans (p5 j), p6⟩, ⟨(me_uk (by decide)).trans a1, (me_uk (by decide)).trans a2, (me_uk (by decide)).trans a3, (me_uj (Ne.symm n2)).trans a4, fun j hj => (me_uj (Ne.symm n1)).trans (a5 j hj), fun _ _ _ _ _ => rfl, fun _ _ _ _ => rfl, a8⟩, ⟨(me_uk (by decide)).trans c1, (me_uk (by decide)).trans c2, (me_uk (by decide)).trans c3, me_us, (me_uk (by decide)).trans c5⟩, (me_uk (by decide)).trans c6, yr_Cr c7 (fun a h1 _ _ => me_uo h1)⟩
theorem yr_u4 {R0 R1 R2 : Nat} {C : lb_C} {M : nt_M} {f : Nat → Int32} {t B Tb Sg Ln q m li : Nat} {wr : Int32} {e : Nat × (Nat → Int32)} {u : Nat × Nat × Nat × Nat × Nat} {J : Nat → Nat → Int32} {y : Nat} (hT : yr_T R0 R1 R2 C M f t B Tb Sg Ln q wr m e u li J) : yr_T R0 R1 R2 C M f t B Tb Sg Ln q wr m e (u.1, u.2.1, u.2.2.1, u.2.2.2.1, y) li (nt_u J B 11 (lb_hh y)) := by
  obtain ⟨⟨p1, p2, p3, p4, p5, p6⟩, ⟨a1, a2, a3, a4, a5, a6, a7, a8⟩, ⟨c1, c2, c3, c4, c5⟩, c6, c7⟩ := hT
  have n1 := p2.2.2.2.1
  have n2 := p2.2.2.2.2.1
  exact ⟨⟨p1, p2, (me_uk (by decide)).trans p3, (me_uk (by decide)).trans p4, fun j => (me_uj p2.1).trans (p5 j), p6⟩, ⟨(me_uk (by decide)).trans a1, (me_uk (by decide)).trans a2, (me_uk (by decide)).trans a3, (me_uj (Ne.symm n2)).trans a4, fun j hj => (me_uj (Ne.symm n1)).trans (a5 j hj), fun _ _ _ _ _ => rfl, fun _ _ _ _ => rfl, a8⟩, ⟨(me_uk (by decide)).trans c1, (me_uk (by decide)).trans c2, (me_uk (by decide)).trans c3, (me_uk (by decide)).trans c4, me_us⟩, (me_uk (by decide)).trans c6, yr_Cr c7 (fun a h1 _ _ => me_uo h1)⟩
theorem yr_li {R0 R1 R2 : Nat} {C : lb_C} {M : nt_M} {f : Nat → Int32} {t B Tb Sg Ln q m li : Nat} {wr : Int32} {e : Nat × (Nat → Int32)} {u : Nat × Nat × Nat × Nat × Nat} {J : Nat → Nat → Int32} {y : Nat} (hT : yr_T R0 R1 R2 C M f t B Tb Sg Ln q wr m e u li J) : yr_T R0 R1 R2 C M f t B Tb Sg Ln q wr m e u y (nt_u J B 21 (nI y)) := by
  obtain ⟨⟨p1, p2, p3, p4, p5, p6⟩, ⟨a1, a2, a3, a4, a5, a6, a7, a8⟩, ⟨c1, c2, c3, c4, c5⟩, c6, c7⟩ := hT
  have n1 := p2.2.2.2.1
  have n2 := p2.2.2.2.2.1
  exact ⟨⟨p1, p2, (me_uk (by decide)).trans p3, (me_uk (by decide)).trans p4, fun j => (me_uj p2.1).trans (p5 j), p6⟩, ⟨(me_uk (by decide)).trans a1, (me_uk (by decide)).trans a2, (me_uk (by decide)).trans a3, (me_uj (Ne.symm n2)).trans a4, fun j hj => (me_uj (Ne.symm n1)).trans (a5 j hj), fun _ _ _ _ _ => rfl, fun _ _ _ _ => rfl, a8⟩, ⟨(me_uk (by decide)).trans c1, (me_uk (by decide)).trans c2, (me_uk (by decide)).trans c3, (me_uk (by decide)).trans c4, (me_uk (by decide)).trans c5⟩, me_us, yr_Cr c7 (fun a h1 _ _ => me_uo h1)⟩
theorem yr_row {R0 R1 R2 : Nat} {C : lb_C} {M : nt_M} {f : Nat → Int32} {t B Tb Sg Ln q m li : Nat} {wr : Int32} {e : Nat × (Nat → Int32)} {u : Nat × Nat × Nat × Nat × Nat} {J : Nat → Nat → Int32} {a j : Nat} {x : Int32} {D : lb_C} (hT : yr_T R0 R1 R2 C M f t B Tb Sg Ln q wr m e u li J) (h1 : a ≠ B) (h2 : a ≠ Tb) (h3 : a ≠ Sg) (h4 : a ≠ Ln) (hc : yr_C R0 R1 R2 B Sg Ln C J → yr_C R0 R1 R2 B Sg Ln D (nt_u J a j x)) : yr_T R0 R1 R2 D M f t B Tb Sg Ln q wr m e u li (nt_u J a j x) := by
  obtain ⟨⟨p1, p2, p3, p4, p5, p6⟩, ⟨a1, a2, a3, a4, a5, a6, a7, a8⟩, ⟨c1, c2, c3, c4, c5⟩, c6, c7⟩ := hT
  have z := fun i => me_uj (J := J) (k := j) (v := x) (j := i) (Ne.symm h1)
  exact ⟨⟨p1, p2, (z 1).trans p3, (z 18).trans p4, fun i => (me_uj (Ne.symm h2)).trans (p5 i), p6⟩, ⟨(z 15).trans a1, (z 16).trans a2, (z 19).trans a3, (me_uj (Ne.symm h4)).trans a4, fun i hi => (me_uj (Ne.symm h3)).trans (a5 i hi), fun _ _ _ _ _ => rfl, fun _ _ _ _ => rfl, a8⟩, ⟨(z 7).trans c1, (z 8).trans c2, (z 9).trans c3, (z 10).trans c4, (z 11).trans c5⟩, (z 21).trans c6, hc c7⟩
def yr_N (R0 R1 R2 : Nat) (C : lb_C) (M : nt_M) (f : Nat → Int32) (t B Tb Sg Ln m : Nat) (e : Nat × (Nat → Int32)) (u : Nat × Nat × Nat × Nat × Nat) (li : Nat) (r : lb_N) (a : Int32) (J : Nat → Nat → Int32) : Prop := match r with
  | .inl c => c ≠ 0 ∧ a = Int32.ofInt 0 ∧ ∃ q', q' ≤ t ∧ yr_T R0 R1 R2 C M f t B Tb Sg Ln q' c m e u li J
  | .inr p => a = Int32.ofInt 1 ∧ ∃ q', lb_s f t q' = p.1 ∧ q' ≤ t ∧ yr_T R0 R1 R2 C M f t B Tb Sg Ln q' 0 m e u li J ∧ J B 17 = p.2
theorem yr_num {R0 R1 R2 : Nat} {C : lb_C} {X : nt_X} {d t B Tb Sg Ln q m li : Nat} {f : Nat → Int32} {M : nt_M} {e : Nat × (Nat → Int32)} {u : Nat × Nat × Nat × Nat × Nat} {J : Nat → Nat → Int32} {o : Option Value × nt_M} {lo hi : Int32} (hT : yr_T R0 R1 R2 C M f t B Tb Sg Ln q 0 m e u li J) (hp : q ≤ t) (k : nt_ev X d 143 [.ref B, .int lo, .int hi] (me_w M J) o) : ∃ r a J', o = (some (.int a), me_w M J') ∧ lb_nu f t (lb_s f t q) lo hi r ∧ yr_N R0 R1 R2 C M f t B Tb Sg Ln m e u li r a J' := by
  have t4 : t ≤ 400 := hT.1.2.2.2.2.2.1
  have hp1 : lb_s f t q ≤ t := (lb_s_le (t - q) q (by omega)).2
  have hD := lb_d_le (f := f) (t := t) (t - lb_s f t q) (lb_s f t q) (by omega)
  obtain ⟨r, J', e1, h⟩ := md_num hT.1 hT.2.1 hp k
  rcases h with ⟨h0, rfl, hS⟩ | ⟨h0, hb, rfl, hS⟩ | ⟨h0, h5, hb, rfl, hS, h17⟩
  · exact ⟨.inl (lb_c (lb_s f t q) (Int32.ofInt 0)), _, J', e1, Or.inl ⟨h0, rfl⟩, lb_c_ne (by omega) (by decide) (by decide), rfl, _, hp1, yr_up hT hS⟩
  · exact ⟨.inl (lb_c (lb_s f t q) (Int32.ofInt 1)), _, J', e1, Or.inr (Or.inl ⟨h0, hb, rfl⟩), lb_c_ne (by omega) (by decide) (by decide), rfl, _, hD, yr_up hT hS⟩
  · exact ⟨.inr (lb_s f t (lb_s f t q + lb_d f t (lb_s f t q)), lb_v f (lb_s f t q) (lb_d f t (lb_s f t q))), _, J', e1, Or.inr (Or.inr ⟨h0, h5, hb, rfl⟩), rfl, _, rfl, hD, yr_up hT hS, h17⟩
def yr_Q (R0 R1 R2 : Nat) (P : lb_U → lb_C → Prop) (M : nt_M) (f : Nat → Int32) (t B Tb Sg Ln m : Nat) (e : Nat × (Nat → Int32)) (li : Nat) (r : Int32 ⊕ lb_U) (a : Int32) (J : Nat → Nat → Int32) : Prop := match r with
  | .inl c => c ≠ 0 ∧ a = Int32.ofInt 0 ∧ ∃ q' u' l' C, q' ≤ t ∧ yr_T R0 R1 R2 C M f t B Tb Sg Ln q' c m e u' l' J
  | .inr w => a = Int32.ofInt 1 ∧ lb_ub w.2 ∧ w.2.1 ≠ 0 ∧ ∃ q' C, lb_s f t q' = w.1 ∧ q' ≤ t ∧ P w C ∧ yr_T R0 R1 R2 C M f t B Tb Sg Ln q' 0 m e w.2 li J
theorem yr_Qm {R0 R1 R2 : Nat} {P P' : lb_U → lb_C → Prop} {M : nt_M} {f : Nat → Int32} {t B Tb Sg Ln m li : Nat} {e : Nat × (Nat → Int32)} {r : Int32 ⊕ lb_U} {a : Int32} {J : Nat → Nat → Int32} (h : ∀ w D, P w D → P' w D) (hQ : yr_Q R0 R1 R2 P M f t B Tb Sg Ln m e li r a J) : yr_Q R0 R1 R2 P' M f t B Tb Sg Ln m e li r a J := by
  rcases r with c | w
  · exact hQ
  · obtain ⟨h1, h2, h3, q', C, h4, h5, h6, h7⟩ := hQ
    exact ⟨h1, h2, h3, q', C, h4, h5, h _ _ h6, h7⟩
def yr_W (M : nt_M) (B Tb Sg Ln R0 R1 R2 : Nat) : Prop := (nt_R M B 12 = some R0 ∧ nt_R M B 13 = some R1 ∧ nt_R M B 14 = some R2) ∧ (R0 ≠ B ∧ R0 ≠ Tb ∧ R0 ≠ Sg ∧ R0 ≠ Ln) ∧ (R1 ≠ B ∧ R1 ≠ Tb ∧ R1 ≠ Sg ∧ R1 ≠ Ln) ∧ (R2 ≠ B ∧ R2 ≠ Tb ∧ R2 ≠ Sg ∧ R2 ≠ Ln)
theorem yr_kinds {R0 R1 R2 : Nat} {C : lb_C} {X : nt_X} {d t B Tb Sg Ln q m li : Nat} {f : Nat → Int32} {M : nt_M} {e : Nat × (Nat → Int32)} {u : Nat × Nat × Nat × Nat × Nat} {J : Nat → Nat → Int32} {o : Option Value × nt_M} (hW : yr_W M B Tb Sg Ln R0 R1 R2) (hT : yr_T R0 R1 R2 C M f t B Tb Sg Ln q 0 m e u li J) (hp : q ≤ t) (hb : lb_ub u) (hat : lb_yw f t q 0) (k : nt_ev X d 141 [.ref B, .int (nI q)] (me_w M J) o) : ∃ r a J', o = (some (.int a), me_w M J') ∧ (((u.1 ≠ 0) ∧ r = .inl (lb_c q (Int32.ofInt 4))) ∨ (¬ (u.1 ≠ 0) ∧ lb_pa f t (q, u) (lb_s f t (q + (lb_W (nt_sp + 1 + 0)).length)) 0 r)) ∧ yr_Q R0 R1 R2 (fun v D => lb_paC f t u (lb_s f t (q + (lb_W (nt_sp + 1 + 0)).length)) v.1 0 C D) M f t B Tb Sg Ln m e li r a J' := by
  have k : nt_rn X d 141 (0, [(0, .ref B), (1, .int (nI q))], [], me_w M J) o := k
  have t4 : t ≤ 400 := hT.1.2.2.2.2.2.1
  have hb0 := hb
  obtain ⟨d1, d2, d3, d4, d5⟩ := hb0
  have k := ly_revb 1 (c' := (1, [(0, .ref B), (1, .int (nI q))], [.ref B], me_w M J)) rfl k
  have k := lz_get (a := B) (g := 1107) (M := me_w M J) (v := .int (nI u.1)) rfl (congrArg Value.int (hT.2.2.1.1)) k
  have k := ly_revb 1 (c' := (if (nI u.1) ≤ 0 then 14 else 7, [(0, .ref B), (1, .int (nI q))], [], me_w M J)) rfl k
  by_cases h4 : u.1 = 0
  · rw [if_pos (show (nI u.1) ≤ 0 from by rw [h4]; decide)] at k
    have k := ly_revb 1 (c' := (15, [(0, .ref B), (1, .int (nI q))], [.ref B], me_w M J)) rfl k
    obtain ⟨d1, o1, ed, kc, k⟩ := lz_c (g := 142) (q := 1) (vs := [.ref B]) (rest := []) rfl rfl (by decide) (Or.inr (Or.inl ⟨_, rfl, rfl⟩)) rfl k
    have e1 := md_pass hT.1 hT.2.1 hp kc
    rw [lb_at_l hat] at e1
    subst e1
    have hR1 := yr_up hT (md_Sq (y := q + (lb_W (nt_sp + 1 + 0)).length) hT.1 hT.2.1)
    have hpw : q + (lb_W (nt_sp + 1 + 0)).length ≤ t := hat.1
    have k : nt_rn X _ 141 (18, [(0, .ref B), (1, .int (nI q))], [], me_w M (nt_u J B 15 (nI (q + (lb_W (nt_sp + 1 + 0)).length)))) _ := k
    have k := ly_revb 3 (c' := (21, [(0, .ref B), (1, .int (nI q))], [.int (Int32.ofInt 4), .int (Int32.ofInt 1), .ref B], me_w M (nt_u J B 15 (nI (q + (lb_W (nt_sp + 1 + 0)).length))))) rfl k
    obtain ⟨d1, o1, ed, kc, k⟩ := lz_c (g := 143) (q := 1) (vs := [.ref B, .int (Int32.ofInt 1), .int (Int32.ofInt 4)]) (rest := []) rfl rfl (by decide) (Or.inr (Or.inl ⟨_, rfl, rfl⟩)) rfl k
    obtain ⟨r1, a1, J1, e1, hv1, hN1⟩ := yr_num hR1 hpw kc
    subst e1
    rcases r1 with c | ⟨q1, x1⟩
    · obtain ⟨hc, rfl, y1, hy1, hT1⟩ := hN1
      have k : nt_rn X _ 141 (24, [(0, .ref B), (1, .int (nI q))], [.int (Int32.ofInt 0)], me_w M J1) _ := k
      have k := ly_revb 1 (c' := (if (Int32.ofInt 0) = 0 then 27 else 29, [(0, .ref B), (1, .int (nI q))], [], me_w M J1)) rfl k
      rw [if_pos (show (Int32.ofInt 0) = 0 from by decide)] at k
      have k := ly_revb 1 (c' := (28, [(0, .ref B), (1, .int (nI q))], [.int (Int32.ofInt 0)], me_w M J1)) rfl k
      have k := lz_ri rfl (by decide) k
      exact ⟨.inl c, _, _, k, Or.inr ⟨fun c => c h4, ⟨_, hv1, Or.inl ⟨c, rfl, rfl⟩⟩⟩, hc, rfl, _, _, _, _, hy1, hT1⟩
    · obtain ⟨rfl, y1, hz1, hy1, hT1, hw1⟩ := hN1
      dsimp only at hz1 hw1
      have hu1 := lb_nu_up (lb_s_le (t - (q + (lb_W (nt_sp + 1 + 0)).length)) (q + (lb_W (nt_sp + 1 + 0)).length) (by omega)).2 hv1
      have k : nt_rn X _ 141 (24, [(0, .ref B), (1, .int (nI q))], [.int (Int32.ofInt 1)], me_w M J1) _ := k
      have k := ly_revb 1 (c' := (if (Int32.ofInt 1) = 0 then 27 else 29, [(0, .ref B), (1, .int (nI q))], [], me_w M J1)) rfl k
      rw [if_neg (show ¬ ((Int32.ofInt 1) = 0) from by decide)] at k
      have k := ly_revb 2 (c' := (31, [(0, .ref B), (1, .int (nI q))], [.ref B, .ref B], me_w M J1)) rfl k
      have k := lz_get (a := B) (g := 1117) (M := me_w M J1) (v := .int (x1)) rfl (congrArg Value.int (hw1)) k
      have k := me_put rfl (by decide) k
      have k : nt_rn X _ 141 (37, [(0, .ref B), (1, .int (nI q))], [], me_w M (nt_u J1 B 7 (x1))) _ := k
      obtain ⟨ex, hx⟩ := yc_nn (b := 4) (by decide) hu1.2.1 hu1.2.2
      dsimp only at ex hx
      have hR2 := yr_u0 (y := x1.toInt.toNat) hT1
      rw [← ex] at hR2
      have k := ly_revb 1 (c' := (38, [(0, .ref B), (1, .int (nI q))], [.int (Int32.ofInt 1)], me_w M (nt_u J1 B 7 (x1)))) rfl k
      have k := lz_ri rfl (by decide) k
      obtain ⟨b1, b2, b3, b4, b5⟩ := hb
      exact ⟨.inr (q1, x1.toInt.toNat, u.2.1, u.2.2.1, u.2.2.2.1, u.2.2.2.2), _, _, k, Or.inr ⟨fun c => c h4, ⟨_, hv1, Or.inr ⟨_, _, rfl, rfl⟩⟩⟩, rfl, ⟨hx, b2, b3, b4, b5⟩, by dsimp only; have h1 : (1 : Int) ≤ x1.toInt := hu1.2.1; omega, y1, _, hz1, hy1, rfl, hR2⟩
  · rw [if_neg (show ¬ ((nI u.1) ≤ 0) from nI_nle (Nat.pos_of_ne_zero h4) (by omega))] at k
    have k := ly_revb 3 (c' := (10, [(0, .ref B), (1, .int (nI q))], [.int (nI q), .int (Int32.ofInt 4), .ref B], me_w M J)) rfl k
    obtain ⟨d1, o1, ed, kc, k⟩ := lz_c (g := 139) (q := 1) (vs := [.ref B, .int (Int32.ofInt 4), .int (nI q)]) (rest := []) rfl rfl (by decide) (Or.inr (Or.inl ⟨_, rfl, rfl⟩)) rfl k
    obtain ⟨hf, e1⟩ := (md_fails (a := q) hT.1 hT.2.1 hp kc).resolve_right (fun c => c.1 rfl)
    subst e1
    have hR1 := yr_up hT (md_Sw (y := lb_c q (Int32.ofInt 4)) hT.1 hT.2.1)
    have k : nt_rn X _ 141 (13, [(0, .ref B), (1, .int (nI q))], [.int (Int32.ofInt 0)], me_w M (nt_u J B 16 (lb_c q (Int32.ofInt 4)))) _ := k
    have k := lz_ri rfl (by decide) k
    exact ⟨.inl (lb_c q (Int32.ofInt 4)), _, _, k, Or.inl ⟨h4, rfl⟩, (lb_c_ne (by omega) (by decide) (by decide)), rfl, _, _, _, _, hp, hR1⟩
theorem yr_plank {R0 R1 R2 : Nat} {C : lb_C} {X : nt_X} {d t B Tb Sg Ln q m li : Nat} {f : Nat → Int32} {M : nt_M} {e : Nat × (Nat → Int32)} {u : Nat × Nat × Nat × Nat × Nat} {J : Nat → Nat → Int32} {o : Option Value × nt_M} (hW : yr_W M B Tb Sg Ln R0 R1 R2) (hT : yr_T R0 R1 R2 C M f t B Tb Sg Ln q 0 m e u li J) (hp : q ≤ t) (hb : lb_ub u) (hk0 : u.1 ≠ 0) (hat : lb_yw f t q 2) (k : nt_ev X d 147 [.ref B, .int (nI q)] (me_w M J) o) : ∃ r a J', o = (some (.int a), me_w M J') ∧ (((24 ≤ u.2.2.1) ∧ r = .inl (lb_c q (Int32.ofInt 4))) ∨ (¬ (24 ≤ u.2.2.1) ∧ lb_pa f t (q, u) (lb_s f t (q + (lb_W (nt_sp + 1 + 2)).length)) 2 r)) ∧ yr_Q R0 R1 R2 (fun v D => lb_paC f t u (lb_s f t (q + (lb_W (nt_sp + 1 + 2)).length)) v.1 2 C D) M f t B Tb Sg Ln m e li r a J' := by
  have k : nt_rn X d 147 (0, [(0, .ref B), (1, .int (nI q))], [], me_w M J) o := k
  have t4 : t ≤ 400 := hT.1.2.2.2.2.2.1
  have hb0 := hb
  obtain ⟨d1, d2, d3, d4, d5⟩ := hb0
  have k := ly_revb 1 (c' := (1, [(0, .ref B), (1, .int (nI q))], [.ref B], me_w M J)) rfl k
  have k := lz_get (a := B) (g := 1109) (M := me_w M J) (v := .int (nI u.2.2.1)) rfl (congrArg Value.int (hT.2.2.1.2.2.1)) k
  have k := ly_revb 2 (c' := (if (nI u.2.2.1) = (Int32.ofInt 24) then 9 else 16, [(0, .ref B), (1, .int (nI q))], [], me_w M J)) rfl k
  by_cases h6 : u.2.2.1 = 24
  · rw [if_pos (show (nI u.2.2.1) = (Int32.ofInt 24) from show nI u.2.2.1 = nI 24 from congrArg nI h6)] at k
    have k := ly_revb 3 (c' := (12, [(0, .ref B), (1, .int (nI q))], [.int (nI q), .int (Int32.ofInt 4), .ref B], me_w M J)) rfl k
    obtain ⟨d1, o1, ed, kc, k⟩ := lz_c (g := 139) (q := 1) (vs := [.ref B, .int (Int32.ofInt 4), .int (nI q)]) (rest := []) rfl rfl (by decide) (Or.inr (Or.inl ⟨_, rfl, rfl⟩)) rfl k
    obtain ⟨hf, e1⟩ := (md_fails (a := q) hT.1 hT.2.1 hp kc).resolve_right (fun c => c.1 rfl)
    subst e1
    have hR1 := yr_up hT (md_Sw (y := lb_c q (Int32.ofInt 4)) hT.1 hT.2.1)
    have k : nt_rn X _ 147 (15, [(0, .ref B), (1, .int (nI q))], [.int (Int32.ofInt 0)], me_w M (nt_u J B 16 (lb_c q (Int32.ofInt 4)))) _ := k
    have k := lz_ri rfl (by decide) k
    exact ⟨.inl (lb_c q (Int32.ofInt 4)), _, _, k, Or.inl ⟨by omega, rfl⟩, (lb_c_ne (by omega) (by decide) (by decide)), rfl, _, _, _, _, hp, hR1⟩
  · rw [if_neg (show ¬ ((nI u.2.2.1) = (Int32.ofInt 24)) from show ¬ nI u.2.2.1 = nI 24 from me_ne h6 (by omega) (by omega))] at k
    have k := ly_revb 1 (c' := (17, [(0, .ref B), (1, .int (nI q))], [.ref B], me_w M J)) rfl k
    obtain ⟨d1, o1, ed, kc, k⟩ := lz_c (g := 142) (q := 1) (vs := [.ref B]) (rest := []) rfl rfl (by decide) (Or.inr (Or.inl ⟨_, rfl, rfl⟩)) rfl k
    have e1 := md_pass hT.1 hT.2.1 hp kc
    rw [lb_at_l hat] at e1
    subst e1
    have hR1 := yr_up hT (md_Sq (y := q + (lb_W (nt_sp + 1 + 2)).length) hT.1 hT.2.1)
    have hpw : q + (lb_W (nt_sp + 1 + 2)).length ≤ t := hat.1
    have k : nt_rn X _ 147 (20, [(0, .ref B), (1, .int (nI q))], [], me_w M (nt_u J B 15 (nI (q + (lb_W (nt_sp + 1 + 2)).length)))) _ := k
    have k := ly_revb 2 (c' := (22, [(0, .ref B), (1, .int (nI q))], [.ref B, .int (Int32.ofInt 3)], me_w M (nt_u J B 15 (nI (q + (lb_W (nt_sp + 1 + 2)).length))))) rfl k
    have k := lz_get (a := B) (g := 1109) (M := me_w M (nt_u J B 15 (nI (q + (lb_W (nt_sp + 1 + 2)).length)))) (v := .int (nI u.2.2.1)) rfl (congrArg Value.int (hR1.2.2.1.2.2.1)) k
    have k := ly_revb 5 (c' := (30, [(2, .int ((Int32.ofInt 3) * (nI u.2.2.1))), (0, .ref B), (1, .int (nI q))], [.ref B, .int (Int32.ofInt 0), .ref B], me_w M (nt_u J B 15 (nI (q + (lb_W (nt_sp + 1 + 2)).length))))) rfl k
    have k := lz_get (a := B) (g := 1107) (M := me_w M (nt_u J B 15 (nI (q + (lb_W (nt_sp + 1 + 2)).length)))) (v := .int (nI u.1)) rfl (congrArg Value.int (hR1.2.2.1.1)) k
    have k := ly_revb 2 (c' := (35, [(2, .int ((Int32.ofInt 3) * (nI u.2.2.1))), (0, .ref B), (1, .int (nI q))], [.int ((nI u.1) - (Int32.ofInt 1)), .int (Int32.ofInt 0), .ref B], me_w M (nt_u J B 15 (nI (q + (lb_W (nt_sp + 1 + 2)).length))))) rfl k
    obtain ⟨d1, o1, ed, kc, k⟩ := lz_c (g := 143) (q := 1) (vs := [.ref B, .int (Int32.ofInt 0), .int ((nI u.1) - (Int32.ofInt 1))]) (rest := []) rfl rfl (by decide) (Or.inr (Or.inl ⟨_, rfl, rfl⟩)) rfl k
    obtain ⟨r1, a1, J1, e1, hv1, hN1⟩ := yr_num hR1 hpw kc
    subst e1
    rcases r1 with c | ⟨q1, x1⟩
    · obtain ⟨hc, rfl, y1, hy1, hT1⟩ := hN1
      have k : nt_rn X _ 147 (38, [(2, .int ((Int32.ofInt 3) * (nI u.2.2.1))), (0, .ref B), (1, .int (nI q))], [.int (Int32.ofInt 0)], me_w M J1) _ := k
      have k := ly_revb 1 (c' := (if (Int32.ofInt 0) = 0 then 41 else 43, [(2, .int ((Int32.ofInt 3) * (nI u.2.2.1))), (0, .ref B), (1, .int (nI q))], [], me_w M J1)) rfl k
      rw [if_pos (show (Int32.ofInt 0) = 0 from by decide)] at k
      have k := ly_revb 1 (c' := (42, [(2, .int ((Int32.ofInt 3) * (nI u.2.2.1))), (0, .ref B), (1, .int (nI q))], [.int (Int32.ofInt 0)], me_w M J1)) rfl k
      have k := lz_ri rfl (by decide) k
      exact ⟨.inl c, _, _, k, Or.inr ⟨by omega, ⟨.inl c, ⟨_, hv1, Or.inl ⟨c, rfl, rfl⟩⟩, Or.inl ⟨c, rfl, rfl⟩⟩⟩, hc, rfl, _, _, _, _, hy1, hT1⟩
    · obtain ⟨rfl, y1, hz1, hy1, hT1, hw1⟩ := hN1
      dsimp only at hz1 hw1
      have hu1 := lb_nu_up (lb_s_le (t - (q + (lb_W (nt_sp + 1 + 2)).length)) (q + (lb_W (nt_sp + 1 + 2)).length) (by omega)).2 hv1
      have k : nt_rn X _ 147 (38, [(2, .int ((Int32.ofInt 3) * (nI u.2.2.1))), (0, .ref B), (1, .int (nI q))], [.int (Int32.ofInt 1)], me_w M J1) _ := k
      have k := ly_revb 1 (c' := (if (Int32.ofInt 1) = 0 then 41 else 43, [(2, .int ((Int32.ofInt 3) * (nI u.2.2.1))), (0, .ref B), (1, .int (nI q))], [], me_w M J1)) rfl k
      rw [if_neg (show ¬ ((Int32.ofInt 1) = 0) from by decide)] at k
      have k := ly_revb 1 (c' := (44, [(2, .int ((Int32.ofInt 3) * (nI u.2.2.1))), (0, .ref B), (1, .int (nI q))], [.ref B], me_w M J1)) rfl k
      have k := lz_get (a := B) (g := 1113) (M := me_w M J1) (v := .ref R1) rfl (nt_gfR rfl hW.1.2.1) k
      have k := ly_revb 2 (c' := (49, [(2, .int ((Int32.ofInt 3) * (nI u.2.2.1))), (0, .ref B), (1, .int (nI q))], [.ref B, .int ((Int32.ofInt 3) * (nI u.2.2.1)), .ref R1], me_w M J1)) rfl k
      have k := lz_get (a := B) (g := 1117) (M := me_w M J1) (v := .int (x1)) rfl (congrArg Value.int (hw1)) k
      have k := me_iastx rfl k
      have hR2 := yr_row (j := ((Int32.ofInt 3) * (nI u.2.2.1)).toNatClampNeg) (x := x1) hT1 hW.2.2.1.1 hW.2.2.1.2.1 hW.2.2.1.2.2.1 hW.2.2.1.2.2.2 (fun c => yr_C10 (lb_ix30 (by omega)) c)
      have k : nt_rn X _ 147 (53, [(2, .int ((Int32.ofInt 3) * (nI u.2.2.1))), (0, .ref B), (1, .int (nI q))], [], me_w M (nt_u J1 R1 ((Int32.ofInt 3) * (nI u.2.2.1)).toNatClampNeg (x1))) _ := k
      have k := ly_revb 3 (c' := (57, [(2, .int ((Int32.ofInt 3) * (nI u.2.2.1))), (0, .ref B), (1, .int (nI q))], [.int (Int32.ofInt 99), .int (Int32.ofInt 1), .ref B], me_w M (nt_u J1 R1 ((Int32.ofInt 3) * (nI u.2.2.1)).toNatClampNeg (x1)))) rfl k
      obtain ⟨d1, o1, ed, kc, k⟩ := lz_c (g := 143) (q := 1) (vs := [.ref B, .int (Int32.ofInt 1), .int (Int32.ofInt 99)]) (rest := []) rfl rfl (by decide) (Or.inr (Or.inl ⟨_, rfl, rfl⟩)) rfl k
      obtain ⟨r2, a2, J2, e1, hv2, hN2⟩ := yr_num hR2 hy1 kc
      subst e1
      rw [hz1] at hv2
      rcases r2 with c | ⟨q2, x2⟩
      · obtain ⟨hc, rfl, y2, hy2, hT2⟩ := hN2
        have k : nt_rn X _ 147 (60, [(2, .int ((Int32.ofInt 3) * (nI u.2.2.1))), (0, .ref B), (1, .int (nI q))], [.int (Int32.ofInt 0)], me_w M J2) _ := k
        have k := ly_revb 1 (c' := (if (Int32.ofInt 0) = 0 then 63 else 65, [(2, .int ((Int32.ofInt 3) * (nI u.2.2.1))), (0, .ref B), (1, .int (nI q))], [], me_w M J2)) rfl k
        rw [if_pos (show (Int32.ofInt 0) = 0 from by decide)] at k
        have k := ly_revb 1 (c' := (64, [(2, .int ((Int32.ofInt 3) * (nI u.2.2.1))), (0, .ref B), (1, .int (nI q))], [.int (Int32.ofInt 0)], me_w M J2)) rfl k
        have k := lz_ri rfl (by decide) k
        exact ⟨.inl c, _, _, k, Or.inr ⟨by omega, ⟨.inl c, ⟨_, hv1, Or.inr ⟨_, _, rfl, ⟨_, hv2, Or.inl ⟨c, rfl, rfl⟩⟩⟩⟩, Or.inl ⟨c, rfl, rfl⟩⟩⟩, hc, rfl, _, _, _, _, hy2, hT2⟩
      · obtain ⟨rfl, y2, hz2, hy2, hT2, hw2⟩ := hN2
        dsimp only at hz2 hw2
        have hu2 := lb_nu_up hu1.1 hv2
        have k : nt_rn X _ 147 (60, [(2, .int ((Int32.ofInt 3) * (nI u.2.2.1))), (0, .ref B), (1, .int (nI q))], [.int (Int32.ofInt 1)], me_w M J2) _ := k
        have k := ly_revb 1 (c' := (if (Int32.ofInt 1) = 0 then 63 else 65, [(2, .int ((Int32.ofInt 3) * (nI u.2.2.1))), (0, .ref B), (1, .int (nI q))], [], me_w M J2)) rfl k
        rw [if_neg (show ¬ ((Int32.ofInt 1) = 0) from by decide)] at k
        have k := ly_revb 1 (c' := (66, [(2, .int ((Int32.ofInt 3) * (nI u.2.2.1))), (0, .ref B), (1, .int (nI q))], [.ref B], me_w M J2)) rfl k
        have k := lz_get (a := B) (g := 1113) (M := me_w M J2) (v := .ref R1) rfl (nt_gfR rfl hW.1.2.1) k
        have k := ly_revb 4 (c' := (73, [(2, .int ((Int32.ofInt 3) * (nI u.2.2.1))), (0, .ref B), (1, .int (nI q))], [.ref B, .int (((Int32.ofInt 3) * (nI u.2.2.1)) + (Int32.ofInt 1)), .ref R1], me_w M J2)) rfl k
        have k := lz_get (a := B) (g := 1117) (M := me_w M J2) (v := .int (x2)) rfl (congrArg Value.int (hw2)) k
        have k := me_iastx rfl k
        have hR3 := yr_row (j := (((Int32.ofInt 3) * (nI u.2.2.1)) + (Int32.ofInt 1)).toNatClampNeg) (x := x2) hT2 hW.2.2.1.1 hW.2.2.1.2.1 hW.2.2.1.2.2.1 hW.2.2.1.2.2.2 (fun c => yr_C11 (lb_ix3' (i := 1) (by omega) (by decide)) c)
        have k : nt_rn X _ 147 (77, [(2, .int ((Int32.ofInt 3) * (nI u.2.2.1))), (0, .ref B), (1, .int (nI q))], [], me_w M (nt_u J2 R1 (((Int32.ofInt 3) * (nI u.2.2.1)) + (Int32.ofInt 1)).toNatClampNeg (x2))) _ := k
        have k := ly_revb 3 (c' := (80, [(2, .int ((Int32.ofInt 3) * (nI u.2.2.1))), (0, .ref B), (1, .int (nI q))], [.ref B, .int (Int32.ofInt 0), .ref B], me_w M (nt_u J2 R1 (((Int32.ofInt 3) * (nI u.2.2.1)) + (Int32.ofInt 1)).toNatClampNeg (x2)))) rfl k
        have k := lz_get (a := B) (g := 1108) (M := me_w M (nt_u J2 R1 (((Int32.ofInt 3) * (nI u.2.2.1)) + (Int32.ofInt 1)).toNatClampNeg (x2))) (v := .int (nI u.2.1)) rfl (congrArg Value.int (hR3.2.2.1.2.1)) k
        have k := ly_revb 2 (c' := (85, [(2, .int ((Int32.ofInt 3) * (nI u.2.2.1))), (0, .ref B), (1, .int (nI q))], [.int ((nI u.2.1) - (Int32.ofInt 1)), .int (Int32.ofInt 0), .ref B], me_w M (nt_u J2 R1 (((Int32.ofInt 3) * (nI u.2.2.1)) + (Int32.ofInt 1)).toNatClampNeg (x2)))) rfl k
        obtain ⟨d1, o1, ed, kc, k⟩ := lz_c (g := 143) (q := 1) (vs := [.ref B, .int (Int32.ofInt 0), .int ((nI u.2.1) - (Int32.ofInt 1))]) (rest := []) rfl rfl (by decide) (Or.inr (Or.inl ⟨_, rfl, rfl⟩)) rfl k
        obtain ⟨r3, a3, J3, e1, hv3, hN3⟩ := yr_num hR3 hy2 kc
        subst e1
        rw [hz2] at hv3
        rcases r3 with c | ⟨q3, x3⟩
        · obtain ⟨hc, rfl, y3, hy3, hT3⟩ := hN3
          have k : nt_rn X _ 147 (88, [(2, .int ((Int32.ofInt 3) * (nI u.2.2.1))), (0, .ref B), (1, .int (nI q))], [.int (Int32.ofInt 0)], me_w M J3) _ := k
          have k := ly_revb 1 (c' := (if (Int32.ofInt 0) = 0 then 91 else 93, [(2, .int ((Int32.ofInt 3) * (nI u.2.2.1))), (0, .ref B), (1, .int (nI q))], [], me_w M J3)) rfl k
          rw [if_pos (show (Int32.ofInt 0) = 0 from by decide)] at k
          have k := ly_revb 1 (c' := (92, [(2, .int ((Int32.ofInt 3) * (nI u.2.2.1))), (0, .ref B), (1, .int (nI q))], [.int (Int32.ofInt 0)], me_w M J3)) rfl k
          have k := lz_ri rfl (by decide) k
          exact ⟨.inl c, _, _, k, Or.inr ⟨by omega, ⟨.inl c, ⟨_, hv1, Or.inr ⟨_, _, rfl, ⟨_, hv2, Or.inr ⟨_, _, rfl, ⟨_, hv3, Or.inl ⟨c, rfl, rfl⟩⟩⟩⟩⟩⟩, Or.inl ⟨c, rfl, rfl⟩⟩⟩, hc, rfl, _, _, _, _, hy3, hT3⟩
        · obtain ⟨rfl, y3, hz3, hy3, hT3, hw3⟩ := hN3
          dsimp only at hz3 hw3
          have hu3 := lb_nu_up hu2.1 hv3
          have k : nt_rn X _ 147 (88, [(2, .int ((Int32.ofInt 3) * (nI u.2.2.1))), (0, .ref B), (1, .int (nI q))], [.int (Int32.ofInt 1)], me_w M J3) _ := k
          have k := ly_revb 1 (c' := (if (Int32.ofInt 1) = 0 then 91 else 93, [(2, .int ((Int32.ofInt 3) * (nI u.2.2.1))), (0, .ref B), (1, .int (nI q))], [], me_w M J3)) rfl k
          rw [if_neg (show ¬ ((Int32.ofInt 1) = 0) from by decide)] at k
          have k := ly_revb 1 (c' := (94, [(2, .int ((Int32.ofInt 3) * (nI u.2.2.1))), (0, .ref B), (1, .int (nI q))], [.ref B], me_w M J3)) rfl k
          have k := lz_get (a := B) (g := 1113) (M := me_w M J3) (v := .ref R1) rfl (nt_gfR rfl hW.1.2.1) k
          have k := ly_revb 4 (c' := (101, [(2, .int ((Int32.ofInt 3) * (nI u.2.2.1))), (0, .ref B), (1, .int (nI q))], [.ref B, .int (((Int32.ofInt 3) * (nI u.2.2.1)) + (Int32.ofInt 2)), .ref R1], me_w M J3)) rfl k
          have k := lz_get (a := B) (g := 1117) (M := me_w M J3) (v := .int (x3)) rfl (congrArg Value.int (hw3)) k
          have k := me_iastx rfl k
          have hR4 := yr_row (j := (((Int32.ofInt 3) * (nI u.2.2.1)) + (Int32.ofInt 2)).toNatClampNeg) (x := x3) hT3 hW.2.2.1.1 hW.2.2.1.2.1 hW.2.2.1.2.2.1 hW.2.2.1.2.2.2 (fun c => yr_C12 (lb_ix3' (i := 2) (by omega) (by decide)) c)
          have k : nt_rn X _ 147 (105, [(2, .int ((Int32.ofInt 3) * (nI u.2.2.1))), (0, .ref B), (1, .int (nI q))], [], me_w M (nt_u J3 R1 (((Int32.ofInt 3) * (nI u.2.2.1)) + (Int32.ofInt 2)).toNatClampNeg (x3))) _ := k
          have k := ly_revb 2 (c' := (107, [(2, .int ((Int32.ofInt 3) * (nI u.2.2.1))), (0, .ref B), (1, .int (nI q))], [.ref B, .ref B], me_w M (nt_u J3 R1 (((Int32.ofInt 3) * (nI u.2.2.1)) + (Int32.ofInt 2)).toNatClampNeg (x3)))) rfl k
          have k := lz_get (a := B) (g := 1109) (M := me_w M (nt_u J3 R1 (((Int32.ofInt 3) * (nI u.2.2.1)) + (Int32.ofInt 2)).toNatClampNeg (x3))) (v := .int (nI u.2.2.1)) rfl (congrArg Value.int (hR4.2.2.1.2.2.1)) k
          have k := ly_revb 2 (c' := (112, [(2, .int ((Int32.ofInt 3) * (nI u.2.2.1))), (0, .ref B), (1, .int (nI q))], [.int ((nI u.2.2.1) + (Int32.ofInt 1)), .ref B], me_w M (nt_u J3 R1 (((Int32.ofInt 3) * (nI u.2.2.1)) + (Int32.ofInt 2)).toNatClampNeg (x3)))) rfl k
          rw [show ((nI u.2.2.1) + (Int32.ofInt 1) : Int32) = nI (u.2.2.1 + 1) from me_add (k := 1)] at k
          have k := me_put rfl (by decide) k
          have k : nt_rn X _ 147 (115, [(2, .int ((Int32.ofInt 3) * (nI u.2.2.1))), (0, .ref B), (1, .int (nI q))], [], me_w M (nt_u (nt_u J3 R1 (((Int32.ofInt 3) * (nI u.2.2.1)) + (Int32.ofInt 2)).toNatClampNeg (x3)) B 9 (nI (u.2.2.1 + 1)))) _ := k
          have hR5 := yr_u2 (y := u.2.2.1 + 1) hR4
          have k := ly_revb 1 (c' := (116, [(2, .int ((Int32.ofInt 3) * (nI u.2.2.1))), (0, .ref B), (1, .int (nI q))], [.int (Int32.ofInt 1)], me_w M (nt_u (nt_u J3 R1 (((Int32.ofInt 3) * (nI u.2.2.1)) + (Int32.ofInt 2)).toNatClampNeg (x3)) B 9 (nI (u.2.2.1 + 1))))) rfl k
          have k := lz_ri rfl (by decide) k
          obtain ⟨b1, b2, b3, b4, b5⟩ := hb
          exact ⟨.inr (q3, u.1, u.2.1, u.2.2.1 + 1, u.2.2.2.1, u.2.2.2.2), _, _, k, Or.inr ⟨by omega, ⟨.inr q3, ⟨_, hv1, Or.inr ⟨_, _, rfl, ⟨_, hv2, Or.inr ⟨_, _, rfl, ⟨_, hv3, Or.inr ⟨_, _, rfl, rfl⟩⟩⟩⟩⟩⟩, Or.inr ⟨_, rfl, rfl⟩⟩⟩, rfl, ⟨b1, b2, by dsimp only; omega, b4, b5⟩, hk0, y3, _, hz3, hy3, ⟨_, _, _, _, _, hv1, hv2, hv3, rfl⟩, hR5⟩
theorem yr_voyage {R0 R1 R2 : Nat} {C : lb_C} {X : nt_X} {d t B Tb Sg Ln q m li : Nat} {f : Nat → Int32} {M : nt_M} {e : Nat × (Nat → Int32)} {u : Nat × Nat × Nat × Nat × Nat} {J : Nat → Nat → Int32} {o : Option Value × nt_M} (hW : yr_W M B Tb Sg Ln R0 R1 R2) (hT : yr_T R0 R1 R2 C M f t B Tb Sg Ln q 0 m e u li J) (hp : q ≤ t) (hb : lb_ub u) (hk0 : u.1 ≠ 0) (hat : lb_yw f t q 3) (k : nt_ev X d 148 [.ref B, .int (nI q)] (me_w M J) o) : ∃ r a J', o = (some (.int a), me_w M J') ∧ (((8 ≤ u.2.2.2.1) ∧ r = .inl (lb_c q (Int32.ofInt 4))) ∨ (¬ (8 ≤ u.2.2.2.1) ∧ lb_pa f t (q, u) (lb_s f t (q + (lb_W (nt_sp + 1 + 3)).length)) 3 r)) ∧ yr_Q R0 R1 R2 (fun v D => lb_paC f t u (lb_s f t (q + (lb_W (nt_sp + 1 + 3)).length)) v.1 3 C D) M f t B Tb Sg Ln m e li r a J' := by
  have k : nt_rn X d 148 (0, [(0, .ref B), (1, .int (nI q))], [], me_w M J) o := k
  have t4 : t ≤ 400 := hT.1.2.2.2.2.2.1
  have hb0 := hb
  obtain ⟨d1, d2, d3, d4, d5⟩ := hb0
  have k := ly_revb 1 (c' := (1, [(0, .ref B), (1, .int (nI q))], [.ref B], me_w M J)) rfl k
  have k := lz_get (a := B) (g := 1110) (M := me_w M J) (v := .int (nI u.2.2.2.1)) rfl (congrArg Value.int (hT.2.2.1.2.2.2.1)) k
  have k := ly_revb 2 (c' := (if (nI u.2.2.2.1) = (Int32.ofInt 8) then 9 else 16, [(0, .ref B), (1, .int (nI q))], [], me_w M J)) rfl k
  by_cases h6 : u.2.2.2.1 = 8
  · rw [if_pos (show (nI u.2.2.2.1) = (Int32.ofInt 8) from show nI u.2.2.2.1 = nI 8 from congrArg nI h6)] at k
    have k := ly_revb 3 (c' := (12, [(0, .ref B), (1, .int (nI q))], [.int (nI q), .int (Int32.ofInt 4), .ref B], me_w M J)) rfl k
    obtain ⟨d1, o1, ed, kc, k⟩ := lz_c (g := 139) (q := 1) (vs := [.ref B, .int (Int32.ofInt 4), .int (nI q)]) (rest := []) rfl rfl (by decide) (Or.inr (Or.inl ⟨_, rfl, rfl⟩)) rfl k
    obtain ⟨hf, e1⟩ := (md_fails (a := q) hT.1 hT.2.1 hp kc).resolve_right (fun c => c.1 rfl)
    subst e1
    have hR1 := yr_up hT (md_Sw (y := lb_c q (Int32.ofInt 4)) hT.1 hT.2.1)
    have k : nt_rn X _ 148 (15, [(0, .ref B), (1, .int (nI q))], [.int (Int32.ofInt 0)], me_w M (nt_u J B 16 (lb_c q (Int32.ofInt 4)))) _ := k
    have k := lz_ri rfl (by decide) k
    exact ⟨.inl (lb_c q (Int32.ofInt 4)), _, _, k, Or.inl ⟨by omega, rfl⟩, (lb_c_ne (by omega) (by decide) (by decide)), rfl, _, _, _, _, hp, hR1⟩
  · rw [if_neg (show ¬ ((nI u.2.2.2.1) = (Int32.ofInt 8)) from show ¬ nI u.2.2.2.1 = nI 8 from me_ne h6 (by omega) (by omega))] at k
    have k := ly_revb 1 (c' := (17, [(0, .ref B), (1, .int (nI q))], [.ref B], me_w M J)) rfl k
    obtain ⟨d1, o1, ed, kc, k⟩ := lz_c (g := 142) (q := 1) (vs := [.ref B]) (rest := []) rfl rfl (by decide) (Or.inr (Or.inl ⟨_, rfl, rfl⟩)) rfl k
    have e1 := md_pass hT.1 hT.2.1 hp kc
    rw [lb_at_l hat] at e1
    subst e1
    have hR1 := yr_up hT (md_Sq (y := q + (lb_W (nt_sp + 1 + 3)).length) hT.1 hT.2.1)
    have hpw : q + (lb_W (nt_sp + 1 + 3)).length ≤ t := hat.1
    have k : nt_rn X _ 148 (20, [(0, .ref B), (1, .int (nI q))], [], me_w M (nt_u J B 15 (nI (q + (lb_W (nt_sp + 1 + 3)).length)))) _ := k
    have k := ly_revb 2 (c' := (22, [(0, .ref B), (1, .int (nI q))], [.ref B, .int (Int32.ofInt 4)], me_w M (nt_u J B 15 (nI (q + (lb_W (nt_sp + 1 + 3)).length))))) rfl k
    have k := lz_get (a := B) (g := 1110) (M := me_w M (nt_u J B 15 (nI (q + (lb_W (nt_sp + 1 + 3)).length)))) (v := .int (nI u.2.2.2.1)) rfl (congrArg Value.int (hR1.2.2.1.2.2.2.1)) k
    have k := ly_revb 5 (c' := (30, [(2, .int ((Int32.ofInt 4) * (nI u.2.2.2.1))), (0, .ref B), (1, .int (nI q))], [.ref B, .int (Int32.ofInt 0), .ref B], me_w M (nt_u J B 15 (nI (q + (lb_W (nt_sp + 1 + 3)).length))))) rfl k
    have k := lz_get (a := B) (g := 1108) (M := me_w M (nt_u J B 15 (nI (q + (lb_W (nt_sp + 1 + 3)).length)))) (v := .int (nI u.2.1)) rfl (congrArg Value.int (hR1.2.2.1.2.1)) k
    have k := ly_revb 2 (c' := (35, [(2, .int ((Int32.ofInt 4) * (nI u.2.2.2.1))), (0, .ref B), (1, .int (nI q))], [.int ((nI u.2.1) - (Int32.ofInt 1)), .int (Int32.ofInt 0), .ref B], me_w M (nt_u J B 15 (nI (q + (lb_W (nt_sp + 1 + 3)).length))))) rfl k
    obtain ⟨d1, o1, ed, kc, k⟩ := lz_c (g := 143) (q := 1) (vs := [.ref B, .int (Int32.ofInt 0), .int ((nI u.2.1) - (Int32.ofInt 1))]) (rest := []) rfl rfl (by decide) (Or.inr (Or.inl ⟨_, rfl, rfl⟩)) rfl k
    obtain ⟨r1, a1, J1, e1, hv1, hN1⟩ := yr_num hR1 hpw kc
    subst e1
    rcases r1 with c | ⟨q1, x1⟩
    · obtain ⟨hc, rfl, y1, hy1, hT1⟩ := hN1
      have k : nt_rn X _ 148 (38, [(2, .int ((Int32.ofInt 4) * (nI u.2.2.2.1))), (0, .ref B), (1, .int (nI q))], [.int (Int32.ofInt 0)], me_w M J1) _ := k
      have k := ly_revb 1 (c' := (if (Int32.ofInt 0) = 0 then 41 else 43, [(2, .int ((Int32.ofInt 4) * (nI u.2.2.2.1))), (0, .ref B), (1, .int (nI q))], [], me_w M J1)) rfl k
      rw [if_pos (show (Int32.ofInt 0) = 0 from by decide)] at k
      have k := ly_revb 1 (c' := (42, [(2, .int ((Int32.ofInt 4) * (nI u.2.2.2.1))), (0, .ref B), (1, .int (nI q))], [.int (Int32.ofInt 0)], me_w M J1)) rfl k
      have k := lz_ri rfl (by decide) k
      exact ⟨.inl c, _, _, k, Or.inr ⟨by omega, ⟨.inl c, ⟨_, hv1, Or.inl ⟨c, rfl, rfl⟩⟩, Or.inl ⟨c, rfl, rfl⟩⟩⟩, hc, rfl, _, _, _, _, hy1, hT1⟩
    · obtain ⟨rfl, y1, hz1, hy1, hT1, hw1⟩ := hN1
      dsimp only at hz1 hw1
      have hu1 := lb_nu_up (lb_s_le (t - (q + (lb_W (nt_sp + 1 + 3)).length)) (q + (lb_W (nt_sp + 1 + 3)).length) (by omega)).2 hv1
      have k : nt_rn X _ 148 (38, [(2, .int ((Int32.ofInt 4) * (nI u.2.2.2.1))), (0, .ref B), (1, .int (nI q))], [.int (Int32.ofInt 1)], me_w M J1) _ := k
      have k := ly_revb 1 (c' := (if (Int32.ofInt 1) = 0 then 41 else 43, [(2, .int ((Int32.ofInt 4) * (nI u.2.2.2.1))), (0, .ref B), (1, .int (nI q))], [], me_w M J1)) rfl k
      rw [if_neg (show ¬ ((Int32.ofInt 1) = 0) from by decide)] at k
      have k := ly_revb 1 (c' := (44, [(2, .int ((Int32.ofInt 4) * (nI u.2.2.2.1))), (0, .ref B), (1, .int (nI q))], [.ref B], me_w M J1)) rfl k
      have k := lz_get (a := B) (g := 1114) (M := me_w M J1) (v := .ref R2) rfl (nt_gfR rfl hW.1.2.2) k
      have k := ly_revb 2 (c' := (49, [(2, .int ((Int32.ofInt 4) * (nI u.2.2.2.1))), (0, .ref B), (1, .int (nI q))], [.ref B, .int ((Int32.ofInt 4) * (nI u.2.2.2.1)), .ref R2], me_w M J1)) rfl k
      have k := lz_get (a := B) (g := 1117) (M := me_w M J1) (v := .int (x1)) rfl (congrArg Value.int (hw1)) k
      have k := me_iastx rfl k
      have hR2 := yr_row (j := ((Int32.ofInt 4) * (nI u.2.2.2.1)).toNatClampNeg) (x := x1) hT1 hW.2.2.2.1 hW.2.2.2.2.1 hW.2.2.2.2.2.1 hW.2.2.2.2.2.2 (fun c => yr_C20 (lb_ix40 (by omega)) c)
      have k : nt_rn X _ 148 (53, [(2, .int ((Int32.ofInt 4) * (nI u.2.2.2.1))), (0, .ref B), (1, .int (nI q))], [], me_w M (nt_u J1 R2 ((Int32.ofInt 4) * (nI u.2.2.2.1)).toNatClampNeg (x1))) _ := k
      have k := ly_revb 3 (c' := (57, [(2, .int ((Int32.ofInt 4) * (nI u.2.2.2.1))), (0, .ref B), (1, .int (nI q))], [.int (Int32.ofInt 98), .int (Int32.ofInt 0), .ref B], me_w M (nt_u J1 R2 ((Int32.ofInt 4) * (nI u.2.2.2.1)).toNatClampNeg (x1)))) rfl k
      obtain ⟨d1, o1, ed, kc, k⟩ := lz_c (g := 143) (q := 1) (vs := [.ref B, .int (Int32.ofInt 0), .int (Int32.ofInt 98)]) (rest := []) rfl rfl (by decide) (Or.inr (Or.inl ⟨_, rfl, rfl⟩)) rfl k
      obtain ⟨r2, a2, J2, e1, hv2, hN2⟩ := yr_num hR2 hy1 kc
      subst e1
      rw [hz1] at hv2
      rcases r2 with c | ⟨q2, x2⟩
      · obtain ⟨hc, rfl, y2, hy2, hT2⟩ := hN2
        have k : nt_rn X _ 148 (60, [(2, .int ((Int32.ofInt 4) * (nI u.2.2.2.1))), (0, .ref B), (1, .int (nI q))], [.int (Int32.ofInt 0)], me_w M J2) _ := k
        have k := ly_revb 1 (c' := (if (Int32.ofInt 0) = 0 then 63 else 65, [(2, .int ((Int32.ofInt 4) * (nI u.2.2.2.1))), (0, .ref B), (1, .int (nI q))], [], me_w M J2)) rfl k
        rw [if_pos (show (Int32.ofInt 0) = 0 from by decide)] at k
        have k := ly_revb 1 (c' := (64, [(2, .int ((Int32.ofInt 4) * (nI u.2.2.2.1))), (0, .ref B), (1, .int (nI q))], [.int (Int32.ofInt 0)], me_w M J2)) rfl k
        have k := lz_ri rfl (by decide) k
        exact ⟨.inl c, _, _, k, Or.inr ⟨by omega, ⟨.inl c, ⟨_, hv1, Or.inr ⟨_, _, rfl, ⟨_, hv2, Or.inl ⟨c, rfl, rfl⟩⟩⟩⟩, Or.inl ⟨c, rfl, rfl⟩⟩⟩, hc, rfl, _, _, _, _, hy2, hT2⟩
      · obtain ⟨rfl, y2, hz2, hy2, hT2, hw2⟩ := hN2
        dsimp only at hz2 hw2
        have hu2 := lb_nu_up hu1.1 hv2
        have k : nt_rn X _ 148 (60, [(2, .int ((Int32.ofInt 4) * (nI u.2.2.2.1))), (0, .ref B), (1, .int (nI q))], [.int (Int32.ofInt 1)], me_w M J2) _ := k
        have k := ly_revb 1 (c' := (if (Int32.ofInt 1) = 0 then 63 else 65, [(2, .int ((Int32.ofInt 4) * (nI u.2.2.2.1))), (0, .ref B), (1, .int (nI q))], [], me_w M J2)) rfl k
        rw [if_neg (show ¬ ((Int32.ofInt 1) = 0) from by decide)] at k
        have k := ly_revb 1 (c' := (66, [(2, .int ((Int32.ofInt 4) * (nI u.2.2.2.1))), (0, .ref B), (1, .int (nI q))], [.ref B], me_w M J2)) rfl k
        have k := lz_get (a := B) (g := 1114) (M := me_w M J2) (v := .ref R2) rfl (nt_gfR rfl hW.1.2.2) k
        have k := ly_revb 4 (c' := (73, [(2, .int ((Int32.ofInt 4) * (nI u.2.2.2.1))), (0, .ref B), (1, .int (nI q))], [.ref B, .int (((Int32.ofInt 4) * (nI u.2.2.2.1)) + (Int32.ofInt 1)), .ref R2], me_w M J2)) rfl k
        have k := lz_get (a := B) (g := 1117) (M := me_w M J2) (v := .int (x2)) rfl (congrArg Value.int (hw2)) k
        have k := me_iastx rfl k
        have hR3 := yr_row (j := (((Int32.ofInt 4) * (nI u.2.2.2.1)) + (Int32.ofInt 1)).toNatClampNeg) (x := x2) hT2 hW.2.2.2.1 hW.2.2.2.2.1 hW.2.2.2.2.2.1 hW.2.2.2.2.2.2 (fun c => yr_C21 (lb_ix4' (i := 1) (by omega) (by decide)) c)
        have k : nt_rn X _ 148 (77, [(2, .int ((Int32.ofInt 4) * (nI u.2.2.2.1))), (0, .ref B), (1, .int (nI q))], [], me_w M (nt_u J2 R2 (((Int32.ofInt 4) * (nI u.2.2.2.1)) + (Int32.ofInt 1)).toNatClampNeg (x2))) _ := k
        have k := ly_revb 2 (c' := (79, [(2, .int ((Int32.ofInt 4) * (nI u.2.2.2.1))), (0, .ref B), (1, .int (nI q))], [.ref B, .ref B], me_w M (nt_u J2 R2 (((Int32.ofInt 4) * (nI u.2.2.2.1)) + (Int32.ofInt 1)).toNatClampNeg (x2)))) rfl k
        have k := lz_get (a := B) (g := 1117) (M := me_w M (nt_u J2 R2 (((Int32.ofInt 4) * (nI u.2.2.2.1)) + (Int32.ofInt 1)).toNatClampNeg (x2))) (v := .int (x2)) rfl (congrArg Value.int ((me_uj (Ne.symm hW.2.2.2.1)).trans (hw2))) k
        have k := ly_revb 3 (c' := (86, [(2, .int ((Int32.ofInt 4) * (nI u.2.2.2.1))), (0, .ref B), (1, .int (nI q))], [.int (Int32.ofInt 99), .int (x2 + (Int32.ofInt 1)), .ref B], me_w M (nt_u J2 R2 (((Int32.ofInt 4) * (nI u.2.2.2.1)) + (Int32.ofInt 1)).toNatClampNeg (x2)))) rfl k
        obtain ⟨d1, o1, ed, kc, k⟩ := lz_c (g := 143) (q := 1) (vs := [.ref B, .int (x2 + (Int32.ofInt 1)), .int (Int32.ofInt 99)]) (rest := []) rfl rfl (by decide) (Or.inr (Or.inl ⟨_, rfl, rfl⟩)) rfl k
        obtain ⟨r3, a3, J3, e1, hv3, hN3⟩ := yr_num hR3 hy2 kc
        subst e1
        rw [hz2] at hv3
        rcases r3 with c | ⟨q3, x3⟩
        · obtain ⟨hc, rfl, y3, hy3, hT3⟩ := hN3
          have k : nt_rn X _ 148 (89, [(2, .int ((Int32.ofInt 4) * (nI u.2.2.2.1))), (0, .ref B), (1, .int (nI q))], [.int (Int32.ofInt 0)], me_w M J3) _ := k
          have k := ly_revb 1 (c' := (if (Int32.ofInt 0) = 0 then 92 else 94, [(2, .int ((Int32.ofInt 4) * (nI u.2.2.2.1))), (0, .ref B), (1, .int (nI q))], [], me_w M J3)) rfl k
          rw [if_pos (show (Int32.ofInt 0) = 0 from by decide)] at k
          have k := ly_revb 1 (c' := (93, [(2, .int ((Int32.ofInt 4) * (nI u.2.2.2.1))), (0, .ref B), (1, .int (nI q))], [.int (Int32.ofInt 0)], me_w M J3)) rfl k
          have k := lz_ri rfl (by decide) k
          exact ⟨.inl c, _, _, k, Or.inr ⟨by omega, ⟨.inl c, ⟨_, hv1, Or.inr ⟨_, _, rfl, ⟨_, hv2, Or.inr ⟨_, _, rfl, ⟨_, hv3, Or.inl ⟨c, rfl, rfl⟩⟩⟩⟩⟩⟩, Or.inl ⟨c, rfl, rfl⟩⟩⟩, hc, rfl, _, _, _, _, hy3, hT3⟩
        · obtain ⟨rfl, y3, hz3, hy3, hT3, hw3⟩ := hN3
          dsimp only at hz3 hw3
          have hu3 := lb_nu_up hu2.1 hv3
          have k : nt_rn X _ 148 (89, [(2, .int ((Int32.ofInt 4) * (nI u.2.2.2.1))), (0, .ref B), (1, .int (nI q))], [.int (Int32.ofInt 1)], me_w M J3) _ := k
          have k := ly_revb 1 (c' := (if (Int32.ofInt 1) = 0 then 92 else 94, [(2, .int ((Int32.ofInt 4) * (nI u.2.2.2.1))), (0, .ref B), (1, .int (nI q))], [], me_w M J3)) rfl k
          rw [if_neg (show ¬ ((Int32.ofInt 1) = 0) from by decide)] at k
          have k := ly_revb 1 (c' := (95, [(2, .int ((Int32.ofInt 4) * (nI u.2.2.2.1))), (0, .ref B), (1, .int (nI q))], [.ref B], me_w M J3)) rfl k
          have k := lz_get (a := B) (g := 1114) (M := me_w M J3) (v := .ref R2) rfl (nt_gfR rfl hW.1.2.2) k
          have k := ly_revb 4 (c' := (102, [(2, .int ((Int32.ofInt 4) * (nI u.2.2.2.1))), (0, .ref B), (1, .int (nI q))], [.ref B, .int (((Int32.ofInt 4) * (nI u.2.2.2.1)) + (Int32.ofInt 2)), .ref R2], me_w M J3)) rfl k
          have k := lz_get (a := B) (g := 1117) (M := me_w M J3) (v := .int (x3)) rfl (congrArg Value.int (hw3)) k
          have k := me_iastx rfl k
          have hR4 := yr_row (j := (((Int32.ofInt 4) * (nI u.2.2.2.1)) + (Int32.ofInt 2)).toNatClampNeg) (x := x3) hT3 hW.2.2.2.1 hW.2.2.2.2.1 hW.2.2.2.2.2.1 hW.2.2.2.2.2.2 (fun c => yr_C22 (lb_ix4' (i := 2) (by omega) (by decide)) c)
          have k : nt_rn X _ 148 (106, [(2, .int ((Int32.ofInt 4) * (nI u.2.2.2.1))), (0, .ref B), (1, .int (nI q))], [], me_w M (nt_u J3 R2 (((Int32.ofInt 4) * (nI u.2.2.2.1)) + (Int32.ofInt 2)).toNatClampNeg (x3))) _ := k
          have k := ly_revb 3 (c' := (111, [(2, .int ((Int32.ofInt 4) * (nI u.2.2.2.1))), (0, .ref B), (1, .int (nI q))], [.int (Int32.ofInt 999), .int (Int32.ofInt 0), .ref B], me_w M (nt_u J3 R2 (((Int32.ofInt 4) * (nI u.2.2.2.1)) + (Int32.ofInt 2)).toNatClampNeg (x3)))) rfl k
          obtain ⟨d1, o1, ed, kc, k⟩ := lz_c (g := 143) (q := 1) (vs := [.ref B, .int (Int32.ofInt 0), .int (Int32.ofInt 999)]) (rest := []) rfl rfl (by decide) (Or.inr (Or.inl ⟨_, rfl, rfl⟩)) rfl k
          obtain ⟨r4, a4, J4, e1, hv4, hN4⟩ := yr_num hR4 hy3 kc
          subst e1
          rw [hz3] at hv4
          rcases r4 with c | ⟨q4, x4⟩
          · obtain ⟨hc, rfl, y4, hy4, hT4⟩ := hN4
            have k : nt_rn X _ 148 (114, [(2, .int ((Int32.ofInt 4) * (nI u.2.2.2.1))), (0, .ref B), (1, .int (nI q))], [.int (Int32.ofInt 0)], me_w M J4) _ := k
            have k := ly_revb 1 (c' := (if (Int32.ofInt 0) = 0 then 117 else 119, [(2, .int ((Int32.ofInt 4) * (nI u.2.2.2.1))), (0, .ref B), (1, .int (nI q))], [], me_w M J4)) rfl k
            rw [if_pos (show (Int32.ofInt 0) = 0 from by decide)] at k
            have k := ly_revb 1 (c' := (118, [(2, .int ((Int32.ofInt 4) * (nI u.2.2.2.1))), (0, .ref B), (1, .int (nI q))], [.int (Int32.ofInt 0)], me_w M J4)) rfl k
            have k := lz_ri rfl (by decide) k
            exact ⟨.inl c, _, _, k, Or.inr ⟨by omega, ⟨.inl c, ⟨_, hv1, Or.inr ⟨_, _, rfl, ⟨_, hv2, Or.inr ⟨_, _, rfl, ⟨_, hv3, Or.inr ⟨_, _, rfl, ⟨_, hv4, Or.inl ⟨c, rfl, rfl⟩⟩⟩⟩⟩⟩⟩⟩, Or.inl ⟨c, rfl, rfl⟩⟩⟩, hc, rfl, _, _, _, _, hy4, hT4⟩
          · obtain ⟨rfl, y4, hz4, hy4, hT4, hw4⟩ := hN4
            dsimp only at hz4 hw4
            have hu4 := lb_nu_up hu3.1 hv4
            have k : nt_rn X _ 148 (114, [(2, .int ((Int32.ofInt 4) * (nI u.2.2.2.1))), (0, .ref B), (1, .int (nI q))], [.int (Int32.ofInt 1)], me_w M J4) _ := k
            have k := ly_revb 1 (c' := (if (Int32.ofInt 1) = 0 then 117 else 119, [(2, .int ((Int32.ofInt 4) * (nI u.2.2.2.1))), (0, .ref B), (1, .int (nI q))], [], me_w M J4)) rfl k
            rw [if_neg (show ¬ ((Int32.ofInt 1) = 0) from by decide)] at k
            have k := ly_revb 1 (c' := (120, [(2, .int ((Int32.ofInt 4) * (nI u.2.2.2.1))), (0, .ref B), (1, .int (nI q))], [.ref B], me_w M J4)) rfl k
            have k := lz_get (a := B) (g := 1114) (M := me_w M J4) (v := .ref R2) rfl (nt_gfR rfl hW.1.2.2) k
            have k := ly_revb 4 (c' := (127, [(2, .int ((Int32.ofInt 4) * (nI u.2.2.2.1))), (0, .ref B), (1, .int (nI q))], [.ref B, .int (((Int32.ofInt 4) * (nI u.2.2.2.1)) + (Int32.ofInt 3)), .ref R2], me_w M J4)) rfl k
            have k := lz_get (a := B) (g := 1117) (M := me_w M J4) (v := .int (x4)) rfl (congrArg Value.int (hw4)) k
            have k := me_iastx rfl k
            have hR5 := yr_row (j := (((Int32.ofInt 4) * (nI u.2.2.2.1)) + (Int32.ofInt 3)).toNatClampNeg) (x := x4) hT4 hW.2.2.2.1 hW.2.2.2.2.1 hW.2.2.2.2.2.1 hW.2.2.2.2.2.2 (fun c => yr_C23 (lb_ix4' (i := 3) (by omega) (by decide)) c)
            have k : nt_rn X _ 148 (131, [(2, .int ((Int32.ofInt 4) * (nI u.2.2.2.1))), (0, .ref B), (1, .int (nI q))], [], me_w M (nt_u J4 R2 (((Int32.ofInt 4) * (nI u.2.2.2.1)) + (Int32.ofInt 3)).toNatClampNeg (x4))) _ := k
            have k := ly_revb 2 (c' := (133, [(2, .int ((Int32.ofInt 4) * (nI u.2.2.2.1))), (0, .ref B), (1, .int (nI q))], [.ref B, .ref B], me_w M (nt_u J4 R2 (((Int32.ofInt 4) * (nI u.2.2.2.1)) + (Int32.ofInt 3)).toNatClampNeg (x4)))) rfl k
            have k := lz_get (a := B) (g := 1110) (M := me_w M (nt_u J4 R2 (((Int32.ofInt 4) * (nI u.2.2.2.1)) + (Int32.ofInt 3)).toNatClampNeg (x4))) (v := .int (nI u.2.2.2.1)) rfl (congrArg Value.int (hR5.2.2.1.2.2.2.1)) k
            have k := ly_revb 2 (c' := (138, [(2, .int ((Int32.ofInt 4) * (nI u.2.2.2.1))), (0, .ref B), (1, .int (nI q))], [.int ((nI u.2.2.2.1) + (Int32.ofInt 1)), .ref B], me_w M (nt_u J4 R2 (((Int32.ofInt 4) * (nI u.2.2.2.1)) + (Int32.ofInt 3)).toNatClampNeg (x4)))) rfl k
            rw [show ((nI u.2.2.2.1) + (Int32.ofInt 1) : Int32) = nI (u.2.2.2.1 + 1) from me_add (k := 1)] at k
            have k := me_put rfl (by decide) k
            have k : nt_rn X _ 148 (141, [(2, .int ((Int32.ofInt 4) * (nI u.2.2.2.1))), (0, .ref B), (1, .int (nI q))], [], me_w M (nt_u (nt_u J4 R2 (((Int32.ofInt 4) * (nI u.2.2.2.1)) + (Int32.ofInt 3)).toNatClampNeg (x4)) B 10 (nI (u.2.2.2.1 + 1)))) _ := k
            have hR6 := yr_u3 (y := u.2.2.2.1 + 1) hR5
            have k := ly_revb 1 (c' := (142, [(2, .int ((Int32.ofInt 4) * (nI u.2.2.2.1))), (0, .ref B), (1, .int (nI q))], [.int (Int32.ofInt 1)], me_w M (nt_u (nt_u J4 R2 (((Int32.ofInt 4) * (nI u.2.2.2.1)) + (Int32.ofInt 3)).toNatClampNeg (x4)) B 10 (nI (u.2.2.2.1 + 1))))) rfl k
            have k := lz_ri rfl (by decide) k
            obtain ⟨b1, b2, b3, b4, b5⟩ := hb
            exact ⟨.inr (q4, u.1, u.2.1, u.2.2.1, u.2.2.2.1 + 1, u.2.2.2.2), _, _, k, Or.inr ⟨by omega, ⟨.inr q4, ⟨_, hv1, Or.inr ⟨_, _, rfl, ⟨_, hv2, Or.inr ⟨_, _, rfl, ⟨_, hv3, Or.inr ⟨_, _, rfl, ⟨_, hv4, Or.inr ⟨_, _, rfl, rfl⟩⟩⟩⟩⟩⟩⟩⟩, Or.inr ⟨_, rfl, rfl⟩⟩⟩, rfl, ⟨b1, b2, b3, by dsimp only; omega, b5⟩, hk0, y4, _, hz4, hy4, ⟨_, _, _, _, _, _, _, hv1, hv2, hv3, hv4, rfl⟩, hR6⟩
theorem yr_hands {R0 R1 R2 : Nat} {C : lb_C} {X : nt_X} {d t B Tb Sg Ln q m li : Nat} {f : Nat → Int32} {M : nt_M} {e : Nat × (Nat → Int32)} {u : Nat × Nat × Nat × Nat × Nat} {J : Nat → Nat → Int32} {o : Option Value × nt_M} (hW : yr_W M B Tb Sg Ln R0 R1 R2) (hT : yr_T R0 R1 R2 C M f t B Tb Sg Ln q 0 m e u li J) (hp : q ≤ t) (hb : lb_ub u) (hk0 : u.1 ≠ 0) (hat : lb_yw f t q 4) (k : nt_ev X d 149 [.ref B, .int (nI q)] (me_w M J) o) : ∃ r a J', o = (some (.int a), me_w M J') ∧ (((u.2.2.2.2 ≠ 0) ∧ r = .inl (lb_c q (Int32.ofInt 4))) ∨ (¬ (u.2.2.2.2 ≠ 0) ∧ lb_pa f t (q, u) (lb_s f t (q + (lb_W (nt_sp + 1 + 4)).length)) 4 r)) ∧ yr_Q R0 R1 R2 (fun v D => lb_paC f t u (lb_s f t (q + (lb_W (nt_sp + 1 + 4)).length)) v.1 4 C D) M f t B Tb Sg Ln m e li r a J' := by
  have k : nt_rn X d 149 (0, [(0, .ref B), (1, .int (nI q))], [], me_w M J) o := k
  have t4 : t ≤ 400 := hT.1.2.2.2.2.2.1
  have hb0 := hb
  obtain ⟨d1, d2, d3, d4, d5⟩ := hb0
  have k := ly_revb 1 (c' := (1, [(0, .ref B), (1, .int (nI q))], [.ref B], me_w M J)) rfl k
  have k := lz_get (a := B) (g := 1111) (M := me_w M J) (v := .int (lb_hh u.2.2.2.2)) rfl (congrArg Value.int (hT.2.2.1.2.2.2.2)) k
  have k := ly_revb 1 (c' := (if (lb_hh u.2.2.2.2) < 0 then 14 else 7, [(0, .ref B), (1, .int (nI q))], [], me_w M J)) rfl k
  by_cases h4 : u.2.2.2.2 = 0
  · rw [if_pos (show (lb_hh u.2.2.2.2) < 0 from by rw [h4]; decide)] at k
    have k := ly_revb 1 (c' := (15, [(0, .ref B), (1, .int (nI q))], [.ref B], me_w M J)) rfl k
    obtain ⟨d1, o1, ed, kc, k⟩ := lz_c (g := 142) (q := 1) (vs := [.ref B]) (rest := []) rfl rfl (by decide) (Or.inr (Or.inl ⟨_, rfl, rfl⟩)) rfl k
    have e1 := md_pass hT.1 hT.2.1 hp kc
    rw [lb_at_l hat] at e1
    subst e1
    have hR1 := yr_up hT (md_Sq (y := q + (lb_W (nt_sp + 1 + 4)).length) hT.1 hT.2.1)
    have hpw : q + (lb_W (nt_sp + 1 + 4)).length ≤ t := hat.1
    have k : nt_rn X _ 149 (18, [(0, .ref B), (1, .int (nI q))], [], me_w M (nt_u J B 15 (nI (q + (lb_W (nt_sp + 1 + 4)).length)))) _ := k
    have k := ly_revb 3 (c' := (22, [(0, .ref B), (1, .int (nI q))], [.int (Int32.ofInt 30), .int (Int32.ofInt 1), .ref B], me_w M (nt_u J B 15 (nI (q + (lb_W (nt_sp + 1 + 4)).length))))) rfl k
    obtain ⟨d1, o1, ed, kc, k⟩ := lz_c (g := 143) (q := 1) (vs := [.ref B, .int (Int32.ofInt 1), .int (Int32.ofInt 30)]) (rest := []) rfl rfl (by decide) (Or.inr (Or.inl ⟨_, rfl, rfl⟩)) rfl k
    obtain ⟨r1, a1, J1, e1, hv1, hN1⟩ := yr_num hR1 hpw kc
    subst e1
    rcases r1 with c | ⟨q1, x1⟩
    · obtain ⟨hc, rfl, y1, hy1, hT1⟩ := hN1
      have k : nt_rn X _ 149 (25, [(0, .ref B), (1, .int (nI q))], [.int (Int32.ofInt 0)], me_w M J1) _ := k
      have k := ly_revb 1 (c' := (if (Int32.ofInt 0) = 0 then 28 else 30, [(0, .ref B), (1, .int (nI q))], [], me_w M J1)) rfl k
      rw [if_pos (show (Int32.ofInt 0) = 0 from by decide)] at k
      have k := ly_revb 1 (c' := (29, [(0, .ref B), (1, .int (nI q))], [.int (Int32.ofInt 0)], me_w M J1)) rfl k
      have k := lz_ri rfl (by decide) k
      exact ⟨.inl c, _, _, k, Or.inr ⟨fun c => c h4, ⟨_, hv1, Or.inl ⟨c, rfl, rfl⟩⟩⟩, hc, rfl, _, _, _, _, hy1, hT1⟩
    · obtain ⟨rfl, y1, hz1, hy1, hT1, hw1⟩ := hN1
      dsimp only at hz1 hw1
      have hu1 := lb_nu_up (lb_s_le (t - (q + (lb_W (nt_sp + 1 + 4)).length)) (q + (lb_W (nt_sp + 1 + 4)).length) (by omega)).2 hv1
      have k : nt_rn X _ 149 (25, [(0, .ref B), (1, .int (nI q))], [.int (Int32.ofInt 1)], me_w M J1) _ := k
      have k := ly_revb 1 (c' := (if (Int32.ofInt 1) = 0 then 28 else 30, [(0, .ref B), (1, .int (nI q))], [], me_w M J1)) rfl k
      rw [if_neg (show ¬ ((Int32.ofInt 1) = 0) from by decide)] at k
      have k := ly_revb 2 (c' := (32, [(0, .ref B), (1, .int (nI q))], [.ref B, .ref B], me_w M J1)) rfl k
      have k := lz_get (a := B) (g := 1117) (M := me_w M J1) (v := .int (x1)) rfl (congrArg Value.int (hw1)) k
      have k := me_put rfl (by decide) k
      have k : nt_rn X _ 149 (38, [(0, .ref B), (1, .int (nI q))], [], me_w M (nt_u J1 B 11 (x1))) _ := k
      obtain ⟨ex, hx⟩ := yc_nn (b := 30) (by decide) hu1.2.1 hu1.2.2
      dsimp only at ex hx
      have hx1 : 1 ≤ x1.toInt.toNat := by have h1 : (1 : Int) ≤ x1.toInt := hu1.2.1; omega
      have eh : lb_hh x1.toInt.toNat = x1 := (if_neg (by omega)).trans ex.symm
      have hR2 := yr_u4 (y := x1.toInt.toNat) hT1
      rw [eh] at hR2
      have k := ly_revb 1 (c' := (39, [(0, .ref B), (1, .int (nI q))], [.int (Int32.ofInt 1)], me_w M (nt_u J1 B 11 (x1)))) rfl k
      have k := lz_ri rfl (by decide) k
      obtain ⟨b1, b2, b3, b4, b5⟩ := hb
      exact ⟨.inr (q1, u.1, u.2.1, u.2.2.1, u.2.2.2.1, x1.toInt.toNat), _, _, k, Or.inr ⟨fun c => c h4, ⟨_, hv1, Or.inr ⟨_, _, rfl, rfl⟩⟩⟩, rfl, ⟨b1, b2, b3, b4, hx⟩, hk0, y1, _, hz1, hy1, rfl, hR2⟩
  · rw [if_neg (show ¬ ((lb_hh u.2.2.2.2) < 0) from by unfold lb_hh; rw [if_neg h4]; exact nI_pos (by omega))] at k
    have k := ly_revb 3 (c' := (10, [(0, .ref B), (1, .int (nI q))], [.int (nI q), .int (Int32.ofInt 4), .ref B], me_w M J)) rfl k
    obtain ⟨d1, o1, ed, kc, k⟩ := lz_c (g := 139) (q := 1) (vs := [.ref B, .int (Int32.ofInt 4), .int (nI q)]) (rest := []) rfl rfl (by decide) (Or.inr (Or.inl ⟨_, rfl, rfl⟩)) rfl k
    obtain ⟨hf, e1⟩ := (md_fails (a := q) hT.1 hT.2.1 hp kc).resolve_right (fun c => c.1 rfl)
    subst e1
    have hR1 := yr_up hT (md_Sw (y := lb_c q (Int32.ofInt 4)) hT.1 hT.2.1)
    have k : nt_rn X _ 149 (13, [(0, .ref B), (1, .int (nI q))], [.int (Int32.ofInt 0)], me_w M (nt_u J B 16 (lb_c q (Int32.ofInt 4)))) _ := k
    have k := lz_ri rfl (by decide) k
    exact ⟨.inl (lb_c q (Int32.ofInt 4)), _, _, k, Or.inl ⟨h4, rfl⟩, (lb_c_ne (by omega) (by decide) (by decide)), rfl, _, _, _, _, hp, hR1⟩
theorem yr_shl {X : nt_X} {d t B Tb Sg Ln m li R0 R1 R2 : Nat} {f : Nat → Int32} {M : nt_M} {e : Nat × (Nat → Int32)} {u : Nat × Nat × Nat × Nat × Nat} {y0 : Int32} {o : Option Value × nt_M} (hW : yr_W M B Tb Sg Ln R0 R1 R2) (hb : lb_ub u) : ∀ (c i q : Nat) (C : lb_C) (J : Nat → Nat → Int32), i + c = u.1 → q ≤ t → yr_T R0 R1 R2 C M f t B Tb Sg Ln q 0 m e u li J → nt_rn X d 146 (22, [(2, .int (nI i)), (0, .ref B), (1, .int y0)], [], me_w M J) o → ∃ r a J', o = (some (.int a), me_w M J') ∧ lb_sh f t c (lb_s f t q) r ∧ ((∃ c1, r = .inl c1 ∧ c1 ≠ 0 ∧ a = Int32.ofInt 0 ∧ ∃ q' D, q' ≤ t ∧ yr_T R0 R1 R2 D M f t B Tb Sg Ln (q') c1 m e u li (J')) ∨ ∃ p, r = .inr p ∧ a = Int32.ofInt 1 ∧ ∃ q' D, lb_s f t q' = p ∧ q' ≤ t ∧ lb_shC f t u.2.1 c i (lb_s f t q) p C D ∧ yr_T R0 R1 R2 D M f t B Tb Sg Ln (q') 0 m e (u.1, u.2.1 + 1, u.2.2.1, u.2.2.2.1, u.2.2.2.2) li (J')) := by
  obtain ⟨d1, d2, d3, d4, d5⟩ := hb
  intro c
  induction c with
  | zero =>
    intro i q C J hc hp hT k
    have t4 : t ≤ 400 := hT.1.2.2.2.2.2.1
    have k := ly_revb 2 (c' := (24, [(2, .int (nI i)), (0, .ref B), (1, .int (y0))], [.ref B, .int (nI i)], me_w M J)) rfl k
    have k := lz_get (a := B) (g := 1107) (M := me_w M J) (v := .int (nI u.1)) rfl (congrArg Value.int (hT.2.2.1.1)) k
    have k := ly_revb 1 (c' := (if (nI u.1) ≤ (nI i) then 64 else 30, [(2, .int (nI i)), (0, .ref B), (1, .int (y0))], [], me_w M J)) rfl k
    rw [if_pos (show (nI u.1) ≤ (nI i) from nI_le (by omega) (by omega))] at k
    have k := ly_revb 2 (c' := (66, [(2, .int (nI i)), (0, .ref B), (1, .int (y0))], [.ref B, .ref B], me_w M J)) rfl k
    have k := lz_get (a := B) (g := 1108) (M := me_w M J) (v := .int (nI u.2.1)) rfl (congrArg Value.int (hT.2.2.1.2.1)) k
    have k := ly_revb 2 (c' := (71, [(2, .int (nI i)), (0, .ref B), (1, .int (y0))], [.int ((nI u.2.1) + (Int32.ofInt 1)), .ref B], me_w M J)) rfl k
    rw [show ((nI u.2.1) + (Int32.ofInt 1) : Int32) = nI (u.2.1 + 1) from me_add (k := 1)] at k
    have k := me_put rfl (by decide) k
    have k : nt_rn X _ 146 (74, [(2, .int (nI i)), (0, .ref B), (1, .int (y0))], [], me_w M (nt_u J B 8 (nI (u.2.1 + 1)))) _ := k
    have hR1 := yr_u1 (y := u.2.1 + 1) hT
    have k := ly_revb 1 (c' := (75, [(2, .int (nI i)), (0, .ref B), (1, .int (y0))], [.int (Int32.ofInt 1)], me_w M (nt_u J B 8 (nI (u.2.1 + 1))))) rfl k
    have k := lz_ri rfl (by decide) k
    exact ⟨.inr (lb_s f t q), _, _, k, rfl, Or.inr ⟨_, rfl, rfl, q, C, rfl, hp, ⟨rfl, rfl⟩, hR1⟩⟩
  | succ c ih =>
    intro i q C J hc hp hT k
    have t4 : t ≤ 400 := hT.1.2.2.2.2.2.1
    have k := ly_revb 2 (c' := (24, [(2, .int (nI i)), (0, .ref B), (1, .int (y0))], [.ref B, .int (nI i)], me_w M J)) rfl k
    have k := lz_get (a := B) (g := 1107) (M := me_w M J) (v := .int (nI u.1)) rfl (congrArg Value.int (hT.2.2.1.1)) k
    have k := ly_revb 1 (c' := (if (nI u.1) ≤ (nI i) then 64 else 30, [(2, .int (nI i)), (0, .ref B), (1, .int (y0))], [], me_w M J)) rfl k
    rw [if_neg (show ¬ ((nI u.1) ≤ (nI i)) from nI_ge (by omega) (by omega))] at k
    have k := ly_revb 3 (c' := (33, [(2, .int (nI i)), (0, .ref B), (1, .int (y0))], [.int (Int32.ofInt 5), .int (Int32.ofInt 0), .ref B], me_w M J)) rfl k
    obtain ⟨d1, o1, ed, kc, k⟩ := lz_c (g := 143) (q := 1) (vs := [.ref B, .int (Int32.ofInt 0), .int (Int32.ofInt 5)]) (rest := []) rfl rfl (by decide) (Or.inr (Or.inl ⟨_, rfl, rfl⟩)) rfl k
    obtain ⟨r1, a1, J1, e1, hv1, hN1⟩ := yr_num hT hp kc
    subst e1
    rcases r1 with c1 | ⟨q1, x1⟩
    · obtain ⟨hc1, rfl, y1, hy1, hT1⟩ := hN1
      have k : nt_rn X _ 146 (36, [(2, .int (nI i)), (0, .ref B), (1, .int (y0))], [.int (Int32.ofInt 0)], me_w M J1) _ := k
      have k := ly_revb 1 (c' := (if (Int32.ofInt 0) = 0 then 39 else 41, [(2, .int (nI i)), (0, .ref B), (1, .int (y0))], [], me_w M J1)) rfl k
      rw [if_pos (show (Int32.ofInt 0) = 0 from by decide)] at k
      have k := ly_revb 1 (c' := (40, [(2, .int (nI i)), (0, .ref B), (1, .int (y0))], [.int (Int32.ofInt 0)], me_w M J1)) rfl k
      have k := lz_ri rfl (by decide) k
      exact ⟨.inl c1, _, _, k, ⟨_, hv1, Or.inl ⟨c1, rfl, rfl⟩⟩, Or.inl ⟨c1, rfl, hc1, rfl, _, _, hy1, hT1⟩⟩
    · obtain ⟨rfl, y1, hz1, hy1, hT1, hw1⟩ := hN1
      dsimp only at hz1 hw1
      have hu1 := lb_nu_up (lb_s_le (t - (q)) (q) (by omega)).2 hv1
      have k : nt_rn X _ 146 (36, [(2, .int (nI i)), (0, .ref B), (1, .int (y0))], [.int (Int32.ofInt 1)], me_w M J1) _ := k
      have k := ly_revb 1 (c' := (if (Int32.ofInt 1) = 0 then 39 else 41, [(2, .int (nI i)), (0, .ref B), (1, .int (y0))], [], me_w M J1)) rfl k
      rw [if_neg (show ¬ ((Int32.ofInt 1) = 0) from by decide)] at k
      have k := ly_revb 1 (c' := (42, [(2, .int (nI i)), (0, .ref B), (1, .int (y0))], [.ref B], me_w M J1)) rfl k
      have k := lz_get (a := B) (g := 1112) (M := me_w M J1) (v := .ref R0) rfl (nt_gfR rfl hW.1.1) k
      have k := ly_revb 2 (c' := (47, [(2, .int (nI i)), (0, .ref B), (1, .int (y0))], [.ref B, .int (Int32.ofInt 4), .ref R0], me_w M J1)) rfl k
      have k := lz_get (a := B) (g := 1108) (M := me_w M J1) (v := .int (nI u.2.1)) rfl (congrArg Value.int (hT1.2.2.1.2.1)) k
      have k := ly_revb 4 (c' := (54, [(2, .int (nI i)), (0, .ref B), (1, .int (y0))], [.ref B, .int (((Int32.ofInt 4) * (nI u.2.1)) + (nI i)), .ref R0], me_w M J1)) rfl k
      have k := lz_get (a := B) (g := 1117) (M := me_w M J1) (v := .int (x1)) rfl (congrArg Value.int (hw1)) k
      have k := me_iastx rfl k
      have hR1 := yr_row (j := (((Int32.ofInt 4) * (nI u.2.1)) + (nI i)).toNatClampNeg) (x := x1) hT1 hW.2.1.1 hW.2.1.2.1 hW.2.1.2.2.1 hW.2.1.2.2.2 (fun c => yr_C0 (lb_ix4' (by omega) (by omega)) c)
      have k : nt_rn X _ 146 (58, [(2, .int (nI i)), (0, .ref B), (1, .int (y0))], [], me_w M (nt_u J1 R0 (((Int32.ofInt 4) * (nI u.2.1)) + (nI i)).toNatClampNeg (x1))) _ := k
      have k := ly_revb 1 (c' := (61, [(2, .int ((nI i) + Int32.ofInt 1)), (0, .ref B), (1, .int (y0))], [], me_w M (nt_u J1 R0 (((Int32.ofInt 4) * (nI u.2.1)) + (nI i)).toNatClampNeg (x1)))) rfl k
      rw [show ((nI i) + Int32.ofInt 1 : Int32) = nI (i + 1) from me_add (k := 1)] at k
      have k := ly_revb 1 (c' := (22, [(2, .int (nI (i + 1))), (0, .ref B), (1, .int (y0))], [], me_w M (nt_u J1 R0 (((Int32.ofInt 4) * (nI u.2.1)) + (nI i)).toNatClampNeg (x1)))) rfl k
      obtain ⟨r, a, J', e9, hs, hr⟩ := ih (i + 1) y1 _ _ (by omega) hy1 hR1 k
      rw [hz1] at hs hr
      refine ⟨r, a, J', e9, ⟨_, hv1, Or.inr ⟨_, _, rfl, hs⟩⟩, hr.imp_right (fun ⟨p, x1, x2, q', D, x3, x4, x5, x6⟩ => ⟨p, x1, x2, q', D, x3, x4, ⟨_, _, hv1, x5⟩, x6⟩)⟩
theorem yr_ship {R0 R1 R2 : Nat} {C : lb_C} {X : nt_X} {d t B Tb Sg Ln q m li : Nat} {f : Nat → Int32} {M : nt_M} {e : Nat × (Nat → Int32)} {u : Nat × Nat × Nat × Nat × Nat} {J : Nat → Nat → Int32} {o : Option Value × nt_M} (hW : yr_W M B Tb Sg Ln R0 R1 R2) (hT : yr_T R0 R1 R2 C M f t B Tb Sg Ln q 0 m e u li J) (hp : q ≤ t) (hb : lb_ub u) (hk0 : u.1 ≠ 0) (hat : lb_yw f t q 1) (k : nt_ev X d 146 [.ref B, .int (nI q)] (me_w M J) o) : ∃ r a J', o = (some (.int a), me_w M J') ∧ (((6 ≤ u.2.1) ∧ r = .inl (lb_c q (Int32.ofInt 4))) ∨ (¬ (6 ≤ u.2.1) ∧ lb_pa f t (q, u) (lb_s f t (q + (lb_W (nt_sp + 1 + 1)).length)) 1 r)) ∧ yr_Q R0 R1 R2 (fun v D => lb_paC f t u (lb_s f t (q + (lb_W (nt_sp + 1 + 1)).length)) v.1 1 C D) M f t B Tb Sg Ln m e li r a J' := by
  have k : nt_rn X d 146 (0, [(0, .ref B), (1, .int (nI q))], [], me_w M J) o := k
  have t4 : t ≤ 400 := hT.1.2.2.2.2.2.1
  have hb0 := hb
  obtain ⟨d1, d2, d3, d4, d5⟩ := hb0
  have k := ly_revb 1 (c' := (1, [(0, .ref B), (1, .int (nI q))], [.ref B], me_w M J)) rfl k
  have k := lz_get (a := B) (g := 1108) (M := me_w M J) (v := .int (nI u.2.1)) rfl (congrArg Value.int (hT.2.2.1.2.1)) k
  have k := ly_revb 2 (c' := (if (nI u.2.1) = (Int32.ofInt 6) then 9 else 16, [(0, .ref B), (1, .int (nI q))], [], me_w M J)) rfl k
  by_cases h6 : u.2.1 = 6
  · rw [if_pos (show (nI u.2.1) = (Int32.ofInt 6) from show nI u.2.1 = nI 6 from congrArg nI h6)] at k
    have k := ly_revb 3 (c' := (12, [(0, .ref B), (1, .int (nI q))], [.int (nI q), .int (Int32.ofInt 4), .ref B], me_w M J)) rfl k
    obtain ⟨d1, o1, ed, kc, k⟩ := lz_c (g := 139) (q := 1) (vs := [.ref B, .int (Int32.ofInt 4), .int (nI q)]) (rest := []) rfl rfl (by decide) (Or.inr (Or.inl ⟨_, rfl, rfl⟩)) rfl k
    obtain ⟨hf, e1⟩ := (md_fails (a := q) hT.1 hT.2.1 hp kc).resolve_right (fun c => c.1 rfl)
    subst e1
    have hR1 := yr_up hT (md_Sw (y := lb_c q (Int32.ofInt 4)) hT.1 hT.2.1)
    have k : nt_rn X _ 146 (15, [(0, .ref B), (1, .int (nI q))], [.int (Int32.ofInt 0)], me_w M (nt_u J B 16 (lb_c q (Int32.ofInt 4)))) _ := k
    have k := lz_ri rfl (by decide) k
    exact ⟨.inl (lb_c q (Int32.ofInt 4)), _, _, k, Or.inl ⟨by omega, rfl⟩, (lb_c_ne (by omega) (by decide) (by decide)), rfl, _, _, _, _, hp, hR1⟩
  · rw [if_neg (show ¬ ((nI u.2.1) = (Int32.ofInt 6)) from show ¬ nI u.2.1 = nI 6 from me_ne h6 (by omega) (by omega))] at k
    have k := ly_revb 1 (c' := (17, [(0, .ref B), (1, .int (nI q))], [.ref B], me_w M J)) rfl k
    obtain ⟨d1, o1, ed, kc, k⟩ := lz_c (g := 142) (q := 1) (vs := [.ref B]) (rest := []) rfl rfl (by decide) (Or.inr (Or.inl ⟨_, rfl, rfl⟩)) rfl k
    have e1 := md_pass hT.1 hT.2.1 hp kc
    rw [lb_at_l hat] at e1
    subst e1
    have hR1 := yr_up hT (md_Sq (y := q + (lb_W (nt_sp + 1 + 1)).length) hT.1 hT.2.1)
    have hpw : q + (lb_W (nt_sp + 1 + 1)).length ≤ t := hat.1
    have k : nt_rn X _ 146 (20, [(0, .ref B), (1, .int (nI q))], [], me_w M (nt_u J B 15 (nI (q + (lb_W (nt_sp + 1 + 1)).length)))) _ := k
    have k := ly_revb 2 (c' := (22, [(2, .int (Int32.ofInt 0)), (0, .ref B), (1, .int (nI q))], [], me_w M (nt_u J B 15 (nI (q + (lb_W (nt_sp + 1 + 1)).length))))) rfl k
    obtain ⟨r1, a, J9, e9, hs, hr⟩ := yr_shl hW hb u.1 0 _ _ _ (by omega) hpw hR1 k
    rcases hr with ⟨c, rfl, hc, rfl, y1, D9, hy1, h9⟩ | ⟨p, rfl, rfl, y1, D9, hz1, hy1, hC9, h9⟩
    · exact ⟨.inl c, _, J9, e9, Or.inr ⟨by omega, .inl c, hs, Or.inl ⟨c, rfl, rfl⟩⟩, hc, rfl, _, _, _, _, hy1, h9⟩
    · obtain ⟨b1, b2, b3, b4, b5⟩ := hb
      exact ⟨.inr (p, u.1, u.2.1 + 1, u.2.2.1, u.2.2.2.1, u.2.2.2.2), _, J9, e9, Or.inr ⟨by omega, .inr p, hs, Or.inr ⟨p, rfl, rfl⟩⟩, rfl, ⟨b1, by dsimp only; omega, b3, b4, b5⟩, hk0, y1, D9, hz1, hy1, hC9, h9⟩
end
