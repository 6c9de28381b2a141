/-! sums, facts, tests: the same code -/
theorem zJ_jn {e e1 : lb_E} {x y : Int32} {k : Nat} {B B' : List Int64 → Prop} (h : zJ e e1 k B) (h4 : e1.1.1 < 400) (ho : (x ≠ Int32.ofInt 22 ∧ x ≠ Int32.ofInt 23) ∧ zwk y ∧ ¬ zpu x ∧ ∀ w (a b : Int64) st, zcs w x (b :: a :: st) = some (x44 x a b :: st) ∧ zrs w y (b :: a :: st) = some (x44 x a b :: st)) (hB : ∀ vs, B vs → ∃ a b r, vs = b :: a :: r ∧ B' (x44 x a b :: r)) : zJ e (lb_em e1 x y) k B' := by
  have z := zJ_1 (B' := B') h h4 ho.1 ho.2.1 (fun w vs hb => by
    obtain ⟨a, b, r, e, q⟩ := hB vs hb
    subst e
    exact ⟨_, q, fun st => ho.2.2.2 w a b (r ++ st)⟩)
  rw [if_neg ho.2.2.1] at z
  exact z
theorem zsr_op {w : Int32} (h : w = Int32.ofInt 10 ∨ w = Int32.ofInt 11 ∨ w = Int32.ofInt 12 ∨ w = Int32.ofInt 13) : (w ≠ Int32.ofInt 22 ∧ w ≠ Int32.ofInt 23) ∧ zwk (w - Int32.ofInt 8) ∧ ¬ zpu w ∧ ∀ u (a b : Int64) st, zcs u w (b :: a :: st) = some (x44 w a b :: st) ∧ zrs u (w - Int32.ofInt 8) (b :: a :: st) = some (x44 w a b :: st) := by
  apply zop
  rcases h with rfl | rfl | rfl | rfl
  · exact Or.inl ⟨rfl, by decide⟩
  · exact Or.inr (Or.inl ⟨rfl, by decide⟩)
  · exact Or.inr (Or.inr (Or.inl ⟨rfl, by decide⟩))
  · exact Or.inr (Or.inr (Or.inr (Or.inl ⟨rfl, by decide⟩)))
theorem zew {e : lb_E} {w : Int32} (h : w = Int32.ofInt 10 ∨ w = Int32.ofInt 11 ∨ w = Int32.ofInt 12 ∨ w = Int32.ofInt 13) : lb_ew e w = lb_em e w (w - Int32.ofInt 8) := by
  unfold lb_ew
  rw [if_neg]
  rcases h with rfl | rfl | rfl | rfl <;> decide
theorem zeml {e : lb_E} {x y : Int32} (h : e.1.1 < 400) : (lb_em e x y).1.1 = e.1.1 + 1 := by rw [zem h]
theorem zJ_sr {f : Nat → Int32} {t : Nat} (ht : t ≤ 400) : ∀ (k : Nat) (w : Int32) (z z' : lb_Z) (e0 : lb_E) (k0 : Nat), z.1 ≤ t → z.2.1 ≤ 60 → ((w = Int32.ofInt (-1) ∧ zJ e0 z.2.2 k0 z1v ∧ z.2.2.1.1 ≤ z.1) ∨ ((w = Int32.ofInt 10 ∨ w = Int32.ofInt 11) ∧ zJ e0 z.2.2 k0 z2v ∧ z.2.2.1.1 + 1 ≤ z.1)) → lb_sr f t k w z (.inr z') → zJ e0 z'.2.2 (k0 + (z'.2.1 - z.2.1)) z1v ∧ z.2.1 ≤ z'.2.1 ∧ z'.2.1 ≤ 60 ∧ z'.2.2.1.1 + z.1 ≤ z'.1 + z.2.2.1.1 + (if w = Int32.ofInt (-1) then 0 else 1) := by
  intro k
  induction k with
  | zero => intro w z z' e0 k0 _ _ _ h; exact h.elim
  | succ k ih =>
    intro w z z' e0 k0 hz hm hw h
    rcases h with ⟨_, h⟩ | ⟨ho, r1, hv, h⟩ | ⟨ho, r1, hv, h⟩
    · have e := Sum.inr.inj h
      subst e
      dsimp only
      rcases hw with ⟨w1, hJ, hl⟩ | ⟨w1, hJ, hl⟩
      · have e : lb_ew z.2.2 w = z.2.2 := by unfold lb_ew; rw [if_pos w1]
        rw [e, if_pos w1]
        exact ⟨zJ_w hJ (by omega) (fun _ h => h), Nat.le_refl _, hm, by omega⟩
      · have w4 : w = Int32.ofInt 10 ∨ w = Int32.ofInt 11 ∨ w = Int32.ofInt 12 ∨ w = Int32.ofInt 13 := by
          rcases w1 with h | h
          · exact Or.inl h
          · exact Or.inr (Or.inl h)
        rw [zew w4, if_neg (by rcases w1 with rfl | rfl <;> decide), zeml (by omega)]
        refine ⟨zJ_w (zJ_jn (B' := z1v) hJ (by omega) (zsr_op w4) (fun vs ⟨a, b, e⟩ => ⟨a, b, [], e, _, rfl⟩)) (by omega) (fun _ h => h), Nat.le_refl _, hm, by omega⟩
    · have w4 : lb_op (lb_g f t z.1) = Int32.ofInt 10 ∨ lb_op (lb_g f t z.1) = Int32.ofInt 11 ∨ lb_op (lb_g f t z.1) = Int32.ofInt 12 ∨ lb_op (lb_g f t z.1) = Int32.ofInt 13 := by
        rcases ho with h | h
        · exact Or.inr (Or.inr (Or.inl h))
        · exact Or.inr (Or.inr (Or.inr h))
      have hlt : z.1 < t := lb_op_lt (by rcases ho with ho | ho <;> (rw [ho]; decide))
      have hs := lb_s_le (f := f) (t := t) (t - (z.1 + 1)) (z.1 + 1) (by omega)
      rcases h with ⟨c, e1, e2⟩ | ⟨z2, e1, h⟩
      · cases e2
      subst e1
      have q := lb_val_up hs.2 hv
      have l0 : z.2.2.1.1 ≤ z.1 := by rcases hw with ⟨_, _, l⟩ | ⟨_, _, l⟩ <;> omega
      obtain ⟨vJ, vm, vl, v6⟩ := zJ_val hv (by dsimp only; omega)
      dsimp only at vJ vm vl q
      have l1 : z2.2.2.1.1 < 400 := by omega
      have lw := zeml (x := lb_op (lb_g f t z.1)) (y := lb_op (lb_g f t z.1) - Int32.ofInt 8) l1
      rw [zew w4] at h
      rcases hw with ⟨w1, hJ, hl⟩ | ⟨w1, hJ, hl⟩
      · have a := zJ_jn (B' := z1v) (zJ_t hJ vJ) l1 (zsr_op w4) (fun vs ⟨v1, v2, ⟨a, ea⟩, ⟨b, eb⟩, e⟩ => ⟨a, b, [], by rw [e, ea, eb]; rfl, _, rfl⟩)
        have g := ih w _ z' e0 (k0 + 1) (by dsimp only; omega) (by dsimp only; omega) (Or.inl ⟨w1, a, by dsimp only; omega⟩) h
        dsimp only at g
        rw [if_pos w1] at g ⊢
        exact ⟨zJ_w g.1 (by omega) (fun _ h => h), by omega, g.2.2.1, by omega⟩
      · have a := zJ_jn (B' := z2v) (zJ_t hJ vJ) l1 (zsr_op w4) (fun vs ⟨v1, v2, ⟨c, a, ea⟩, ⟨b, eb⟩, e⟩ => ⟨a, b, [c], by rw [e, ea, eb]; rfl, _, _, rfl⟩)
        have g := ih w _ z' e0 (k0 + 1) (by dsimp only; omega) (by dsimp only; omega) (Or.inr ⟨w1, a, by dsimp only; omega⟩) h
        dsimp only at g
        have wn : ¬ w = Int32.ofInt (-1) := by rcases w1 with rfl | rfl <;> decide
        rw [if_neg wn] at g ⊢
        exact ⟨zJ_w g.1 (by omega) (fun _ h => h), by omega, g.2.2.1, by omega⟩
    · have hlt : z.1 < t := lb_op_lt (by rcases ho with ho | ho <;> (rw [ho]; decide))
      have hs := lb_s_le (f := f) (t := t) (t - (z.1 + 1)) (z.1 + 1) (by omega)
      rcases h with ⟨c, e1, e2⟩ | ⟨z2, e1, h⟩
      · cases e2
      subst e1
      have q := lb_val_up hs.2 hv
      have wn2 : ¬ lb_op (lb_g f t z.1) = Int32.ofInt (-1) := by rcases ho with h | h <;> (rw [h]; decide)
      obtain ⟨e1, ee, hJ1, hl1, he1⟩ : ∃ e1, lb_ew z.2.2 w = e1 ∧ zJ e0 e1 k0 z1v ∧ e1.1.1 ≤ z.2.2.1.1 + (if w = Int32.ofInt (-1) then 0 else 1) ∧ e1.1.1 ≤ z.1 := by
        rcases hw with ⟨w1, hJ, hl⟩ | ⟨w1, hJ, hl⟩
        · have e : lb_ew z.2.2 w = z.2.2 := by unfold lb_ew; rw [if_pos w1]
          rw [e, if_pos w1]
          exact ⟨_, rfl, hJ, by omega, hl⟩
        · have w4 : w = Int32.ofInt 10 ∨ w = Int32.ofInt 11 ∨ w = Int32.ofInt 12 ∨ w = Int32.ofInt 13 := by
            rcases w1 with h | h
            · exact Or.inl h
            · exact Or.inr (Or.inl h)
          rw [zew w4, if_neg (by rcases w1 with rfl | rfl <;> decide)]
          exact ⟨_, rfl, zJ_jn (B' := z1v) hJ (by omega) (zsr_op w4) (fun vs ⟨a, b, e⟩ => ⟨a, b, [], e, _, rfl⟩), by rw [zeml (by omega)]; omega, by rw [zeml (by omega)]; omega⟩
      rw [ee] at hv
      obtain ⟨vJ, vm, vl, v6⟩ := zJ_val hv (by dsimp only; omega)
      dsimp only at vJ vm vl q
      have a := zJ_w (B' := z2v) (zJ_t hJ1 vJ) (Nat.le_refl _) (fun vs ⟨v1, v2, ⟨a, ea⟩, ⟨b, eb⟩, e⟩ => ⟨a, b, by rw [e, ea, eb]; rfl⟩)
      have g := ih _ z2 z' e0 (k0 + 1) q.2 v6 (Or.inr ⟨ho, a, by omega⟩) h
      rw [if_neg wn2] at g
      refine ⟨zJ_w g.1 (by omega) (fun _ h => h), by omega, g.2.2.1, ?_⟩
      by_cases c : w = Int32.ofInt (-1)
      · rw [if_pos c] at hl1 ⊢
        omega
      · rw [if_neg c] at hl1 ⊢
        omega
theorem zJ_sum {f : Nat → Int32} {t : Nat} {z z' : lb_Z} (ht : t ≤ 400) (hz : z.1 ≤ t) (hm : z.2.1 ≤ 60) (hl : z.2.2.1.1 ≤ z.1) (h : lb_sum f t z (.inr z')) : zJ z.2.2 z'.2.2 (z'.2.1 - z.2.1) z1v ∧ z.2.1 ≤ z'.2.1 ∧ z'.2.1 ≤ 60 ∧ z'.2.2.1.1 + z.1 ≤ z'.1 + z.2.2.1.1 ∧ z.1 < z'.1 ∧ z'.1 ≤ t := by
  have up := lb_sum_up hz h
  obtain ⟨r1, hv, h⟩ := h
  rcases h with ⟨c, e1, e2⟩ | ⟨z1, k, e1, h⟩
  · cases e2
  subst e1
  have q := lb_val_up hz hv
  obtain ⟨vJ, vm, vl, v6⟩ := zJ_val hv (by omega)
  have g := zJ_sr ht k _ z1 z' z.2.2 1 q.2 v6 (Or.inl ⟨rfl, vJ, by omega⟩) h
  rw [if_pos rfl] at g
  exact ⟨zJ_w g.1 (by omega) (fun _ h => h), by omega, g.2.2.1, by omega, up⟩
theorem zcm {f : Nat → Int32} {t p : Nat} {x : Int32} (h : lb_cm f t p x) (hx : ¬ x = Int32.ofInt (-1)) : x = Int32.ofInt 14 ∨ x = Int32.ofInt 15 ∨ x = Int32.ofInt 16 ∨ x = Int32.ofInt 17 ∨ x = Int32.ofInt 18 := by
  rcases h with ⟨_, _, h⟩ | ⟨_, _, h⟩ | ⟨_, h⟩ | ⟨_, _, h⟩ | ⟨_, _, h⟩ | ⟨_, h⟩
  · exact Or.inr (Or.inl h)
  · exact Or.inl h
  · exact Or.inr (Or.inr (Or.inl h))
  · exact Or.inr (Or.inr (Or.inr (Or.inl h)))
  · exact Or.inr (Or.inr (Or.inr (Or.inr h)))
  · exact absurd h hx
theorem zcm_op {x : Int32} (h : x = Int32.ofInt 14 ∨ x = Int32.ofInt 15 ∨ x = Int32.ofInt 16 ∨ x = Int32.ofInt 17 ∨ x = Int32.ofInt 18) : (x ≠ Int32.ofInt 22 ∧ x ≠ Int32.ofInt 23) ∧ zwk (x - Int32.ofInt 8) ∧ ¬ zpu x ∧ ∀ u (a b : Int64) st, zcs u x (b :: a :: st) = some (x44 x a b :: st) ∧ zrs u (x - Int32.ofInt 8) (b :: a :: st) = some (x44 x a b :: st) := by
  apply zop
  rcases h with rfl | rfl | rfl | rfl | rfl
  · exact Or.inr (Or.inr (Or.inr (Or.inr (Or.inl ⟨rfl, by decide⟩))))
  · exact Or.inr (Or.inr (Or.inr (Or.inr (Or.inr (Or.inl ⟨rfl, by decide⟩)))))
  · exact Or.inr (Or.inr (Or.inr (Or.inr (Or.inr (Or.inr (Or.inl ⟨rfl, by decide⟩))))))
  · exact Or.inr (Or.inr (Or.inr (Or.inr (Or.inr (Or.inr (Or.inr (Or.inl ⟨rfl, by decide⟩)))))))
  · exact Or.inr (Or.inr (Or.inr (Or.inr (Or.inr (Or.inr (Or.inr (Or.inr (Or.inl ⟨rfl, by decide⟩))))))))
theorem zJ_fa {f : Nat → Int32} {t : Nat} {z z' : lb_Z} (ht : t ≤ 400) (hz : z.1 ≤ t) (hm : z.2.1 ≤ 60) (hl : z.2.2.1.1 ≤ z.1) (h : lb_fa f t z (.inr z')) : zJ z.2.2 z'.2.2 (z'.2.1 - z.2.1) z1b ∧ z.2.1 ≤ z'.2.1 ∧ z'.2.1 ≤ 60 ∧ z'.2.2.1.1 + z.1 ≤ z'.1 + z.2.2.1.1 := by
  obtain ⟨r1, h1, h⟩ := h
  rcases h with ⟨c, e1, e2⟩ | ⟨z1, e1, x, r2, h2, h⟩
  · cases e2
  subst e1
  obtain ⟨a1, a2, a3, a4, a5, a6⟩ := zJ_sum ht hz hm hl h1
  rcases h with ⟨c, e1, e2⟩ | ⟨z2, e1, r3, h3, h⟩
  · cases e2
  subst e1
  have q2 := lb_cp_up a6 h2
  obtain ⟨hcm, hcp⟩ := h2
  rcases hcp with ⟨_, h2⟩ | ⟨_, _, h2⟩ | ⟨hx, h60, h2⟩
  · cases h2
  · cases h2
  have e := Sum.inr.inj h2
  have e21 : z2.2.1 = z1.2.1 + 1 := by rw [e]
  have e22 : z2.2.2 = z1.2.2 := by rw [e]
  rcases h with ⟨c, e1, e2⟩ | ⟨z3, e1, h⟩
  · cases e2
  subst e1
  obtain ⟨b1, b2, b3, b4, b5, b6⟩ := zJ_sum ht q2.2 (by omega) (by rw [e22]; omega) h3
  rw [e22] at b1 b4
  have e := Sum.inr.inj h
  subst e
  dsimp only
  have x5 := zcm hcm hx
  have l3 : z3.2.2.1.1 < 400 := by omega
  rw [zeml l3]
  exact ⟨zJ_w (zJ_jn (B' := z1b) (zJ_t a1 b1) l3 (zcm_op x5) (fun vs ⟨v1, v2, ⟨a, ea⟩, ⟨b, eb⟩, e⟩ => ⟨a, b, [], by rw [e, ea, eb]; rfl, _, zbool x5, rfl⟩)) (by omega) (fun _ h => h), by omega, b3, by omega⟩
theorem zand : (Int32.ofInt 19 ≠ Int32.ofInt 22 ∧ Int32.ofInt 19 ≠ Int32.ofInt 23) ∧ zwk (Int32.ofInt 12) ∧ ¬ zpu (Int32.ofInt 19) ∧ ∀ u (a b : Int64) st, zcs u (Int32.ofInt 19) (b :: a :: st) = some (x44 (Int32.ofInt 19) a b :: st) ∧ zrs u (Int32.ofInt 12) (b :: a :: st) = some (x44 (Int32.ofInt 19) a b :: st) := zop (Or.inr (Or.inr (Or.inr (Or.inr (Or.inr (Or.inr (Or.inr (Or.inr (Or.inr (Or.inl ⟨rfl, rfl⟩))))))))))
theorem zor : (Int32.ofInt 20 ≠ Int32.ofInt 22 ∧ Int32.ofInt 20 ≠ Int32.ofInt 23) ∧ zwk (Int32.ofInt 13) ∧ ¬ zpu (Int32.ofInt 20) ∧ ∀ u (a b : Int64) st, zcs u (Int32.ofInt 20) (b :: a :: st) = some (x44 (Int32.ofInt 20) a b :: st) ∧ zrs u (Int32.ofInt 13) (b :: a :: st) = some (x44 (Int32.ofInt 20) a b :: st) := zop (Or.inr (Or.inr (Or.inr (Or.inr (Or.inr (Or.inr (Or.inr (Or.inr (Or.inr (Or.inr ⟨rfl, rfl⟩))))))))))
theorem zJ_not {e e1 : lb_E} {k : Nat} (h : zJ e e1 k z1b) (h4 : e1.1.1 < 400) : zJ e (lb_em e1 (Int32.ofInt 21) (Int32.ofInt 11)) k z1b := by
  have z := zJ_1 (x := Int32.ofInt 21) (y := Int32.ofInt 11) (B' := z1b) h h4 (by decide) (fun c => absurd c (by decide)) (fun w vs ⟨v, hv, e⟩ => ⟨[Int64.ofNat 1 - v], ⟨_, by rcases hv with rfl | rfl <;> decide, rfl⟩, fun st => by subst e; exact ⟨rfl, rfl⟩⟩)
  rw [if_neg (by decide)] at z
  exact z
theorem zoe {e e1 : lb_E} {k : Nat} {w : Bool} (h : (w = false ∧ zJ e e1 k z1b) ∨ (w = true ∧ zJ e e1 k z2b ∧ e1.1.1 < 400)) : zJ e (lb_oe e1 w) k z1b ∧ (lb_oe e1 w).1.1 = e1.1.1 + (if w = true then 1 else 0) := by
  rcases h with ⟨rfl, h⟩ | ⟨rfl, h, h4⟩
  · exact ⟨h, rfl⟩
  · exact ⟨zJ_jn (B' := z1b) h h4 zor (fun vs ⟨a, b, ha, hb, e⟩ => ⟨a, b, [], e, _, zbool2 (Or.inr rfl) ha hb, rfl⟩), zeml h4⟩
/-- facts and tests -/
theorem zJ_ft {f : Nat → Int32} {t : Nat} (ht : t ≤ 400) : ∀ (k : Nat) (b : Bool) (d : Nat) (w : Bool) (z z' : lb_Z), z.1 ≤ t → z.2.1 ≤ 60 → lb_ft f t k b d w z (.inr z') →
    (b = true → z.2.2.1.1 ≤ z.1 → zJ z.2.2 z'.2.2 (z'.2.1 - z.2.1) z1b ∧ z.2.1 ≤ z'.2.1 ∧ z'.2.1 ≤ 60 ∧ z'.2.2.1.1 + z.1 ≤ z'.1 + z.2.2.1.1) ∧
    (b = false → ∀ (e0 : lb_E) (k0 : Nat), ((w = false ∧ zJ e0 z.2.2 k0 z1b ∧ z.2.2.1.1 ≤ z.1) ∨ (w = true ∧ zJ e0 z.2.2 k0 z2b ∧ z.2.2.1.1 + 1 ≤ z.1)) → zJ e0 z'.2.2 (k0 + (z'.2.1 - z.2.1)) z1b ∧ z.2.1 ≤ z'.2.1 ∧ z'.2.1 ≤ 60 ∧ z'.2.2.1.1 + z.1 ≤ z'.1 + z.2.2.1.1 + (if w = true then 1 else 0)) := by
  intro k
  induction k with
  | zero => intro b d w z z' _ _ h; exact h.elim
  | succ k ih =>
    intro b d w z z' hz hm h
    cases b with
    | true =>
      refine ⟨fun _ hl => ?_, fun c => (by cases c)⟩
      rcases h with ⟨_, _, h⟩ | ⟨h1, h2, r1, h3, h4⟩ | ⟨h1, h2, h3, r1, h4, h5⟩ | ⟨_, _, h⟩
      · cases h
      · have a := h1.1
        have b2 := lb_Wp 15 (by decide)
        have q := lb_s_le (f := f) (t := t) (t - (z.1 + (lb_W (nt_sp + 1 + 15)).length)) (z.1 + (lb_W (nt_sp + 1 + 15)).length) (by omega)
        rcases h4 with ⟨c, e1, e2⟩ | ⟨z2, e1, h⟩
        · cases e2
        subst e1
        have up := lb_ft_up _ _ _ _ _ _ q.2 h3
        obtain ⟨i1, i2, i3, i4⟩ := (ih true _ _ _ z2 q.2 (by exact hm) h3).1 rfl (by dsimp only; omega)
        dsimp only at i1 i2 i4 up
        have e := Sum.inr.inj h
        subst e
        dsimp only
        have l2 : z2.2.2.1.1 < 400 := by omega
        rw [zeml l2]
        exact ⟨zJ_not i1 l2, i2, i3, by omega⟩
      · have a := lb_g_lt (f := f) (t := t) (p := z.1) (by rw [h2]; decide)
        have q := lb_s_le (f := f) (t := t) (t - (z.1 + 1)) (z.1 + 1) (by omega)
        rcases h5 with ⟨c, e1, e2⟩ | ⟨z2, e1, r2, h6, h⟩
        · cases e2
        subst e1
        have up := lb_ft_up _ _ _ _ _ _ q.2 h4
        obtain ⟨i1, i2, i3, i4⟩ := (ih true _ _ _ z2 q.2 (by exact hm) h4).1 rfl (by dsimp only; omega)
        dsimp only at i1 i2 i4 up
        rcases h with ⟨c, e1, e2⟩ | ⟨z3, e1, h⟩
        · cases e2
        subst e1
        have up2 := lb_ft_up _ _ _ _ _ _ up.2.1 h6
        obtain ⟨j1, j2, j3, j4⟩ := (ih false _ _ z2 z3 up.2.1 i3 h6).2 rfl z.2.2 (z2.2.1 - z.2.1) (Or.inl ⟨rfl, i1, by omega⟩)
        rw [if_neg (by decide)] at j4
        rcases h with ⟨h93, h⟩ | ⟨_, h⟩
        · have e := Sum.inr.inj h
          subst e
          have a3 := lb_g_lt (f := f) (t := t) (p := z3.1) (by rw [h93]; decide)
          have q3 := lb_s_le (f := f) (t := t) (t - (z3.1 + 1)) (z3.1 + 1) (by omega)
          dsimp only
          exact ⟨zJ_w j1 (by omega) (fun _ h => h), by omega, j3, by omega⟩
        · cases h
      · exact zJ_fa ht hz hm hl h
    | false =>
      refine ⟨fun c => (by cases c), fun _ e0 k0 hw => ?_⟩
      have l0 : z.2.2.1.1 + (if w = true then 1 else 0) ≤ z.1 := by
        rcases hw with ⟨rfl, _, l⟩ | ⟨rfl, _, l⟩
        · exact l
        · exact l
      rcases h with ⟨h1, r1, h3, h4⟩ | ⟨h1, h2, r1, h3, h4⟩ | ⟨_, _, h⟩
      · have a := h1.1
        have b2 := lb_Wp 16 (by decide)
        have q := lb_s_le (f := f) (t := t) (t - (z.1 + (lb_W (nt_sp + 1 + 16)).length)) (z.1 + (lb_W (nt_sp + 1 + 16)).length) (by omega)
        rcases h4 with ⟨c, e1, e2⟩ | ⟨z2, e1, h⟩
        · cases e2
        subst e1
        have up := lb_ft_up _ _ _ _ _ _ q.2 h3
        obtain ⟨i1, i2, i3, i4⟩ := (ih true _ _ _ z2 q.2 (by exact hm) h3).1 rfl (by dsimp only; omega)
        dsimp only at i1 i2 i4 up
        have l2 : z2.2.2.1.1 < 400 := by omega
        have lw := zeml (x := Int32.ofInt 19) (y := Int32.ofInt 12) l2
        have step : (w = false ∧ zJ e0 (lb_em z2.2.2 (Int32.ofInt 19) (Int32.ofInt 12)) (k0 + (z2.2.1 - z.2.1)) z1b ∧ (lb_em z2.2.2 (Int32.ofInt 19) (Int32.ofInt 12)).1.1 ≤ z2.1) ∨ (w = true ∧ zJ e0 (lb_em z2.2.2 (Int32.ofInt 19) (Int32.ofInt 12)) (k0 + (z2.2.1 - z.2.1)) z2b ∧ (lb_em z2.2.2 (Int32.ofInt 19) (Int32.ofInt 12)).1.1 + 1 ≤ z2.1) := by
          rcases hw with ⟨w1, hJ, hl⟩ | ⟨w1, hJ, hl⟩
          · exact Or.inl ⟨w1, zJ_jn (B' := z1b) (zJ_t hJ i1) l2 zand (fun vs ⟨v1, v2, ⟨a, ha, ea⟩, ⟨b, hb, eb⟩, e⟩ => ⟨a, b, [], by rw [e, ea, eb]; rfl, _, zbool2 (Or.inl rfl) ha hb, rfl⟩), by omega⟩
          · exact Or.inr ⟨w1, zJ_jn (B' := z2b) (zJ_t hJ i1) l2 zand (fun vs ⟨v1, v2, ⟨c, a, hc, ha, ea⟩, ⟨b, hb, eb⟩, e⟩ => ⟨a, b, [c], by rw [e, ea, eb]; rfl, _, _, hc, zbool2 (Or.inl rfl) ha hb, rfl⟩), by omega⟩
        have g := (ih false _ _ _ z' (by dsimp only; omega) (by dsimp only; omega) h).2 rfl e0 (k0 + (z2.2.1 - z.2.1)) step
        dsimp only at g
        exact ⟨zJ_w g.1 (by omega) (fun _ h => h), by omega, g.2.2.1, by omega⟩
      · have a := h2.1
        have b2 := lb_Wp 17 (by decide)
        have q := lb_s_le (f := f) (t := t) (t - (z.1 + (lb_W (nt_sp + 1 + 17)).length)) (z.1 + (lb_W (nt_sp + 1 + 17)).length) (by omega)
        rcases h4 with ⟨c, e1, e2⟩ | ⟨z2, e1, h⟩
        · cases e2
        subst e1
        have oo := zoe (e := e0) (e1 := z.2.2) (k := k0) (w := w) (by
          rcases hw with ⟨w1, hJ, hl⟩ | ⟨w1, hJ, hl⟩
          · exact Or.inl ⟨w1, hJ⟩
          · exact Or.inr ⟨w1, hJ, by omega⟩)
        have up := lb_ft_up _ _ _ _ _ _ q.2 h3
        obtain ⟨i1, i2, i3, i4⟩ := (ih true _ _ _ z2 q.2 (by exact hm) h3).1 rfl (by dsimp only; rw [oo.2]; omega)
        dsimp only at i1 i2 i4 up
        rw [oo.2] at i4
        have g := (ih false _ _ z2 z' up.2.1 i3 h).2 rfl e0 (k0 + (z2.2.1 - z.2.1)) (Or.inr ⟨rfl, zJ_w (B' := z2b) (zJ_t oo.1 i1) (Nat.le_refl _) (fun vs ⟨v1, v2, ⟨a, ha, ea⟩, ⟨b, hb, eb⟩, e⟩ => ⟨a, b, ha, hb, by rw [e, ea, eb]; rfl⟩), by omega⟩)
        rw [if_pos rfl] at g
        exact ⟨zJ_w g.1 (by omega) (fun _ h => h), by omega, g.2.2.1, by omega⟩
      · have e := Sum.inr.inj h
        subst e
        dsimp only
        have oo := zoe (e := e0) (e1 := z.2.2) (k := k0) (w := w) (by
          rcases hw with ⟨w1, hJ, hl⟩ | ⟨w1, hJ, hl⟩
          · exact Or.inl ⟨w1, hJ⟩
          · exact Or.inr ⟨w1, hJ, by omega⟩)
        rw [oo.2]
        exact ⟨zJ_w oo.1 (by omega) (fun _ h => h), Nat.le_refl _, hm, by omega⟩
