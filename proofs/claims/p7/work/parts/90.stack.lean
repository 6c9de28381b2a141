/-! the other side's tests, told purely: a stack of what waits -/
theorem lb_cm_det {f : Nat → Int32} {t p : Nat} {x x' : Int32} (h : lb_cm f t p x) (h' : lb_cm f t p x') : x = x' := by
  unfold lb_cm at h h'
  rcases h with ⟨g, n, e⟩ | ⟨g, n, e⟩ | ⟨g, e⟩ | ⟨g, n, e⟩ | ⟨g, n, e⟩ | ⟨g, e⟩ <;> rcases h' with ⟨g', n', e'⟩ | ⟨g', n', e'⟩ | ⟨g', e'⟩ | ⟨g', n', e'⟩ | ⟨g', n', e'⟩ | ⟨g', e'⟩
  all_goals first
    | (rw [e, e']; done)
    | (exact absurd n' n)
    | (exact absurd n n')
    | (exact absurd g g'.1)
    | (exact absurd g g'.2.1)
    | (exact absurd g g'.2.2)
    | (exact absurd g' g.1)
    | (exact absurd g' g.2.1)
    | (exact absurd g' g.2.2)
    | (rw [g] at g'; exact absurd g' (by decide))
theorem lb_cp_det {f : Nat → Int32} {t : Nat} {z : lb_Z} {x x' : Int32} {r r' : lb_Y} (h : lb_cp f t z x r) (h' : lb_cp f t z x' r') : x = x' ∧ r = r' := by
  obtain ⟨a, h⟩ := h
  obtain ⟨a', h'⟩ := h'
  have e := lb_cm_det a a'
  subst e
  refine ⟨rfl, ?_⟩
  rcases h with ⟨p, h⟩ | ⟨p, q, h⟩ | ⟨p, q, h⟩ <;> rcases h' with ⟨p', h'⟩ | ⟨p', q', h'⟩ | ⟨p', q', h'⟩
  all_goals first
    | (rw [h, h']; done)
    | (exact absurd p p')
    | (exact absurd p' p)
    | omega
theorem lb_fa_det {f : Nat → Int32} {t : Nat} {z : lb_Z} {r r' : lb_Y} (h : lb_fa f t z r) (h' : lb_fa f t z r') : r = r' := by
  obtain ⟨r1, a, h⟩ := h
  obtain ⟨r1', a', h'⟩ := h'
  have e := lb_sum_det a a'
  subst e
  rcases h with ⟨c, e1, e2⟩ | ⟨z1, e1, x, r2, b, h⟩ <;> rcases h' with ⟨c', e1', e2'⟩ | ⟨z1', e1', x', r2', b', h'⟩ <;> rw [e1] at e1' <;> cases e1'
  · rw [e2, e2']
  · obtain ⟨ex, er⟩ := lb_cp_det b b'
    subst ex
    subst er
    rcases h with ⟨c, e2, e3⟩ | ⟨z2, e2, r3, b, h⟩ <;> rcases h' with ⟨c', e2', e3'⟩ | ⟨z2', e2', r3', b', h'⟩ <;> rw [e2] at e2' <;> cases e2'
    · rw [e3, e3']
    · have e := lb_sum_det b b'
      subst e
      rcases h with ⟨c, e4, e5⟩ | ⟨z3, e4, h⟩ <;> rcases h' with ⟨c', e4', e5'⟩ | ⟨z3', e4', h'⟩ <;> rw [e4] at e4' <;> cases e4'
      · rw [e5, e5']
      · rw [h, h']
def lb_sg (s : Int32) : Nat := if s = Int32.ofInt 13 then 1 else if s = Int32.ofInt 12 then 2 else if s = Int32.ofInt 11 then 3 else 0
/-- what the one side puts where the other puts s -/
def lb_tw (s : Int32) : Int32 := if s = Int32.ofInt 13 then Int32.ofInt 20 else if s = Int32.ofInt 12 then Int32.ofInt 19 else Int32.ofInt 21
def lb_st (l : Nat) : List Int32 → Int32 → lb_E → Int32 × List Int32 × lb_E
  | [], d, e => (d, [], e)
  | s :: S, d, e => if l ≤ lb_sg s then lb_st l S (if s = Int32.ofInt 11 then d - Int32.ofInt 1 else d) (lb_em e (lb_tw s) s) else (d, s :: S, e)
/-- 0: at a fact; 1: behind a fact; 2: settled; 3: behind brackets -/
def lb_ma (f : Nat → Int32) (t : Nat) : Nat → Nat → Int32 → List Int32 → lb_Z → lb_Y → Prop
  | 0, _, _, _, _, _ => False
  | k + 1, 0, d, S, z, r =>
    (lb_at f t (lb_W (nt_sp + 1 + 15)) z.1 ∧ d = Int32.ofInt 10 ∧ r = .inl (lb_c z.1 (Int32.ofInt 2))) ∨
    (lb_at f t (lb_W (nt_sp + 1 + 15)) z.1 ∧ ¬ d = Int32.ofInt 10 ∧ lb_ma f t k 0 (d + Int32.ofInt 1) (Int32.ofInt 11 :: S) (lb_s f t (z.1 + (lb_W (nt_sp + 1 + 15)).length), z.2.1, z.2.2) r) ∨
    (¬ lb_at f t (lb_W (nt_sp + 1 + 15)) z.1 ∧ lb_g f t z.1 = Int32.ofInt 91 ∧ d = Int32.ofInt 10 ∧ r = .inl (lb_c z.1 (Int32.ofInt 2))) ∨
    (¬ lb_at f t (lb_W (nt_sp + 1 + 15)) z.1 ∧ lb_g f t z.1 = Int32.ofInt 91 ∧ ¬ d = Int32.ofInt 10 ∧ lb_ma f t k 0 (d + Int32.ofInt 1) (Int32.ofInt 91 :: S) (lb_s f t (z.1 + 1), z.2.1, z.2.2) r) ∨
    (¬ lb_at f t (lb_W (nt_sp + 1 + 15)) z.1 ∧ ¬ lb_g f t z.1 = Int32.ofInt 91 ∧ ∃ r1, lb_fa f t z r1 ∧ lb_th r1 r (fun z1 => lb_ma f t k 1 d S z1 r))
  | k + 1, 1, d, S, z, r => lb_ma f t k 2 (lb_st 3 S d z.2.2).1 (lb_st 3 S d z.2.2).2.1 (z.1, z.2.1, (lb_st 3 S d z.2.2).2.2) r
  | k + 1, 2, d, S, z, r =>
    ((lb_g f t z.1 = Int32.ofInt 93 ∧ Int32.ofInt 91 ∈ S) ∧ lb_ma f t k 1 ((lb_st 1 S d z.2.2).1 - Int32.ofInt 1) (lb_st 1 S d z.2.2).2.1.tail (lb_s f t (z.1 + 1), z.2.1, (lb_st 1 S d z.2.2).2.2) r) ∨
    (¬ (lb_g f t z.1 = Int32.ofInt 93 ∧ Int32.ofInt 91 ∈ S) ∧ lb_ma f t k 3 d S z r)
  | k + 1, _ + 3, d, S, z, r =>
    (lb_at f t (lb_W (nt_sp + 1 + 16)) z.1 ∧ lb_ma f t k 0 (lb_st 2 S d z.2.2).1 (Int32.ofInt 12 :: (lb_st 2 S d z.2.2).2.1) (lb_s f t (z.1 + (lb_W (nt_sp + 1 + 16)).length), z.2.1, (lb_st 2 S d z.2.2).2.2) r) ∨
    (¬ lb_at f t (lb_W (nt_sp + 1 + 16)) z.1 ∧ lb_at f t (lb_W (nt_sp + 1 + 17)) z.1 ∧ lb_ma f t k 0 (lb_st 1 S d z.2.2).1 (Int32.ofInt 13 :: (lb_st 1 S d z.2.2).2.1) (lb_s f t (z.1 + (lb_W (nt_sp + 1 + 17)).length), z.2.1, (lb_st 1 S d z.2.2).2.2) r) ∨
    (¬ lb_at f t (lb_W (nt_sp + 1 + 16)) z.1 ∧ ¬ lb_at f t (lb_W (nt_sp + 1 + 17)) z.1 ∧ Int32.ofInt 91 ∈ S ∧ r = .inl (lb_c z.1 (Int32.ofInt 0))) ∨
    (¬ lb_at f t (lb_W (nt_sp + 1 + 16)) z.1 ∧ ¬ lb_at f t (lb_W (nt_sp + 1 + 17)) z.1 ∧ ¬ Int32.ofInt 91 ∈ S ∧ r = .inr (z.1, z.2.1, (lb_st 1 S d z.2.2).2.2))
def lb_tp (a w : Bool) (S : List Int32) : List Int32 := (if a = true then [Int32.ofInt 12] else []) ++ ((if w = true then [Int32.ofInt 13] else []) ++ S)
def lb_ae (e : lb_E) : Bool → lb_E
  | true => lb_em e (Int32.ofInt 19) (Int32.ofInt 12)
  | false => e
def lb_b0 (S : List Int32) : Prop := S = [] ∨ ∃ S', S = Int32.ofInt 91 :: S'
theorem lb_st_b {S : List Int32} {l : Nat} {d : Int32} {e : lb_E} (hS : lb_b0 S) (hl : 1 ≤ l) : lb_st l S d e = (d, S, e) := by
  rcases hS with h | ⟨S', h⟩
  · subst h; rfl
  · subst h
    unfold lb_st
    rw [if_neg (show ¬ l ≤ lb_sg (Int32.ofInt 91) from by rw [show lb_sg (Int32.ofInt 91) = 0 from by decide]; omega)]
theorem lb_st_12 {S : List Int32} {l : Nat} {d : Int32} {e : lb_E} (hl : l ≤ 2) : lb_st l (Int32.ofInt 12 :: S) d e = lb_st l S d (lb_em e (Int32.ofInt 19) (Int32.ofInt 12)) := by
  show (if l ≤ lb_sg (Int32.ofInt 12) then lb_st l S (if Int32.ofInt 12 = Int32.ofInt 11 then d - Int32.ofInt 1 else d) (lb_em e (lb_tw (Int32.ofInt 12)) (Int32.ofInt 12)) else (d, Int32.ofInt 12 :: S, e)) = _
  rw [show lb_sg (Int32.ofInt 12) = 2 from by decide, if_pos hl, if_neg (by decide), show lb_tw (Int32.ofInt 12) = Int32.ofInt 19 from by decide]
theorem lb_st_13 {S : List Int32} {d : Int32} {e : lb_E} : lb_st 1 (Int32.ofInt 13 :: S) d e = lb_st 1 S d (lb_em e (Int32.ofInt 20) (Int32.ofInt 13)) := by
  show (if 1 ≤ lb_sg (Int32.ofInt 13) then lb_st 1 S (if Int32.ofInt 13 = Int32.ofInt 11 then d - Int32.ofInt 1 else d) (lb_em e (lb_tw (Int32.ofInt 13)) (Int32.ofInt 13)) else (d, Int32.ofInt 13 :: S, e)) = _
  rw [show lb_sg (Int32.ofInt 13) = 1 from by decide, if_pos (by decide), if_neg (by decide), show lb_tw (Int32.ofInt 13) = Int32.ofInt 20 from by decide]
theorem lb_st_no {S : List Int32} {l : Nat} {d s : Int32} {e : lb_E} (hl : lb_sg s < l) : lb_st l (s :: S) d e = (d, s :: S, e) := if_neg (by omega)
theorem lb_st_11 {S : List Int32} {d : Int32} {e : lb_E} : lb_st 3 (Int32.ofInt 11 :: S) d e = lb_st 3 S (d - Int32.ofInt 1) (lb_em e (Int32.ofInt 21) (Int32.ofInt 11)) := by
  show (if 3 ≤ lb_sg (Int32.ofInt 11) then lb_st 3 S (if Int32.ofInt 11 = Int32.ofInt 11 then d - Int32.ofInt 1 else d) (lb_em e (lb_tw (Int32.ofInt 11)) (Int32.ofInt 11)) else (d, Int32.ofInt 11 :: S, e)) = _
  rw [show lb_sg (Int32.ofInt 11) = 3 from by decide, if_pos (by decide), if_pos rfl, show lb_tw (Int32.ofInt 11) = Int32.ofInt 21 from by decide]
theorem lb_st_1 {S : List Int32} {a w : Bool} {d : Int32} {e : lb_E} (hS : lb_b0 S) : lb_st 1 (lb_tp a w S) d e = (d, S, lb_oe (lb_ae e a) w) := by
  cases a <;> cases w
  · exact lb_st_b hS (by decide)
  · exact lb_st_13.trans (lb_st_b hS (by decide))
  · exact (lb_st_12 (by decide)).trans (lb_st_b hS (by decide))
  · exact (lb_st_12 (by decide)).trans (lb_st_13.trans (lb_st_b hS (by decide)))
theorem lb_st_2 {S : List Int32} {a w : Bool} {d : Int32} {e : lb_E} (hS : lb_b0 S) : lb_st 2 (lb_tp a w S) d e = (d, lb_tp false w S, lb_ae e a) := by
  cases a <;> cases w
  · exact lb_st_b hS (by decide)
  · exact lb_st_no (by decide)
  · exact (lb_st_12 (by decide)).trans (lb_st_b hS (by decide))
  · exact (lb_st_12 (by decide)).trans (lb_st_no (by decide))
theorem lb_st_3 {S : List Int32} {a w : Bool} {d : Int32} {e : lb_E} (hS : lb_b0 S) : lb_st 3 (lb_tp a w S) d e = (d, lb_tp a w S, e) := by
  cases a <;> cases w
  · exact lb_st_b hS (by decide)
  · exact lb_st_no (by decide)
  · exact lb_st_no (by decide)
  · exact lb_st_no (by decide)
theorem lb_at_g {f : Nat → Int32} {t p a : Nat} {c : Int32} (ha : (lb_W a).getD 0 0 = c) (h0 : 0 < (lb_W a).length) (h : lb_at f t (lb_W a) p) : lb_g f t p = c &&& Int32.ofInt 255 := by
  have h1 := h.1
  unfold lb_g
  rw [if_pos (by omega)]
  have q := h.2.1 0 h0
  rw [ha] at q
  rw [show f p = c from q]
theorem lb_and_g {f : Nat → Int32} {t p : Nat} (h : lb_at f t (lb_W (nt_sp + 1 + 16)) p) : ¬ lb_g f t p = Int32.ofInt 93 := by
  rw [lb_at_g (c := Int32.ofInt 97) (by decide +kernel) (lb_Wp 16 (by decide)) h]
  decide
theorem lb_or_g {f : Nat → Int32} {t p : Nat} (h : lb_at f t (lb_W (nt_sp + 1 + 17)) p) : ¬ lb_g f t p = Int32.ofInt 93 := by
  rw [lb_at_g (c := Int32.ofInt 111) (by decide +kernel) (lb_Wp 17 (by decide)) h]
  decide
/-- where no more is to be settled behind a fact -/
theorem lb_ma_1 {f : Nat → Int32} {t n : Nat} {d : Int32} {S : List Int32} {z : lb_Z} {r : lb_Y} (hS : lb_st 3 S d z.2.2 = (d, S, z.2.2)) (h : lb_ma f t n 1 d S z r) : ∃ n', lb_ma f t n' 2 d S z r := by
  cases n with
  | zero => exact h.elim
  | succ n =>
    have h : lb_ma f t n 2 (lb_st 3 S d z.2.2).1 (lb_st 3 S d z.2.2).2.1 (z.1, z.2.1, (lb_st 3 S d z.2.2).2.2) r := h
    rw [hS] at h
    exact ⟨n, h⟩
theorem lb_in_91 {a w : Bool} {S : List Int32} : Int32.ofInt 91 ∈ lb_tp a w (Int32.ofInt 91 :: S) := by
  unfold lb_tp
  exact List.mem_append.mpr (Or.inr (List.mem_append.mpr (Or.inr (List.mem_cons_self ..))))
theorem lb_nin_91 {a w : Bool} : ¬ Int32.ofInt 91 ∈ lb_tp a w [] := by
  cases a <;> cases w <;> decide
/-- a fact, or what follows one: read by the one side, and by the other -/
theorem lb_ft_ma {f : Nat → Int32} {t : Nat} : ∀ (k : Nat) (b : Bool) (d : Nat) (w : Bool) (z : lb_Z) (r1 : lb_Y), lb_ft f t k b d w z r1 → d ≤ 10 →
    (b = true → ∀ (n : Nat) (S : List Int32) (r : lb_Y), lb_ma f t n 0 (nI d) S z r → (∃ c, r1 = .inl c ∧ r = .inl c) ∨ ∃ z1 n', r1 = .inr z1 ∧ lb_ma f t n' 1 (nI d) S z1 r) ∧
    (b = false → ∀ (n : Nat) (S : List Int32) (a : Bool) (z0 : lb_Z) (r : lb_Y), lb_b0 S → z = (z0.1, z0.2.1, lb_ae z0.2.2 a) → lb_ma f t n 2 (nI d) (lb_tp a w S) z0 r → (∃ c, r1 = .inl c ∧ r = .inl c) ∨ ∃ (z1 z0' : lb_Z) (a' w' : Bool) (n' : Nat), r1 = .inr z1 ∧ ¬ lb_at f t (lb_W (nt_sp + 1 + 16)) z1.1 ∧ ¬ lb_at f t (lb_W (nt_sp + 1 + 17)) z1.1 ∧ z1 = (z0'.1, z0'.2.1, lb_oe (lb_ae z0'.2.2 a') w') ∧ lb_ma f t n' 2 (nI d) (lb_tp a' w' S) z0' r) := by
  intro k
  induction k with
  | zero => intro b d w z r1 h; exact h.elim
  | succ k ih =>
    intro b d w z r1 h hd
    cases b with
    | true =>
      refine ⟨fun _ n S r hm => ?_, fun h => (by cases h)⟩
      cases n with
      | zero => exact hm.elim
      | succ n =>
        rcases h with ⟨h1, h2, h⟩ | ⟨h1, h2, r2, h3, h4⟩ | ⟨h1, h2, h3, r2, h4, h5⟩ | ⟨h1, h2, h⟩
        · have e10 : d = 10 := by omega
          subst e10
          rcases hm with ⟨_, _, q⟩ | ⟨_, q, _⟩ | ⟨_, _, _, q⟩ | ⟨_, _, q, _⟩ | ⟨q1, q2, _⟩
          · exact Or.inl ⟨_, h, q⟩
          · exact absurd rfl q
          · exact Or.inl ⟨_, h, q⟩
          · exact absurd rfl q
          · exact absurd h1 (fun c => c.elim q1 q2)
        · have ne10 : ¬ nI d = Int32.ofInt 10 := me_ne (b := 10) (by omega) (by omega) (by omega)
          rcases hm with ⟨_, q, _⟩ | ⟨_, _, hm⟩ | ⟨q, _⟩ | ⟨q, _⟩ | ⟨q, _⟩
          · exact absurd q ne10
          · rw [show nI d + Int32.ofInt 1 = nI (d + 1) from me_add (k := 1)] at hm
            rcases (ih _ _ _ _ _ h3 (by omega)).1 rfl _ _ _ hm with ⟨c, e1, e2⟩ | ⟨z1, n', e1, hm⟩
            · subst e1
              rcases h4 with ⟨c', e3, e4⟩ | ⟨z1, e3, _⟩
              · cases e3
                exact Or.inl ⟨_, e4, e2⟩
              · cases e3
            · subst e1
              rcases h4 with ⟨c', e3, e4⟩ | ⟨z2, e3, h4⟩
              · cases e3
              · cases e3
                refine Or.inr ⟨_, n', h4, ?_⟩
                cases n' with
                | zero => exact hm.elim
                | succ n' =>
                  have hm : lb_ma f t n' 2 (lb_st 3 (Int32.ofInt 11 :: S) (nI (d + 1)) z1.2.2).1 (lb_st 3 (Int32.ofInt 11 :: S) (nI (d + 1)) z1.2.2).2.1 (z1.1, z1.2.1, (lb_st 3 (Int32.ofInt 11 :: S) (nI (d + 1)) z1.2.2).2.2) r := hm
                  rw [lb_st_11, show nI (d + 1) - Int32.ofInt 1 = nI d from (me_subn (b := 1) (by omega)).trans (congrArg nI (by omega))] at hm
                  exact hm
          · exact absurd h1 q
          · exact absurd h1 q
          · exact absurd h1 q
        · have ne10 : ¬ nI d = Int32.ofInt 10 := me_ne (b := 10) (by omega) (by omega) (by omega)
          rcases hm with ⟨q, _⟩ | ⟨q, _⟩ | ⟨_, _, q, _⟩ | ⟨_, _, _, hm⟩ | ⟨_, q, _⟩
          · exact absurd q h1
          · exact absurd q h1
          · exact absurd q ne10
          · rw [show nI d + Int32.ofInt 1 = nI (d + 1) from me_add (k := 1)] at hm
            rcases (ih _ _ _ _ _ h4 (by omega)).1 rfl _ _ _ hm with ⟨c, e1, e2⟩ | ⟨z1, n', e1, hm⟩
            · subst e1
              rcases h5 with ⟨c', e3, e4⟩ | ⟨z1, e3, _⟩
              · cases e3
                exact Or.inl ⟨_, e4, e2⟩
              · cases e3
            · subst e1
              rcases h5 with ⟨c', e3, e4⟩ | ⟨z2, e3, r3, h6, h7⟩
              · cases e3
              · cases e3
                have hb : lb_b0 (Int32.ofInt 91 :: S) := Or.inr ⟨S, rfl⟩
                obtain ⟨n2, hm⟩ := lb_ma_1 (lb_st_b hb (by decide)) hm
                rcases (ih _ _ _ _ _ h6 (by omega)).2 rfl n2 _ false z1 r hb rfl hm with ⟨c, e1, e2⟩ | ⟨z3, z0', a', w', n3, e1, na, no, ez, hm⟩
                · subst e1
                  rcases h7 with ⟨c', e3, e4⟩ | ⟨z1, e3, _⟩
                  · cases e3
                    exact Or.inl ⟨_, e4, e2⟩
                  · cases e3
                · subst e1
                  rcases h7 with ⟨c', e3, e4⟩ | ⟨z4, e3, h7⟩
                  · cases e3
                  · cases e3
                    have ez1 : z3.1 = z0'.1 := by rw [ez]
                    have ez2 : z3.2.1 = z0'.2.1 := by rw [ez]
                    have ez3 : z3.2.2 = lb_oe (lb_ae z0'.2.2 a') w' := by rw [ez]
                    cases n3 with
                    | zero => exact hm.elim
                    | succ n3 =>
                      rcases h7 with ⟨h93, h7⟩ | ⟨h93, h7⟩
                      · rcases hm with ⟨_, hm⟩ | ⟨q, _⟩
                        · rw [lb_st_1 hb] at hm
                          dsimp only at hm
                          rw [show nI (d + 1) - Int32.ofInt 1 = nI d from (me_subn (b := 1) (by omega)).trans (congrArg nI (by omega)), ← ez1, ← ez2, ← ez3] at hm
                          exact Or.inr ⟨_, n3, h7, hm⟩
                        · exact absurd ⟨ez1 ▸ h93, lb_in_91⟩ q
                      · rcases hm with ⟨⟨q, _⟩, _⟩ | ⟨_, hm⟩
                        · exact absurd (by rw [ez1]; exact q) h93
                        · cases n3 with
                          | zero => exact hm.elim
                          | succ n3 =>
                            rw [ez1] at na no
                            rcases hm with ⟨q, _⟩ | ⟨_, q, _⟩ | ⟨_, _, _, q⟩ | ⟨_, _, q, _⟩
                            · exact absurd q na
                            · exact absurd q no
                            · rw [ez1] at h7
                              exact Or.inl ⟨_, h7, q⟩
                            · exact absurd lb_in_91 q
          · exact absurd h2 q
        · rcases hm with ⟨q, _⟩ | ⟨q, _⟩ | ⟨_, q, _⟩ | ⟨_, q, _⟩ | ⟨_, _, r2, hf, hm⟩
          · exact absurd q h1
          · exact absurd q h1
          · exact absurd q h2
          · exact absurd q h2
          · have e := lb_fa_det h hf
            subst e
            rcases hm with h | ⟨z1, e1, hm⟩
            · exact Or.inl h
            · exact Or.inr ⟨z1, n, e1, hm⟩
    | false =>
      refine ⟨fun h => (by cases h), fun _ n S a z0 r hb ez hm => ?_⟩
      have ez1 : z.1 = z0.1 := by rw [ez]
      have ez2 : z.2.1 = z0.2.1 := by rw [ez]
      have ez3 : z.2.2 = lb_ae z0.2.2 a := by rw [ez]
      cases n with
      | zero => exact hm.elim
      | succ n =>
        rcases h with ⟨h1, r2, h3, h4⟩ | ⟨h1, h2, r2, h3, h4⟩ | ⟨h1, h2, h⟩
        · rw [ez1] at h1
          rcases hm with ⟨⟨q, _⟩, _⟩ | ⟨_, hm⟩
          · exact absurd q (lb_and_g h1)
          cases n with
          | zero => exact hm.elim
          | succ n =>
            rcases hm with ⟨_, hm⟩ | ⟨q, _⟩ | ⟨q, _⟩ | ⟨q, _⟩
            · rw [lb_st_2 hb] at hm
              dsimp only at hm
              rw [← ez1, ← ez2, ← ez3] at hm
              have hm : lb_ma f t n 0 (nI d) (lb_tp true w S) (lb_s f t (z.1 + (lb_W (nt_sp + 1 + 16)).length), z.2.1, z.2.2) r := hm
              rcases (ih _ _ _ _ _ h3 hd).1 rfl _ _ _ hm with ⟨c, e1, e2⟩ | ⟨z1, n', e1, hm⟩
              · subst e1
                rcases h4 with ⟨c', e3, e4⟩ | ⟨z1, e3, _⟩
                · cases e3
                  exact Or.inl ⟨_, e4, e2⟩
                · cases e3
              · subst e1
                rcases h4 with ⟨c', e3, e4⟩ | ⟨z2, e3, h4⟩
                · cases e3
                · cases e3
                  obtain ⟨n2, hm⟩ := lb_ma_1 (lb_st_3 hb) hm
                  exact (ih _ _ _ _ _ h4 hd).2 rfl n2 S true z1 r hb rfl hm
            · exact absurd h1 q
            · exact absurd h1 q
            · exact absurd h1 q
        · rw [ez1] at h1 h2
          rcases hm with ⟨⟨q, _⟩, _⟩ | ⟨_, hm⟩
          · exact absurd q (lb_or_g h2)
          cases n with
          | zero => exact hm.elim
          | succ n =>
            rcases hm with ⟨q, _⟩ | ⟨_, _, hm⟩ | ⟨_, q, _⟩ | ⟨_, q, _⟩
            · exact absurd q h1
            · rw [lb_st_1 hb] at hm
              dsimp only at hm
              rw [← ez1, ← ez2, ← ez3] at hm
              have hm : lb_ma f t n 0 (nI d) (lb_tp false true S) (lb_s f t (z.1 + (lb_W (nt_sp + 1 + 17)).length), z.2.1, lb_oe z.2.2 w) r := hm
              rcases (ih _ _ _ _ _ h3 hd).1 rfl _ _ _ hm with ⟨c, e1, e2⟩ | ⟨z1, n', e1, hm⟩
              · subst e1
                rcases h4 with ⟨c', e3, e4⟩ | ⟨z1, e3, _⟩
                · cases e3
                  exact Or.inl ⟨_, e4, e2⟩
                · cases e3
              · subst e1
                rcases h4 with ⟨c', e3, e4⟩ | ⟨z2, e3, h4⟩
                · cases e3
                · cases e3
                  obtain ⟨n2, hm⟩ := lb_ma_1 (lb_st_3 hb) hm
                  exact (ih _ _ _ _ _ h4 hd).2 rfl n2 S false z1 r hb rfl hm
            · exact absurd h2 q
            · exact absurd h2 q
        · refine Or.inr ⟨_, z0, a, w, n + 1, h, ?_, ?_, ?_, hm⟩
          · exact h1
          · exact h2
          · rw [ez1, ez2, ez3]
/-- a test -/
theorem lb_test_ma {f : Nat → Int32} {t k n : Nat} {z : lb_Z} {r1 r2 r : lb_Y} (h1 : lb_ft f t k true 0 false z r1) (h2 : lb_th r1 r2 (fun z1 => lb_ft f t k false 0 false z1 r2)) (hm : lb_ma f t n 0 (Int32.ofInt 0) [] z r) : r = r2 := by
  have hb : lb_b0 [] := Or.inl rfl
  rcases (lb_ft_ma _ _ _ _ _ _ h1 (by decide)).1 rfl _ _ _ hm with ⟨c, e1, e2⟩ | ⟨z1, n', e1, hm⟩
  · subst e1
    rcases h2 with ⟨c', e3, e4⟩ | ⟨z1, e3, _⟩
    · cases e3
      rw [e2, e4]
    · cases e3
  · subst e1
    rcases h2 with ⟨c', e3, e4⟩ | ⟨z2, e3, h2⟩
    · cases e3
    · cases e3
      obtain ⟨n2, hm⟩ := lb_ma_1 (lb_st_b hb (by decide)) hm
      rcases (lb_ft_ma _ _ _ _ _ _ h2 (by decide)).2 rfl n2 _ false z1 r hb rfl hm with ⟨c, e1, e2⟩ | ⟨z3, z0', a', w', n3, e1, na, no, ez, hm⟩
      · rw [e1, e2]
      · have ez1 : z3.1 = z0'.1 := by rw [ez]
        rw [ez1] at na no
        cases n3 with
        | zero => exact hm.elim
        | succ n3 =>
          rcases hm with ⟨⟨_, q⟩, _⟩ | ⟨_, hm⟩
          · exact absurd q lb_nin_91
          cases n3 with
          | zero => exact hm.elim
          | succ n3 =>
            rcases hm with ⟨q, _⟩ | ⟨_, q, _⟩ | ⟨_, _, q, _⟩ | ⟨_, _, _, q⟩
            · exact absurd q na
            · exact absurd q no
            · exact absurd q lb_nin_91
            · rw [lb_st_1 hb] at q
              rw [q, e1, ez]
