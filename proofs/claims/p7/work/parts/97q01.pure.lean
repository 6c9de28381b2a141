/-! a yard's text, told purely -/
abbrev lb_U : Type := Nat × Nat × Nat × Nat × Nat × Nat
abbrev lb_N : Type := Int32 ⊕ (Nat × Int32)
def lb_nu (f : Nat → Int32) (t p : Nat) (lo hi : Int32) (r : lb_N) : Prop :=
  (lb_d f t p = 0 ∧ r = .inl (lb_c p (Int32.ofInt 0))) ∨
  (0 < lb_d f t p ∧ (5 < lb_d f t p ∨ ¬ (lo.toInt ≤ (lb_v f p (lb_d f t p)).toInt ∧ (lb_v f p (lb_d f t p)).toInt ≤ hi.toInt)) ∧ r = .inl (lb_c p (Int32.ofInt 1))) ∨
  (0 < lb_d f t p ∧ lb_d f t p ≤ 5 ∧ (lo.toInt ≤ (lb_v f p (lb_d f t p)).toInt ∧ (lb_v f p (lb_d f t p)).toInt ≤ hi.toInt) ∧ r = .inr (lb_s f t (p + lb_d f t p), lb_v f p (lb_d f t p)))
theorem lb_nu_det {f : Nat → Int32} {t p : Nat} {lo hi : Int32} {r r' : lb_N} (h : lb_nu f t p lo hi r) (h' : lb_nu f t p lo hi r') : r = r' := by
  rcases h with ⟨a, h⟩ | ⟨a, b, h⟩ | ⟨a, b, c, h⟩ <;> rcases h' with ⟨a', h'⟩ | ⟨a', b', h'⟩ | ⟨a', b', c', h'⟩
  all_goals first
    | (rw [h, h']; done)
    | (exfalso; omega)
    | (exact absurd c' (b.resolve_left (by omega)))
    | (exact absurd c (b'.resolve_left (by omega)))
theorem lb_nu_up {f : Nat → Int32} {t p : Nat} {lo hi : Int32} {q : Nat × Int32} (hp : p ≤ t) (h : lb_nu f t p lo hi (.inr q)) : q.1 ≤ t ∧ lo.toInt ≤ q.2.toInt ∧ q.2.toInt ≤ hi.toInt := by
  rcases h with ⟨a, h⟩ | ⟨a, b, h⟩ | ⟨a, b, c, h⟩
  · cases h
  · cases h
  · have e := Sum.inr.inj h
    subst e
    have hd := lb_d_le (f := f) (t := t) (t - p) p (by omega)
    exact ⟨(lb_s_le (t - (p + lb_d f t p)) (p + lb_d f t p) (by omega)).2, c⟩
def lb_bd {α : Type} (r1 : lb_N) (r : Int32 ⊕ α) (P : Nat → Int32 → Prop) : Prop := (∃ c, r1 = .inl c ∧ r = .inl c) ∨ ∃ q x, r1 = .inr (q, x) ∧ P q x
/-- so many numbers of a ship -/
def lb_sh (f : Nat → Int32) (t : Nat) : Nat → Nat → Int32 ⊕ Nat → Prop
  | 0, p, r => r = .inr p
  | j + 1, p, r => ∃ r1, lb_nu f t p (Int32.ofInt 0) (Int32.ofInt 5) r1 ∧ lb_bd r1 r (fun q _ => lb_sh f t j q r)
def lb_pl (f : Nat → Int32) (t k s p : Nat) (r : Int32 ⊕ Nat) : Prop := ∃ r1, lb_nu f t p (Int32.ofInt 0) (nI k - Int32.ofInt 1) r1 ∧ lb_bd r1 r (fun q _ => ∃ r2, lb_nu f t q (Int32.ofInt 1) (Int32.ofInt 99) r2 ∧ lb_bd r2 r (fun q _ => ∃ r3, lb_nu f t q (Int32.ofInt 0) (nI s - Int32.ofInt 1) r3 ∧ lb_bd r3 r (fun q _ => r = .inr q)))
def lb_vo (f : Nat → Int32) (t s p : Nat) (r : Int32 ⊕ Nat) : Prop := ∃ r1, lb_nu f t p (Int32.ofInt 0) (nI s - Int32.ofInt 1) r1 ∧ lb_bd r1 r (fun q _ => ∃ r2, lb_nu f t q (Int32.ofInt 0) (Int32.ofInt 98) r2 ∧ lb_bd r2 r (fun q x => ∃ r3, lb_nu f t q (x + Int32.ofInt 1) (Int32.ofInt 99) r3 ∧ lb_bd r3 r (fun q _ => ∃ r4, lb_nu f t q (Int32.ofInt 0) (Int32.ofInt 999) r4 ∧ lb_bd r4 r (fun q _ => r = .inr q))))
def lb_bn (r1 : Int32 ⊕ Nat) (r : Int32 ⊕ lb_U) (P : Nat → Prop) : Prop := (∃ c, r1 = .inl c ∧ r = .inl c) ∨ ∃ q, r1 = .inr q ∧ P q
def lb_yw (f : Nat → Int32) (t p w : Nat) : Prop := lb_at f t (lb_W (nt_sp + 1 + w)) p
/-- a clause's parts, from behind its word -/
def lb_pa (f : Nat → Int32) (t : Nat) (u : lb_U) (q : Nat) : Nat → Int32 ⊕ lb_U → Prop
  | 0, r => ∃ r1, lb_nu f t q (Int32.ofInt 1) (Int32.ofInt 4) r1 ∧ lb_bd r1 r (fun q x => r = .inr (q, x.toInt.toNat, u.2.2.1, u.2.2.2.1, u.2.2.2.2.1, u.2.2.2.2.2))
  | 1, r => ∃ r1, lb_sh f t u.2.1 q r1 ∧ lb_bn r1 r (fun q => r = .inr (q, u.2.1, u.2.2.1 + 1, u.2.2.2.1, u.2.2.2.2.1, u.2.2.2.2.2))
  | 2, r => ∃ r1, lb_pl f t u.2.1 u.2.2.1 q r1 ∧ lb_bn r1 r (fun q => r = .inr (q, u.2.1, u.2.2.1, u.2.2.2.1 + 1, u.2.2.2.2.1, u.2.2.2.2.2))
  | 3, r => ∃ r1, lb_vo f t u.2.2.1 q r1 ∧ lb_bn r1 r (fun q => r = .inr (q, u.2.1, u.2.2.1, u.2.2.2.1, u.2.2.2.2.1 + 1, u.2.2.2.2.2))
  | _ + 4, r => ∃ r1, lb_nu f t q (Int32.ofInt 1) (Int32.ofInt 30) r1 ∧ lb_bd r1 r (fun q x => r = .inr (q, u.2.1, u.2.2.1, u.2.2.2.1, u.2.2.2.2.1, x.toInt.toNat))
/-- one more is too many -/
def lb_fu (u : lb_U) : Nat → Prop
  | 0 => False
  | 1 => 6 ≤ u.2.2.1
  | 2 => 24 ≤ u.2.2.2.1
  | 3 => 8 ≤ u.2.2.2.2.1
  | _ + 4 => u.2.2.2.2.2 ≠ 0
def lb_yx (i w : Nat) (u : lb_U) : Prop := i = 40 ∨ ¬ (i = 0 ↔ w = 0) ∨ lb_fu u w
def lb_yc (f : Nat → Int32) (t i : Nat) (u : lb_U) (r : Int32 ⊕ lb_U) : Prop :=
  ((∀ w, w < 5 → ¬ lb_yw f t u.1 w) ∧ r = .inl (lb_c u.1 (Int32.ofInt 0))) ∨
  ∃ w, w < 5 ∧ lb_yw f t u.1 w ∧ (∀ w', w' < w → ¬ lb_yw f t u.1 w') ∧ ((lb_yx i w u ∧ r = .inl (lb_c u.1 (Int32.ofInt 4))) ∨ (¬ lb_yx i w u ∧ lb_pa f t u (lb_s f t (u.1 + (lb_W (nt_sp + 1 + w)).length)) w r))
/-- from a clause on -/
def lb_ya (f : Nat → Int32) (t : Nat) : Nat → Nat → lb_U → Int32 ⊕ lb_U → Prop
  | 0, _, _, _ => False
  | k + 1, i, u, r => ∃ r1, lb_yc f t i u r1 ∧ ((∃ c, r1 = .inl c ∧ r = .inl c) ∨ ∃ u1, r1 = .inr u1 ∧ ((lb_g f t u1.1 = Int32.ofInt 59 ∧ lb_ya f t k (i + 1) (lb_s f t (u1.1 + 1), u1.2) r) ∨ (lb_g f t u1.1 = Int32.ofInt (-1) ∧ r = .inr u1) ∨ (¬ lb_g f t u1.1 = Int32.ofInt 59 ∧ ¬ lb_g f t u1.1 = Int32.ofInt (-1) ∧ r = .inl (lb_c u1.1 (Int32.ofInt 0)))))
theorem lb_bd_det {α : Type} {r1 : lb_N} {r r' : Int32 ⊕ α} {P P' : Nat → Int32 → Prop} (hP : ∀ q x, P q x → P' q x → r = r') (h : lb_bd r1 r P) (h' : lb_bd r1 r' P') : r = r' := by
  rcases h with ⟨c, e, h⟩ | ⟨q, x, e, h⟩ <;> rcases h' with ⟨c', e', h'⟩ | ⟨q', x', e', h'⟩ <;> rw [e] at e' <;> cases e'
  · rw [h, h']
  · exact hP _ _ h h'
theorem lb_bn_det {r1 : Int32 ⊕ Nat} {r r' : Int32 ⊕ lb_U} {P P' : Nat → Prop} (hP : ∀ q, P q → P' q → r = r') (h : lb_bn r1 r P) (h' : lb_bn r1 r' P') : r = r' := by
  rcases h with ⟨c, e, h⟩ | ⟨q, e, h⟩ <;> rcases h' with ⟨c', e', h'⟩ | ⟨q', e', h'⟩ <;> rw [e] at e' <;> cases e'
  · rw [h, h']
  · exact hP _ h h'
theorem lb_sh_det {f : Nat → Int32} {t : Nat} : ∀ (j p : Nat) (r r' : Int32 ⊕ Nat), lb_sh f t j p r → lb_sh f t j p r' → r = r' := by
  intro j
  induction j with
  | zero => intro p r r' h h'; rw [show r = .inr p from h, show r' = .inr p from h']
  | succ j ih =>
    intro p r r' ⟨r1, a, h⟩ ⟨r1', a', h'⟩
    have e := lb_nu_det a a'
    subst e
    exact lb_bd_det (fun q x h h' => ih _ _ _ h h') h h'
theorem lb_pl_det {f : Nat → Int32} {t k s p : Nat} {r r' : Int32 ⊕ Nat} (h : lb_pl f t k s p r) (h' : lb_pl f t k s p r') : r = r' := by
  obtain ⟨r1, a, h⟩ := h
  obtain ⟨r1', a', h'⟩ := h'
  have e := lb_nu_det a a'
  subst e
  refine lb_bd_det (fun q x h h' => ?_) h h'
  obtain ⟨r1, a, h⟩ := h
  obtain ⟨r1', a', h'⟩ := h'
  have e := lb_nu_det a a'
  subst e
  refine lb_bd_det (fun q x h h' => ?_) h h'
  obtain ⟨r1, a, h⟩ := h
  obtain ⟨r1', a', h'⟩ := h'
  have e := lb_nu_det a a'
  subst e
  exact lb_bd_det (fun q x h h' => by rw [h, h']) h h'
theorem lb_vo_det {f : Nat → Int32} {t s p : Nat} {r r' : Int32 ⊕ Nat} (h : lb_vo f t s p r) (h' : lb_vo f t s p r') : r = r' := by
  obtain ⟨r1, a, h⟩ := h
  obtain ⟨r1', a', h'⟩ := h'
  have e := lb_nu_det a a'
  subst e
  refine lb_bd_det (fun q x h h' => ?_) h h'
  obtain ⟨r1, a, h⟩ := h
  obtain ⟨r1', a', h'⟩ := h'
  have e := lb_nu_det a a'
  subst e
  refine lb_bd_det (fun q x h h' => ?_) h h'
  obtain ⟨r1, a, h⟩ := h
  obtain ⟨r1', a', h'⟩ := h'
  have e := lb_nu_det a a'
  subst e
  refine lb_bd_det (fun q x h h' => ?_) h h'
  obtain ⟨r1, a, h⟩ := h
  obtain ⟨r1', a', h'⟩ := h'
  have e := lb_nu_det a a'
  subst e
  exact lb_bd_det (fun q x h h' => by rw [h, h']) h h'
theorem lb_pa_det {f : Nat → Int32} {t : Nat} {u : lb_U} {q w : Nat} {r r' : Int32 ⊕ lb_U} (hw : w < 5) (h : lb_pa f t u q w r) (h' : lb_pa f t u q w r') : r = r' := by
  rcases (by omega : w = 0 ∨ w = 1 ∨ w = 2 ∨ w = 3 ∨ w = 4) with rfl | rfl | rfl | rfl | rfl
  · obtain ⟨r1, a, h⟩ := h
    obtain ⟨r1', a', h'⟩ := h'
    have e := lb_nu_det a a'
    subst e
    exact lb_bd_det (fun q x h h' => by rw [h, h']) h h'
  · obtain ⟨r1, a, h⟩ := h
    obtain ⟨r1', a', h'⟩ := h'
    have e := lb_sh_det _ _ _ _ a a'
    subst e
    exact lb_bn_det (fun q h h' => by rw [h, h']) h h'
  · obtain ⟨r1, a, h⟩ := h
    obtain ⟨r1', a', h'⟩ := h'
    have e := lb_pl_det a a'
    subst e
    exact lb_bn_det (fun q h h' => by rw [h, h']) h h'
  · obtain ⟨r1, a, h⟩ := h
    obtain ⟨r1', a', h'⟩ := h'
    have e := lb_vo_det a a'
    subst e
    exact lb_bn_det (fun q h h' => by rw [h, h']) h h'
  · obtain ⟨r1, a, h⟩ := h
    obtain ⟨r1', a', h'⟩ := h'
    have e := lb_nu_det a a'
    subst e
    exact lb_bd_det (fun q x h h' => by rw [h, h']) h h'
theorem lb_yc_det {f : Nat → Int32} {t i : Nat} {u : lb_U} {r r' : Int32 ⊕ lb_U} (h : lb_yc f t i u r) (h' : lb_yc f t i u r') : r = r' := by
  rcases h with ⟨a, h⟩ | ⟨w, hw, a, b, h⟩ <;> rcases h' with ⟨a', h'⟩ | ⟨w', hw', a', b', h'⟩
  · rw [h, h']
  · exact absurd a' (a w' hw')
  · exact absurd a (a' w hw)
  · have e : w = w' := by
      rcases Nat.lt_trichotomy w w' with q | q | q
      · exact absurd a (b' w q)
      · exact q
      · exact absurd a' (b w' q)
    subst e
    rcases h with ⟨c, h⟩ | ⟨c, h⟩ <;> rcases h' with ⟨c', h'⟩ | ⟨c', h'⟩
    · rw [h, h']
    · exact absurd c c'
    · exact absurd c' c
    · exact lb_pa_det hw h h'
theorem lb_ya_det {f : Nat → Int32} {t : Nat} : ∀ (k k' i : Nat) (u : lb_U) (r r' : Int32 ⊕ lb_U), lb_ya f t k i u r → lb_ya f t k' i u r' → r = r' := by
  intro k
  induction k with
  | zero => intro k' i u r r' h; exact h.elim
  | succ k ih =>
    intro k' i u r r' h h'
    cases k' with
    | zero => exact h'.elim
    | succ k' =>
      obtain ⟨r1, a, h⟩ := h
      obtain ⟨r1', a', h'⟩ := h'
      have e := lb_yc_det a a'
      subst e
      rcases h with ⟨c, e1, e2⟩ | ⟨u1, e1, h⟩ <;> rcases h' with ⟨c', e1', e2'⟩ | ⟨u1', e1', h'⟩ <;> rw [e1] at e1' <;> cases e1'
      · rw [e2, e2']
      · rcases h with ⟨g, h⟩ | ⟨g, h⟩ | ⟨g, g2, h⟩ <;> rcases h' with ⟨g', h'⟩ | ⟨g', h'⟩ | ⟨g', g2', h'⟩
        · exact ih _ _ _ _ _ h h'
        · rw [g] at g'; exact absurd g' (by decide)
        · exact absurd g g'
        · rw [g] at g'; exact absurd g' (by decide)
        · rw [h, h']
        · exact absurd g g2'
        · exact absurd g' g
        · exact absurd g' g2
        · rw [h, h']
