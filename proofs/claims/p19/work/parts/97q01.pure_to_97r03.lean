section
/-! a yard's text, told purely -/
abbrev lb_U : Type := Nat × Nat × Nat × Nat × Nat × Nat
abbrev lb_N : Type := Int32 ⊕ (Nat × Int32)
def lb_nu (f : Nat → Int32) (t p : Nat) (lo hi : Int32) (r : lb_N) : Prop :=
  (lb_d f t p = 0 ∧ r = .inl (lb_c p (Int32.ofInt 0))) ∨
  (0 < lb_d f t p ∧ (5 < lb_d f t p ∨ ¬ (lo.toInt ≤ (lb_v f p (lb_d f t p)).toInt ∧ (lb_v f p (lb_d f t p)).toInt ≤ hi.toInt)) ∧ r = .inl (lb_c p (Int32.ofInt 1))) ∨
  (0 < lb_d f t p ∧ lb_d f t p ≤ 5 ∧ (lo.toInt ≤ (lb_v f p (lb_d f t p)).toInt ∧ (lb_v f p (lb_d f t p)).toInt ≤ hi.toInt) ∧ r = .inr (lb_s f t (p + lb_d f t p), lb_v f p (lb_d f t p)))
theorem lb_nu_det {f : Nat → Int32} {t p : Nat} {lo hi : Int32} {r r' : lb_N} (h : lb_nu f t p lo hi r) (h' : lb_nu f t p lo hi r') : r = r' := by
  rcases h with ⟨a, h⟩ | ⟨a, b, h⟩ | ⟨a, b, c, h⟩ <;> rcases h' with ⟨a', h'⟩ | ⟨a', b', h'⟩ | ⟨a', b', c', h'⟩
  all_goals first
    | (rw [h, h']; done)
    | (exfalso; omega)
    | (exact absurd c' (b.resolve_left (by omega)))
    | (exact absurd c (b'.resolve_left (by omega)))
theorem lb_nu_up {f : Nat → Int32} {t p : Nat} {lo hi : Int32} {q : Nat × Int32} (hp : p ≤ t) (h : lb_nu f t p lo hi (.inr q)) : q.1 ≤ t ∧ lo.toInt ≤ q.2.toInt ∧ q.2.toInt ≤ hi.toInt := by
  rcases h with ⟨a, h⟩ | ⟨a, b, h⟩ | ⟨a, b, c, h⟩
  · cases h
  · cases h
  · have e := Sum.inr.inj h
    subst e
    have hd := lb_d_le (f := f) (t := t) (t - p) p (by omega)
    exact ⟨(lb_s_le (t - (p + lb_d f t p)) (p + lb_d f t p) (by omega)).2, c⟩
def lb_bd {α : Type} (r1 : lb_N) (r : Int32 ⊕ α) (P : Nat → Int32 → Prop) : Prop := (∃ c, r1 = .inl c ∧ r = .inl c) ∨ ∃ q x, r1 = .inr (q, x) ∧ P q x
/-- so many numbers of a ship -/
def lb_sh (f : Nat → Int32) (t : Nat) : Nat → Nat → Int32 ⊕ Nat → Prop
  | 0, p, r => r = .inr p
  | j + 1, p, r => ∃ r1, lb_nu f t p (Int32.ofInt 0) (Int32.ofInt 5) r1 ∧ lb_bd r1 r (fun q _ => lb_sh f t j q r)
def lb_pl (f : Nat → Int32) (t k s p : Nat) (r : Int32 ⊕ Nat) : Prop := ∃ r1, lb_nu f t p (Int32.ofInt 0) (nI k - Int32.ofInt 1) r1 ∧ lb_bd r1 r (fun q _ => ∃ r2, lb_nu f t q (Int32.ofInt 1) (Int32.ofInt 99) r2 ∧ lb_bd r2 r (fun q _ => ∃ r3, lb_nu f t q (Int32.ofInt 0) (nI s - Int32.ofInt 1) r3 ∧ lb_bd r3 r (fun q _ => r = .inr q)))
def lb_vo (f : Nat → Int32) (t s p : Nat) (r : Int32 ⊕ Nat) : Prop := ∃ r1, lb_nu f t p (Int32.ofInt 0) (nI s - Int32.ofInt 1) r1 ∧ lb_bd r1 r (fun q _ => ∃ r2, lb_nu f t q (Int32.ofInt 0) (Int32.ofInt 98) r2 ∧ lb_bd r2 r (fun q x => ∃ r3, lb_nu f t q (x + Int32.ofInt 1) (Int32.ofInt 99) r3 ∧ lb_bd r3 r (fun q _ => ∃ r4, lb_nu f t q (Int32.ofInt 0) (Int32.ofInt 999) r4 ∧ lb_bd r4 r (fun q _ => r = .inr q))))
def lb_bn (r1 : Int32 ⊕ Nat) (r : Int32 ⊕ lb_U) (P : Nat → Prop) : Prop := (∃ c, r1 = .inl c ∧ r = .inl c) ∨ ∃ q, r1 = .inr q ∧ P q
def lb_yw (f : Nat → Int32) (t p w : Nat) : Prop := lb_at f t (lb_W (nt_sp + 1 + w)) p
/-- a clause's parts, from behind its word -/
def lb_pa (f : Nat → Int32) (t : Nat) (u : lb_U) (q : Nat) : Nat → Int32 ⊕ lb_U → Prop
  | 0, r => ∃ r1, lb_nu f t q (Int32.ofInt 1) (Int32.ofInt 4) r1 ∧ lb_bd r1 r (fun q x => r = .inr (q, x.toInt.toNat, u.2.2.1, u.2.2.2.1, u.2.2.2.2.1, u.2.2.2.2.2))
  | 1, r => ∃ r1, lb_sh f t u.2.1 q r1 ∧ lb_bn r1 r (fun q => r = .inr (q, u.2.1, u.2.2.1 + 1, u.2.2.2.1, u.2.2.2.2.1, u.2.2.2.2.2))
  | 2, r => ∃ r1, lb_pl f t u.2.1 u.2.2.1 q r1 ∧ lb_bn r1 r (fun q => r = .inr (q, u.2.1, u.2.2.1, u.2.2.2.1 + 1, u.2.2.2.2.1, u.2.2.2.2.2))
  | 3, r => ∃ r1, lb_vo f t u.2.2.1 q r1 ∧ lb_bn r1 r (fun q => r = .inr (q, u.2.1, u.2.2.1, u.2.2.2.1, u.2.2.2.2.1 + 1, u.2.2.2.2.2))
  | _ + 4, r => ∃ r1, lb_nu f t q (Int32.ofInt 1) (Int32.ofInt 30) r1 ∧ lb_bd r1 r (fun q x => r = .inr (q, u.2.1, u.2.2.1, u.2.2.2.1, u.2.2.2.2.1, x.toInt.toNat))
/-- one more is too many -/
def lb_fu (u : lb_U) : Nat → Prop
  | 0 => False
  | 1 => 6 ≤ u.2.2.1
  | 2 => 24 ≤ u.2.2.2.1
  | 3 => 8 ≤ u.2.2.2.2.1
  | _ + 4 => u.2.2.2.2.2 ≠ 0
def lb_yx (i w : Nat) (u : lb_U) : Prop := i = 40 ∨ ¬ (i = 0 ↔ w = 0) ∨ lb_fu u w
def lb_yc (f : Nat → Int32) (t i : Nat) (u : lb_U) (r : Int32 ⊕ lb_U) : Prop :=
  ((∀ w, w < 5 → ¬ lb_yw f t u.1 w) ∧ r = .inl (lb_c u.1 (Int32.ofInt 0))) ∨
  ∃ w, w < 5 ∧ lb_yw f t u.1 w ∧ (∀ w', w' < w → ¬ lb_yw f t u.1 w') ∧ ((lb_yx i w u ∧ r = .inl (lb_c u.1 (Int32.ofInt 4))) ∨ (¬ lb_yx i w u ∧ lb_pa f t u (lb_s f t (u.1 + (lb_W (nt_sp + 1 + w)).length)) w r))
/-- from a clause on -/
def lb_ya (f : Nat → Int32) (t : Nat) : Nat → Nat → lb_U → Int32 ⊕ lb_U → Prop
  | 0, _, _, _ => False
  | k + 1, i, u, r => ∃ r1, lb_yc f t i u r1 ∧ ((∃ c, r1 = .inl c ∧ r = .inl c) ∨ ∃ u1, r1 = .inr u1 ∧ ((lb_g f t u1.1 = Int32.ofInt 59 ∧ lb_ya f t k (i + 1) (lb_s f t (u1.1 + 1), u1.2) r) ∨ (lb_g f t u1.1 = Int32.ofInt (-1) ∧ r = .inr u1) ∨ (¬ lb_g f t u1.1 = Int32.ofInt 59 ∧ ¬ lb_g f t u1.1 = Int32.ofInt (-1) ∧ r = .inl (lb_c u1.1 (Int32.ofInt 0)))))
theorem lb_bd_det {α : Type} {r1 : lb_N} {r r' : Int32 ⊕ α} {P P' : Nat → Int32 → Prop} (hP : ∀ q x, P q x → P' q x → r = r') (h : lb_bd r1 r P) (h' : lb_bd r1 r' P') : r = r' := by
  rcases h with ⟨c, e, h⟩ | ⟨q, x, e, h⟩ <;> rcases h' with ⟨c', e', h'⟩ | ⟨q', x', e', h'⟩ <;> rw [e] at e' <;> cases e'
  · rw [h, h']
  · exact hP _ _ h h'
theorem lb_bn_det {r1 : Int32 ⊕ Nat} {r r' : Int32 ⊕ lb_U} {P P' : Nat → Prop} (hP : ∀ q, P q → P' q → r = r') (h : lb_bn r1 r P) (h' : lb_bn r1 r' P') : r = r' := by
  rcases h with ⟨c, e, h⟩ | ⟨q, e, h⟩ <;> rcases h' with ⟨c', e', h'⟩ | ⟨q', e', h'⟩ <;> rw [e] at e' <;> cases e'
  · rw [h, h']
  · exact hP _ h h'
theorem lb_sh_det {f : Nat → Int32} {t : Nat} : ∀ (j p : Nat) (r r' : Int32 ⊕ Nat), lb_sh f t j p r → lb_sh f t j p r' → r = r' := by
  intro j
  induction j with
  | zero => intro p r r' h h'; rw [show r = .inr p from h, show r' = .inr p from h']
  | succ j ih =>
    intro p r r' ⟨r1, a, h⟩ ⟨r1', a', h'⟩
    have e := lb_nu_det a a'
    subst e
    exact lb_bd_det (fun q x h h' => ih _ _ _ h h') h h'
theorem lb_pl_det {f : Nat → Int32} {t k s p : Nat} {r r' : Int32 ⊕ Nat} (h : lb_pl f t k s p r) (h' : lb_pl f t k s p r') : r = r' := by
  obtain ⟨r1, a, h⟩ := h
  obtain ⟨r1', a', h'⟩ := h'
  have e := lb_nu_det a a'
  subst e
  refine lb_bd_det (fun q x h h' => ?_) h h'
  obtain ⟨r1, a, h⟩ := h
  obtain ⟨r1', a', h'⟩ := h'
  have e := lb_nu_det a a'
  subst e
  refine lb_bd_det (fun q x h h' => ?_) h h'
  obtain ⟨r1, a, h⟩ := h
  obtain ⟨r1', a', h'⟩ := h'
  have e := lb_nu_det a a'
  subst e
  exact lb_bd_det (fun q x h h' => by rw [h, h']) h h'
theorem lb_vo_det {f : Nat → Int32} {t s p : Nat} {r r' : Int32 ⊕ Nat} (h : lb_vo f t s p r) (h' : lb_vo f t s p r') : r = r' := by
  obtain ⟨r1, a, h⟩ := h
  obtain ⟨r1', a', h'⟩ := h'
  have e := lb_nu_det a a'
  subst e
  refine lb_bd_det (fun q x h h' => ?_) h h'
  obtain ⟨r1, a, h⟩ := h
  obtain ⟨r1', a', h'⟩ := h'
  have e := lb_nu_det a a'
  subst e
  refine lb_bd_det (fun q x h h' => ?_) h h'
  obtain ⟨r1, a, h⟩ := h
  obtain ⟨r1', a', h'⟩ := h'
  have e := lb_nu_det a a'
  subst e
  refine lb_bd_det (fun q x h h' => ?_) h h'
  obtain ⟨r1, a, h⟩ := h
  obtain ⟨r1', a', h'⟩ := h'
  have e := lb_nu_det a a'
  subst e
  exact lb_bd_det (fun q x h h' => by rw [h, h']) h h'
theorem lb_pa_det {f : Nat → Int32} {t : Nat} {u : lb_U} {q w : Nat} {r r' : Int32 ⊕ lb_U} (hw : w < 5) (h : lb_pa f t u q w r) (h' : lb_pa f t u q w r') : r = r' := by
  rcases (by omega : w = 0 ∨ w = 1 ∨ w = 2 ∨ w = 3 ∨ w = 4) with rfl | rfl | rfl | rfl | rfl
  · obtain ⟨r1, a, h⟩ := h
    obtain ⟨r1', a', h'⟩ := h'
    have e := lb_nu_det a a'
    subst e
    exact lb_bd_det (fun q x h h' => by rw [h, h']) h h'
  · obtain ⟨r1, a, h⟩ := h
    obtain ⟨r1', a', h'⟩ := h'
    have e := lb_sh_det _ _ _ _ a a'
    subst e
    exact lb_bn_det (fun q h h' => by rw [h, h']) h h'
  · obtain ⟨r1, a, h⟩ := h
    obtain ⟨r1', a', h'⟩ := h'
    have e := lb_pl_det a a'
    subst e
    exact lb_bn_det (fun q h h' => by rw [h, h']) h h'
  · obtain ⟨r1, a, h⟩ := h
    obtain ⟨r1', a', h'⟩ := h'
    have e := lb_vo_det a a'
    subst e
    exact lb_bn_det (fun q h h' => by rw [h, h']) h h'
  · obtain ⟨r1, a, h⟩ := h
    obtain ⟨r1', a', h'⟩ := h'
    have e := lb_nu_det a a'
    subst e
    exact lb_bd_det (fun q x h h' => by rw [h, h']) h h'
theorem lb_yc_det {f : Nat → Int32} {t i : Nat} {u : lb_U} {r r' : Int32 ⊕ lb_U} (h : lb_yc f t i u r) (h' : lb_yc f t i u r') : r = r' := by
  rcases h with ⟨a, h⟩ | ⟨w, hw, a, b, h⟩ <;> rcases h' with ⟨a', h'⟩ | ⟨w', hw', a', b', h'⟩
  · rw [h, h']
  · exact absurd a' (a w' hw')
  · exact absurd a (a' w hw)
  · have e : w = w' := by
      rcases Nat.lt_trichotomy w w' with q | q | q
      · exact absurd a (b' w q)
      · exact q
      · exact absurd a' (b w' q)
    subst e
    rcases h with ⟨c, h⟩ | ⟨c, h⟩ <;> rcases h' with ⟨c', h'⟩ | ⟨c', h'⟩
    · rw [h, h']
    · exact absurd c c'
    · exact absurd c' c
    · exact lb_pa_det hw h h'
theorem lb_ya_det {f : Nat → Int32} {t : Nat} : ∀ (k k' i : Nat) (u : lb_U) (r r' : Int32 ⊕ lb_U), lb_ya f t k i u r → lb_ya f t k' i u r' → r = r' := by
  intro k
  induction k with
  | zero => intro k' i u r r' h; exact h.elim
  | succ k ih =>
    intro k' i u r r' h h'
    cases k' with
    | zero => exact h'.elim
    | succ k' =>
      obtain ⟨r1, a, h⟩ := h
      obtain ⟨r1', a', h'⟩ := h'
      have e := lb_yc_det a a'
      subst e
      rcases h with ⟨c, e1, e2⟩ | ⟨u1, e1, h⟩ <;> rcases h' with ⟨c', e1', e2'⟩ | ⟨u1', e1', h'⟩ <;> rw [e1] at e1' <;> cases e1'
      · rw [e2, e2']
      · rcases h with ⟨g, h⟩ | ⟨g, h⟩ | ⟨g, g2, h⟩ <;> rcases h' with ⟨g', h'⟩ | ⟨g', h'⟩ | ⟨g', g2', h'⟩
        · exact ih _ _ _ _ _ h h'
        · rw [g] at g'; exact absurd g' (by decide)
        · exact absurd g g'
        · rw [g] at g'; exact absurd g' (by decide)
        · rw [h, h']
        · exact absurd g g2'
        · exact absurd g' g
        · exact absurd g' g2
        · rw [h, h']
end
section
/-! what a yard's text says, its numbers -/
abbrev lb_C : Type := Nat → Nat → Int32
theorem lb_ix1 {n : Nat} (h : n < 1000) : (nI n).toNatClampNeg = n := by
  show (nI n).toInt.toNat = n
  rw [nI_toInt (by omega)]; omega
theorem lb_ixm {a b c n : Nat} (ha : a < 1000) (hb : b < 100) (hc : c < 1000) : ((nI b) * (nI a) + (nI c)).toNatClampNeg = b * a + c := by
  have hba : b * a < 100000 := by
    have := Nat.mul_le_mul (show b ≤ 99 by omega) (show a ≤ 999 by omega); omega
  show ((nI b) * (nI a) + (nI c)).toInt.toNat = _
  rw [Int32.toInt_add, Int32.toInt_mul, nI_toInt (by omega), nI_toInt (by omega), nI_toInt (by omega)]
  rw [show (b : Int) * (a : Int) = ((b * a : Nat) : Int) from by push_cast; rfl]
  have e1 : ((b * a : Nat) : Int).bmod (2 ^ 32) = ((b * a : Nat) : Int) := Int.bmod_eq_of_le (by omega) (by omega)
  rw [e1, Int.bmod_eq_of_le (by omega) (by omega)]
  omega
theorem lb_ix4 {s i : Nat} (hs : s ≤ 6) (hi : i ≤ 4) : ((nI s) * (Int32.ofInt 4) + (nI i)).toNatClampNeg = 4 * s + i := by
  rw [Int32.mul_comm]; exact lb_ixm (n := 0) (b := 4) (by omega) (by omega) (by omega)
theorem lb_ix4' {s i : Nat} (hs : s ≤ 8) (hi : i ≤ 4) : ((Int32.ofInt 4) * (nI s) + (nI i)).toNatClampNeg = 4 * s + i := lb_ixm (n := 0) (b := 4) (by omega) (by omega) (by omega)
theorem lb_ix40 {s : Nat} (hs : s ≤ 8) : ((Int32.ofInt 4) * (nI s)).toNatClampNeg = 4 * s + 0 := by
  have h := lb_ixm (n := 0) (a := s) (b := 4) (c := 0) (by omega) (by omega) (by omega)
  rw [show nI 0 = 0 from rfl, Int32.add_zero] at h; exact h
theorem lb_ix3' {s i : Nat} (hs : s ≤ 24) (hi : i ≤ 4) : ((Int32.ofInt 3) * (nI s) + (nI i)).toNatClampNeg = 3 * s + i := lb_ixm (n := 0) (b := 3) (by omega) (by omega) (by omega)
theorem lb_ix30 {s : Nat} (hs : s ≤ 24) : ((Int32.ofInt 3) * (nI s)).toNatClampNeg = 3 * s + 0 := by
  have h := lb_ixm (n := 0) (a := s) (b := 3) (c := 0) (by omega) (by omega) (by omega)
  rw [show nI 0 = 0 from rfl, Int32.add_zero] at h; exact h
def lb_shC (f : Nat → Int32) (t s : Nat) : Nat → Nat → Nat → Nat → lb_C → lb_C → Prop
  | 0, _, p, q, C, D => q = p ∧ D = C
  | j + 1, i, p, q, C, D => ∃ q1 x, lb_nu f t p (Int32.ofInt 0) (Int32.ofInt 5) (.inr (q1, x)) ∧ lb_shC f t s j (i + 1) q1 q (nt_u C 5 (4 * s + i) x) D
def lb_plC (f : Nat → Int32) (t k s p n q : Nat) (C D : lb_C) : Prop := ∃ q1 q2 x1 x2 x3, lb_nu f t p (Int32.ofInt 0) (nI k - Int32.ofInt 1) (.inr (q1, x1)) ∧ lb_nu f t q1 (Int32.ofInt 1) (Int32.ofInt 99) (.inr (q2, x2)) ∧ lb_nu f t q2 (Int32.ofInt 0) (nI s - Int32.ofInt 1) (.inr (q, x3)) ∧ D = nt_u (nt_u (nt_u C 6 n x1) 7 n x2) 8 n x3
def lb_voC (f : Nat → Int32) (t s p n q : Nat) (C D : lb_C) : Prop := ∃ q1 q2 q3 x1 x2 x3 x4, lb_nu f t p (Int32.ofInt 0) (nI s - Int32.ofInt 1) (.inr (q1, x1)) ∧ lb_nu f t q1 (Int32.ofInt 0) (Int32.ofInt 98) (.inr (q2, x2)) ∧ lb_nu f t q2 (x2 + Int32.ofInt 1) (Int32.ofInt 99) (.inr (q3, x3)) ∧ lb_nu f t q3 (Int32.ofInt 0) (Int32.ofInt 999) (.inr (q, x4)) ∧ D = nt_u (nt_u (nt_u (nt_u C 9 n x1) 10 n x2) 11 n x3) 12 n x4
/-- what a clause writes: from q (behind its word) to q' -/
def lb_paC (f : Nat → Int32) (t : Nat) (u : Nat × Nat × Nat × Nat × Nat) (q q' : Nat) : Nat → lb_C → lb_C → Prop
  | 0, C, D => D = C
  | 1, C, D => lb_shC f t u.2.1 u.1 0 q q' C D
  | 2, C, D => lb_plC f t u.1 u.2.1 q u.2.2.1 q' C D
  | 3, C, D => lb_voC f t u.2.1 q u.2.2.2.1 q' C D
  | _ + 4, C, D => D = C
def lb_ycC (f : Nat → Int32) (t : Nat) (u u' : lb_U) (C D : lb_C) : Prop := ∃ w, w < 5 ∧ lb_yw f t u.1 w ∧ (∀ w', w' < w → ¬ lb_yw f t u.1 w') ∧ lb_paC f t u.2 (lb_s f t (u.1 + (lb_W (nt_sp + 1 + w)).length)) u'.1 w C D
def lb_yaC (f : Nat → Int32) (t : Nat) : Nat → Nat → lb_U → lb_U → lb_C → lb_C → Prop
  | 0, _, _, _, _, _ => False
  | k + 1, i, u, v, C, D => ∃ u1 C1, lb_yc f t i u (.inr u1) ∧ lb_ycC f t u u1 C C1 ∧ ((lb_g f t u1.1 = Int32.ofInt 59 ∧ lb_yaC f t k (i + 1) (lb_s f t (u1.1 + 1), u1.2) v C1 D) ∨ (lb_g f t u1.1 = Int32.ofInt (-1) ∧ v = u1 ∧ D = C1))
end
section
/-! the class reads a yard -/
def yc_P (M : nt_M) (t Rd Tp By RR Sp Yr Y : Nat) (Rw : Nat → Nat) : Prop := (nt_R M Rd 0 = some Tp ∧ nt_R M Tp 0 = some By ∧ nt_R M RR 0 = some Rd ∧ nt_R M RR 1 = some Sp) ∧ (Tp ≠ Rd ∧ Tp ≠ RR ∧ Tp ≠ Sp ∧ By ≠ Rd ∧ By ≠ RR ∧ By ≠ Sp ∧ Rd ≠ RR ∧ Rd ≠ Sp ∧ RR ≠ Sp) ∧ (nt_R M Yr 0 = some Rd ∧ nt_R M Yr 1 = some Y) ∧ (Y ≠ Rd ∧ Y ≠ Tp ∧ Y ≠ By ∧ Y ≠ RR) ∧ (∀ i, 5 ≤ i → i ≤ 12 → nt_R M Y i = some (Rw i) ∧ Rw i ≠ Rd ∧ Rw i ≠ Tp ∧ Rw i ≠ By ∧ Rw i ≠ RR ∧ Rw i ≠ Y ∧ ∀ i', 5 ≤ i' → i' ≤ 12 → i' ≠ i → Rw i' ≠ Rw i) ∧ t ≤ 400 ∧ nt_l M Sp = 400 ∧ Sp ≠ nt_sp
def yc_S (Rw : Nat → Nat) (C : lb_C) (f : Nat → Int32) (t Rd Tp By RR Y m0 s0 p : Nat) (fa : Int32) (u : Nat × Nat × Nat × Nat × Nat) (J : Nat → Nat → Int32) : Prop := (J Rd 1 = nI p ∧ J Rd 2 = fa) ∧ (J Tp 1 = nI t ∧ (∀ j, J By j = f j) ∧ J RR 2 = nI s0 ∧ J RR 3 = nI m0) ∧ (J Y 0 = nI u.1 ∧ J Y 1 = nI u.2.1 ∧ J Y 2 = nI u.2.2.1 ∧ J Y 3 = nI u.2.2.2.1 ∧ J Y 4 = nI u.2.2.2.2) ∧ (s0 ≤ 400 ∧ m0 ≤ 60) ∧ ∀ i, 5 ≤ i → i ≤ 12 → ∀ j, J (Rw i) j = C i j
theorem yc_Cr {Rw : Nat → Nat} {C : lb_C} {J : Nat → Nat → Int32} {i j : Nat} {x : Int32} (hr : ∀ i', 5 ≤ i' → i' ≤ 12 → i' ≠ i → Rw i' ≠ Rw i) (h : ∀ i, 5 ≤ i → i ≤ 12 → ∀ j, J (Rw i) j = C i j) (i' : Nat) (h5 : 5 ≤ i') (h12 : i' ≤ 12) (j' : Nat) : nt_u J (Rw i) j x (Rw i') j' = nt_u C i j x i' j' := by
  by_cases e : i' = i
  · subst e
    by_cases e2 : j' = j
    · subst e2
      rw [me_us, me_us]
    · rw [me_uk e2, me_uk e2]
      exact h i' h5 h12 j'
  · rw [me_uj (hr i' h5 h12 e), me_uj e]
    exact h i' h5 h12 j'
theorem yc_lP {M : nt_M} {f : Nat → Int32} {t Rd Tp By RR Sp Yr Y m0 s0 p : Nat} {Rw : Nat → Nat} {C : lb_C} {fa : Int32} {u : Nat × Nat × Nat × Nat × Nat} {J : Nat → Nat → Int32} (hP : yc_P M t Rd Tp By RR Sp Yr Y Rw) (hS : yc_S Rw C f t Rd Tp By RR Y m0 s0 p fa u J) : lc_P M J f t Rd Tp By RR Sp := ⟨hP.1, hP.2.1, hS.2.1.1, hS.2.1.2.1, hP.2.2.2.2.2⟩
theorem yc_lS {M : nt_M} {f : Nat → Int32} {t Rd Tp By RR Sp Yr Y m0 s0 p : Nat} {Rw : Nat → Nat} {C : lb_C} {fa : Int32} {u : Nat × Nat × Nat × Nat × Nat} {J : Nat → Nat → Int32} (hP : yc_P M t Rd Tp By RR Sp Yr Y Rw) (hS : yc_S Rw C f t Rd Tp By RR Y m0 s0 p fa u J) : lc_S J Rd RR Sp p fa m0 (s0, J Sp) J := ⟨hS.1.1, hS.1.2, hS.2.1.2.2.1, hS.2.1.2.2.2, fun _ _ => rfl, fun _ _ _ _ => rfl, hS.2.2.2.1⟩
theorem yc_Sp {M : nt_M} {f : Nat → Int32} {t Rd Tp By RR Sp Yr Y m0 s0 p : Nat} {Rw : Nat → Nat} {C : lb_C} {fa : Int32} {u : Nat × Nat × Nat × Nat × Nat} {J : Nat → Nat → Int32} {q : Nat} (hP : yc_P M t Rd Tp By RR Sp Yr Y Rw) (hS : yc_S Rw C f t Rd Tp By RR Y m0 s0 p fa u J) : yc_S Rw C f t Rd Tp By RR Y m0 s0 q fa u (nt_u J Rd 1 (nI q)) := by
  obtain ⟨⟨a1, a2⟩, ⟨b1, b2, b3, b4⟩, ⟨c1, c2, c3, c4, c5⟩, d⟩ := hS
  have n1 := hP.2.1.1
  have n2 := hP.2.1.2.2.2.1
  have n3 := hP.2.1.2.2.2.2.2.2.1
  have n4 := hP.2.2.2.1.1
  exact ⟨⟨me_us, (me_uk (by decide)).trans a2⟩, ⟨(me_uj n1).trans b1, fun j => (me_uj n2).trans (b2 j), (me_uj (Ne.symm n3)).trans b3, (me_uj (Ne.symm n3)).trans b4⟩, ⟨(me_uj n4).trans c1, (me_uj n4).trans c2, (me_uj n4).trans c3, (me_uj n4).trans c4, (me_uj n4).trans c5⟩, d.1, fun i h5 h12 j => (me_uj (hP.2.2.2.2.1 i h5 h12).2.1).trans (d.2 i h5 h12 j)⟩
theorem yc_Sf {M : nt_M} {f : Nat → Int32} {t Rd Tp By RR Sp Yr Y m0 s0 p : Nat} {Rw : Nat → Nat} {C : lb_C} {fa : Int32} {u : Nat × Nat × Nat × Nat × Nat} {J : Nat → Nat → Int32} {fb : Int32} (hP : yc_P M t Rd Tp By RR Sp Yr Y Rw) (hS : yc_S Rw C f t Rd Tp By RR Y m0 s0 p fa u J) : yc_S Rw C f t Rd Tp By RR Y m0 s0 p fb u (nt_u J Rd 2 fb) := by
  obtain ⟨⟨a1, a2⟩, ⟨b1, b2, b3, b4⟩, ⟨c1, c2, c3, c4, c5⟩, d⟩ := hS
  have n1 := hP.2.1.1
  have n2 := hP.2.1.2.2.2.1
  have n3 := hP.2.1.2.2.2.2.2.2.1
  have n4 := hP.2.2.2.1.1
  exact ⟨⟨(me_uk (by decide)).trans a1, me_us⟩, ⟨(me_uj n1).trans b1, fun j => (me_uj n2).trans (b2 j), (me_uj (Ne.symm n3)).trans b3, (me_uj (Ne.symm n3)).trans b4⟩, ⟨(me_uj n4).trans c1, (me_uj n4).trans c2, (me_uj n4).trans c3, (me_uj n4).trans c4, (me_uj n4).trans c5⟩, d.1, fun i h5 h12 j => (me_uj (hP.2.2.2.2.1 i h5 h12).2.1).trans (d.2 i h5 h12 j)⟩
theorem yc_Sr {M : nt_M} {f : Nat → Int32} {t Rd Tp By RR Sp Yr Y m0 s0 p : Nat} {Rw : Nat → Nat} {C : lb_C} {fa : Int32} {u : Nat × Nat × Nat × Nat × Nat} {J : Nat → Nat → Int32} {i j : Nat} {x : Int32} (hP : yc_P M t Rd Tp By RR Sp Yr Y Rw) (hS : yc_S Rw C f t Rd Tp By RR Y m0 s0 p fa u J) (h5 : 5 ≤ i) (h12 : i ≤ 12) {j0 : Nat} (ej : j = j0) : yc_S Rw (nt_u C i j0 x) f t Rd Tp By RR Y m0 s0 p fa u (nt_u J (Rw i) j x) := by
  obtain ⟨⟨a1, a2⟩, ⟨b1, b2, b3, b4⟩, ⟨c1, c2, c3, c4, c5⟩, d⟩ := hS
  subst ej
  obtain ⟨_, r1, r2, r3, r4, r5, r6⟩ := hP.2.2.2.2.1 i h5 h12
  exact ⟨⟨(me_uj (Ne.symm r1)).trans a1, (me_uj (Ne.symm r1)).trans a2⟩, ⟨(me_uj (Ne.symm r2)).trans b1, fun j => (me_uj (Ne.symm r3)).trans (b2 j), (me_uj (Ne.symm r4)).trans b3, (me_uj (Ne.symm r4)).trans b4⟩, ⟨(me_uj (Ne.symm r5)).trans c1, (me_uj (Ne.symm r5)).trans c2, (me_uj (Ne.symm r5)).trans c3, (me_uj (Ne.symm r5)).trans c4, (me_uj (Ne.symm r5)).trans c5⟩, d.1, yc_Cr r6 d.2⟩
theorem yc_S0 {M : nt_M} {f : Nat → Int32} {t Rd Tp By RR Sp Yr Y m0 s0 p : Nat} {Rw : Nat → Nat} {C : lb_C} {fa : Int32} {u : Nat × Nat × Nat × Nat × Nat} {J : Nat → Nat → Int32} {y : Nat} (hP : yc_P M t Rd Tp By RR Sp Yr Y Rw) (hS : yc_S Rw C f t Rd Tp By RR Y m0 s0 p fa u J) : yc_S Rw C f t Rd Tp By RR Y m0 s0 p fa (y, u.2.1, u.2.2.1, u.2.2.2.1, u.2.2.2.2) (nt_u J Y 0 (nI y)) := by
  obtain ⟨⟨a1, a2⟩, ⟨b1, b2, b3, b4⟩, ⟨c1, c2, c3, c4, c5⟩, d⟩ := hS
  obtain ⟨n1, n2, n3, n4⟩ := hP.2.2.2.1
  exact ⟨⟨(me_uj (Ne.symm n1)).trans a1, (me_uj (Ne.symm n1)).trans a2⟩, ⟨(me_uj (Ne.symm n2)).trans b1, fun j => (me_uj (Ne.symm n3)).trans (b2 j), (me_uj (Ne.symm n4)).trans b3, (me_uj (Ne.symm n4)).trans b4⟩, ⟨me_us, (me_uk (by decide)).trans c2, (me_uk (by decide)).trans c3, (me_uk (by decide)).trans c4, (me_uk (by decide)).trans c5⟩, d.1, fun i h5 h12 j => (me_uj (hP.2.2.2.2.1 i h5 h12).2.2.2.2.2.1).trans (d.2 i h5 h12 j)⟩
theorem yc_S1 {M : nt_M} {f : Nat → Int32} {t Rd Tp By RR Sp Yr Y m0 s0 p : Nat} {Rw : Nat → Nat} {C : lb_C} {fa : Int32} {u : Nat × Nat × Nat × Nat × Nat} {J : Nat → Nat → Int32} {y : Nat} (hP : yc_P M t Rd Tp By RR Sp Yr Y Rw) (hS : yc_S Rw C f t Rd Tp By RR Y m0 s0 p fa u J) : yc_S Rw C f t Rd Tp By RR Y m0 s0 p fa (u.1, y, u.2.2.1, u.2.2.2.1, u.2.2.2.2) (nt_u J Y 1 (nI y)) := by
  obtain ⟨⟨a1, a2⟩, ⟨b1, b2, b3, b4⟩, ⟨c1, c2, c3, c4, c5⟩, d⟩ := hS
  obtain ⟨n1, n2, n3, n4⟩ := hP.2.2.2.1
  exact ⟨⟨(me_uj (Ne.symm n1)).trans a1, (me_uj (Ne.symm n1)).trans a2⟩, ⟨(me_uj (Ne.symm n2)).trans b1, fun j => (me_uj (Ne.symm n3)).trans (b2 j), (me_uj (Ne.symm n4)).trans b3, (me_uj (Ne.symm n4)).trans b4⟩, ⟨(me_uk (by decide)).trans c1, me_us, (me_uk (by decide)).trans c3, (me_uk (by decide)).trans c4, (me_uk (by decide)).trans c5⟩, d.1, fun i h5 h12 j => (me_uj (hP.2.2.2.2.1 i h5 h12).2.2.2.2.2.1).trans (d.2 i h5 h12 j)⟩
theorem yc_S2 {M : nt_M} {f : Nat → Int32} {t Rd Tp By RR Sp Yr Y m0 s0 p : Nat} {Rw : Nat → Nat} {C : lb_C} {fa : Int32} {u : Nat × Nat × Nat × Nat × Nat} {J : Nat → Nat → Int32} {y : Nat} (hP : yc_P M t Rd Tp By RR Sp Yr Y Rw) (hS : yc_S Rw C f t Rd Tp By RR Y m0 s0 p fa u J) : yc_S Rw C f t Rd Tp By RR Y m0 s0 p fa (u.1, u.2.1, y, u.2.2.2.1, u.2.2.2.2) (nt_u J Y 2 (nI y)) := by
  obtain ⟨⟨a1, a2⟩, ⟨b1, b2, b3, b4⟩, ⟨c1, c2, c3, c4, c5⟩, d⟩ := hS
  obtain ⟨n1, n2, n3, n4⟩ := hP.2.2.2.1
  exact ⟨⟨(me_uj (Ne.symm n1)).trans a1, (me_uj (Ne.symm n1)).trans a2⟩, ⟨(me_uj (Ne.symm n2)).trans b1, fun j => (me_uj (Ne.symm n3)).trans (b2 j), (me_uj (Ne.symm n4)).trans b3, (me_uj (Ne.symm n4)).trans b4⟩, ⟨(me_uk (by decide)).trans c1, (me_uk (by decide)).trans c2, me_us, (me_uk (by decide)).trans c4, (me_uk (by decide)).trans c5⟩, d.1, fun i h5 h12 j => (me_uj (hP.2.2.2.2.1 i h5 h12).2.2.2.2.2.1).trans (d.2 i h5 h12 j)⟩
theorem yc_S3 {M : nt_M} {f : Nat → Int32} {t Rd Tp By RR Sp Yr Y m0 s0 p : Nat} {Rw : Nat → Nat} {C : lb_C} {fa : Int32} {u : Nat × Nat × Nat × Nat × Nat} {J : Nat → Nat → Int32} {y : Nat} (hP : yc_P M t Rd Tp By RR Sp Yr Y Rw) (hS : yc_S Rw C f t Rd Tp By RR Y m0 s0 p fa u J) : yc_S Rw C f t Rd Tp By RR Y m0 s0 p fa (u.1, u.2.1, u.2.2.1, y, u.2.2.2.2) (nt_u J Y 3 (nI y)) := by
  obtain ⟨⟨a1, a2⟩, ⟨b1, b2, b3, b4⟩, ⟨c1, c2, c3, c4, c5⟩, d⟩ := hS
  obtain ⟨n1, n2, n3, n4⟩ := hP.2.2.2.1
  exact ⟨⟨(me_uj (Ne.symm n1)).trans a1, (me_uj (Ne.symm n1)).trans a2⟩, ⟨(me_uj (Ne.symm n2)).trans b1, fun j => (me_uj (Ne.symm n3)).trans (b2 j), (me_uj (Ne.symm n4)).trans b3, (me_uj (Ne.symm n4)).trans b4⟩, ⟨(me_uk (by decide)).trans c1, (me_uk (by decide)).trans c2, (me_uk (by decide)).trans c3, me_us, (me_uk (by decide)).trans c5⟩, d.1, fun i h5 h12 j => (me_uj (hP.2.2.2.2.1 i h5 h12).2.2.2.2.2.1).trans (d.2 i h5 h12 j)⟩
theorem yc_S4 {M : nt_M} {f : Nat → Int32} {t Rd Tp By RR Sp Yr Y m0 s0 p : Nat} {Rw : Nat → Nat} {C : lb_C} {fa : Int32} {u : Nat × Nat × Nat × Nat × Nat} {J : Nat → Nat → Int32} {y : Nat} (hP : yc_P M t Rd Tp By RR Sp Yr Y Rw) (hS : yc_S Rw C f t Rd Tp By RR Y m0 s0 p fa u J) : yc_S Rw C f t Rd Tp By RR Y m0 s0 p fa (u.1, u.2.1, u.2.2.1, u.2.2.2.1, y) (nt_u J Y 4 (nI y)) := by
  obtain ⟨⟨a1, a2⟩, ⟨b1, b2, b3, b4⟩, ⟨c1, c2, c3, c4, c5⟩, d⟩ := hS
  obtain ⟨n1, n2, n3, n4⟩ := hP.2.2.2.1
  exact ⟨⟨(me_uj (Ne.symm n1)).trans a1, (me_uj (Ne.symm n1)).trans a2⟩, ⟨(me_uj (Ne.symm n2)).trans b1, fun j => (me_uj (Ne.symm n3)).trans (b2 j), (me_uj (Ne.symm n4)).trans b3, (me_uj (Ne.symm n4)).trans b4⟩, ⟨(me_uk (by decide)).trans c1, (me_uk (by decide)).trans c2, (me_uk (by decide)).trans c3, (me_uk (by decide)).trans c4, me_us⟩, d.1, fun i h5 h12 j => (me_uj (hP.2.2.2.2.1 i h5 h12).2.2.2.2.2.1).trans (d.2 i h5 h12 j)⟩
def yc_N (Rw : Nat → Nat) (C : lb_C) (f : Nat → Int32) (t Rd Tp By RR Y m0 s0 : Nat) (u : Nat × Nat × Nat × Nat × Nat) (r : lb_N) (a : Int32) (J : Nat → Nat → Int32) : Prop := match r with
  | .inl c => c ≠ 0 ∧ a = Int32.ofInt 0 ∧ yc_S Rw C f t Rd Tp By RR Y m0 s0 t c u J
  | .inr q => a = q.2 ∧ q.1 ≤ t ∧ yc_S Rw C f t Rd Tp By RR Y m0 s0 q.1 0 u J
theorem yc_num {X : nt_X} {d t Rd Tp By RR Sp Yr Y m0 s0 : Nat} {Rw : Nat → Nat} {f : Nat → Int32} {M : nt_M} {o : Option Value × nt_M} {C : lb_C} {p : Nat} {u : Nat × Nat × Nat × Nat × Nat} {J : Nat → Nat → Int32} {lo hi : Int32} (hP : yc_P M t Rd Tp By RR Sp Yr Y Rw) (hS : yc_S Rw C f t Rd Tp By RR Y m0 s0 p 0 u J) (hp : p ≤ t) (hlo : 0 ≤ lo.toInt) (k : nt_ev X d 97 [.ref Yr, .int lo, .int hi] (me_w M J) o) : ∃ r a J', o = (some (.int a), me_w M J') ∧ lb_nu f t p lo hi r ∧ yc_N Rw C f t Rd Tp By RR Y m0 s0 u r a J' := by
  have k : nt_rn X d 97 (0, [(0, .ref Yr), (1, .int (lo)), (2, .int (hi))], [], me_w M J) o := k
  have t4 : t ≤ 400 := hP.2.2.2.2.2.1
  have hd := lb_d_le (f := f) (t := t) (t - p) p (by omega)
  have k := ly_revb 1 (c' := (1, [(0, .ref Yr), (1, .int (lo)), (2, .int (hi))], [.ref Yr], me_w M J)) rfl k
  have k := lz_get (a := Yr) (g := 900) (M := me_w M J) (v := .ref Rd) rfl (nt_gfR rfl hP.2.2.1.1) k
  obtain ⟨d1, o1, ed, kc, k⟩ := lz_c (g := 33) (q := 1) (vs := [.ref Rd]) (rest := []) rfl rfl (by decide) (Or.inr (Or.inl ⟨_, rfl, rfl⟩)) rfl k
  have e1 := lc_digits (yc_lP hP hS) (yc_lS hP hS) hp kc
  subst e1
  have k : nt_rn X _ 97 (7, [(0, .ref Yr), (1, .int (lo)), (2, .int (hi))], [.int (nI (lb_d f t p))], me_w M J) _ := k
  have k := ly_revb 3 (c' := (if (nI (lb_d f t p)) = 0 then 12 else 22, [(3, .int (nI (lb_d f t p))), (0, .ref Yr), (1, .int (lo)), (2, .int (hi))], [], me_w M J)) rfl k
  by_cases h9 : (lb_d f t p) = 0
  · rw [if_pos (show (nI (lb_d f t p)) = 0 from show nI (lb_d f t p) = nI 0 from congrArg nI h9)] at k
    have k := ly_revb 1 (c' := (13, [(3, .int (nI (lb_d f t p))), (0, .ref Yr), (1, .int (lo)), (2, .int (hi))], [.ref Yr], me_w M J)) rfl k
    have k := lz_get (a := Yr) (g := 900) (M := me_w M J) (v := .ref Rd) rfl (nt_gfR rfl hP.2.2.1.1) k
    have k := ly_revb 1 (c' := (17, [(3, .int (nI (lb_d f t p))), (0, .ref Yr), (1, .int (lo)), (2, .int (hi))], [.int (Int32.ofInt 0), .ref Rd], me_w M J)) rfl k
    obtain ⟨d1, o1, ed, kc, k⟩ := lz_c (g := 31) (q := 1) (vs := [.ref Rd, .int (Int32.ofInt 0)]) (rest := []) rfl rfl (by decide) (Or.inr (Or.inl ⟨_, rfl, rfl⟩)) rfl k
    obtain ⟨hf, e1⟩ := (lc_fail (yc_lP hP hS) (yc_lS hP hS) hp kc).resolve_right (fun c => c.1 rfl)
    subst e1
    have hS1 := yc_Sp (q := t) hP (yc_Sf (fb := lb_c p (Int32.ofInt 0)) hP hS)
    have k : nt_rn X _ 97 (20, [(3, .int (nI (lb_d f t p))), (0, .ref Yr), (1, .int (lo)), (2, .int (hi))], [], me_w M (nt_u (nt_u J Rd 2 (lb_c p (Int32.ofInt 0))) Rd 1 (nI t))) _ := k
    have k := ly_revb 1 (c' := (21, [(3, .int (nI (lb_d f t p))), (0, .ref Yr), (1, .int (lo)), (2, .int (hi))], [.int (Int32.ofInt 0)], me_w M (nt_u (nt_u J Rd 2 (lb_c p (Int32.ofInt 0))) Rd 1 (nI t)))) rfl k
    have k := lz_ri rfl (by decide) k
    exact ⟨.inl (lb_c p (Int32.ofInt 0)), _, _, k, Or.inl ⟨h9, rfl⟩, (lb_c_ne (by omega) (by decide) (by decide)), rfl, hS1⟩
  · rw [if_neg (show ¬ ((nI (lb_d f t p)) = 0) from nI_ne0 (Nat.pos_of_ne_zero h9) (by omega))] at k
    have k := ly_revb 3 (c' := (if (nI (lb_d f t p)) ≤ (Int32.ofInt 5) then 31 else 27, [(3, .int (nI (lb_d f t p))), (0, .ref Yr), (1, .int (lo)), (2, .int (hi))], [], me_w M J)) rfl k
    by_cases h24 : (lb_d f t p) ≤ 5
    · rw [if_pos (show (nI (lb_d f t p)) ≤ (Int32.ofInt 5) from show nI ((lb_d f t p)) ≤ nI 5 from nI_le h24 (by omega))] at k
      have k := ly_revb 1 (c' := (32, [(3, .int (nI (lb_d f t p))), (0, .ref Yr), (1, .int (lo)), (2, .int (hi))], [.ref Yr], me_w M J)) rfl k
      have k := lz_get (a := Yr) (g := 900) (M := me_w M J) (v := .ref Rd) rfl (nt_gfR rfl hP.2.2.1.1) k
      have k := ly_revb 1 (c' := (36, [(3, .int (nI (lb_d f t p))), (0, .ref Yr), (1, .int (lo)), (2, .int (hi))], [.int (nI (lb_d f t p)), .ref Rd], me_w M J)) rfl k
      obtain ⟨d1, o1, ed, kc, k⟩ := lz_c (g := 34) (q := 1) (vs := [.ref Rd, .int (nI (lb_d f t p))]) (rest := []) rfl rfl (by decide) (Or.inr (Or.inl ⟨_, rfl, rfl⟩)) rfl k
      have e1 := lc_valueOf (yc_lP hP hS) (yc_lS hP hS) hp hd kc
      subst e1
      have k : nt_rn X _ 97 (39, [(3, .int (nI (lb_d f t p))), (0, .ref Yr), (1, .int (lo)), (2, .int (hi))], [.int (lb_v f p (lb_d f t p))], me_w M J) _ := k
      have k := ly_revb 4 (c' := (if (lb_v f p (lb_d f t p)) < lo then 53 else 47, [(4, .int (lb_v f p (lb_d f t p))), (3, .int (nI (lb_d f t p))), (0, .ref Yr), (1, .int (lo)), (2, .int (hi))], [], me_w M J)) rfl k
      by_cases h44 : (lb_v f p (lb_d f t p)).toInt < lo.toInt
      · rw [if_pos (show (lb_v f p (lb_d f t p)) < lo from Int32.lt_iff_toInt_lt.mpr h44)] at k
        have k := ly_revb 1 (c' := (54, [(4, .int (lb_v f p (lb_d f t p))), (3, .int (nI (lb_d f t p))), (0, .ref Yr), (1, .int (lo)), (2, .int (hi))], [.ref Yr], me_w M J)) rfl k
        have k := lz_get (a := Yr) (g := 900) (M := me_w M J) (v := .ref Rd) rfl (nt_gfR rfl hP.2.2.1.1) k
        have k := ly_revb 1 (c' := (58, [(4, .int (lb_v f p (lb_d f t p))), (3, .int (nI (lb_d f t p))), (0, .ref Yr), (1, .int (lo)), (2, .int (hi))], [.int (Int32.ofInt 1), .ref Rd], me_w M J)) rfl k
        obtain ⟨d1, o1, ed, kc, k⟩ := lz_c (g := 31) (q := 1) (vs := [.ref Rd, .int (Int32.ofInt 1)]) (rest := []) rfl rfl (by decide) (Or.inr (Or.inl ⟨_, rfl, rfl⟩)) rfl k
        obtain ⟨hf, e1⟩ := (lc_fail (yc_lP hP hS) (yc_lS hP hS) hp kc).resolve_right (fun c => c.1 rfl)
        subst e1
        have hS1 := yc_Sp (q := t) hP (yc_Sf (fb := lb_c p (Int32.ofInt 1)) hP hS)
        have k : nt_rn X _ 97 (61, [(4, .int (lb_v f p (lb_d f t p))), (3, .int (nI (lb_d f t p))), (0, .ref Yr), (1, .int (lo)), (2, .int (hi))], [], me_w M (nt_u (nt_u J Rd 2 (lb_c p (Int32.ofInt 1))) Rd 1 (nI t))) _ := k
        have k := ly_revb 1 (c' := (62, [(4, .int (lb_v f p (lb_d f t p))), (3, .int (nI (lb_d f t p))), (0, .ref Yr), (1, .int (lo)), (2, .int (hi))], [.int (Int32.ofInt 0)], me_w M (nt_u (nt_u J Rd 2 (lb_c p (Int32.ofInt 1))) Rd 1 (nI t)))) rfl k
        have k := lz_ri rfl (by decide) k
        exact ⟨.inl (lb_c p (Int32.ofInt 1)), _, _, k, Or.inr (Or.inl ⟨by omega, Or.inr (fun c => absurd c.1 (by omega)), rfl⟩), (lb_c_ne (by omega) (by decide) (by decide)), rfl, hS1⟩
      · rw [if_neg (show ¬ ((lb_v f p (lb_d f t p)) < lo) from fun c => h44 (Int32.lt_iff_toInt_lt.mp c))] at k
        have k := ly_revb 3 (c' := (if (lb_v f p (lb_d f t p)) ≤ hi then 63 else 53, [(4, .int (lb_v f p (lb_d f t p))), (3, .int (nI (lb_d f t p))), (0, .ref Yr), (1, .int (lo)), (2, .int (hi))], [], me_w M J)) rfl k
        by_cases h50 : (lb_v f p (lb_d f t p)).toInt ≤ hi.toInt
        · rw [if_pos (show (lb_v f p (lb_d f t p)) ≤ hi from Int32.le_iff_toInt_le.mpr h50)] at k
          have k := ly_revb 1 (c' := (64, [(4, .int (lb_v f p (lb_d f t p))), (3, .int (nI (lb_d f t p))), (0, .ref Yr), (1, .int (lo)), (2, .int (hi))], [.ref Yr], me_w M J)) rfl k
          have k := lz_get (a := Yr) (g := 900) (M := me_w M J) (v := .ref Rd) rfl (nt_gfR rfl hP.2.2.1.1) k
          have k := ly_revb 1 (c' := (68, [(4, .int (lb_v f p (lb_d f t p))), (3, .int (nI (lb_d f t p))), (0, .ref Yr), (1, .int (lo)), (2, .int (hi))], [.int (nI (lb_d f t p)), .ref Rd], me_w M J)) rfl k
          obtain ⟨d1, o1, ed, kc, k⟩ := lz_c (g := 29) (q := 1) (vs := [.ref Rd, .int (nI (lb_d f t p))]) (rest := []) rfl rfl (by decide) (Or.inr (Or.inl ⟨_, rfl, rfl⟩)) rfl k
          have e1 := lc_skip (b := lb_d f t p) (yc_lP hP hS) (yc_lS hP hS) hp (by omega) kc
          rw [Nat.min_eq_left hd] at e1
          subst e1
          have hS1 := yc_Sp (q := lb_s f t (p + lb_d f t p)) hP hS
          have hp9 : lb_s f t (p + lb_d f t p) ≤ t := (lb_s_le (t - (p + lb_d f t p)) (p + lb_d f t p) (by omega)).2
          have k : nt_rn X _ 97 (71, [(4, .int (lb_v f p (lb_d f t p))), (3, .int (nI (lb_d f t p))), (0, .ref Yr), (1, .int (lo)), (2, .int (hi))], [], me_w M (nt_u J Rd 1 (nI (lb_s f t (p + lb_d f t p))))) _ := k
          have k := ly_revb 1 (c' := (73, [(4, .int (lb_v f p (lb_d f t p))), (3, .int (nI (lb_d f t p))), (0, .ref Yr), (1, .int (lo)), (2, .int (hi))], [.int (lb_v f p (lb_d f t p))], me_w M (nt_u J Rd 1 (nI (lb_s f t (p + lb_d f t p)))))) rfl k
          have k := lz_ri rfl (by decide) k
          exact ⟨.inr (lb_s f t (p + lb_d f t p), lb_v f p (lb_d f t p)), _, _, k, Or.inr (Or.inr ⟨by omega, by omega, ⟨by omega, h50⟩, rfl⟩), rfl, hp9, hS1⟩
        · rw [if_neg (show ¬ ((lb_v f p (lb_d f t p)) ≤ hi) from fun c => h50 (Int32.le_iff_toInt_le.mp c))] at k
          have k := ly_revb 1 (c' := (54, [(4, .int (lb_v f p (lb_d f t p))), (3, .int (nI (lb_d f t p))), (0, .ref Yr), (1, .int (lo)), (2, .int (hi))], [.ref Yr], me_w M J)) rfl k
          have k := lz_get (a := Yr) (g := 900) (M := me_w M J) (v := .ref Rd) rfl (nt_gfR rfl hP.2.2.1.1) k
          have k := ly_revb 1 (c' := (58, [(4, .int (lb_v f p (lb_d f t p))), (3, .int (nI (lb_d f t p))), (0, .ref Yr), (1, .int (lo)), (2, .int (hi))], [.int (Int32.ofInt 1), .ref Rd], me_w M J)) rfl k
          obtain ⟨d1, o1, ed, kc, k⟩ := lz_c (g := 31) (q := 1) (vs := [.ref Rd, .int (Int32.ofInt 1)]) (rest := []) rfl rfl (by decide) (Or.inr (Or.inl ⟨_, rfl, rfl⟩)) rfl k
          obtain ⟨hf, e1⟩ := (lc_fail (yc_lP hP hS) (yc_lS hP hS) hp kc).resolve_right (fun c => c.1 rfl)
          subst e1
          have hS1 := yc_Sp (q := t) hP (yc_Sf (fb := lb_c p (Int32.ofInt 1)) hP hS)
          have k : nt_rn X _ 97 (61, [(4, .int (lb_v f p (lb_d f t p))), (3, .int (nI (lb_d f t p))), (0, .ref Yr), (1, .int (lo)), (2, .int (hi))], [], me_w M (nt_u (nt_u J Rd 2 (lb_c p (Int32.ofInt 1))) Rd 1 (nI t))) _ := k
          have k := ly_revb 1 (c' := (62, [(4, .int (lb_v f p (lb_d f t p))), (3, .int (nI (lb_d f t p))), (0, .ref Yr), (1, .int (lo)), (2, .int (hi))], [.int (Int32.ofInt 0)], me_w M (nt_u (nt_u J Rd 2 (lb_c p (Int32.ofInt 1))) Rd 1 (nI t)))) rfl k
          have k := lz_ri rfl (by decide) k
          exact ⟨.inl (lb_c p (Int32.ofInt 1)), _, _, k, Or.inr (Or.inl ⟨by omega, Or.inr (fun c => h50 c.2), rfl⟩), (lb_c_ne (by omega) (by decide) (by decide)), rfl, hS1⟩
    · rw [if_neg (show ¬ ((nI (lb_d f t p)) ≤ (Int32.ofInt 5)) from show ¬ nI ((lb_d f t p)) ≤ nI 5 from nI_ge (Nat.not_le.mp h24) (by omega))] at k
      have k := ly_revb 6 (c' := (if (Int32.ofInt (-1)) < lo then 53 else 47, [(4, .int (Int32.ofInt (-1))), (3, .int (nI (lb_d f t p))), (0, .ref Yr), (1, .int (lo)), (2, .int (hi))], [], me_w M J)) rfl k
      rw [if_pos (show (Int32.ofInt (-1)) < lo from Int32.lt_iff_toInt_lt.mpr (by rw [show (Int32.ofInt (-1)).toInt = -1 from by decide]; omega))] at k
      have k := ly_revb 1 (c' := (54, [(4, .int (Int32.ofInt (-1))), (3, .int (nI (lb_d f t p))), (0, .ref Yr), (1, .int (lo)), (2, .int (hi))], [.ref Yr], me_w M J)) rfl k
      have k := lz_get (a := Yr) (g := 900) (M := me_w M J) (v := .ref Rd) rfl (nt_gfR rfl hP.2.2.1.1) k
      have k := ly_revb 1 (c' := (58, [(4, .int (Int32.ofInt (-1))), (3, .int (nI (lb_d f t p))), (0, .ref Yr), (1, .int (lo)), (2, .int (hi))], [.int (Int32.ofInt 1), .ref Rd], me_w M J)) rfl k
      obtain ⟨d1, o1, ed, kc, k⟩ := lz_c (g := 31) (q := 1) (vs := [.ref Rd, .int (Int32.ofInt 1)]) (rest := []) rfl rfl (by decide) (Or.inr (Or.inl ⟨_, rfl, rfl⟩)) rfl k
      obtain ⟨hf, e1⟩ := (lc_fail (yc_lP hP hS) (yc_lS hP hS) hp kc).resolve_right (fun c => c.1 rfl)
      subst e1
      have hS1 := yc_Sp (q := t) hP (yc_Sf (fb := lb_c p (Int32.ofInt 1)) hP hS)
      have k : nt_rn X _ 97 (61, [(4, .int (Int32.ofInt (-1))), (3, .int (nI (lb_d f t p))), (0, .ref Yr), (1, .int (lo)), (2, .int (hi))], [], me_w M (nt_u (nt_u J Rd 2 (lb_c p (Int32.ofInt 1))) Rd 1 (nI t))) _ := k
      have k := ly_revb 1 (c' := (62, [(4, .int (Int32.ofInt (-1))), (3, .int (nI (lb_d f t p))), (0, .ref Yr), (1, .int (lo)), (2, .int (hi))], [.int (Int32.ofInt 0)], me_w M (nt_u (nt_u J Rd 2 (lb_c p (Int32.ofInt 1))) Rd 1 (nI t)))) rfl k
      have k := lz_ri rfl (by decide) k
      exact ⟨.inl (lb_c p (Int32.ofInt 1)), _, _, k, Or.inr (Or.inl ⟨by omega, Or.inl (by omega), rfl⟩), (lb_c_ne (by omega) (by decide) (by decide)), rfl, hS1⟩
theorem yc_numF {X : nt_X} {d t Rd Tp By RR Sp Yr Y m0 s0 : Nat} {Rw : Nat → Nat} {f : Nat → Int32} {M : nt_M} {o : Option Value × nt_M} {C : lb_C} {fa : Int32} {u : Nat × Nat × Nat × Nat × Nat} {J : Nat → Nat → Int32} {lo hi : Int32} (hP : yc_P M t Rd Tp By RR Sp Yr Y Rw) (hS : yc_S Rw C f t Rd Tp By RR Y m0 s0 t fa u J) (hfa : ¬ fa = 0) (k : nt_ev X d 97 [.ref Yr, .int lo, .int hi] (me_w M J) o) : ∃ J', o = (some (.int (Int32.ofInt 0)), me_w M J') ∧ yc_S Rw C f t Rd Tp By RR Y m0 s0 t fa u (J') := by
  have k : nt_rn X d 97 (0, [(0, .ref Yr), (1, .int (lo)), (2, .int (hi))], [], me_w M J) o := k
  have t4 : t ≤ 400 := hP.2.2.2.2.2.1
  have hd0 : lb_d f t t = 0 := lb_d0 (by omega)
  have k := ly_revb 1 (c' := (1, [(0, .ref Yr), (1, .int (lo)), (2, .int (hi))], [.ref Yr], me_w M J)) rfl k
  have k := lz_get (a := Yr) (g := 900) (M := me_w M J) (v := .ref Rd) rfl (nt_gfR rfl hP.2.2.1.1) k
  obtain ⟨d1, o1, ed, kc, k⟩ := lz_c (g := 33) (q := 1) (vs := [.ref Rd]) (rest := []) rfl rfl (by decide) (Or.inr (Or.inl ⟨_, rfl, rfl⟩)) rfl k
  have e1 := lc_digits (yc_lP hP hS) (yc_lS hP hS) (Nat.le_refl t) kc
  subst e1
  have k : nt_rn X _ 97 (7, [(0, .ref Yr), (1, .int (lo)), (2, .int (hi))], [.int (nI (lb_d f t t))], me_w M J) _ := k
  have k := ly_revb 3 (c' := (if (nI (lb_d f t t)) = 0 then 12 else 22, [(3, .int (nI (lb_d f t t))), (0, .ref Yr), (1, .int (lo)), (2, .int (hi))], [], me_w M J)) rfl k
  rw [if_pos (show (nI (lb_d f t t)) = 0 from show nI (lb_d f t t) = nI 0 from congrArg nI hd0)] at k
  have k := ly_revb 1 (c' := (13, [(3, .int (nI (lb_d f t t))), (0, .ref Yr), (1, .int (lo)), (2, .int (hi))], [.ref Yr], me_w M J)) rfl k
  have k := lz_get (a := Yr) (g := 900) (M := me_w M J) (v := .ref Rd) rfl (nt_gfR rfl hP.2.2.1.1) k
  have k := ly_revb 1 (c' := (17, [(3, .int (nI (lb_d f t t))), (0, .ref Yr), (1, .int (lo)), (2, .int (hi))], [.int (Int32.ofInt 0), .ref Rd], me_w M J)) rfl k
  obtain ⟨d1, o1, ed, kc, k⟩ := lz_c (g := 31) (q := 1) (vs := [.ref Rd, .int (Int32.ofInt 0)]) (rest := []) rfl rfl (by decide) (Or.inr (Or.inl ⟨_, rfl, rfl⟩)) rfl k
  obtain ⟨hf, e1⟩ := (lc_fail (yc_lP hP hS) (yc_lS hP hS) (Nat.le_refl t) kc).resolve_left (fun c => hfa c.1)
  subst e1
  have hS1 := yc_Sp (q := t) hP hS
  have k : nt_rn X _ 97 (20, [(3, .int (nI (lb_d f t t))), (0, .ref Yr), (1, .int (lo)), (2, .int (hi))], [], me_w M (nt_u J Rd 1 (nI t))) _ := k
  have k := ly_revb 1 (c' := (21, [(3, .int (nI (lb_d f t t))), (0, .ref Yr), (1, .int (lo)), (2, .int (hi))], [.int (Int32.ofInt 0)], me_w M (nt_u J Rd 1 (nI t)))) rfl k
  have k := lz_ri rfl (by decide) k
  exact ⟨_, k, hS1⟩
theorem yc_plank {X : nt_X} {d t Rd Tp By RR Sp Yr Y m0 s0 : Nat} {Rw : Nat → Nat} {f : Nat → Int32} {M : nt_M} {o : Option Value × nt_M} {C : lb_C} {p : Nat} {u : Nat × Nat × Nat × Nat × Nat} {J : Nat → Nat → Int32} (hP : yc_P M t Rd Tp By RR Sp Yr Y Rw) (hS : yc_S Rw C f t Rd Tp By RR Y m0 s0 p 0 u J) (hub : u.2.2.1 < 1000) (hp : p ≤ t) (k : nt_ev X d 99 [.ref Yr] (me_w M J) o) : ∃ r J', o = (none, me_w M J') ∧ lb_pl f t u.1 u.2.1 p r ∧ ((∃ c, r = .inl c ∧ c ≠ 0 ∧ ∃ u' D, yc_S Rw D f t Rd Tp By RR Y m0 s0 t c (u') (J')) ∨ ∃ q D, r = .inr q ∧ q ≤ t ∧ lb_plC f t u.1 u.2.1 p u.2.2.1 q C D ∧ yc_S Rw D f t Rd Tp By RR Y m0 s0 q 0 (u.1, u.2.1, u.2.2.1 + 1, u.2.2.2.1, u.2.2.2.2) (J')) := by
  have k : nt_rn X d 99 (0, [(0, .ref Yr)], [], me_w M J) o := k
  have t4 : t ≤ 400 := hP.2.2.2.2.2.1
  have k := ly_revb 1 (c' := (1, [(0, .ref Yr)], [.ref Yr], me_w M J)) rfl k
  have k := lz_get (a := Yr) (g := 901) (M := me_w M J) (v := .ref Y) rfl (nt_gfR rfl hP.2.2.1.2) k
  have k := lz_get (a := Y) (g := 806) (M := me_w M J) (v := .ref (Rw 6)) rfl (nt_gfR rfl (hP.2.2.2.2.1 6 (by decide) (by decide)).1) k
  have k := ly_revb 1 (c' := (8, [(0, .ref Yr)], [.ref Yr, .ref (Rw 6)], me_w M J)) rfl k
  have k := lz_get (a := Yr) (g := 901) (M := me_w M J) (v := .ref Y) rfl (nt_gfR rfl hP.2.2.1.2) k
  have k := lz_get (a := Y) (g := 802) (M := me_w M J) (v := .int (nI u.2.2.1)) rfl (congrArg Value.int (hS.2.2.1.2.2.1)) k
  have k := ly_revb 3 (c' := (17, [(0, .ref Yr)], [.ref Yr, .int (Int32.ofInt 0), .ref Yr, .int (nI u.2.2.1), .ref (Rw 6)], me_w M J)) rfl k
  have k := lz_get (a := Yr) (g := 901) (M := me_w M J) (v := .ref Y) rfl (nt_gfR rfl hP.2.2.1.2) k
  have k := lz_get (a := Y) (g := 800) (M := me_w M J) (v := .int (nI u.1)) rfl (congrArg Value.int (hS.2.2.1.1)) k
  have k := ly_revb 2 (c' := (25, [(0, .ref Yr)], [.int ((nI u.1) - (Int32.ofInt 1)), .int (Int32.ofInt 0), .ref Yr, .int (nI u.2.2.1), .ref (Rw 6)], me_w M J)) rfl k
  obtain ⟨d1, o1, ed, kc, k⟩ := lz_c (g := 97) (q := 1) (vs := [.ref Yr, .int (Int32.ofInt 0), .int ((nI u.1) - (Int32.ofInt 1))]) (rest := [.int (nI u.2.2.1), .ref (Rw 6)]) rfl rfl (by decide) (Or.inr (Or.inl ⟨_, rfl, rfl⟩)) rfl k
  obtain ⟨r1, a1, J1, e1, hv1, hN1⟩ := yc_num hP hS hp (by decide) kc
  subst e1
  rcases r1 with c | ⟨q1, x1⟩
  · obtain ⟨hc, rfl, hT1⟩ := hN1
    have k : nt_rn X _ 99 (28, [(0, .ref Yr)], [.int (Int32.ofInt 0), .int (nI u.2.2.1), .ref (Rw 6)], me_w M J1) _ := k
    have k := me_iastx rfl k
    have hS1 := yc_Sr (i := 6) (j := (nI u.2.2.1).toNatClampNeg) (x := Int32.ofInt 0) hP hT1 (by decide) (by decide) (lb_ix1 hub)
    have k : nt_rn X _ 99 (29, [(0, .ref Yr)], [], me_w M (nt_u J1 (Rw 6) (nI u.2.2.1).toNatClampNeg (Int32.ofInt 0))) _ := k
    have k := ly_revb 1 (c' := (30, [(0, .ref Yr)], [.ref Yr], me_w M (nt_u J1 (Rw 6) (nI u.2.2.1).toNatClampNeg (Int32.ofInt 0)))) rfl k
    have k := lz_get (a := Yr) (g := 901) (M := me_w M (nt_u J1 (Rw 6) (nI u.2.2.1).toNatClampNeg (Int32.ofInt 0))) (v := .ref Y) rfl (nt_gfR rfl hP.2.2.1.2) k
    have k := lz_get (a := Y) (g := 807) (M := me_w M (nt_u J1 (Rw 6) (nI u.2.2.1).toNatClampNeg (Int32.ofInt 0))) (v := .ref (Rw 7)) rfl (nt_gfR rfl (hP.2.2.2.2.1 7 (by decide) (by decide)).1) k
    have k := ly_revb 1 (c' := (37, [(0, .ref Yr)], [.ref Yr, .ref (Rw 7)], me_w M (nt_u J1 (Rw 6) (nI u.2.2.1).toNatClampNeg (Int32.ofInt 0)))) rfl k
    have k := lz_get (a := Yr) (g := 901) (M := me_w M (nt_u J1 (Rw 6) (nI u.2.2.1).toNatClampNeg (Int32.ofInt 0))) (v := .ref Y) rfl (nt_gfR rfl hP.2.2.1.2) k
    have k := lz_get (a := Y) (g := 802) (M := me_w M (nt_u J1 (Rw 6) (nI u.2.2.1).toNatClampNeg (Int32.ofInt 0))) (v := .int (nI u.2.2.1)) rfl (congrArg Value.int (hS1.2.2.1.2.2.1)) k
    have k := ly_revb 3 (c' := (47, [(0, .ref Yr)], [.int (Int32.ofInt 99), .int (Int32.ofInt 1), .ref Yr, .int (nI u.2.2.1), .ref (Rw 7)], me_w M (nt_u J1 (Rw 6) (nI u.2.2.1).toNatClampNeg (Int32.ofInt 0)))) rfl k
    obtain ⟨d1, o1, ed, kc, k⟩ := lz_c (g := 97) (q := 1) (vs := [.ref Yr, .int (Int32.ofInt 1), .int (Int32.ofInt 99)]) (rest := [.int (nI u.2.2.1), .ref (Rw 7)]) rfl rfl (by decide) (Or.inr (Or.inl ⟨_, rfl, rfl⟩)) rfl k
    obtain ⟨J2, e1, hT2⟩ := yc_numF hP hS1 hc kc
    subst e1
    have k : nt_rn X _ 99 (50, [(0, .ref Yr)], [.int (Int32.ofInt 0), .int (nI u.2.2.1), .ref (Rw 7)], me_w M J2) _ := k
    have k := me_iastx rfl k
    have hS2 := yc_Sr (i := 7) (j := (nI u.2.2.1).toNatClampNeg) (x := Int32.ofInt 0) hP hT2 (by decide) (by decide) (lb_ix1 hub)
    have k : nt_rn X _ 99 (51, [(0, .ref Yr)], [], me_w M (nt_u J2 (Rw 7) (nI u.2.2.1).toNatClampNeg (Int32.ofInt 0))) _ := k
    have k := ly_revb 1 (c' := (52, [(0, .ref Yr)], [.ref Yr], me_w M (nt_u J2 (Rw 7) (nI u.2.2.1).toNatClampNeg (Int32.ofInt 0)))) rfl k
    have k := lz_get (a := Yr) (g := 901) (M := me_w M (nt_u J2 (Rw 7) (nI u.2.2.1).toNatClampNeg (Int32.ofInt 0))) (v := .ref Y) rfl (nt_gfR rfl hP.2.2.1.2) k
    have k := lz_get (a := Y) (g := 808) (M := me_w M (nt_u J2 (Rw 7) (nI u.2.2.1).toNatClampNeg (Int32.ofInt 0))) (v := .ref (Rw 8)) rfl (nt_gfR rfl (hP.2.2.2.2.1 8 (by decide) (by decide)).1) k
    have k := ly_revb 1 (c' := (59, [(0, .ref Yr)], [.ref Yr, .ref (Rw 8)], me_w M (nt_u J2 (Rw 7) (nI u.2.2.1).toNatClampNeg (Int32.ofInt 0)))) rfl k
    have k := lz_get (a := Yr) (g := 901) (M := me_w M (nt_u J2 (Rw 7) (nI u.2.2.1).toNatClampNeg (Int32.ofInt 0))) (v := .ref Y) rfl (nt_gfR rfl hP.2.2.1.2) k
    have k := lz_get (a := Y) (g := 802) (M := me_w M (nt_u J2 (Rw 7) (nI u.2.2.1).toNatClampNeg (Int32.ofInt 0))) (v := .int (nI u.2.2.1)) rfl (congrArg Value.int (hS2.2.2.1.2.2.1)) k
    have k := ly_revb 3 (c' := (68, [(0, .ref Yr)], [.ref Yr, .int (Int32.ofInt 0), .ref Yr, .int (nI u.2.2.1), .ref (Rw 8)], me_w M (nt_u J2 (Rw 7) (nI u.2.2.1).toNatClampNeg (Int32.ofInt 0)))) rfl k
    have k := lz_get (a := Yr) (g := 901) (M := me_w M (nt_u J2 (Rw 7) (nI u.2.2.1).toNatClampNeg (Int32.ofInt 0))) (v := .ref Y) rfl (nt_gfR rfl hP.2.2.1.2) k
    have k := lz_get (a := Y) (g := 801) (M := me_w M (nt_u J2 (Rw 7) (nI u.2.2.1).toNatClampNeg (Int32.ofInt 0))) (v := .int (nI u.2.1)) rfl (congrArg Value.int (hS2.2.2.1.2.1)) k
    have k := ly_revb 2 (c' := (76, [(0, .ref Yr)], [.int ((nI u.2.1) - (Int32.ofInt 1)), .int (Int32.ofInt 0), .ref Yr, .int (nI u.2.2.1), .ref (Rw 8)], me_w M (nt_u J2 (Rw 7) (nI u.2.2.1).toNatClampNeg (Int32.ofInt 0)))) rfl k
    obtain ⟨d1, o1, ed, kc, k⟩ := lz_c (g := 97) (q := 1) (vs := [.ref Yr, .int (Int32.ofInt 0), .int ((nI u.2.1) - (Int32.ofInt 1))]) (rest := [.int (nI u.2.2.1), .ref (Rw 8)]) rfl rfl (by decide) (Or.inr (Or.inl ⟨_, rfl, rfl⟩)) rfl k
    obtain ⟨J3, e1, hT3⟩ := yc_numF hP hS2 hc kc
    subst e1
    have k : nt_rn X _ 99 (79, [(0, .ref Yr)], [.int (Int32.ofInt 0), .int (nI u.2.2.1), .ref (Rw 8)], me_w M J3) _ := k
    have k := me_iastx rfl k
    have hS3 := yc_Sr (i := 8) (j := (nI u.2.2.1).toNatClampNeg) (x := Int32.ofInt 0) hP hT3 (by decide) (by decide) (lb_ix1 hub)
    have k : nt_rn X _ 99 (80, [(0, .ref Yr)], [], me_w M (nt_u J3 (Rw 8) (nI u.2.2.1).toNatClampNeg (Int32.ofInt 0))) _ := k
    have k := ly_revb 1 (c' := (81, [(0, .ref Yr)], [.ref Yr], me_w M (nt_u J3 (Rw 8) (nI u.2.2.1).toNatClampNeg (Int32.ofInt 0)))) rfl k
    have k := lz_get (a := Yr) (g := 901) (M := me_w M (nt_u J3 (Rw 8) (nI u.2.2.1).toNatClampNeg (Int32.ofInt 0))) (v := .ref Y) rfl (nt_gfR rfl hP.2.2.1.2) k
    have k := ly_revb 1 (c' := (85, [(0, .ref Yr)], [.ref Y, .ref Y], me_w M (nt_u J3 (Rw 8) (nI u.2.2.1).toNatClampNeg (Int32.ofInt 0)))) rfl k
    have k := lz_get (a := Y) (g := 802) (M := me_w M (nt_u J3 (Rw 8) (nI u.2.2.1).toNatClampNeg (Int32.ofInt 0))) (v := .int (nI u.2.2.1)) rfl (congrArg Value.int (hS3.2.2.1.2.2.1)) k
    have k := ly_revb 2 (c' := (90, [(0, .ref Yr)], [.int ((nI u.2.2.1) + (Int32.ofInt 1)), .ref Y], me_w M (nt_u J3 (Rw 8) (nI u.2.2.1).toNatClampNeg (Int32.ofInt 0)))) rfl k
    rw [show ((nI u.2.2.1) + (Int32.ofInt 1) : Int32) = nI (u.2.2.1 + 1) from me_add (k := 1)] at k
    have k := me_put rfl (by decide) k
    have k : nt_rn X _ 99 (93, [(0, .ref Yr)], [], me_w M (nt_u (nt_u J3 (Rw 8) (nI u.2.2.1).toNatClampNeg (Int32.ofInt 0)) Y 2 (nI (u.2.2.1 + 1)))) _ := k
    have hS4 := yc_S2 (y := u.2.2.1 + 1) hP hS3
    have k := lz_rv rfl rfl k
    exact ⟨.inl c, _, k, ⟨_, hv1, Or.inl ⟨c, rfl, rfl⟩⟩, Or.inl ⟨c, rfl, hc, _, _, hS4⟩⟩
  · obtain ⟨ea, hq1, hT1⟩ := hN1
    dsimp only at ea hq1 hT1
    subst ea
    have hu1 := lb_nu_up hp hv1
    have k : nt_rn X _ 99 (28, [(0, .ref Yr)], [.int (a1), .int (nI u.2.2.1), .ref (Rw 6)], me_w M J1) _ := k
    have k := me_iastx rfl k
    have hS1 := yc_Sr (i := 6) (j := (nI u.2.2.1).toNatClampNeg) (x := a1) hP hT1 (by decide) (by decide) (lb_ix1 hub)
    have k : nt_rn X _ 99 (29, [(0, .ref Yr)], [], me_w M (nt_u J1 (Rw 6) (nI u.2.2.1).toNatClampNeg (a1))) _ := k
    have k := ly_revb 1 (c' := (30, [(0, .ref Yr)], [.ref Yr], me_w M (nt_u J1 (Rw 6) (nI u.2.2.1).toNatClampNeg (a1)))) rfl k
    have k := lz_get (a := Yr) (g := 901) (M := me_w M (nt_u J1 (Rw 6) (nI u.2.2.1).toNatClampNeg (a1))) (v := .ref Y) rfl (nt_gfR rfl hP.2.2.1.2) k
    have k := lz_get (a := Y) (g := 807) (M := me_w M (nt_u J1 (Rw 6) (nI u.2.2.1).toNatClampNeg (a1))) (v := .ref (Rw 7)) rfl (nt_gfR rfl (hP.2.2.2.2.1 7 (by decide) (by decide)).1) k
    have k := ly_revb 1 (c' := (37, [(0, .ref Yr)], [.ref Yr, .ref (Rw 7)], me_w M (nt_u J1 (Rw 6) (nI u.2.2.1).toNatClampNeg (a1)))) rfl k
    have k := lz_get (a := Yr) (g := 901) (M := me_w M (nt_u J1 (Rw 6) (nI u.2.2.1).toNatClampNeg (a1))) (v := .ref Y) rfl (nt_gfR rfl hP.2.2.1.2) k
    have k := lz_get (a := Y) (g := 802) (M := me_w M (nt_u J1 (Rw 6) (nI u.2.2.1).toNatClampNeg (a1))) (v := .int (nI u.2.2.1)) rfl (congrArg Value.int (hS1.2.2.1.2.2.1)) k
    have k := ly_revb 3 (c' := (47, [(0, .ref Yr)], [.int (Int32.ofInt 99), .int (Int32.ofInt 1), .ref Yr, .int (nI u.2.2.1), .ref (Rw 7)], me_w M (nt_u J1 (Rw 6) (nI u.2.2.1).toNatClampNeg (a1)))) rfl k
    obtain ⟨d1, o1, ed, kc, k⟩ := lz_c (g := 97) (q := 1) (vs := [.ref Yr, .int (Int32.ofInt 1), .int (Int32.ofInt 99)]) (rest := [.int (nI u.2.2.1), .ref (Rw 7)]) rfl rfl (by decide) (Or.inr (Or.inl ⟨_, rfl, rfl⟩)) rfl k
    obtain ⟨r2, a2, J2, e1, hv2, hN2⟩ := yc_num hP hS1 hq1 (by decide) kc
    subst e1
    rcases r2 with c | ⟨q2, x2⟩
    · obtain ⟨hc, rfl, hT2⟩ := hN2
      have k : nt_rn X _ 99 (50, [(0, .ref Yr)], [.int (Int32.ofInt 0), .int (nI u.2.2.1), .ref (Rw 7)], me_w M J2) _ := k
      have k := me_iastx rfl k
      have hS2 := yc_Sr (i := 7) (j := (nI u.2.2.1).toNatClampNeg) (x := Int32.ofInt 0) hP hT2 (by decide) (by decide) (lb_ix1 hub)
      have k : nt_rn X _ 99 (51, [(0, .ref Yr)], [], me_w M (nt_u J2 (Rw 7) (nI u.2.2.1).toNatClampNeg (Int32.ofInt 0))) _ := k
      have k := ly_revb 1 (c' := (52, [(0, .ref Yr)], [.ref Yr], me_w M (nt_u J2 (Rw 7) (nI u.2.2.1).toNatClampNeg (Int32.ofInt 0)))) rfl k
      have k := lz_get (a := Yr) (g := 901) (M := me_w M (nt_u J2 (Rw 7) (nI u.2.2.1).toNatClampNeg (Int32.ofInt 0))) (v := .ref Y) rfl (nt_gfR rfl hP.2.2.1.2) k
      have k := lz_get (a := Y) (g := 808) (M := me_w M (nt_u J2 (Rw 7) (nI u.2.2.1).toNatClampNeg (Int32.ofInt 0))) (v := .ref (Rw 8)) rfl (nt_gfR rfl (hP.2.2.2.2.1 8 (by decide) (by decide)).1) k
      have k := ly_revb 1 (c' := (59, [(0, .ref Yr)], [.ref Yr, .ref (Rw 8)], me_w M (nt_u J2 (Rw 7) (nI u.2.2.1).toNatClampNeg (Int32.ofInt 0)))) rfl k
      have k := lz_get (a := Yr) (g := 901) (M := me_w M (nt_u J2 (Rw 7) (nI u.2.2.1).toNatClampNeg (Int32.ofInt 0))) (v := .ref Y) rfl (nt_gfR rfl hP.2.2.1.2) k
      have k := lz_get (a := Y) (g := 802) (M := me_w M (nt_u J2 (Rw 7) (nI u.2.2.1).toNatClampNeg (Int32.ofInt 0))) (v := .int (nI u.2.2.1)) rfl (congrArg Value.int (hS2.2.2.1.2.2.1)) k
      have k := ly_revb 3 (c' := (68, [(0, .ref Yr)], [.ref Yr, .int (Int32.ofInt 0), .ref Yr, .int (nI u.2.2.1), .ref (Rw 8)], me_w M (nt_u J2 (Rw 7) (nI u.2.2.1).toNatClampNeg (Int32.ofInt 0)))) rfl k
      have k := lz_get (a := Yr) (g := 901) (M := me_w M (nt_u J2 (Rw 7) (nI u.2.2.1).toNatClampNeg (Int32.ofInt 0))) (v := .ref Y) rfl (nt_gfR rfl hP.2.2.1.2) k
      have k := lz_get (a := Y) (g := 801) (M := me_w M (nt_u J2 (Rw 7) (nI u.2.2.1).toNatClampNeg (Int32.ofInt 0))) (v := .int (nI u.2.1)) rfl (congrArg Value.int (hS2.2.2.1.2.1)) k
      have k := ly_revb 2 (c' := (76, [(0, .ref Yr)], [.int ((nI u.2.1) - (Int32.ofInt 1)), .int (Int32.ofInt 0), .ref Yr, .int (nI u.2.2.1), .ref (Rw 8)], me_w M (nt_u J2 (Rw 7) (nI u.2.2.1).toNatClampNeg (Int32.ofInt 0)))) rfl k
      obtain ⟨d1, o1, ed, kc, k⟩ := lz_c (g := 97) (q := 1) (vs := [.ref Yr, .int (Int32.ofInt 0), .int ((nI u.2.1) - (Int32.ofInt 1))]) (rest := [.int (nI u.2.2.1), .ref (Rw 8)]) rfl rfl (by decide) (Or.inr (Or.inl ⟨_, rfl, rfl⟩)) rfl k
      obtain ⟨J3, e1, hT3⟩ := yc_numF hP hS2 hc kc
      subst e1
      have k : nt_rn X _ 99 (79, [(0, .ref Yr)], [.int (Int32.ofInt 0), .int (nI u.2.2.1), .ref (Rw 8)], me_w M J3) _ := k
      have k := me_iastx rfl k
      have hS3 := yc_Sr (i := 8) (j := (nI u.2.2.1).toNatClampNeg) (x := Int32.ofInt 0) hP hT3 (by decide) (by decide) (lb_ix1 hub)
      have k : nt_rn X _ 99 (80, [(0, .ref Yr)], [], me_w M (nt_u J3 (Rw 8) (nI u.2.2.1).toNatClampNeg (Int32.ofInt 0))) _ := k
      have k := ly_revb 1 (c' := (81, [(0, .ref Yr)], [.ref Yr], me_w M (nt_u J3 (Rw 8) (nI u.2.2.1).toNatClampNeg (Int32.ofInt 0)))) rfl k
      have k := lz_get (a := Yr) (g := 901) (M := me_w M (nt_u J3 (Rw 8) (nI u.2.2.1).toNatClampNeg (Int32.ofInt 0))) (v := .ref Y) rfl (nt_gfR rfl hP.2.2.1.2) k
      have k := ly_revb 1 (c' := (85, [(0, .ref Yr)], [.ref Y, .ref Y], me_w M (nt_u J3 (Rw 8) (nI u.2.2.1).toNatClampNeg (Int32.ofInt 0)))) rfl k
      have k := lz_get (a := Y) (g := 802) (M := me_w M (nt_u J3 (Rw 8) (nI u.2.2.1).toNatClampNeg (Int32.ofInt 0))) (v := .int (nI u.2.2.1)) rfl (congrArg Value.int (hS3.2.2.1.2.2.1)) k
      have k := ly_revb 2 (c' := (90, [(0, .ref Yr)], [.int ((nI u.2.2.1) + (Int32.ofInt 1)), .ref Y], me_w M (nt_u J3 (Rw 8) (nI u.2.2.1).toNatClampNeg (Int32.ofInt 0)))) rfl k
      rw [show ((nI u.2.2.1) + (Int32.ofInt 1) : Int32) = nI (u.2.2.1 + 1) from me_add (k := 1)] at k
      have k := me_put rfl (by decide) k
      have k : nt_rn X _ 99 (93, [(0, .ref Yr)], [], me_w M (nt_u (nt_u J3 (Rw 8) (nI u.2.2.1).toNatClampNeg (Int32.ofInt 0)) Y 2 (nI (u.2.2.1 + 1)))) _ := k
      have hS4 := yc_S2 (y := u.2.2.1 + 1) hP hS3
      have k := lz_rv rfl rfl k
      exact ⟨.inl c, _, k, ⟨_, hv1, Or.inr ⟨_, _, rfl, ⟨_, hv2, Or.inl ⟨c, rfl, rfl⟩⟩⟩⟩, Or.inl ⟨c, rfl, hc, _, _, hS4⟩⟩
    · obtain ⟨ea, hq2, hT2⟩ := hN2
      dsimp only at ea hq2 hT2
      subst ea
      have hu2 := lb_nu_up hq1 hv2
      have k : nt_rn X _ 99 (50, [(0, .ref Yr)], [.int (a2), .int (nI u.2.2.1), .ref (Rw 7)], me_w M J2) _ := k
      have k := me_iastx rfl k
      have hS2 := yc_Sr (i := 7) (j := (nI u.2.2.1).toNatClampNeg) (x := a2) hP hT2 (by decide) (by decide) (lb_ix1 hub)
      have k : nt_rn X _ 99 (51, [(0, .ref Yr)], [], me_w M (nt_u J2 (Rw 7) (nI u.2.2.1).toNatClampNeg (a2))) _ := k
      have k := ly_revb 1 (c' := (52, [(0, .ref Yr)], [.ref Yr], me_w M (nt_u J2 (Rw 7) (nI u.2.2.1).toNatClampNeg (a2)))) rfl k
      have k := lz_get (a := Yr) (g := 901) (M := me_w M (nt_u J2 (Rw 7) (nI u.2.2.1).toNatClampNeg (a2))) (v := .ref Y) rfl (nt_gfR rfl hP.2.2.1.2) k
      have k := lz_get (a := Y) (g := 808) (M := me_w M (nt_u J2 (Rw 7) (nI u.2.2.1).toNatClampNeg (a2))) (v := .ref (Rw 8)) rfl (nt_gfR rfl (hP.2.2.2.2.1 8 (by decide) (by decide)).1) k
      have k := ly_revb 1 (c' := (59, [(0, .ref Yr)], [.ref Yr, .ref (Rw 8)], me_w M (nt_u J2 (Rw 7) (nI u.2.2.1).toNatClampNeg (a2)))) rfl k
      have k := lz_get (a := Yr) (g := 901) (M := me_w M (nt_u J2 (Rw 7) (nI u.2.2.1).toNatClampNeg (a2))) (v := .ref Y) rfl (nt_gfR rfl hP.2.2.1.2) k
      have k := lz_get (a := Y) (g := 802) (M := me_w M (nt_u J2 (Rw 7) (nI u.2.2.1).toNatClampNeg (a2))) (v := .int (nI u.2.2.1)) rfl (congrArg Value.int (hS2.2.2.1.2.2.1)) k
      have k := ly_revb 3 (c' := (68, [(0, .ref Yr)], [.ref Yr, .int (Int32.ofInt 0), .ref Yr, .int (nI u.2.2.1), .ref (Rw 8)], me_w M (nt_u J2 (Rw 7) (nI u.2.2.1).toNatClampNeg (a2)))) rfl k
      have k := lz_get (a := Yr) (g := 901) (M := me_w M (nt_u J2 (Rw 7) (nI u.2.2.1).toNatClampNeg (a2))) (v := .ref Y) rfl (nt_gfR rfl hP.2.2.1.2) k
      have k := lz_get (a := Y) (g := 801) (M := me_w M (nt_u J2 (Rw 7) (nI u.2.2.1).toNatClampNeg (a2))) (v := .int (nI u.2.1)) rfl (congrArg Value.int (hS2.2.2.1.2.1)) k
      have k := ly_revb 2 (c' := (76, [(0, .ref Yr)], [.int ((nI u.2.1) - (Int32.ofInt 1)), .int (Int32.ofInt 0), .ref Yr, .int (nI u.2.2.1), .ref (Rw 8)], me_w M (nt_u J2 (Rw 7) (nI u.2.2.1).toNatClampNeg (a2)))) rfl k
      obtain ⟨d1, o1, ed, kc, k⟩ := lz_c (g := 97) (q := 1) (vs := [.ref Yr, .int (Int32.ofInt 0), .int ((nI u.2.1) - (Int32.ofInt 1))]) (rest := [.int (nI u.2.2.1), .ref (Rw 8)]) rfl rfl (by decide) (Or.inr (Or.inl ⟨_, rfl, rfl⟩)) rfl k
      obtain ⟨r3, a3, J3, e1, hv3, hN3⟩ := yc_num hP hS2 hq2 (by decide) kc
      subst e1
      rcases r3 with c | ⟨q3, x3⟩
      · obtain ⟨hc, rfl, hT3⟩ := hN3
        have k : nt_rn X _ 99 (79, [(0, .ref Yr)], [.int (Int32.ofInt 0), .int (nI u.2.2.1), .ref (Rw 8)], me_w M J3) _ := k
        have k := me_iastx rfl k
        have hS3 := yc_Sr (i := 8) (j := (nI u.2.2.1).toNatClampNeg) (x := Int32.ofInt 0) hP hT3 (by decide) (by decide) (lb_ix1 hub)
        have k : nt_rn X _ 99 (80, [(0, .ref Yr)], [], me_w M (nt_u J3 (Rw 8) (nI u.2.2.1).toNatClampNeg (Int32.ofInt 0))) _ := k
        have k := ly_revb 1 (c' := (81, [(0, .ref Yr)], [.ref Yr], me_w M (nt_u J3 (Rw 8) (nI u.2.2.1).toNatClampNeg (Int32.ofInt 0)))) rfl k
        have k := lz_get (a := Yr) (g := 901) (M := me_w M (nt_u J3 (Rw 8) (nI u.2.2.1).toNatClampNeg (Int32.ofInt 0))) (v := .ref Y) rfl (nt_gfR rfl hP.2.2.1.2) k
        have k := ly_revb 1 (c' := (85, [(0, .ref Yr)], [.ref Y, .ref Y], me_w M (nt_u J3 (Rw 8) (nI u.2.2.1).toNatClampNeg (Int32.ofInt 0)))) rfl k
        have k := lz_get (a := Y) (g := 802) (M := me_w M (nt_u J3 (Rw 8) (nI u.2.2.1).toNatClampNeg (Int32.ofInt 0))) (v := .int (nI u.2.2.1)) rfl (congrArg Value.int (hS3.2.2.1.2.2.1)) k
        have k := ly_revb 2 (c' := (90, [(0, .ref Yr)], [.int ((nI u.2.2.1) + (Int32.ofInt 1)), .ref Y], me_w M (nt_u J3 (Rw 8) (nI u.2.2.1).toNatClampNeg (Int32.ofInt 0)))) rfl k
        rw [show ((nI u.2.2.1) + (Int32.ofInt 1) : Int32) = nI (u.2.2.1 + 1) from me_add (k := 1)] at k
        have k := me_put rfl (by decide) k
        have k : nt_rn X _ 99 (93, [(0, .ref Yr)], [], me_w M (nt_u (nt_u J3 (Rw 8) (nI u.2.2.1).toNatClampNeg (Int32.ofInt 0)) Y 2 (nI (u.2.2.1 + 1)))) _ := k
        have hS4 := yc_S2 (y := u.2.2.1 + 1) hP hS3
        have k := lz_rv rfl rfl k
        exact ⟨.inl c, _, k, ⟨_, hv1, Or.inr ⟨_, _, rfl, ⟨_, hv2, Or.inr ⟨_, _, rfl, ⟨_, hv3, Or.inl ⟨c, rfl, rfl⟩⟩⟩⟩⟩⟩, Or.inl ⟨c, rfl, hc, _, _, hS4⟩⟩
      · obtain ⟨ea, hq3, hT3⟩ := hN3
        dsimp only at ea hq3 hT3
        subst ea
        have hu3 := lb_nu_up hq2 hv3
        have k : nt_rn X _ 99 (79, [(0, .ref Yr)], [.int (a3), .int (nI u.2.2.1), .ref (Rw 8)], me_w M J3) _ := k
        have k := me_iastx rfl k
        have hS3 := yc_Sr (i := 8) (j := (nI u.2.2.1).toNatClampNeg) (x := a3) hP hT3 (by decide) (by decide) (lb_ix1 hub)
        have k : nt_rn X _ 99 (80, [(0, .ref Yr)], [], me_w M (nt_u J3 (Rw 8) (nI u.2.2.1).toNatClampNeg (a3))) _ := k
        have k := ly_revb 1 (c' := (81, [(0, .ref Yr)], [.ref Yr], me_w M (nt_u J3 (Rw 8) (nI u.2.2.1).toNatClampNeg (a3)))) rfl k
        have k := lz_get (a := Yr) (g := 901) (M := me_w M (nt_u J3 (Rw 8) (nI u.2.2.1).toNatClampNeg (a3))) (v := .ref Y) rfl (nt_gfR rfl hP.2.2.1.2) k
        have k := ly_revb 1 (c' := (85, [(0, .ref Yr)], [.ref Y, .ref Y], me_w M (nt_u J3 (Rw 8) (nI u.2.2.1).toNatClampNeg (a3)))) rfl k
        have k := lz_get (a := Y) (g := 802) (M := me_w M (nt_u J3 (Rw 8) (nI u.2.2.1).toNatClampNeg (a3))) (v := .int (nI u.2.2.1)) rfl (congrArg Value.int (hS3.2.2.1.2.2.1)) k
        have k := ly_revb 2 (c' := (90, [(0, .ref Yr)], [.int ((nI u.2.2.1) + (Int32.ofInt 1)), .ref Y], me_w M (nt_u J3 (Rw 8) (nI u.2.2.1).toNatClampNeg (a3)))) rfl k
        rw [show ((nI u.2.2.1) + (Int32.ofInt 1) : Int32) = nI (u.2.2.1 + 1) from me_add (k := 1)] at k
        have k := me_put rfl (by decide) k
        have k : nt_rn X _ 99 (93, [(0, .ref Yr)], [], me_w M (nt_u (nt_u J3 (Rw 8) (nI u.2.2.1).toNatClampNeg (a3)) Y 2 (nI (u.2.2.1 + 1)))) _ := k
        have hS4 := yc_S2 (y := u.2.2.1 + 1) hP hS3
        have k := lz_rv rfl rfl k
        exact ⟨.inr q3, _, k, ⟨_, hv1, Or.inr ⟨_, _, rfl, ⟨_, hv2, Or.inr ⟨_, _, rfl, ⟨_, hv3, Or.inr ⟨_, _, rfl, rfl⟩⟩⟩⟩⟩⟩, Or.inr ⟨_, _, rfl, hq3, ⟨_, _, _, _, _, hv1, hv2, hv3, rfl⟩, hS4⟩⟩
theorem yc_x1 {x : Int32} (h0 : (Int32.ofInt 0).toInt ≤ x.toInt) (h1 : x.toInt ≤ (Int32.ofInt 98).toInt) : 0 ≤ (x + Int32.ofInt 1).toInt := by
  have e0 : (Int32.ofInt 0).toInt = 0 := by decide
  have e1 : (Int32.ofInt 1).toInt = 1 := by decide
  have e9 : (Int32.ofInt 98).toInt = 98 := by decide
  rw [e0] at h0
  rw [e9] at h1
  rw [Int32.toInt_add, e1, Int.bmod_eq_of_le (by omega) (by omega)]
  omega
theorem yc_voyage {X : nt_X} {d t Rd Tp By RR Sp Yr Y m0 s0 : Nat} {Rw : Nat → Nat} {f : Nat → Int32} {M : nt_M} {o : Option Value × nt_M} {C : lb_C} {p : Nat} {u : Nat × Nat × Nat × Nat × Nat} {J : Nat → Nat → Int32} (hP : yc_P M t Rd Tp By RR Sp Yr Y Rw) (hS : yc_S Rw C f t Rd Tp By RR Y m0 s0 p 0 u J) (hub : u.2.2.2.1 < 1000) (hp : p ≤ t) (k : nt_ev X d 100 [.ref Yr] (me_w M J) o) : ∃ r J', o = (none, me_w M J') ∧ lb_vo f t u.2.1 p r ∧ ((∃ c, r = .inl c ∧ c ≠ 0 ∧ ∃ u' D, yc_S Rw D f t Rd Tp By RR Y m0 s0 t c (u') (J')) ∨ ∃ q D, r = .inr q ∧ q ≤ t ∧ lb_voC f t u.2.1 p u.2.2.2.1 q C D ∧ yc_S Rw D f t Rd Tp By RR Y m0 s0 q 0 (u.1, u.2.1, u.2.2.1, u.2.2.2.1 + 1, u.2.2.2.2) (J')) := by
  have k : nt_rn X d 100 (0, [(0, .ref Yr)], [], me_w M J) o := k
  have t4 : t ≤ 400 := hP.2.2.2.2.2.1
  have k := ly_revb 1 (c' := (1, [(0, .ref Yr)], [.ref Yr], me_w M J)) rfl k
  have k := lz_get (a := Yr) (g := 901) (M := me_w M J) (v := .ref Y) rfl (nt_gfR rfl hP.2.2.1.2) k
  have k := lz_get (a := Y) (g := 809) (M := me_w M J) (v := .ref (Rw 9)) rfl (nt_gfR rfl (hP.2.2.2.2.1 9 (by decide) (by decide)).1) k
  have k := ly_revb 1 (c' := (8, [(0, .ref Yr)], [.ref Yr, .ref (Rw 9)], me_w M J)) rfl k
  have k := lz_get (a := Yr) (g := 901) (M := me_w M J) (v := .ref Y) rfl (nt_gfR rfl hP.2.2.1.2) k
  have k := lz_get (a := Y) (g := 803) (M := me_w M J) (v := .int (nI u.2.2.2.1)) rfl (congrArg Value.int (hS.2.2.1.2.2.2.1)) k
  have k := ly_revb 3 (c' := (17, [(0, .ref Yr)], [.ref Yr, .int (Int32.ofInt 0), .ref Yr, .int (nI u.2.2.2.1), .ref (Rw 9)], me_w M J)) rfl k
  have k := lz_get (a := Yr) (g := 901) (M := me_w M J) (v := .ref Y) rfl (nt_gfR rfl hP.2.2.1.2) k
  have k := lz_get (a := Y) (g := 801) (M := me_w M J) (v := .int (nI u.2.1)) rfl (congrArg Value.int (hS.2.2.1.2.1)) k
  have k := ly_revb 2 (c' := (25, [(0, .ref Yr)], [.int ((nI u.2.1) - (Int32.ofInt 1)), .int (Int32.ofInt 0), .ref Yr, .int (nI u.2.2.2.1), .ref (Rw 9)], me_w M J)) rfl k
  obtain ⟨d1, o1, ed, kc, k⟩ := lz_c (g := 97) (q := 1) (vs := [.ref Yr, .int (Int32.ofInt 0), .int ((nI u.2.1) - (Int32.ofInt 1))]) (rest := [.int (nI u.2.2.2.1), .ref (Rw 9)]) rfl rfl (by decide) (Or.inr (Or.inl ⟨_, rfl, rfl⟩)) rfl k
  obtain ⟨r1, a1, J1, e1, hv1, hN1⟩ := yc_num hP hS hp (by decide) kc
  subst e1
  rcases r1 with c | ⟨q1, x1⟩
  · obtain ⟨hc, rfl, hT1⟩ := hN1
    have k : nt_rn X _ 100 (28, [(0, .ref Yr)], [.int (Int32.ofInt 0), .int (nI u.2.2.2.1), .ref (Rw 9)], me_w M J1) _ := k
    have k := me_iastx rfl k
    have hS1 := yc_Sr (i := 9) (j := (nI u.2.2.2.1).toNatClampNeg) (x := Int32.ofInt 0) hP hT1 (by decide) (by decide) (lb_ix1 hub)
    have k : nt_rn X _ 100 (29, [(0, .ref Yr)], [], me_w M (nt_u J1 (Rw 9) (nI u.2.2.2.1).toNatClampNeg (Int32.ofInt 0))) _ := k
    have k := ly_revb 3 (c' := (33, [(0, .ref Yr)], [.int (Int32.ofInt 98), .int (Int32.ofInt 0), .ref Yr], me_w M (nt_u J1 (Rw 9) (nI u.2.2.2.1).toNatClampNeg (Int32.ofInt 0)))) rfl k
    obtain ⟨d1, o1, ed, kc, k⟩ := lz_c (g := 97) (q := 1) (vs := [.ref Yr, .int (Int32.ofInt 0), .int (Int32.ofInt 98)]) (rest := []) rfl rfl (by decide) (Or.inr (Or.inl ⟨_, rfl, rfl⟩)) rfl k
    obtain ⟨J2, e1, hT2⟩ := yc_numF hP hS1 hc kc
    subst e1
    have k : nt_rn X _ 100 (36, [(0, .ref Yr)], [.int (Int32.ofInt 0)], me_w M J2) _ := k
    have k := ly_revb 2 (c' := (38, [(1, .int (Int32.ofInt 0)), (0, .ref Yr)], [.ref Yr], me_w M J2)) rfl k
    have k := lz_get (a := Yr) (g := 901) (M := me_w M J2) (v := .ref Y) rfl (nt_gfR rfl hP.2.2.1.2) k
    have k := lz_get (a := Y) (g := 810) (M := me_w M J2) (v := .ref (Rw 10)) rfl (nt_gfR rfl (hP.2.2.2.2.1 10 (by decide) (by decide)).1) k
    have k := ly_revb 1 (c' := (45, [(1, .int (Int32.ofInt 0)), (0, .ref Yr)], [.ref Yr, .ref (Rw 10)], me_w M J2)) rfl k
    have k := lz_get (a := Yr) (g := 901) (M := me_w M J2) (v := .ref Y) rfl (nt_gfR rfl hP.2.2.1.2) k
    have k := lz_get (a := Y) (g := 803) (M := me_w M J2) (v := .int (nI u.2.2.2.1)) rfl (congrArg Value.int (hT2.2.2.1.2.2.2.1)) k
    have k := ly_revb 1 (c' := (52, [(1, .int (Int32.ofInt 0)), (0, .ref Yr)], [.int (Int32.ofInt 0), .int (nI u.2.2.2.1), .ref (Rw 10)], me_w M J2)) rfl k
    have k := me_iastx rfl k
    have hS2 := yc_Sr (i := 10) (j := (nI u.2.2.2.1).toNatClampNeg) (x := Int32.ofInt 0) hP hT2 (by decide) (by decide) (lb_ix1 hub)
    have k : nt_rn X _ 100 (53, [(1, .int (Int32.ofInt 0)), (0, .ref Yr)], [], me_w M (nt_u J2 (Rw 10) (nI u.2.2.2.1).toNatClampNeg (Int32.ofInt 0))) _ := k
    have k := ly_revb 1 (c' := (54, [(1, .int (Int32.ofInt 0)), (0, .ref Yr)], [.ref Yr], me_w M (nt_u J2 (Rw 10) (nI u.2.2.2.1).toNatClampNeg (Int32.ofInt 0)))) rfl k
    have k := lz_get (a := Yr) (g := 901) (M := me_w M (nt_u J2 (Rw 10) (nI u.2.2.2.1).toNatClampNeg (Int32.ofInt 0))) (v := .ref Y) rfl (nt_gfR rfl hP.2.2.1.2) k
    have k := lz_get (a := Y) (g := 811) (M := me_w M (nt_u J2 (Rw 10) (nI u.2.2.2.1).toNatClampNeg (Int32.ofInt 0))) (v := .ref (Rw 11)) rfl (nt_gfR rfl (hP.2.2.2.2.1 11 (by decide) (by decide)).1) k
    have k := ly_revb 1 (c' := (61, [(1, .int (Int32.ofInt 0)), (0, .ref Yr)], [.ref Yr, .ref (Rw 11)], me_w M (nt_u J2 (Rw 10) (nI u.2.2.2.1).toNatClampNeg (Int32.ofInt 0)))) rfl k
    have k := lz_get (a := Yr) (g := 901) (M := me_w M (nt_u J2 (Rw 10) (nI u.2.2.2.1).toNatClampNeg (Int32.ofInt 0))) (v := .ref Y) rfl (nt_gfR rfl hP.2.2.1.2) k
    have k := lz_get (a := Y) (g := 803) (M := me_w M (nt_u J2 (Rw 10) (nI u.2.2.2.1).toNatClampNeg (Int32.ofInt 0))) (v := .int (nI u.2.2.2.1)) rfl (congrArg Value.int (hS2.2.2.1.2.2.2.1)) k
    have k := ly_revb 5 (c' := (73, [(1, .int (Int32.ofInt 0)), (0, .ref Yr)], [.int (Int32.ofInt 99), .int ((Int32.ofInt 0) + (Int32.ofInt 1)), .ref Yr, .int (nI u.2.2.2.1), .ref (Rw 11)], me_w M (nt_u J2 (Rw 10) (nI u.2.2.2.1).toNatClampNeg (Int32.ofInt 0)))) rfl k
    obtain ⟨d1, o1, ed, kc, k⟩ := lz_c (g := 97) (q := 1) (vs := [.ref Yr, .int ((Int32.ofInt 0) + (Int32.ofInt 1)), .int (Int32.ofInt 99)]) (rest := [.int (nI u.2.2.2.1), .ref (Rw 11)]) rfl rfl (by decide) (Or.inr (Or.inl ⟨_, rfl, rfl⟩)) rfl k
    obtain ⟨J3, e1, hT3⟩ := yc_numF hP hS2 hc kc
    subst e1
    have k : nt_rn X _ 100 (76, [(1, .int (Int32.ofInt 0)), (0, .ref Yr)], [.int (Int32.ofInt 0), .int (nI u.2.2.2.1), .ref (Rw 11)], me_w M J3) _ := k
    have k := me_iastx rfl k
    have hS3 := yc_Sr (i := 11) (j := (nI u.2.2.2.1).toNatClampNeg) (x := Int32.ofInt 0) hP hT3 (by decide) (by decide) (lb_ix1 hub)
    have k : nt_rn X _ 100 (77, [(1, .int (Int32.ofInt 0)), (0, .ref Yr)], [], me_w M (nt_u J3 (Rw 11) (nI u.2.2.2.1).toNatClampNeg (Int32.ofInt 0))) _ := k
    have k := ly_revb 1 (c' := (78, [(1, .int (Int32.ofInt 0)), (0, .ref Yr)], [.ref Yr], me_w M (nt_u J3 (Rw 11) (nI u.2.2.2.1).toNatClampNeg (Int32.ofInt 0)))) rfl k
    have k := lz_get (a := Yr) (g := 901) (M := me_w M (nt_u J3 (Rw 11) (nI u.2.2.2.1).toNatClampNeg (Int32.ofInt 0))) (v := .ref Y) rfl (nt_gfR rfl hP.2.2.1.2) k
    have k := lz_get (a := Y) (g := 812) (M := me_w M (nt_u J3 (Rw 11) (nI u.2.2.2.1).toNatClampNeg (Int32.ofInt 0))) (v := .ref (Rw 12)) rfl (nt_gfR rfl (hP.2.2.2.2.1 12 (by decide) (by decide)).1) k
    have k := ly_revb 1 (c' := (85, [(1, .int (Int32.ofInt 0)), (0, .ref Yr)], [.ref Yr, .ref (Rw 12)], me_w M (nt_u J3 (Rw 11) (nI u.2.2.2.1).toNatClampNeg (Int32.ofInt 0)))) rfl k
    have k := lz_get (a := Yr) (g := 901) (M := me_w M (nt_u J3 (Rw 11) (nI u.2.2.2.1).toNatClampNeg (Int32.ofInt 0))) (v := .ref Y) rfl (nt_gfR rfl hP.2.2.1.2) k
    have k := lz_get (a := Y) (g := 803) (M := me_w M (nt_u J3 (Rw 11) (nI u.2.2.2.1).toNatClampNeg (Int32.ofInt 0))) (v := .int (nI u.2.2.2.1)) rfl (congrArg Value.int (hS3.2.2.1.2.2.2.1)) k
    have k := ly_revb 3 (c' := (96, [(1, .int (Int32.ofInt 0)), (0, .ref Yr)], [.int (Int32.ofInt 999), .int (Int32.ofInt 0), .ref Yr, .int (nI u.2.2.2.1), .ref (Rw 12)], me_w M (nt_u J3 (Rw 11) (nI u.2.2.2.1).toNatClampNeg (Int32.ofInt 0)))) rfl k
    obtain ⟨d1, o1, ed, kc, k⟩ := lz_c (g := 97) (q := 1) (vs := [.ref Yr, .int (Int32.ofInt 0), .int (Int32.ofInt 999)]) (rest := [.int (nI u.2.2.2.1), .ref (Rw 12)]) rfl rfl (by decide) (Or.inr (Or.inl ⟨_, rfl, rfl⟩)) rfl k
    obtain ⟨J4, e1, hT4⟩ := yc_numF hP hS3 hc kc
    subst e1
    have k : nt_rn X _ 100 (99, [(1, .int (Int32.ofInt 0)), (0, .ref Yr)], [.int (Int32.ofInt 0), .int (nI u.2.2.2.1), .ref (Rw 12)], me_w M J4) _ := k
    have k := me_iastx rfl k
    have hS4 := yc_Sr (i := 12) (j := (nI u.2.2.2.1).toNatClampNeg) (x := Int32.ofInt 0) hP hT4 (by decide) (by decide) (lb_ix1 hub)
    have k : nt_rn X _ 100 (100, [(1, .int (Int32.ofInt 0)), (0, .ref Yr)], [], me_w M (nt_u J4 (Rw 12) (nI u.2.2.2.1).toNatClampNeg (Int32.ofInt 0))) _ := k
    have k := ly_revb 1 (c' := (101, [(1, .int (Int32.ofInt 0)), (0, .ref Yr)], [.ref Yr], me_w M (nt_u J4 (Rw 12) (nI u.2.2.2.1).toNatClampNeg (Int32.ofInt 0)))) rfl k
    have k := lz_get (a := Yr) (g := 901) (M := me_w M (nt_u J4 (Rw 12) (nI u.2.2.2.1).toNatClampNeg (Int32.ofInt 0))) (v := .ref Y) rfl (nt_gfR rfl hP.2.2.1.2) k
    have k := ly_revb 1 (c' := (105, [(1, .int (Int32.ofInt 0)), (0, .ref Yr)], [.ref Y, .ref Y], me_w M (nt_u J4 (Rw 12) (nI u.2.2.2.1).toNatClampNeg (Int32.ofInt 0)))) rfl k
    have k := lz_get (a := Y) (g := 803) (M := me_w M (nt_u J4 (Rw 12) (nI u.2.2.2.1).toNatClampNeg (Int32.ofInt 0))) (v := .int (nI u.2.2.2.1)) rfl (congrArg Value.int (hS4.2.2.1.2.2.2.1)) k
    have k := ly_revb 2 (c' := (110, [(1, .int (Int32.ofInt 0)), (0, .ref Yr)], [.int ((nI u.2.2.2.1) + (Int32.ofInt 1)), .ref Y], me_w M (nt_u J4 (Rw 12) (nI u.2.2.2.1).toNatClampNeg (Int32.ofInt 0)))) rfl k
    rw [show ((nI u.2.2.2.1) + (Int32.ofInt 1) : Int32) = nI (u.2.2.2.1 + 1) from me_add (k := 1)] at k
    have k := me_put rfl (by decide) k
    have k : nt_rn X _ 100 (113, [(1, .int (Int32.ofInt 0)), (0, .ref Yr)], [], me_w M (nt_u (nt_u J4 (Rw 12) (nI u.2.2.2.1).toNatClampNeg (Int32.ofInt 0)) Y 3 (nI (u.2.2.2.1 + 1)))) _ := k
    have hS5 := yc_S3 (y := u.2.2.2.1 + 1) hP hS4
    have k := lz_rv rfl rfl k
    exact ⟨.inl c, _, k, ⟨_, hv1, Or.inl ⟨c, rfl, rfl⟩⟩, Or.inl ⟨c, rfl, hc, _, _, hS5⟩⟩
  · obtain ⟨ea, hq1, hT1⟩ := hN1
    dsimp only at ea hq1 hT1
    subst ea
    have hu1 := lb_nu_up hp hv1
    have k : nt_rn X _ 100 (28, [(0, .ref Yr)], [.int (a1), .int (nI u.2.2.2.1), .ref (Rw 9)], me_w M J1) _ := k
    have k := me_iastx rfl k
    have hS1 := yc_Sr (i := 9) (j := (nI u.2.2.2.1).toNatClampNeg) (x := a1) hP hT1 (by decide) (by decide) (lb_ix1 hub)
    have k : nt_rn X _ 100 (29, [(0, .ref Yr)], [], me_w M (nt_u J1 (Rw 9) (nI u.2.2.2.1).toNatClampNeg (a1))) _ := k
    have k := ly_revb 3 (c' := (33, [(0, .ref Yr)], [.int (Int32.ofInt 98), .int (Int32.ofInt 0), .ref Yr], me_w M (nt_u J1 (Rw 9) (nI u.2.2.2.1).toNatClampNeg (a1)))) rfl k
    obtain ⟨d1, o1, ed, kc, k⟩ := lz_c (g := 97) (q := 1) (vs := [.ref Yr, .int (Int32.ofInt 0), .int (Int32.ofInt 98)]) (rest := []) rfl rfl (by decide) (Or.inr (Or.inl ⟨_, rfl, rfl⟩)) rfl k
    obtain ⟨r2, a2, J2, e1, hv2, hN2⟩ := yc_num hP hS1 hq1 (by decide) kc
    subst e1
    rcases r2 with c | ⟨q2, x2⟩
    · obtain ⟨hc, rfl, hT2⟩ := hN2
      have k : nt_rn X _ 100 (36, [(0, .ref Yr)], [.int (Int32.ofInt 0)], me_w M J2) _ := k
      have k := ly_revb 2 (c' := (38, [(1, .int (Int32.ofInt 0)), (0, .ref Yr)], [.ref Yr], me_w M J2)) rfl k
      have k := lz_get (a := Yr) (g := 901) (M := me_w M J2) (v := .ref Y) rfl (nt_gfR rfl hP.2.2.1.2) k
      have k := lz_get (a := Y) (g := 810) (M := me_w M J2) (v := .ref (Rw 10)) rfl (nt_gfR rfl (hP.2.2.2.2.1 10 (by decide) (by decide)).1) k
      have k := ly_revb 1 (c' := (45, [(1, .int (Int32.ofInt 0)), (0, .ref Yr)], [.ref Yr, .ref (Rw 10)], me_w M J2)) rfl k
      have k := lz_get (a := Yr) (g := 901) (M := me_w M J2) (v := .ref Y) rfl (nt_gfR rfl hP.2.2.1.2) k
      have k := lz_get (a := Y) (g := 803) (M := me_w M J2) (v := .int (nI u.2.2.2.1)) rfl (congrArg Value.int (hT2.2.2.1.2.2.2.1)) k
      have k := ly_revb 1 (c' := (52, [(1, .int (Int32.ofInt 0)), (0, .ref Yr)], [.int (Int32.ofInt 0), .int (nI u.2.2.2.1), .ref (Rw 10)], me_w M J2)) rfl k
      have k := me_iastx rfl k
      have hS2 := yc_Sr (i := 10) (j := (nI u.2.2.2.1).toNatClampNeg) (x := Int32.ofInt 0) hP hT2 (by decide) (by decide) (lb_ix1 hub)
      have k : nt_rn X _ 100 (53, [(1, .int (Int32.ofInt 0)), (0, .ref Yr)], [], me_w M (nt_u J2 (Rw 10) (nI u.2.2.2.1).toNatClampNeg (Int32.ofInt 0))) _ := k
      have k := ly_revb 1 (c' := (54, [(1, .int (Int32.ofInt 0)), (0, .ref Yr)], [.ref Yr], me_w M (nt_u J2 (Rw 10) (nI u.2.2.2.1).toNatClampNeg (Int32.ofInt 0)))) rfl k
      have k := lz_get (a := Yr) (g := 901) (M := me_w M (nt_u J2 (Rw 10) (nI u.2.2.2.1).toNatClampNeg (Int32.ofInt 0))) (v := .ref Y) rfl (nt_gfR rfl hP.2.2.1.2) k
      have k := lz_get (a := Y) (g := 811) (M := me_w M (nt_u J2 (Rw 10) (nI u.2.2.2.1).toNatClampNeg (Int32.ofInt 0))) (v := .ref (Rw 11)) rfl (nt_gfR rfl (hP.2.2.2.2.1 11 (by decide) (by decide)).1) k
      have k := ly_revb 1 (c' := (61, [(1, .int (Int32.ofInt 0)), (0, .ref Yr)], [.ref Yr, .ref (Rw 11)], me_w M (nt_u J2 (Rw 10) (nI u.2.2.2.1).toNatClampNeg (Int32.ofInt 0)))) rfl k
      have k := lz_get (a := Yr) (g := 901) (M := me_w M (nt_u J2 (Rw 10) (nI u.2.2.2.1).toNatClampNeg (Int32.ofInt 0))) (v := .ref Y) rfl (nt_gfR rfl hP.2.2.1.2) k
      have k := lz_get (a := Y) (g := 803) (M := me_w M (nt_u J2 (Rw 10) (nI u.2.2.2.1).toNatClampNeg (Int32.ofInt 0))) (v := .int (nI u.2.2.2.1)) rfl (congrArg Value.int (hS2.2.2.1.2.2.2.1)) k
      have k := ly_revb 5 (c' := (73, [(1, .int (Int32.ofInt 0)), (0, .ref Yr)], [.int (Int32.ofInt 99), .int ((Int32.ofInt 0) + (Int32.ofInt 1)), .ref Yr, .int (nI u.2.2.2.1), .ref (Rw 11)], me_w M (nt_u J2 (Rw 10) (nI u.2.2.2.1).toNatClampNeg (Int32.ofInt 0)))) rfl k
      obtain ⟨d1, o1, ed, kc, k⟩ := lz_c (g := 97) (q := 1) (vs := [.ref Yr, .int ((Int32.ofInt 0) + (Int32.ofInt 1)), .int (Int32.ofInt 99)]) (rest := [.int (nI u.2.2.2.1), .ref (Rw 11)]) rfl rfl (by decide) (Or.inr (Or.inl ⟨_, rfl, rfl⟩)) rfl k
      obtain ⟨J3, e1, hT3⟩ := yc_numF hP hS2 hc kc
      subst e1
      have k : nt_rn X _ 100 (76, [(1, .int (Int32.ofInt 0)), (0, .ref Yr)], [.int (Int32.ofInt 0), .int (nI u.2.2.2.1), .ref (Rw 11)], me_w M J3) _ := k
      have k := me_iastx rfl k
      have hS3 := yc_Sr (i := 11) (j := (nI u.2.2.2.1).toNatClampNeg) (x := Int32.ofInt 0) hP hT3 (by decide) (by decide) (lb_ix1 hub)
      have k : nt_rn X _ 100 (77, [(1, .int (Int32.ofInt 0)), (0, .ref Yr)], [], me_w M (nt_u J3 (Rw 11) (nI u.2.2.2.1).toNatClampNeg (Int32.ofInt 0))) _ := k
      have k := ly_revb 1 (c' := (78, [(1, .int (Int32.ofInt 0)), (0, .ref Yr)], [.ref Yr], me_w M (nt_u J3 (Rw 11) (nI u.2.2.2.1).toNatClampNeg (Int32.ofInt 0)))) rfl k
      have k := lz_get (a := Yr) (g := 901) (M := me_w M (nt_u J3 (Rw 11) (nI u.2.2.2.1).toNatClampNeg (Int32.ofInt 0))) (v := .ref Y) rfl (nt_gfR rfl hP.2.2.1.2) k
      have k := lz_get (a := Y) (g := 812) (M := me_w M (nt_u J3 (Rw 11) (nI u.2.2.2.1).toNatClampNeg (Int32.ofInt 0))) (v := .ref (Rw 12)) rfl (nt_gfR rfl (hP.2.2.2.2.1 12 (by decide) (by decide)).1) k
      have k := ly_revb 1 (c' := (85, [(1, .int (Int32.ofInt 0)), (0, .ref Yr)], [.ref Yr, .ref (Rw 12)], me_w M (nt_u J3 (Rw 11) (nI u.2.2.2.1).toNatClampNeg (Int32.ofInt 0)))) rfl k
      have k := lz_get (a := Yr) (g := 901) (M := me_w M (nt_u J3 (Rw 11) (nI u.2.2.2.1).toNatClampNeg (Int32.ofInt 0))) (v := .ref Y) rfl (nt_gfR rfl hP.2.2.1.2) k
      have k := lz_get (a := Y) (g := 803) (M := me_w M (nt_u J3 (Rw 11) (nI u.2.2.2.1).toNatClampNeg (Int32.ofInt 0))) (v := .int (nI u.2.2.2.1)) rfl (congrArg Value.int (hS3.2.2.1.2.2.2.1)) k
      have k := ly_revb 3 (c' := (96, [(1, .int (Int32.ofInt 0)), (0, .ref Yr)], [.int (Int32.ofInt 999), .int (Int32.ofInt 0), .ref Yr, .int (nI u.2.2.2.1), .ref (Rw 12)], me_w M (nt_u J3 (Rw 11) (nI u.2.2.2.1).toNatClampNeg (Int32.ofInt 0)))) rfl k
      obtain ⟨d1, o1, ed, kc, k⟩ := lz_c (g := 97) (q := 1) (vs := [.ref Yr, .int (Int32.ofInt 0), .int (Int32.ofInt 999)]) (rest := [.int (nI u.2.2.2.1), .ref (Rw 12)]) rfl rfl (by decide) (Or.inr (Or.inl ⟨_, rfl, rfl⟩)) rfl k
      obtain ⟨J4, e1, hT4⟩ := yc_numF hP hS3 hc kc
      subst e1
      have k : nt_rn X _ 100 (99, [(1, .int (Int32.ofInt 0)), (0, .ref Yr)], [.int (Int32.ofInt 0), .int (nI u.2.2.2.1), .ref (Rw 12)], me_w M J4) _ := k
      have k := me_iastx rfl k
      have hS4 := yc_Sr (i := 12) (j := (nI u.2.2.2.1).toNatClampNeg) (x := Int32.ofInt 0) hP hT4 (by decide) (by decide) (lb_ix1 hub)
      have k : nt_rn X _ 100 (100, [(1, .int (Int32.ofInt 0)), (0, .ref Yr)], [], me_w M (nt_u J4 (Rw 12) (nI u.2.2.2.1).toNatClampNeg (Int32.ofInt 0))) _ := k
      have k := ly_revb 1 (c' := (101, [(1, .int (Int32.ofInt 0)), (0, .ref Yr)], [.ref Yr], me_w M (nt_u J4 (Rw 12) (nI u.2.2.2.1).toNatClampNeg (Int32.ofInt 0)))) rfl k
      have k := lz_get (a := Yr) (g := 901) (M := me_w M (nt_u J4 (Rw 12) (nI u.2.2.2.1).toNatClampNeg (Int32.ofInt 0))) (v := .ref Y) rfl (nt_gfR rfl hP.2.2.1.2) k
      have k := ly_revb 1 (c' := (105, [(1, .int (Int32.ofInt 0)), (0, .ref Yr)], [.ref Y, .ref Y], me_w M (nt_u J4 (Rw 12) (nI u.2.2.2.1).toNatClampNeg (Int32.ofInt 0)))) rfl k
      have k := lz_get (a := Y) (g := 803) (M := me_w M (nt_u J4 (Rw 12) (nI u.2.2.2.1).toNatClampNeg (Int32.ofInt 0))) (v := .int (nI u.2.2.2.1)) rfl (congrArg Value.int (hS4.2.2.1.2.2.2.1)) k
      have k := ly_revb 2 (c' := (110, [(1, .int (Int32.ofInt 0)), (0, .ref Yr)], [.int ((nI u.2.2.2.1) + (Int32.ofInt 1)), .ref Y], me_w M (nt_u J4 (Rw 12) (nI u.2.2.2.1).toNatClampNeg (Int32.ofInt 0)))) rfl k
      rw [show ((nI u.2.2.2.1) + (Int32.ofInt 1) : Int32) = nI (u.2.2.2.1 + 1) from me_add (k := 1)] at k
      have k := me_put rfl (by decide) k
      have k : nt_rn X _ 100 (113, [(1, .int (Int32.ofInt 0)), (0, .ref Yr)], [], me_w M (nt_u (nt_u J4 (Rw 12) (nI u.2.2.2.1).toNatClampNeg (Int32.ofInt 0)) Y 3 (nI (u.2.2.2.1 + 1)))) _ := k
      have hS5 := yc_S3 (y := u.2.2.2.1 + 1) hP hS4
      have k := lz_rv rfl rfl k
      exact ⟨.inl c, _, k, ⟨_, hv1, Or.inr ⟨_, _, rfl, ⟨_, hv2, Or.inl ⟨c, rfl, rfl⟩⟩⟩⟩, Or.inl ⟨c, rfl, hc, _, _, hS5⟩⟩
    · obtain ⟨ea, hq2, hT2⟩ := hN2
      dsimp only at ea hq2 hT2
      subst ea
      have hu2 := lb_nu_up hq1 hv2
      have k : nt_rn X _ 100 (36, [(0, .ref Yr)], [.int (a2)], me_w M J2) _ := k
      have k := ly_revb 2 (c' := (38, [(1, .int (a2)), (0, .ref Yr)], [.ref Yr], me_w M J2)) rfl k
      have k := lz_get (a := Yr) (g := 901) (M := me_w M J2) (v := .ref Y) rfl (nt_gfR rfl hP.2.2.1.2) k
      have k := lz_get (a := Y) (g := 810) (M := me_w M J2) (v := .ref (Rw 10)) rfl (nt_gfR rfl (hP.2.2.2.2.1 10 (by decide) (by decide)).1) k
      have k := ly_revb 1 (c' := (45, [(1, .int (a2)), (0, .ref Yr)], [.ref Yr, .ref (Rw 10)], me_w M J2)) rfl k
      have k := lz_get (a := Yr) (g := 901) (M := me_w M J2) (v := .ref Y) rfl (nt_gfR rfl hP.2.2.1.2) k
      have k := lz_get (a := Y) (g := 803) (M := me_w M J2) (v := .int (nI u.2.2.2.1)) rfl (congrArg Value.int (hT2.2.2.1.2.2.2.1)) k
      have k := ly_revb 1 (c' := (52, [(1, .int (a2)), (0, .ref Yr)], [.int (a2), .int (nI u.2.2.2.1), .ref (Rw 10)], me_w M J2)) rfl k
      have k := me_iastx rfl k
      have hS2 := yc_Sr (i := 10) (j := (nI u.2.2.2.1).toNatClampNeg) (x := a2) hP hT2 (by decide) (by decide) (lb_ix1 hub)
      have k : nt_rn X _ 100 (53, [(1, .int (a2)), (0, .ref Yr)], [], me_w M (nt_u J2 (Rw 10) (nI u.2.2.2.1).toNatClampNeg (a2))) _ := k
      have k := ly_revb 1 (c' := (54, [(1, .int (a2)), (0, .ref Yr)], [.ref Yr], me_w M (nt_u J2 (Rw 10) (nI u.2.2.2.1).toNatClampNeg (a2)))) rfl k
      have k := lz_get (a := Yr) (g := 901) (M := me_w M (nt_u J2 (Rw 10) (nI u.2.2.2.1).toNatClampNeg (a2))) (v := .ref Y) rfl (nt_gfR rfl hP.2.2.1.2) k
      have k := lz_get (a := Y) (g := 811) (M := me_w M (nt_u J2 (Rw 10) (nI u.2.2.2.1).toNatClampNeg (a2))) (v := .ref (Rw 11)) rfl (nt_gfR rfl (hP.2.2.2.2.1 11 (by decide) (by decide)).1) k
      have k := ly_revb 1 (c' := (61, [(1, .int (a2)), (0, .ref Yr)], [.ref Yr, .ref (Rw 11)], me_w M (nt_u J2 (Rw 10) (nI u.2.2.2.1).toNatClampNeg (a2)))) rfl k
      have k := lz_get (a := Yr) (g := 901) (M := me_w M (nt_u J2 (Rw 10) (nI u.2.2.2.1).toNatClampNeg (a2))) (v := .ref Y) rfl (nt_gfR rfl hP.2.2.1.2) k
      have k := lz_get (a := Y) (g := 803) (M := me_w M (nt_u J2 (Rw 10) (nI u.2.2.2.1).toNatClampNeg (a2))) (v := .int (nI u.2.2.2.1)) rfl (congrArg Value.int (hS2.2.2.1.2.2.2.1)) k
      have k := ly_revb 5 (c' := (73, [(1, .int (a2)), (0, .ref Yr)], [.int (Int32.ofInt 99), .int (a2 + (Int32.ofInt 1)), .ref Yr, .int (nI u.2.2.2.1), .ref (Rw 11)], me_w M (nt_u J2 (Rw 10) (nI u.2.2.2.1).toNatClampNeg (a2)))) rfl k
      obtain ⟨d1, o1, ed, kc, k⟩ := lz_c (g := 97) (q := 1) (vs := [.ref Yr, .int (a2 + (Int32.ofInt 1)), .int (Int32.ofInt 99)]) (rest := [.int (nI u.2.2.2.1), .ref (Rw 11)]) rfl rfl (by decide) (Or.inr (Or.inl ⟨_, rfl, rfl⟩)) rfl k
      obtain ⟨r3, a3, J3, e1, hv3, hN3⟩ := yc_num hP hS2 hq2 (yc_x1 hu2.2.1 hu2.2.2) kc
      subst e1
      rcases r3 with c | ⟨q3, x3⟩
      · obtain ⟨hc, rfl, hT3⟩ := hN3
        have k : nt_rn X _ 100 (76, [(1, .int (a2)), (0, .ref Yr)], [.int (Int32.ofInt 0), .int (nI u.2.2.2.1), .ref (Rw 11)], me_w M J3) _ := k
        have k := me_iastx rfl k
        have hS3 := yc_Sr (i := 11) (j := (nI u.2.2.2.1).toNatClampNeg) (x := Int32.ofInt 0) hP hT3 (by decide) (by decide) (lb_ix1 hub)
        have k : nt_rn X _ 100 (77, [(1, .int (a2)), (0, .ref Yr)], [], me_w M (nt_u J3 (Rw 11) (nI u.2.2.2.1).toNatClampNeg (Int32.ofInt 0))) _ := k
        have k := ly_revb 1 (c' := (78, [(1, .int (a2)), (0, .ref Yr)], [.ref Yr], me_w M (nt_u J3 (Rw 11) (nI u.2.2.2.1).toNatClampNeg (Int32.ofInt 0)))) rfl k
        have k := lz_get (a := Yr) (g := 901) (M := me_w M (nt_u J3 (Rw 11) (nI u.2.2.2.1).toNatClampNeg (Int32.ofInt 0))) (v := .ref Y) rfl (nt_gfR rfl hP.2.2.1.2) k
        have k := lz_get (a := Y) (g := 812) (M := me_w M (nt_u J3 (Rw 11) (nI u.2.2.2.1).toNatClampNeg (Int32.ofInt 0))) (v := .ref (Rw 12)) rfl (nt_gfR rfl (hP.2.2.2.2.1 12 (by decide) (by decide)).1) k
        have k := ly_revb 1 (c' := (85, [(1, .int (a2)), (0, .ref Yr)], [.ref Yr, .ref (Rw 12)], me_w M (nt_u J3 (Rw 11) (nI u.2.2.2.1).toNatClampNeg (Int32.ofInt 0)))) rfl k
        have k := lz_get (a := Yr) (g := 901) (M := me_w M (nt_u J3 (Rw 11) (nI u.2.2.2.1).toNatClampNeg (Int32.ofInt 0))) (v := .ref Y) rfl (nt_gfR rfl hP.2.2.1.2) k
        have k := lz_get (a := Y) (g := 803) (M := me_w M (nt_u J3 (Rw 11) (nI u.2.2.2.1).toNatClampNeg (Int32.ofInt 0))) (v := .int (nI u.2.2.2.1)) rfl (congrArg Value.int (hS3.2.2.1.2.2.2.1)) k
        have k := ly_revb 3 (c' := (96, [(1, .int (a2)), (0, .ref Yr)], [.int (Int32.ofInt 999), .int (Int32.ofInt 0), .ref Yr, .int (nI u.2.2.2.1), .ref (Rw 12)], me_w M (nt_u J3 (Rw 11) (nI u.2.2.2.1).toNatClampNeg (Int32.ofInt 0)))) rfl k
        obtain ⟨d1, o1, ed, kc, k⟩ := lz_c (g := 97) (q := 1) (vs := [.ref Yr, .int (Int32.ofInt 0), .int (Int32.ofInt 999)]) (rest := [.int (nI u.2.2.2.1), .ref (Rw 12)]) rfl rfl (by decide) (Or.inr (Or.inl ⟨_, rfl, rfl⟩)) rfl k
        obtain ⟨J4, e1, hT4⟩ := yc_numF hP hS3 hc kc
        subst e1
        have k : nt_rn X _ 100 (99, [(1, .int (a2)), (0, .ref Yr)], [.int (Int32.ofInt 0), .int (nI u.2.2.2.1), .ref (Rw 12)], me_w M J4) _ := k
        have k := me_iastx rfl k
        have hS4 := yc_Sr (i := 12) (j := (nI u.2.2.2.1).toNatClampNeg) (x := Int32.ofInt 0) hP hT4 (by decide) (by decide) (lb_ix1 hub)
        have k : nt_rn X _ 100 (100, [(1, .int (a2)), (0, .ref Yr)], [], me_w M (nt_u J4 (Rw 12) (nI u.2.2.2.1).toNatClampNeg (Int32.ofInt 0))) _ := k
        have k := ly_revb 1 (c' := (101, [(1, .int (a2)), (0, .ref Yr)], [.ref Yr], me_w M (nt_u J4 (Rw 12) (nI u.2.2.2.1).toNatClampNeg (Int32.ofInt 0)))) rfl k
        have k := lz_get (a := Yr) (g := 901) (M := me_w M (nt_u J4 (Rw 12) (nI u.2.2.2.1).toNatClampNeg (Int32.ofInt 0))) (v := .ref Y) rfl (nt_gfR rfl hP.2.2.1.2) k
        have k := ly_revb 1 (c' := (105, [(1, .int (a2)), (0, .ref Yr)], [.ref Y, .ref Y], me_w M (nt_u J4 (Rw 12) (nI u.2.2.2.1).toNatClampNeg (Int32.ofInt 0)))) rfl k
        have k := lz_get (a := Y) (g := 803) (M := me_w M (nt_u J4 (Rw 12) (nI u.2.2.2.1).toNatClampNeg (Int32.ofInt 0))) (v := .int (nI u.2.2.2.1)) rfl (congrArg Value.int (hS4.2.2.1.2.2.2.1)) k
        have k := ly_revb 2 (c' := (110, [(1, .int (a2)), (0, .ref Yr)], [.int ((nI u.2.2.2.1) + (Int32.ofInt 1)), .ref Y], me_w M (nt_u J4 (Rw 12) (nI u.2.2.2.1).toNatClampNeg (Int32.ofInt 0)))) rfl k
        rw [show ((nI u.2.2.2.1) + (Int32.ofInt 1) : Int32) = nI (u.2.2.2.1 + 1) from me_add (k := 1)] at k
        have k := me_put rfl (by decide) k
        have k : nt_rn X _ 100 (113, [(1, .int (a2)), (0, .ref Yr)], [], me_w M (nt_u (nt_u J4 (Rw 12) (nI u.2.2.2.1).toNatClampNeg (Int32.ofInt 0)) Y 3 (nI (u.2.2.2.1 + 1)))) _ := k
        have hS5 := yc_S3 (y := u.2.2.2.1 + 1) hP hS4
        have k := lz_rv rfl rfl k
        exact ⟨.inl c, _, k, ⟨_, hv1, Or.inr ⟨_, _, rfl, ⟨_, hv2, Or.inr ⟨_, _, rfl, ⟨_, hv3, Or.inl ⟨c, rfl, rfl⟩⟩⟩⟩⟩⟩, Or.inl ⟨c, rfl, hc, _, _, hS5⟩⟩
      · obtain ⟨ea, hq3, hT3⟩ := hN3
        dsimp only at ea hq3 hT3
        subst ea
        have hu3 := lb_nu_up hq2 hv3
        have k : nt_rn X _ 100 (76, [(1, .int (a2)), (0, .ref Yr)], [.int (a3), .int (nI u.2.2.2.1), .ref (Rw 11)], me_w M J3) _ := k
        have k := me_iastx rfl k
        have hS3 := yc_Sr (i := 11) (j := (nI u.2.2.2.1).toNatClampNeg) (x := a3) hP hT3 (by decide) (by decide) (lb_ix1 hub)
        have k : nt_rn X _ 100 (77, [(1, .int (a2)), (0, .ref Yr)], [], me_w M (nt_u J3 (Rw 11) (nI u.2.2.2.1).toNatClampNeg (a3))) _ := k
        have k := ly_revb 1 (c' := (78, [(1, .int (a2)), (0, .ref Yr)], [.ref Yr], me_w M (nt_u J3 (Rw 11) (nI u.2.2.2.1).toNatClampNeg (a3)))) rfl k
        have k := lz_get (a := Yr) (g := 901) (M := me_w M (nt_u J3 (Rw 11) (nI u.2.2.2.1).toNatClampNeg (a3))) (v := .ref Y) rfl (nt_gfR rfl hP.2.2.1.2) k
        have k := lz_get (a := Y) (g := 812) (M := me_w M (nt_u J3 (Rw 11) (nI u.2.2.2.1).toNatClampNeg (a3))) (v := .ref (Rw 12)) rfl (nt_gfR rfl (hP.2.2.2.2.1 12 (by decide) (by decide)).1) k
        have k := ly_revb 1 (c' := (85, [(1, .int (a2)), (0, .ref Yr)], [.ref Yr, .ref (Rw 12)], me_w M (nt_u J3 (Rw 11) (nI u.2.2.2.1).toNatClampNeg (a3)))) rfl k
        have k := lz_get (a := Yr) (g := 901) (M := me_w M (nt_u J3 (Rw 11) (nI u.2.2.2.1).toNatClampNeg (a3))) (v := .ref Y) rfl (nt_gfR rfl hP.2.2.1.2) k
        have k := lz_get (a := Y) (g := 803) (M := me_w M (nt_u J3 (Rw 11) (nI u.2.2.2.1).toNatClampNeg (a3))) (v := .int (nI u.2.2.2.1)) rfl (congrArg Value.int (hS3.2.2.1.2.2.2.1)) k
        have k := ly_revb 3 (c' := (96, [(1, .int (a2)), (0, .ref Yr)], [.int (Int32.ofInt 999), .int (Int32.ofInt 0), .ref Yr, .int (nI u.2.2.2.1), .ref (Rw 12)], me_w M (nt_u J3 (Rw 11) (nI u.2.2.2.1).toNatClampNeg (a3)))) rfl k
        obtain ⟨d1, o1, ed, kc, k⟩ := lz_c (g := 97) (q := 1) (vs := [.ref Yr, .int (Int32.ofInt 0), .int (Int32.ofInt 999)]) (rest := [.int (nI u.2.2.2.1), .ref (Rw 12)]) rfl rfl (by decide) (Or.inr (Or.inl ⟨_, rfl, rfl⟩)) rfl k
        obtain ⟨r4, a4, J4, e1, hv4, hN4⟩ := yc_num hP hS3 hq3 (by decide) kc
        subst e1
        rcases r4 with c | ⟨q4, x4⟩
        · obtain ⟨hc, rfl, hT4⟩ := hN4
          have k : nt_rn X _ 100 (99, [(1, .int (a2)), (0, .ref Yr)], [.int (Int32.ofInt 0), .int (nI u.2.2.2.1), .ref (Rw 12)], me_w M J4) _ := k
          have k := me_iastx rfl k
          have hS4 := yc_Sr (i := 12) (j := (nI u.2.2.2.1).toNatClampNeg) (x := Int32.ofInt 0) hP hT4 (by decide) (by decide) (lb_ix1 hub)
          have k : nt_rn X _ 100 (100, [(1, .int (a2)), (0, .ref Yr)], [], me_w M (nt_u J4 (Rw 12) (nI u.2.2.2.1).toNatClampNeg (Int32.ofInt 0))) _ := k
          have k := ly_revb 1 (c' := (101, [(1, .int (a2)), (0, .ref Yr)], [.ref Yr], me_w M (nt_u J4 (Rw 12) (nI u.2.2.2.1).toNatClampNeg (Int32.ofInt 0)))) rfl k
          have k := lz_get (a := Yr) (g := 901) (M := me_w M (nt_u J4 (Rw 12) (nI u.2.2.2.1).toNatClampNeg (Int32.ofInt 0))) (v := .ref Y) rfl (nt_gfR rfl hP.2.2.1.2) k
          have k := ly_revb 1 (c' := (105, [(1, .int (a2)), (0, .ref Yr)], [.ref Y, .ref Y], me_w M (nt_u J4 (Rw 12) (nI u.2.2.2.1).toNatClampNeg (Int32.ofInt 0)))) rfl k
          have k := lz_get (a := Y) (g := 803) (M := me_w M (nt_u J4 (Rw 12) (nI u.2.2.2.1).toNatClampNeg (Int32.ofInt 0))) (v := .int (nI u.2.2.2.1)) rfl (congrArg Value.int (hS4.2.2.1.2.2.2.1)) k
          have k := ly_revb 2 (c' := (110, [(1, .int (a2)), (0, .ref Yr)], [.int ((nI u.2.2.2.1) + (Int32.ofInt 1)), .ref Y], me_w M (nt_u J4 (Rw 12) (nI u.2.2.2.1).toNatClampNeg (Int32.ofInt 0)))) rfl k
          rw [show ((nI u.2.2.2.1) + (Int32.ofInt 1) : Int32) = nI (u.2.2.2.1 + 1) from me_add (k := 1)] at k
          have k := me_put rfl (by decide) k
          have k : nt_rn X _ 100 (113, [(1, .int (a2)), (0, .ref Yr)], [], me_w M (nt_u (nt_u J4 (Rw 12) (nI u.2.2.2.1).toNatClampNeg (Int32.ofInt 0)) Y 3 (nI (u.2.2.2.1 + 1)))) _ := k
          have hS5 := yc_S3 (y := u.2.2.2.1 + 1) hP hS4
          have k := lz_rv rfl rfl k
          exact ⟨.inl c, _, k, ⟨_, hv1, Or.inr ⟨_, _, rfl, ⟨_, hv2, Or.inr ⟨_, _, rfl, ⟨_, hv3, Or.inr ⟨_, _, rfl, ⟨_, hv4, Or.inl ⟨c, rfl, rfl⟩⟩⟩⟩⟩⟩⟩⟩, Or.inl ⟨c, rfl, hc, _, _, hS5⟩⟩
        · obtain ⟨ea, hq4, hT4⟩ := hN4
          dsimp only at ea hq4 hT4
          subst ea
          have hu4 := lb_nu_up hq3 hv4
          have k : nt_rn X _ 100 (99, [(1, .int (a2)), (0, .ref Yr)], [.int (a4), .int (nI u.2.2.2.1), .ref (Rw 12)], me_w M J4) _ := k
          have k := me_iastx rfl k
          have hS4 := yc_Sr (i := 12) (j := (nI u.2.2.2.1).toNatClampNeg) (x := a4) hP hT4 (by decide) (by decide) (lb_ix1 hub)
          have k : nt_rn X _ 100 (100, [(1, .int (a2)), (0, .ref Yr)], [], me_w M (nt_u J4 (Rw 12) (nI u.2.2.2.1).toNatClampNeg (a4))) _ := k
          have k := ly_revb 1 (c' := (101, [(1, .int (a2)), (0, .ref Yr)], [.ref Yr], me_w M (nt_u J4 (Rw 12) (nI u.2.2.2.1).toNatClampNeg (a4)))) rfl k
          have k := lz_get (a := Yr) (g := 901) (M := me_w M (nt_u J4 (Rw 12) (nI u.2.2.2.1).toNatClampNeg (a4))) (v := .ref Y) rfl (nt_gfR rfl hP.2.2.1.2) k
          have k := ly_revb 1 (c' := (105, [(1, .int (a2)), (0, .ref Yr)], [.ref Y, .ref Y], me_w M (nt_u J4 (Rw 12) (nI u.2.2.2.1).toNatClampNeg (a4)))) rfl k
          have k := lz_get (a := Y) (g := 803) (M := me_w M (nt_u J4 (Rw 12) (nI u.2.2.2.1).toNatClampNeg (a4))) (v := .int (nI u.2.2.2.1)) rfl (congrArg Value.int (hS4.2.2.1.2.2.2.1)) k
          have k := ly_revb 2 (c' := (110, [(1, .int (a2)), (0, .ref Yr)], [.int ((nI u.2.2.2.1) + (Int32.ofInt 1)), .ref Y], me_w M (nt_u J4 (Rw 12) (nI u.2.2.2.1).toNatClampNeg (a4)))) rfl k
          rw [show ((nI u.2.2.2.1) + (Int32.ofInt 1) : Int32) = nI (u.2.2.2.1 + 1) from me_add (k := 1)] at k
          have k := me_put rfl (by decide) k
          have k : nt_rn X _ 100 (113, [(1, .int (a2)), (0, .ref Yr)], [], me_w M (nt_u (nt_u J4 (Rw 12) (nI u.2.2.2.1).toNatClampNeg (a4)) Y 3 (nI (u.2.2.2.1 + 1)))) _ := k
          have hS5 := yc_S3 (y := u.2.2.2.1 + 1) hP hS4
          have k := lz_rv rfl rfl k
          exact ⟨.inr q4, _, k, ⟨_, hv1, Or.inr ⟨_, _, rfl, ⟨_, hv2, Or.inr ⟨_, _, rfl, ⟨_, hv3, Or.inr ⟨_, _, rfl, ⟨_, hv4, Or.inr ⟨_, _, rfl, rfl⟩⟩⟩⟩⟩⟩⟩⟩, Or.inr ⟨_, _, rfl, hq4, ⟨_, _, _, _, _, _, _, hv1, hv2, hv3, hv4, rfl⟩, hS5⟩⟩
theorem yc_shF {X : nt_X} {d t Rd Tp By RR Sp Yr Y m0 s0 : Nat} {Rw : Nat → Nat} {f : Nat → Int32} {M : nt_M} {o : Option Value × nt_M} {fa : Int32} (hP : yc_P M t Rd Tp By RR Sp Yr Y Rw) (hfa : ¬ fa = 0) : ∀ (c i : Nat) (u : Nat × Nat × Nat × Nat × Nat) (C : lb_C) (J : Nat → Nat → Int32), i + c = u.1 → u.1 ≤ 4 → u.2.1 ≤ 6 → yc_S Rw C f t Rd Tp By RR Y m0 s0 t fa u J → nt_rn X d 98 (2, [(1, .int (nI i)), (0, .ref Yr)], [], me_w M J) o → ∃ J' u' D, o = (none, me_w M J') ∧ yc_S Rw D f t Rd Tp By RR Y m0 s0 t fa (u') (J') := by
  have t4 : t ≤ 400 := hP.2.2.2.2.2.1
  intro c
  induction c with
  | zero =>
    intro i u C J hc hk hk2 hS k
    have k := ly_revb 2 (c' := (4, [(1, .int (nI i)), (0, .ref Yr)], [.ref Yr, .int (nI i)], me_w M J)) rfl k
    have k := lz_get (a := Yr) (g := 901) (M := me_w M J) (v := .ref Y) rfl (nt_gfR rfl hP.2.2.1.2) k
    have k := lz_get (a := Y) (g := 800) (M := me_w M J) (v := .int (nI u.1)) rfl (congrArg Value.int (hS.2.2.1.1)) k
    have k := ly_revb 1 (c' := (if (nI u.1) ≤ (nI i) then 44 else 13, [(1, .int (nI i)), (0, .ref Yr)], [], me_w M J)) rfl k
    rw [if_pos (show (nI u.1) ≤ (nI i) from nI_le (by omega) (by omega))] at k
    have k := ly_revb 1 (c' := (45, [(1, .int (nI i)), (0, .ref Yr)], [.ref Yr], me_w M J)) rfl k
    have k := lz_get (a := Yr) (g := 901) (M := me_w M J) (v := .ref Y) rfl (nt_gfR rfl hP.2.2.1.2) k
    have k := ly_revb 1 (c' := (49, [(1, .int (nI i)), (0, .ref Yr)], [.ref Y, .ref Y], me_w M J)) rfl k
    have k := lz_get (a := Y) (g := 801) (M := me_w M J) (v := .int (nI u.2.1)) rfl (congrArg Value.int (hS.2.2.1.2.1)) k
    have k := ly_revb 2 (c' := (54, [(1, .int (nI i)), (0, .ref Yr)], [.int ((nI u.2.1) + (Int32.ofInt 1)), .ref Y], me_w M J)) rfl k
    rw [show ((nI u.2.1) + (Int32.ofInt 1) : Int32) = nI (u.2.1 + 1) from me_add (k := 1)] at k
    have k := me_put rfl (by decide) k
    have k : nt_rn X _ 98 (57, [(1, .int (nI i)), (0, .ref Yr)], [], me_w M (nt_u J Y 1 (nI (u.2.1 + 1)))) _ := k
    have hS1 := yc_S1 (y := u.2.1 + 1) hP hS
    have k := lz_rv rfl rfl k
    exact ⟨_, _, _, k, hS1⟩
  | succ c ih =>
    intro i u C J hc hk hk2 hS k
    have k := ly_revb 2 (c' := (4, [(1, .int (nI i)), (0, .ref Yr)], [.ref Yr, .int (nI i)], me_w M J)) rfl k
    have k := lz_get (a := Yr) (g := 901) (M := me_w M J) (v := .ref Y) rfl (nt_gfR rfl hP.2.2.1.2) k
    have k := lz_get (a := Y) (g := 800) (M := me_w M J) (v := .int (nI u.1)) rfl (congrArg Value.int (hS.2.2.1.1)) k
    have k := ly_revb 1 (c' := (if (nI u.1) ≤ (nI i) then 44 else 13, [(1, .int (nI i)), (0, .ref Yr)], [], me_w M J)) rfl k
    rw [if_neg (show ¬ ((nI u.1) ≤ (nI i)) from nI_ge (by omega) (by omega))] at k
    have k := ly_revb 1 (c' := (14, [(1, .int (nI i)), (0, .ref Yr)], [.ref Yr], me_w M J)) rfl k
    have k := lz_get (a := Yr) (g := 901) (M := me_w M J) (v := .ref Y) rfl (nt_gfR rfl hP.2.2.1.2) k
    have k := lz_get (a := Y) (g := 805) (M := me_w M J) (v := .ref (Rw 5)) rfl (nt_gfR rfl (hP.2.2.2.2.1 5 (by decide) (by decide)).1) k
    have k := ly_revb 1 (c' := (21, [(1, .int (nI i)), (0, .ref Yr)], [.ref Yr, .ref (Rw 5)], me_w M J)) rfl k
    have k := lz_get (a := Yr) (g := 901) (M := me_w M J) (v := .ref Y) rfl (nt_gfR rfl hP.2.2.1.2) k
    have k := lz_get (a := Y) (g := 801) (M := me_w M J) (v := .int (nI u.2.1)) rfl (congrArg Value.int (hS.2.2.1.2.1)) k
    have k := ly_revb 7 (c' := (34, [(1, .int (nI i)), (0, .ref Yr)], [.int (Int32.ofInt 5), .int (Int32.ofInt 0), .ref Yr, .int (((nI u.2.1) * (Int32.ofInt 4)) + (nI i)), .ref (Rw 5)], me_w M J)) rfl k
    obtain ⟨d1, o1, ed, kc, k⟩ := lz_c (g := 97) (q := 1) (vs := [.ref Yr, .int (Int32.ofInt 0), .int (Int32.ofInt 5)]) (rest := [.int (((nI u.2.1) * (Int32.ofInt 4)) + (nI i)), .ref (Rw 5)]) rfl rfl (by decide) (Or.inr (Or.inl ⟨_, rfl, rfl⟩)) rfl k
    obtain ⟨J1, e1, hT1⟩ := yc_numF hP hS hfa kc
    subst e1
    have k : nt_rn X _ 98 (37, [(1, .int (nI i)), (0, .ref Yr)], [.int (Int32.ofInt 0), .int (((nI u.2.1) * (Int32.ofInt 4)) + (nI i)), .ref (Rw 5)], me_w M J1) _ := k
    have k := me_iastx rfl k
    have hS1 := yc_Sr (i := 5) (j := (((nI u.2.1) * (Int32.ofInt 4)) + (nI i)).toNatClampNeg) (x := Int32.ofInt 0) hP hT1 (by decide) (by decide) (lb_ix4 hk2 (by omega))
    have k : nt_rn X _ 98 (38, [(1, .int (nI i)), (0, .ref Yr)], [], me_w M (nt_u J1 (Rw 5) (((nI u.2.1) * (Int32.ofInt 4)) + (nI i)).toNatClampNeg (Int32.ofInt 0))) _ := k
    have k := ly_revb 1 (c' := (41, [(1, .int ((nI i) + Int32.ofInt 1)), (0, .ref Yr)], [], me_w M (nt_u J1 (Rw 5) (((nI u.2.1) * (Int32.ofInt 4)) + (nI i)).toNatClampNeg (Int32.ofInt 0)))) rfl k
    rw [show ((nI i) + Int32.ofInt 1 : Int32) = nI (i + 1) from me_add (k := 1)] at k
    have k := ly_revb 1 (c' := (2, [(1, .int (nI (i + 1))), (0, .ref Yr)], [], me_w M (nt_u J1 (Rw 5) (((nI u.2.1) * (Int32.ofInt 4)) + (nI i)).toNatClampNeg (Int32.ofInt 0)))) rfl k
    exact ih (i + 1) u _ _ (by omega) hk hk2 hS1 k
theorem yc_shl {X : nt_X} {d t Rd Tp By RR Sp Yr Y m0 s0 : Nat} {Rw : Nat → Nat} {f : Nat → Int32} {M : nt_M} {o : Option Value × nt_M} (hP : yc_P M t Rd Tp By RR Sp Yr Y Rw) : ∀ (c i p : Nat) (u : Nat × Nat × Nat × Nat × Nat) (C : lb_C) (J : Nat → Nat → Int32), i + c = u.1 → u.1 ≤ 4 → u.2.1 ≤ 6 → p ≤ t → yc_S Rw C f t Rd Tp By RR Y m0 s0 p 0 u J → nt_rn X d 98 (2, [(1, .int (nI i)), (0, .ref Yr)], [], me_w M J) o → ∃ r J', o = (none, me_w M J') ∧ lb_sh f t c p r ∧ ((∃ c, r = .inl c ∧ c ≠ 0 ∧ ∃ u' D, yc_S Rw D f t Rd Tp By RR Y m0 s0 t c (u') (J')) ∨ ∃ q D, r = .inr q ∧ q ≤ t ∧ lb_shC f t u.2.1 c i p q C D ∧ yc_S Rw D f t Rd Tp By RR Y m0 s0 q 0 (u.1, u.2.1 + 1, u.2.2.1, u.2.2.2.1, u.2.2.2.2) (J')) := by
  have t4 : t ≤ 400 := hP.2.2.2.2.2.1
  intro c
  induction c with
  | zero =>
    intro i p u C J hc hk hk2 hp hS k
    have k := ly_revb 2 (c' := (4, [(1, .int (nI i)), (0, .ref Yr)], [.ref Yr, .int (nI i)], me_w M J)) rfl k
    have k := lz_get (a := Yr) (g := 901) (M := me_w M J) (v := .ref Y) rfl (nt_gfR rfl hP.2.2.1.2) k
    have k := lz_get (a := Y) (g := 800) (M := me_w M J) (v := .int (nI u.1)) rfl (congrArg Value.int (hS.2.2.1.1)) k
    have k := ly_revb 1 (c' := (if (nI u.1) ≤ (nI i) then 44 else 13, [(1, .int (nI i)), (0, .ref Yr)], [], me_w M J)) rfl k
    rw [if_pos (show (nI u.1) ≤ (nI i) from nI_le (by omega) (by omega))] at k
    have k := ly_revb 1 (c' := (45, [(1, .int (nI i)), (0, .ref Yr)], [.ref Yr], me_w M J)) rfl k
    have k := lz_get (a := Yr) (g := 901) (M := me_w M J) (v := .ref Y) rfl (nt_gfR rfl hP.2.2.1.2) k
    have k := ly_revb 1 (c' := (49, [(1, .int (nI i)), (0, .ref Yr)], [.ref Y, .ref Y], me_w M J)) rfl k
    have k := lz_get (a := Y) (g := 801) (M := me_w M J) (v := .int (nI u.2.1)) rfl (congrArg Value.int (hS.2.2.1.2.1)) k
    have k := ly_revb 2 (c' := (54, [(1, .int (nI i)), (0, .ref Yr)], [.int ((nI u.2.1) + (Int32.ofInt 1)), .ref Y], me_w M J)) rfl k
    rw [show ((nI u.2.1) + (Int32.ofInt 1) : Int32) = nI (u.2.1 + 1) from me_add (k := 1)] at k
    have k := me_put rfl (by decide) k
    have k : nt_rn X _ 98 (57, [(1, .int (nI i)), (0, .ref Yr)], [], me_w M (nt_u J Y 1 (nI (u.2.1 + 1)))) _ := k
    have hS1 := yc_S1 (y := u.2.1 + 1) hP hS
    have k := lz_rv rfl rfl k
    exact ⟨.inr p, _, k, rfl, Or.inr ⟨p, _, rfl, hp, ⟨rfl, rfl⟩, hS1⟩⟩
  | succ c ih =>
    intro i p u C J hc hk hk2 hp hS k
    have k := ly_revb 2 (c' := (4, [(1, .int (nI i)), (0, .ref Yr)], [.ref Yr, .int (nI i)], me_w M J)) rfl k
    have k := lz_get (a := Yr) (g := 901) (M := me_w M J) (v := .ref Y) rfl (nt_gfR rfl hP.2.2.1.2) k
    have k := lz_get (a := Y) (g := 800) (M := me_w M J) (v := .int (nI u.1)) rfl (congrArg Value.int (hS.2.2.1.1)) k
    have k := ly_revb 1 (c' := (if (nI u.1) ≤ (nI i) then 44 else 13, [(1, .int (nI i)), (0, .ref Yr)], [], me_w M J)) rfl k
    rw [if_neg (show ¬ ((nI u.1) ≤ (nI i)) from nI_ge (by omega) (by omega))] at k
    have k := ly_revb 1 (c' := (14, [(1, .int (nI i)), (0, .ref Yr)], [.ref Yr], me_w M J)) rfl k
    have k := lz_get (a := Yr) (g := 901) (M := me_w M J) (v := .ref Y) rfl (nt_gfR rfl hP.2.2.1.2) k
    have k := lz_get (a := Y) (g := 805) (M := me_w M J) (v := .ref (Rw 5)) rfl (nt_gfR rfl (hP.2.2.2.2.1 5 (by decide) (by decide)).1) k
    have k := ly_revb 1 (c' := (21, [(1, .int (nI i)), (0, .ref Yr)], [.ref Yr, .ref (Rw 5)], me_w M J)) rfl k
    have k := lz_get (a := Yr) (g := 901) (M := me_w M J) (v := .ref Y) rfl (nt_gfR rfl hP.2.2.1.2) k
    have k := lz_get (a := Y) (g := 801) (M := me_w M J) (v := .int (nI u.2.1)) rfl (congrArg Value.int (hS.2.2.1.2.1)) k
    have k := ly_revb 7 (c' := (34, [(1, .int (nI i)), (0, .ref Yr)], [.int (Int32.ofInt 5), .int (Int32.ofInt 0), .ref Yr, .int (((nI u.2.1) * (Int32.ofInt 4)) + (nI i)), .ref (Rw 5)], me_w M J)) rfl k
    obtain ⟨d1, o1, ed, kc, k⟩ := lz_c (g := 97) (q := 1) (vs := [.ref Yr, .int (Int32.ofInt 0), .int (Int32.ofInt 5)]) (rest := [.int (((nI u.2.1) * (Int32.ofInt 4)) + (nI i)), .ref (Rw 5)]) rfl rfl (by decide) (Or.inr (Or.inl ⟨_, rfl, rfl⟩)) rfl k
    obtain ⟨r1, a1, J1, e1, hv1, hN1⟩ := yc_num hP hS hp (by decide) kc
    subst e1
    rcases r1 with c1 | ⟨q1, x1⟩
    · obtain ⟨hc0, rfl, hT1⟩ := hN1
      have k : nt_rn X _ 98 (37, [(1, .int (nI i)), (0, .ref Yr)], [.int (Int32.ofInt 0), .int (((nI u.2.1) * (Int32.ofInt 4)) + (nI i)), .ref (Rw 5)], me_w M J1) _ := k
      have k := me_iastx rfl k
      have hS1 := yc_Sr (i := 5) (j := (((nI u.2.1) * (Int32.ofInt 4)) + (nI i)).toNatClampNeg) (x := Int32.ofInt 0) hP hT1 (by decide) (by decide) (lb_ix4 hk2 (by omega))
      have k : nt_rn X _ 98 (38, [(1, .int (nI i)), (0, .ref Yr)], [], me_w M (nt_u J1 (Rw 5) (((nI u.2.1) * (Int32.ofInt 4)) + (nI i)).toNatClampNeg (Int32.ofInt 0))) _ := k
      have k := ly_revb 1 (c' := (41, [(1, .int ((nI i) + Int32.ofInt 1)), (0, .ref Yr)], [], me_w M (nt_u J1 (Rw 5) (((nI u.2.1) * (Int32.ofInt 4)) + (nI i)).toNatClampNeg (Int32.ofInt 0)))) rfl k
      rw [show ((nI i) + Int32.ofInt 1 : Int32) = nI (i + 1) from me_add (k := 1)] at k
      have k := ly_revb 1 (c' := (2, [(1, .int (nI (i + 1))), (0, .ref Yr)], [], me_w M (nt_u J1 (Rw 5) (((nI u.2.1) * (Int32.ofInt 4)) + (nI i)).toNatClampNeg (Int32.ofInt 0)))) rfl k
      obtain ⟨J', u', D, e9, h9⟩ := yc_shF hP hc0 c (i + 1) u _ _ (by omega) hk hk2 hS1 k
      exact ⟨.inl c1, J', e9, ⟨_, hv1, Or.inl ⟨c1, rfl, rfl⟩⟩, Or.inl ⟨c1, rfl, hc0, u', D, h9⟩⟩
    · obtain ⟨ea, hq1, hT1⟩ := hN1
      dsimp only at ea hq1 hT1
      subst ea
      have hu1 := lb_nu_up hp hv1
      have k : nt_rn X _ 98 (37, [(1, .int (nI i)), (0, .ref Yr)], [.int (a1), .int (((nI u.2.1) * (Int32.ofInt 4)) + (nI i)), .ref (Rw 5)], me_w M J1) _ := k
      have k := me_iastx rfl k
      have hS1 := yc_Sr (i := 5) (j := (((nI u.2.1) * (Int32.ofInt 4)) + (nI i)).toNatClampNeg) (x := a1) hP hT1 (by decide) (by decide) (lb_ix4 hk2 (by omega))
      have k : nt_rn X _ 98 (38, [(1, .int (nI i)), (0, .ref Yr)], [], me_w M (nt_u J1 (Rw 5) (((nI u.2.1) * (Int32.ofInt 4)) + (nI i)).toNatClampNeg (a1))) _ := k
      have k := ly_revb 1 (c' := (41, [(1, .int ((nI i) + Int32.ofInt 1)), (0, .ref Yr)], [], me_w M (nt_u J1 (Rw 5) (((nI u.2.1) * (Int32.ofInt 4)) + (nI i)).toNatClampNeg (a1)))) rfl k
      rw [show ((nI i) + Int32.ofInt 1 : Int32) = nI (i + 1) from me_add (k := 1)] at k
      have k := ly_revb 1 (c' := (2, [(1, .int (nI (i + 1))), (0, .ref Yr)], [], me_w M (nt_u J1 (Rw 5) (((nI u.2.1) * (Int32.ofInt 4)) + (nI i)).toNatClampNeg (a1)))) rfl k
      obtain ⟨r, J', e9, hs, hr⟩ := ih (i + 1) q1 u _ _ (by omega) hk hk2 hq1 hS1 k
      exact ⟨r, J', e9, ⟨_, hv1, Or.inr ⟨_, _, rfl, hs⟩⟩, hr.imp id (fun ⟨q, D, e1, e2, e3, e4⟩ => ⟨q, D, e1, e2, ⟨_, _, hv1, e3⟩, e4⟩)⟩
theorem yc_ship {X : nt_X} {d t Rd Tp By RR Sp Yr Y m0 s0 : Nat} {Rw : Nat → Nat} {f : Nat → Int32} {M : nt_M} {o : Option Value × nt_M} {C : lb_C} {p : Nat} {u : Nat × Nat × Nat × Nat × Nat} {J : Nat → Nat → Int32} (hP : yc_P M t Rd Tp By RR Sp Yr Y Rw) (hS : yc_S Rw C f t Rd Tp By RR Y m0 s0 p 0 u J) (hk : u.1 ≤ 4) (hk2 : u.2.1 ≤ 6) (hp : p ≤ t) (k : nt_ev X d 98 [.ref Yr] (me_w M J) o) : ∃ r J', o = (none, me_w M J') ∧ lb_sh f t u.1 p r ∧ ((∃ c, r = .inl c ∧ c ≠ 0 ∧ ∃ u' D, yc_S Rw D f t Rd Tp By RR Y m0 s0 t c (u') (J')) ∨ ∃ q D, r = .inr q ∧ q ≤ t ∧ lb_shC f t u.2.1 u.1 0 p q C D ∧ yc_S Rw D f t Rd Tp By RR Y m0 s0 q 0 (u.1, u.2.1 + 1, u.2.2.1, u.2.2.2.1, u.2.2.2.2) (J')) := by
  have k : nt_rn X d 98 (0, [(0, .ref Yr)], [], me_w M J) o := k
  have t4 : t ≤ 400 := hP.2.2.2.2.2.1
  have k := ly_revb 2 (c' := (2, [(1, .int (Int32.ofInt 0)), (0, .ref Yr)], [], me_w M J)) rfl k
  exact yc_shl hP u.1 0 p u C J (by omega) hk hk2 hp hS k
end
section
/-! the class reads a yard's clauses -/
def lb_ub (u : Nat × Nat × Nat × Nat × Nat) : Prop := u.1 ≤ 4 ∧ u.2.1 ≤ 6 ∧ u.2.2.1 ≤ 24 ∧ u.2.2.2.1 ≤ 8 ∧ u.2.2.2.2 ≤ 30
def yc_Q (Rw : Nat → Nat) (P : lb_U → lb_C → Prop) (f : Nat → Int32) (t Rd Tp By RR Y m0 s0 : Nat) (r : Int32 ⊕ lb_U) (J : Nat → Nat → Int32) : Prop := match r with
  | .inl c => c ≠ 0 ∧ ∃ u' D, yc_S Rw D f t Rd Tp By RR Y m0 s0 t c u' J
  | .inr u => u.1 ≤ t ∧ lb_ub u.2 ∧ ∃ D, P u D ∧ yc_S Rw D f t Rd Tp By RR Y m0 s0 u.1 0 u.2 J
theorem yc_Qm {Rw : Nat → Nat} {P P' : lb_U → lb_C → Prop} {f : Nat → Int32} {t Rd Tp By RR Y m0 s0 : Nat} {r : Int32 ⊕ lb_U} {J : Nat → Nat → Int32} (h : ∀ u D, P u D → P' u D) (hQ : yc_Q Rw P f t Rd Tp By RR Y m0 s0 r J) : yc_Q Rw P' f t Rd Tp By RR Y m0 s0 r J := by
  rcases r with c | u
  · exact hQ
  · obtain ⟨h1, h2, D, h3, h4⟩ := hQ
    exact ⟨h1, h2, D, h _ _ h3, h4⟩
theorem yc_nn {x : Int32} {b : Nat} (hb : b < 1000) (h0 : (Int32.ofInt 1).toInt ≤ x.toInt) (h1 : x.toInt ≤ (nI b).toInt) : x = nI x.toInt.toNat ∧ x.toInt.toNat ≤ b := by
  rw [nI_toInt (by omega)] at h1
  have e1 : (Int32.ofInt 1).toInt = 1 := by decide
  rw [e1] at h0
  exact ⟨Int32.toInt_inj.mp (by rw [nI_toInt (by omega)]; omega), by omega⟩
theorem yc_pa0 {X : nt_X} {d t Rd Tp By RR Sp Yr Y m0 s0 : Nat} {Rw : Nat → Nat} {f : Nat → Int32} {M : nt_M} {o : Option Value × nt_M} {C : lb_C} {p : Nat} {u : Nat × Nat × Nat × Nat × Nat} {J : Nat → Nat → Int32} (hP : yc_P M t Rd Tp By RR Sp Yr Y Rw) (hS : yc_S Rw C f t Rd Tp By RR Y m0 s0 p 0 u J) (hp : p ≤ t) (hb : lb_ub u) (hat : lb_yw f t p 0) (hfu : ¬ lb_fu (p, u) 0) (k : nt_ev X d 96 [.ref Yr, .int (nI 0)] (me_w M J) o) : ∃ r J', o = (none, me_w M J') ∧ lb_pa f t (p, u) (lb_s f t (p + (lb_W (nt_sp + 1 + 0)).length)) 0 r ∧ yc_Q Rw (fun v D => lb_paC f t u (lb_s f t (p + (lb_W (nt_sp + 1 + 0)).length)) v.1 0 C D) f t Rd Tp By RR Y m0 s0 r J' := by
  have k : nt_rn X d 96 (0, [(0, .ref Yr), (1, .int (nI 0))], [], me_w M J) o := k
  have t4 : t ≤ 400 := hP.2.2.2.2.2.1
  have k := ly_revb 2 (c' := (32, [(0, .ref Yr), (1, .int (nI 0))], [], me_w M J)) rfl k
  have k := ly_revb 1 (c' := (33, [(0, .ref Yr), (1, .int (nI 0))], [.ref Yr], me_w M J)) rfl k
  have k := lz_get (a := Yr) (g := 900) (M := me_w M J) (v := .ref Rd) rfl (nt_gfR rfl hP.2.2.1.1) k
  have k := ly_revb 1 (c' := (38, [(0, .ref Yr), (1, .int (nI 0))], [.ref (nt_sp + 1 + 0), .ref Rd], me_w M J)) rfl k
  obtain ⟨d1, o1, ed, kc, k⟩ := lz_c (g := 32) (q := 1) (vs := [.ref Rd, .ref (nt_sp + 1 + 0)]) (rest := []) rfl rfl (by decide) (Or.inr (Or.inl ⟨_, rfl, rfl⟩)) rfl k
  obtain ⟨_, e1⟩ := (lc_takesWord (yc_lP hP hS) (yc_lS hP hS) hp kc).resolve_right (fun c => c.1 hat)
  subst e1
  have hS1 := yc_Sp (q := lb_s f t (p + (lb_W (nt_sp + 1 + 0)).length)) hP hS
  have hq0 : lb_s f t (p + (lb_W (nt_sp + 1 + 0)).length) ≤ t := (lb_s_le (t - (p + (lb_W (nt_sp + 1 + 0)).length)) (p + (lb_W (nt_sp + 1 + 0)).length) (by have := hat.1; omega)).2
  have k : nt_rn X _ 96 (41, [(0, .ref Yr), (1, .int (nI 0))], [.int (Int32.ofInt 1)], me_w M (nt_u J Rd 1 (nI (lb_s f t (p + (lb_W (nt_sp + 1 + 0)).length))))) _ := k
  have k := ly_revb 2 (c' := (43, [(0, .ref Yr), (1, .int (nI 0))], [.ref Yr], me_w M (nt_u J Rd 1 (nI (lb_s f t (p + (lb_W (nt_sp + 1 + 0)).length)))))) rfl k
  have k := lz_get (a := Yr) (g := 901) (M := me_w M (nt_u J Rd 1 (nI (lb_s f t (p + (lb_W (nt_sp + 1 + 0)).length))))) (v := .ref Y) rfl (nt_gfR rfl hP.2.2.1.2) k
  have k := ly_revb 3 (c' := (49, [(0, .ref Yr), (1, .int (nI 0))], [.int (Int32.ofInt 4), .int (Int32.ofInt 1), .ref Yr, .ref Y], me_w M (nt_u J Rd 1 (nI (lb_s f t (p + (lb_W (nt_sp + 1 + 0)).length)))))) rfl k
  obtain ⟨d1, o1, ed, kc, k⟩ := lz_c (g := 97) (q := 1) (vs := [.ref Yr, .int (Int32.ofInt 1), .int (Int32.ofInt 4)]) (rest := [.ref Y]) rfl rfl (by decide) (Or.inr (Or.inl ⟨_, rfl, rfl⟩)) rfl k
  obtain ⟨r1, a1, J1, e1, hv1, hN1⟩ := yc_num hP hS1 hq0 (by decide) kc
  subst e1
  rcases r1 with c | ⟨q1, x1⟩
  · obtain ⟨hc, rfl, hT1⟩ := hN1
    have k : nt_rn X _ 96 (52, [(0, .ref Yr), (1, .int (nI 0))], [.int (Int32.ofInt 0), .ref Y], me_w M J1) _ := k
    have k := me_put rfl (by decide) k
    have k : nt_rn X _ 96 (55, [(0, .ref Yr), (1, .int (nI 0))], [], me_w M (nt_u J1 Y 0 (Int32.ofInt 0))) _ := k
    have hS2 : yc_S Rw C f t Rd Tp By RR Y m0 s0 t c (0, u.2.1, u.2.2.1, u.2.2.2.1, u.2.2.2.2) (nt_u J1 Y 0 (Int32.ofInt 0)) := yc_S0 (y := 0) hP hT1
    have k := ly_revb 1 (c' := (133, [(0, .ref Yr), (1, .int (nI 0))], [], me_w M (nt_u J1 Y 0 (Int32.ofInt 0)))) rfl k
    have k := lz_rv rfl rfl k
    exact ⟨.inl c, _, k, ⟨_, hv1, Or.inl ⟨c, rfl, rfl⟩⟩, hc, _, _, hS2⟩
  · obtain ⟨ea, hq1, hT1⟩ := hN1
    dsimp only at ea hq1 hT1
    subst ea
    have hu1 := lb_nu_up hq0 hv1
    have k : nt_rn X _ 96 (52, [(0, .ref Yr), (1, .int (nI 0))], [.int (a1), .ref Y], me_w M J1) _ := k
    have k := me_put rfl (by decide) k
    have k : nt_rn X _ 96 (55, [(0, .ref Yr), (1, .int (nI 0))], [], me_w M (nt_u J1 Y 0 (a1))) _ := k
    obtain ⟨ex, hx⟩ := yc_nn (b := 4) (by decide) hu1.2.1 hu1.2.2
    have hS2 := yc_S0 (y := a1.toInt.toNat) hP hT1
    rw [← ex] at hS2
    have k := ly_revb 1 (c' := (133, [(0, .ref Yr), (1, .int (nI 0))], [], me_w M (nt_u J1 Y 0 (a1)))) rfl k
    have k := lz_rv rfl rfl k
    obtain ⟨b1, b2, b3, b4, b5⟩ := hb
    exact ⟨.inr (q1, a1.toInt.toNat, u.2.1, u.2.2.1, u.2.2.2.1, u.2.2.2.2), _, k, ⟨_, hv1, Or.inr ⟨_, _, rfl, rfl⟩⟩, hq1, ⟨hx, b2, b3, b4, b5⟩, _, rfl, hS2⟩
theorem yc_pa1 {X : nt_X} {d t Rd Tp By RR Sp Yr Y m0 s0 : Nat} {Rw : Nat → Nat} {f : Nat → Int32} {M : nt_M} {o : Option Value × nt_M} {C : lb_C} {p : Nat} {u : Nat × Nat × Nat × Nat × Nat} {J : Nat → Nat → Int32} (hP : yc_P M t Rd Tp By RR Sp Yr Y Rw) (hS : yc_S Rw C f t Rd Tp By RR Y m0 s0 p 0 u J) (hp : p ≤ t) (hb : lb_ub u) (hat : lb_yw f t p 1) (hfu : ¬ lb_fu (p, u) 1) (k : nt_ev X d 96 [.ref Yr, .int (nI 1)] (me_w M J) o) : ∃ r J', o = (none, me_w M J') ∧ lb_pa f t (p, u) (lb_s f t (p + (lb_W (nt_sp + 1 + 1)).length)) 1 r ∧ yc_Q Rw (fun v D => lb_paC f t u (lb_s f t (p + (lb_W (nt_sp + 1 + 1)).length)) v.1 1 C D) f t Rd Tp By RR Y m0 s0 r J' := by
  have k : nt_rn X d 96 (0, [(0, .ref Yr), (1, .int (nI 1))], [], me_w M J) o := k
  have t4 : t ≤ 400 := hP.2.2.2.2.2.1
  have k := ly_revb 2 (c' := (58, [(0, .ref Yr), (1, .int (nI 1))], [], me_w M J)) rfl k
  have k := ly_revb 1 (c' := (59, [(0, .ref Yr), (1, .int (nI 1))], [.ref Yr], me_w M J)) rfl k
  have k := lz_get (a := Yr) (g := 900) (M := me_w M J) (v := .ref Rd) rfl (nt_gfR rfl hP.2.2.1.1) k
  have k := ly_revb 1 (c' := (64, [(0, .ref Yr), (1, .int (nI 1))], [.ref (nt_sp + 1 + 1), .ref Rd], me_w M J)) rfl k
  obtain ⟨d1, o1, ed, kc, k⟩ := lz_c (g := 32) (q := 1) (vs := [.ref Rd, .ref (nt_sp + 1 + 1)]) (rest := []) rfl rfl (by decide) (Or.inr (Or.inl ⟨_, rfl, rfl⟩)) rfl k
  obtain ⟨_, e1⟩ := (lc_takesWord (yc_lP hP hS) (yc_lS hP hS) hp kc).resolve_right (fun c => c.1 hat)
  subst e1
  have hS1 := yc_Sp (q := lb_s f t (p + (lb_W (nt_sp + 1 + 1)).length)) hP hS
  have hq0 : lb_s f t (p + (lb_W (nt_sp + 1 + 1)).length) ≤ t := (lb_s_le (t - (p + (lb_W (nt_sp + 1 + 1)).length)) (p + (lb_W (nt_sp + 1 + 1)).length) (by have := hat.1; omega)).2
  have k : nt_rn X _ 96 (67, [(0, .ref Yr), (1, .int (nI 1))], [.int (Int32.ofInt 1)], me_w M (nt_u J Rd 1 (nI (lb_s f t (p + (lb_W (nt_sp + 1 + 1)).length))))) _ := k
  have k := ly_revb 2 (c' := (69, [(0, .ref Yr), (1, .int (nI 1))], [.ref Yr], me_w M (nt_u J Rd 1 (nI (lb_s f t (p + (lb_W (nt_sp + 1 + 1)).length)))))) rfl k
  obtain ⟨d1, o1, ed, kc, k⟩ := lz_c (g := 98) (q := 1) (vs := [.ref Yr]) (rest := []) rfl rfl (by decide) (Or.inr (Or.inl ⟨_, rfl, rfl⟩)) rfl k
  obtain ⟨r1, J9, e1, hsp, hr⟩ := yc_ship hP hS1 hb.1 hb.2.1 hq0 kc
  subst e1
  have k : nt_rn X _ 96 (72, [(0, .ref Yr), (1, .int (nI 1))], [], me_w M J9) _ := k
  have k := ly_revb 1 (c' := (133, [(0, .ref Yr), (1, .int (nI 1))], [], me_w M J9)) rfl k
  have k := lz_rv rfl rfl k
  rcases hr with ⟨c, rfl, hc, u1, D, h9⟩ | ⟨q, D, rfl, hq, hC, h9⟩
  · exact ⟨.inl c, _, k, ⟨_, hsp, Or.inl ⟨c, rfl, rfl⟩⟩, hc, u1, D, h9⟩
  · refine ⟨.inr (q, u.1, u.2.1 + 1, u.2.2.1, u.2.2.2.1, u.2.2.2.2), _, k, ⟨_, hsp, Or.inr ⟨q, rfl, rfl⟩⟩, hq, ?_, D, hC, h9⟩
    obtain ⟨b1, b2, b3, b4, b5⟩ := hb
    have hf : ¬ 6 ≤ u.2.1 := hfu
    exact ⟨b1, by dsimp only; omega, b3, b4, b5⟩
theorem yc_pa2 {X : nt_X} {d t Rd Tp By RR Sp Yr Y m0 s0 : Nat} {Rw : Nat → Nat} {f : Nat → Int32} {M : nt_M} {o : Option Value × nt_M} {C : lb_C} {p : Nat} {u : Nat × Nat × Nat × Nat × Nat} {J : Nat → Nat → Int32} (hP : yc_P M t Rd Tp By RR Sp Yr Y Rw) (hS : yc_S Rw C f t Rd Tp By RR Y m0 s0 p 0 u J) (hp : p ≤ t) (hb : lb_ub u) (hat : lb_yw f t p 2) (hfu : ¬ lb_fu (p, u) 2) (k : nt_ev X d 96 [.ref Yr, .int (nI 2)] (me_w M J) o) : ∃ r J', o = (none, me_w M J') ∧ lb_pa f t (p, u) (lb_s f t (p + (lb_W (nt_sp + 1 + 2)).length)) 2 r ∧ yc_Q Rw (fun v D => lb_paC f t u (lb_s f t (p + (lb_W (nt_sp + 1 + 2)).length)) v.1 2 C D) f t Rd Tp By RR Y m0 s0 r J' := by
  have k : nt_rn X d 96 (0, [(0, .ref Yr), (1, .int (nI 2))], [], me_w M J) o := k
  have t4 : t ≤ 400 := hP.2.2.2.2.2.1
  have k := ly_revb 2 (c' := (75, [(0, .ref Yr), (1, .int (nI 2))], [], me_w M J)) rfl k
  have k := ly_revb 1 (c' := (76, [(0, .ref Yr), (1, .int (nI 2))], [.ref Yr], me_w M J)) rfl k
  have k := lz_get (a := Yr) (g := 900) (M := me_w M J) (v := .ref Rd) rfl (nt_gfR rfl hP.2.2.1.1) k
  have k := ly_revb 1 (c' := (81, [(0, .ref Yr), (1, .int (nI 2))], [.ref (nt_sp + 1 + 2), .ref Rd], me_w M J)) rfl k
  obtain ⟨d1, o1, ed, kc, k⟩ := lz_c (g := 32) (q := 1) (vs := [.ref Rd, .ref (nt_sp + 1 + 2)]) (rest := []) rfl rfl (by decide) (Or.inr (Or.inl ⟨_, rfl, rfl⟩)) rfl k
  obtain ⟨_, e1⟩ := (lc_takesWord (yc_lP hP hS) (yc_lS hP hS) hp kc).resolve_right (fun c => c.1 hat)
  subst e1
  have hS1 := yc_Sp (q := lb_s f t (p + (lb_W (nt_sp + 1 + 2)).length)) hP hS
  have hq0 : lb_s f t (p + (lb_W (nt_sp + 1 + 2)).length) ≤ t := (lb_s_le (t - (p + (lb_W (nt_sp + 1 + 2)).length)) (p + (lb_W (nt_sp + 1 + 2)).length) (by have := hat.1; omega)).2
  have k : nt_rn X _ 96 (84, [(0, .ref Yr), (1, .int (nI 2))], [.int (Int32.ofInt 1)], me_w M (nt_u J Rd 1 (nI (lb_s f t (p + (lb_W (nt_sp + 1 + 2)).length))))) _ := k
  have k := ly_revb 2 (c' := (86, [(0, .ref Yr), (1, .int (nI 2))], [.ref Yr], me_w M (nt_u J Rd 1 (nI (lb_s f t (p + (lb_W (nt_sp + 1 + 2)).length)))))) rfl k
  obtain ⟨d1, o1, ed, kc, k⟩ := lz_c (g := 99) (q := 1) (vs := [.ref Yr]) (rest := []) rfl rfl (by decide) (Or.inr (Or.inl ⟨_, rfl, rfl⟩)) rfl k
  obtain ⟨r1, J9, e1, hsp, hr⟩ := yc_plank hP hS1 (by have := hb.2.2.1; omega) hq0 kc
  subst e1
  have k : nt_rn X _ 96 (89, [(0, .ref Yr), (1, .int (nI 2))], [], me_w M J9) _ := k
  have k := ly_revb 1 (c' := (133, [(0, .ref Yr), (1, .int (nI 2))], [], me_w M J9)) rfl k
  have k := lz_rv rfl rfl k
  rcases hr with ⟨c, rfl, hc, u1, D, h9⟩ | ⟨q, D, rfl, hq, hC, h9⟩
  · exact ⟨.inl c, _, k, ⟨_, hsp, Or.inl ⟨c, rfl, rfl⟩⟩, hc, u1, D, h9⟩
  · refine ⟨.inr (q, u.1, u.2.1, u.2.2.1 + 1, u.2.2.2.1, u.2.2.2.2), _, k, ⟨_, hsp, Or.inr ⟨q, rfl, rfl⟩⟩, hq, ?_, D, hC, h9⟩
    obtain ⟨b1, b2, b3, b4, b5⟩ := hb
    have hf : ¬ 24 ≤ u.2.2.1 := hfu
    exact ⟨b1, b2, by dsimp only; omega, b4, b5⟩
theorem yc_pa3 {X : nt_X} {d t Rd Tp By RR Sp Yr Y m0 s0 : Nat} {Rw : Nat → Nat} {f : Nat → Int32} {M : nt_M} {o : Option Value × nt_M} {C : lb_C} {p : Nat} {u : Nat × Nat × Nat × Nat × Nat} {J : Nat → Nat → Int32} (hP : yc_P M t Rd Tp By RR Sp Yr Y Rw) (hS : yc_S Rw C f t Rd Tp By RR Y m0 s0 p 0 u J) (hp : p ≤ t) (hb : lb_ub u) (hat : lb_yw f t p 3) (hfu : ¬ lb_fu (p, u) 3) (k : nt_ev X d 96 [.ref Yr, .int (nI 3)] (me_w M J) o) : ∃ r J', o = (none, me_w M J') ∧ lb_pa f t (p, u) (lb_s f t (p + (lb_W (nt_sp + 1 + 3)).length)) 3 r ∧ yc_Q Rw (fun v D => lb_paC f t u (lb_s f t (p + (lb_W (nt_sp + 1 + 3)).length)) v.1 3 C D) f t Rd Tp By RR Y m0 s0 r J' := by
  have k : nt_rn X d 96 (0, [(0, .ref Yr), (1, .int (nI 3))], [], me_w M J) o := k
  have t4 : t ≤ 400 := hP.2.2.2.2.2.1
  have k := ly_revb 2 (c' := (92, [(0, .ref Yr), (1, .int (nI 3))], [], me_w M J)) rfl k
  have k := ly_revb 1 (c' := (93, [(0, .ref Yr), (1, .int (nI 3))], [.ref Yr], me_w M J)) rfl k
  have k := lz_get (a := Yr) (g := 900) (M := me_w M J) (v := .ref Rd) rfl (nt_gfR rfl hP.2.2.1.1) k
  have k := ly_revb 1 (c' := (98, [(0, .ref Yr), (1, .int (nI 3))], [.ref (nt_sp + 1 + 3), .ref Rd], me_w M J)) rfl k
  obtain ⟨d1, o1, ed, kc, k⟩ := lz_c (g := 32) (q := 1) (vs := [.ref Rd, .ref (nt_sp + 1 + 3)]) (rest := []) rfl rfl (by decide) (Or.inr (Or.inl ⟨_, rfl, rfl⟩)) rfl k
  obtain ⟨_, e1⟩ := (lc_takesWord (yc_lP hP hS) (yc_lS hP hS) hp kc).resolve_right (fun c => c.1 hat)
  subst e1
  have hS1 := yc_Sp (q := lb_s f t (p + (lb_W (nt_sp + 1 + 3)).length)) hP hS
  have hq0 : lb_s f t (p + (lb_W (nt_sp + 1 + 3)).length) ≤ t := (lb_s_le (t - (p + (lb_W (nt_sp + 1 + 3)).length)) (p + (lb_W (nt_sp + 1 + 3)).length) (by have := hat.1; omega)).2
  have k : nt_rn X _ 96 (101, [(0, .ref Yr), (1, .int (nI 3))], [.int (Int32.ofInt 1)], me_w M (nt_u J Rd 1 (nI (lb_s f t (p + (lb_W (nt_sp + 1 + 3)).length))))) _ := k
  have k := ly_revb 2 (c' := (103, [(0, .ref Yr), (1, .int (nI 3))], [.ref Yr], me_w M (nt_u J Rd 1 (nI (lb_s f t (p + (lb_W (nt_sp + 1 + 3)).length)))))) rfl k
  obtain ⟨d1, o1, ed, kc, k⟩ := lz_c (g := 100) (q := 1) (vs := [.ref Yr]) (rest := []) rfl rfl (by decide) (Or.inr (Or.inl ⟨_, rfl, rfl⟩)) rfl k
  obtain ⟨r1, J9, e1, hsp, hr⟩ := yc_voyage hP hS1 (by have := hb.2.2.2.1; omega) hq0 kc
  subst e1
  have k : nt_rn X _ 96 (106, [(0, .ref Yr), (1, .int (nI 3))], [], me_w M J9) _ := k
  have k := ly_revb 1 (c' := (133, [(0, .ref Yr), (1, .int (nI 3))], [], me_w M J9)) rfl k
  have k := lz_rv rfl rfl k
  rcases hr with ⟨c, rfl, hc, u1, D, h9⟩ | ⟨q, D, rfl, hq, hC, h9⟩
  · exact ⟨.inl c, _, k, ⟨_, hsp, Or.inl ⟨c, rfl, rfl⟩⟩, hc, u1, D, h9⟩
  · refine ⟨.inr (q, u.1, u.2.1, u.2.2.1, u.2.2.2.1 + 1, u.2.2.2.2), _, k, ⟨_, hsp, Or.inr ⟨q, rfl, rfl⟩⟩, hq, ?_, D, hC, h9⟩
    obtain ⟨b1, b2, b3, b4, b5⟩ := hb
    have hf : ¬ 8 ≤ u.2.2.2.1 := hfu
    exact ⟨b1, b2, b3, by dsimp only; omega, b5⟩
theorem yc_pa4 {X : nt_X} {d t Rd Tp By RR Sp Yr Y m0 s0 : Nat} {Rw : Nat → Nat} {f : Nat → Int32} {M : nt_M} {o : Option Value × nt_M} {C : lb_C} {p : Nat} {u : Nat × Nat × Nat × Nat × Nat} {J : Nat → Nat → Int32} (hP : yc_P M t Rd Tp By RR Sp Yr Y Rw) (hS : yc_S Rw C f t Rd Tp By RR Y m0 s0 p 0 u J) (hp : p ≤ t) (hb : lb_ub u) (hat : lb_yw f t p 4) (hfu : ¬ lb_fu (p, u) 4) (k : nt_ev X d 96 [.ref Yr, .int (nI 4)] (me_w M J) o) : ∃ r J', o = (none, me_w M J') ∧ lb_pa f t (p, u) (lb_s f t (p + (lb_W (nt_sp + 1 + 4)).length)) 4 r ∧ yc_Q Rw (fun v D => lb_paC f t u (lb_s f t (p + (lb_W (nt_sp + 1 + 4)).length)) v.1 4 C D) f t Rd Tp By RR Y m0 s0 r J' := by
  have k : nt_rn X d 96 (0, [(0, .ref Yr), (1, .int (nI 4))], [], me_w M J) o := k
  have t4 : t ≤ 400 := hP.2.2.2.2.2.1
  have k := ly_revb 2 (c' := (109, [(0, .ref Yr), (1, .int (nI 4))], [], me_w M J)) rfl k
  have k := ly_revb 1 (c' := (110, [(0, .ref Yr), (1, .int (nI 4))], [.ref Yr], me_w M J)) rfl k
  have k := lz_get (a := Yr) (g := 900) (M := me_w M J) (v := .ref Rd) rfl (nt_gfR rfl hP.2.2.1.1) k
  have k := ly_revb 1 (c' := (115, [(0, .ref Yr), (1, .int (nI 4))], [.ref (nt_sp + 1 + 4), .ref Rd], me_w M J)) rfl k
  obtain ⟨d1, o1, ed, kc, k⟩ := lz_c (g := 32) (q := 1) (vs := [.ref Rd, .ref (nt_sp + 1 + 4)]) (rest := []) rfl rfl (by decide) (Or.inr (Or.inl ⟨_, rfl, rfl⟩)) rfl k
  obtain ⟨_, e1⟩ := (lc_takesWord (yc_lP hP hS) (yc_lS hP hS) hp kc).resolve_right (fun c => c.1 hat)
  subst e1
  have hS1 := yc_Sp (q := lb_s f t (p + (lb_W (nt_sp + 1 + 4)).length)) hP hS
  have hq0 : lb_s f t (p + (lb_W (nt_sp + 1 + 4)).length) ≤ t := (lb_s_le (t - (p + (lb_W (nt_sp + 1 + 4)).length)) (p + (lb_W (nt_sp + 1 + 4)).length) (by have := hat.1; omega)).2
  have k : nt_rn X _ 96 (118, [(0, .ref Yr), (1, .int (nI 4))], [.int (Int32.ofInt 1)], me_w M (nt_u J Rd 1 (nI (lb_s f t (p + (lb_W (nt_sp + 1 + 4)).length))))) _ := k
  have k := ly_revb 2 (c' := (120, [(0, .ref Yr), (1, .int (nI 4))], [.ref Yr], me_w M (nt_u J Rd 1 (nI (lb_s f t (p + (lb_W (nt_sp + 1 + 4)).length)))))) rfl k
  have k := lz_get (a := Yr) (g := 901) (M := me_w M (nt_u J Rd 1 (nI (lb_s f t (p + (lb_W (nt_sp + 1 + 4)).length))))) (v := .ref Y) rfl (nt_gfR rfl hP.2.2.1.2) k
  have k := ly_revb 3 (c' := (127, [(0, .ref Yr), (1, .int (nI 4))], [.int (Int32.ofInt 30), .int (Int32.ofInt 1), .ref Yr, .ref Y], me_w M (nt_u J Rd 1 (nI (lb_s f t (p + (lb_W (nt_sp + 1 + 4)).length)))))) rfl k
  obtain ⟨d1, o1, ed, kc, k⟩ := lz_c (g := 97) (q := 1) (vs := [.ref Yr, .int (Int32.ofInt 1), .int (Int32.ofInt 30)]) (rest := [.ref Y]) rfl rfl (by decide) (Or.inr (Or.inl ⟨_, rfl, rfl⟩)) rfl k
  obtain ⟨r1, a1, J1, e1, hv1, hN1⟩ := yc_num hP hS1 hq0 (by decide) kc
  subst e1
  rcases r1 with c | ⟨q1, x1⟩
  · obtain ⟨hc, rfl, hT1⟩ := hN1
    have k : nt_rn X _ 96 (130, [(0, .ref Yr), (1, .int (nI 4))], [.int (Int32.ofInt 0), .ref Y], me_w M J1) _ := k
    have k := me_put rfl (by decide) k
    have k : nt_rn X _ 96 (133, [(0, .ref Yr), (1, .int (nI 4))], [], me_w M (nt_u J1 Y 4 (Int32.ofInt 0))) _ := k
    have hS2 : yc_S Rw C f t Rd Tp By RR Y m0 s0 t c (u.1, u.2.1, u.2.2.1, u.2.2.2.1, 0) (nt_u J1 Y 4 (Int32.ofInt 0)) := yc_S4 (y := 0) hP hT1
    have k := lz_rv rfl rfl k
    exact ⟨.inl c, _, k, ⟨_, hv1, Or.inl ⟨c, rfl, rfl⟩⟩, hc, _, _, hS2⟩
  · obtain ⟨ea, hq1, hT1⟩ := hN1
    dsimp only at ea hq1 hT1
    subst ea
    have hu1 := lb_nu_up hq0 hv1
    have k : nt_rn X _ 96 (130, [(0, .ref Yr), (1, .int (nI 4))], [.int (a1), .ref Y], me_w M J1) _ := k
    have k := me_put rfl (by decide) k
    have k : nt_rn X _ 96 (133, [(0, .ref Yr), (1, .int (nI 4))], [], me_w M (nt_u J1 Y 4 (a1))) _ := k
    obtain ⟨ex, hx⟩ := yc_nn (b := 30) (by decide) hu1.2.1 hu1.2.2
    have hS2 := yc_S4 (y := a1.toInt.toNat) hP hT1
    rw [← ex] at hS2
    have k := lz_rv rfl rfl k
    obtain ⟨b1, b2, b3, b4, b5⟩ := hb
    exact ⟨.inr (q1, u.1, u.2.1, u.2.2.1, u.2.2.2.1, a1.toInt.toNat), _, k, ⟨_, hv1, Or.inr ⟨_, _, rfl, rfl⟩⟩, hq1, ⟨b1, b2, b3, b4, hx⟩, _, rfl, hS2⟩
theorem yc_fu0 {X : nt_X} {d t Rd Tp By RR Sp Yr Y m0 s0 : Nat} {Rw : Nat → Nat} {f : Nat → Int32} {M : nt_M} {o : Option Value × nt_M} {C : lb_C} {p : Nat} {u : Nat × Nat × Nat × Nat × Nat} {J : Nat → Nat → Int32} (hP : yc_P M t Rd Tp By RR Sp Yr Y Rw) (hS : yc_S Rw C f t Rd Tp By RR Y m0 s0 p 0 u J) (hb : lb_ub u) (k : nt_ev X d 95 [.ref Yr, .int (nI 0)] (me_w M J) o) : ∃ a, o = (some (.int a), me_w M J) ∧ (a = Int32.ofInt 1 ∧ lb_fu (p, u) 0 ∨ a = Int32.ofInt 0 ∧ ¬ lb_fu (p, u) 0) := by
  have k : nt_rn X d 95 (0, [(0, .ref Yr), (1, .int (nI 0))], [], me_w M J) o := k
  have t4 : t ≤ 400 := hP.2.2.2.2.2.1
  obtain ⟨b1, b2, b3, b4, b5⟩ := hb
  have k := ly_revb 2 (c' := (102, [(0, .ref Yr), (1, .int (nI 0))], [], me_w M J)) rfl k
  have k := ly_revb 1 (c' := (103, [(0, .ref Yr), (1, .int (nI 0))], [.int (Int32.ofInt 0)], me_w M J)) rfl k
  have k := lz_ri rfl (by decide) k
  exact ⟨_, k, Or.inr ⟨rfl, fun c => c⟩⟩
theorem yc_fu1 {X : nt_X} {d t Rd Tp By RR Sp Yr Y m0 s0 : Nat} {Rw : Nat → Nat} {f : Nat → Int32} {M : nt_M} {o : Option Value × nt_M} {C : lb_C} {p : Nat} {u : Nat × Nat × Nat × Nat × Nat} {J : Nat → Nat → Int32} (hP : yc_P M t Rd Tp By RR Sp Yr Y Rw) (hS : yc_S Rw C f t Rd Tp By RR Y m0 s0 p 0 u J) (hb : lb_ub u) (k : nt_ev X d 95 [.ref Yr, .int (nI 1)] (me_w M J) o) : ∃ a, o = (some (.int a), me_w M J) ∧ (a = Int32.ofInt 1 ∧ lb_fu (p, u) 1 ∨ a = Int32.ofInt 0 ∧ ¬ lb_fu (p, u) 1) := by
  have k : nt_rn X d 95 (0, [(0, .ref Yr), (1, .int (nI 1))], [], me_w M J) o := k
  have t4 : t ≤ 400 := hP.2.2.2.2.2.1
  obtain ⟨b1, b2, b3, b4, b5⟩ := hb
  have k := ly_revb 2 (c' := (32, [(0, .ref Yr), (1, .int (nI 1))], [], me_w M J)) rfl k
  have k := ly_revb 1 (c' := (33, [(0, .ref Yr), (1, .int (nI 1))], [.ref Yr], me_w M J)) rfl k
  have k := lz_get (a := Yr) (g := 901) (M := me_w M J) (v := .ref Y) rfl (nt_gfR rfl hP.2.2.1.2) k
  have k := lz_get (a := Y) (g := 801) (M := me_w M J) (v := .int (nI u.2.1)) rfl (congrArg Value.int (hS.2.2.1.2.1)) k
  have k := ly_revb 2 (c' := (if (nI u.2.1) < (Int32.ofInt 6) then 48 else 44, [(0, .ref Yr), (1, .int (nI 1))], [], me_w M J)) rfl k
  by_cases h41 : u.2.1 < 6
  · rw [if_pos (show (nI u.2.1) < (Int32.ofInt 6) from show nI u.2.1 < nI 6 from nI_lt h41 (by omega))] at k
    have k := ly_revb 1 (c' := (49, [(0, .ref Yr), (1, .int (nI 1))], [.int (Int32.ofInt 0)], me_w M J)) rfl k
    have k := lz_ri rfl (by decide) k
    exact ⟨_, k, Or.inr ⟨rfl, show ¬ 6 ≤ u.2.1 by omega⟩⟩
  · rw [if_neg (show ¬ ((nI u.2.1) < (Int32.ofInt 6)) from show ¬ nI u.2.1 < nI 6 from nI_nlt (Nat.not_lt.mp h41) (by omega))] at k
    have k := ly_revb 2 (c' := (49, [(0, .ref Yr), (1, .int (nI 1))], [.int (Int32.ofInt 1)], me_w M J)) rfl k
    have k := lz_ri rfl (by decide) k
    exact ⟨_, k, Or.inl ⟨rfl, show 6 ≤ u.2.1 by omega⟩⟩
theorem yc_fu2 {X : nt_X} {d t Rd Tp By RR Sp Yr Y m0 s0 : Nat} {Rw : Nat → Nat} {f : Nat → Int32} {M : nt_M} {o : Option Value × nt_M} {C : lb_C} {p : Nat} {u : Nat × Nat × Nat × Nat × Nat} {J : Nat → Nat → Int32} (hP : yc_P M t Rd Tp By RR Sp Yr Y Rw) (hS : yc_S Rw C f t Rd Tp By RR Y m0 s0 p 0 u J) (hb : lb_ub u) (k : nt_ev X d 95 [.ref Yr, .int (nI 2)] (me_w M J) o) : ∃ a, o = (some (.int a), me_w M J) ∧ (a = Int32.ofInt 1 ∧ lb_fu (p, u) 2 ∨ a = Int32.ofInt 0 ∧ ¬ lb_fu (p, u) 2) := by
  have k : nt_rn X d 95 (0, [(0, .ref Yr), (1, .int (nI 2))], [], me_w M J) o := k
  have t4 : t ≤ 400 := hP.2.2.2.2.2.1
  obtain ⟨b1, b2, b3, b4, b5⟩ := hb
  have k := ly_revb 2 (c' := (50, [(0, .ref Yr), (1, .int (nI 2))], [], me_w M J)) rfl k
  have k := ly_revb 1 (c' := (51, [(0, .ref Yr), (1, .int (nI 2))], [.ref Yr], me_w M J)) rfl k
  have k := lz_get (a := Yr) (g := 901) (M := me_w M J) (v := .ref Y) rfl (nt_gfR rfl hP.2.2.1.2) k
  have k := lz_get (a := Y) (g := 802) (M := me_w M J) (v := .int (nI u.2.2.1)) rfl (congrArg Value.int (hS.2.2.1.2.2.1)) k
  have k := ly_revb 2 (c' := (if (nI u.2.2.1) < (Int32.ofInt 24) then 66 else 62, [(0, .ref Yr), (1, .int (nI 2))], [], me_w M J)) rfl k
  by_cases h59 : u.2.2.1 < 24
  · rw [if_pos (show (nI u.2.2.1) < (Int32.ofInt 24) from show nI u.2.2.1 < nI 24 from nI_lt h59 (by omega))] at k
    have k := ly_revb 1 (c' := (67, [(0, .ref Yr), (1, .int (nI 2))], [.int (Int32.ofInt 0)], me_w M J)) rfl k
    have k := lz_ri rfl (by decide) k
    exact ⟨_, k, Or.inr ⟨rfl, show ¬ 24 ≤ u.2.2.1 by omega⟩⟩
  · rw [if_neg (show ¬ ((nI u.2.2.1) < (Int32.ofInt 24)) from show ¬ nI u.2.2.1 < nI 24 from nI_nlt (Nat.not_lt.mp h59) (by omega))] at k
    have k := ly_revb 2 (c' := (67, [(0, .ref Yr), (1, .int (nI 2))], [.int (Int32.ofInt 1)], me_w M J)) rfl k
    have k := lz_ri rfl (by decide) k
    exact ⟨_, k, Or.inl ⟨rfl, show 24 ≤ u.2.2.1 by omega⟩⟩
theorem yc_fu3 {X : nt_X} {d t Rd Tp By RR Sp Yr Y m0 s0 : Nat} {Rw : Nat → Nat} {f : Nat → Int32} {M : nt_M} {o : Option Value × nt_M} {C : lb_C} {p : Nat} {u : Nat × Nat × Nat × Nat × Nat} {J : Nat → Nat → Int32} (hP : yc_P M t Rd Tp By RR Sp Yr Y Rw) (hS : yc_S Rw C f t Rd Tp By RR Y m0 s0 p 0 u J) (hb : lb_ub u) (k : nt_ev X d 95 [.ref Yr, .int (nI 3)] (me_w M J) o) : ∃ a, o = (some (.int a), me_w M J) ∧ (a = Int32.ofInt 1 ∧ lb_fu (p, u) 3 ∨ a = Int32.ofInt 0 ∧ ¬ lb_fu (p, u) 3) := by
  have k : nt_rn X d 95 (0, [(0, .ref Yr), (1, .int (nI 3))], [], me_w M J) o := k
  have t4 : t ≤ 400 := hP.2.2.2.2.2.1
  obtain ⟨b1, b2, b3, b4, b5⟩ := hb
  have k := ly_revb 2 (c' := (68, [(0, .ref Yr), (1, .int (nI 3))], [], me_w M J)) rfl k
  have k := ly_revb 1 (c' := (69, [(0, .ref Yr), (1, .int (nI 3))], [.ref Yr], me_w M J)) rfl k
  have k := lz_get (a := Yr) (g := 901) (M := me_w M J) (v := .ref Y) rfl (nt_gfR rfl hP.2.2.1.2) k
  have k := lz_get (a := Y) (g := 803) (M := me_w M J) (v := .int (nI u.2.2.2.1)) rfl (congrArg Value.int (hS.2.2.1.2.2.2.1)) k
  have k := ly_revb 2 (c' := (if (nI u.2.2.2.1) < (Int32.ofInt 8) then 84 else 80, [(0, .ref Yr), (1, .int (nI 3))], [], me_w M J)) rfl k
  by_cases h77 : u.2.2.2.1 < 8
  · rw [if_pos (show (nI u.2.2.2.1) < (Int32.ofInt 8) from show nI u.2.2.2.1 < nI 8 from nI_lt h77 (by omega))] at k
    have k := ly_revb 1 (c' := (85, [(0, .ref Yr), (1, .int (nI 3))], [.int (Int32.ofInt 0)], me_w M J)) rfl k
    have k := lz_ri rfl (by decide) k
    exact ⟨_, k, Or.inr ⟨rfl, show ¬ 8 ≤ u.2.2.2.1 by omega⟩⟩
  · rw [if_neg (show ¬ ((nI u.2.2.2.1) < (Int32.ofInt 8)) from show ¬ nI u.2.2.2.1 < nI 8 from nI_nlt (Nat.not_lt.mp h77) (by omega))] at k
    have k := ly_revb 2 (c' := (85, [(0, .ref Yr), (1, .int (nI 3))], [.int (Int32.ofInt 1)], me_w M J)) rfl k
    have k := lz_ri rfl (by decide) k
    exact ⟨_, k, Or.inl ⟨rfl, show 8 ≤ u.2.2.2.1 by omega⟩⟩
theorem yc_fu4 {X : nt_X} {d t Rd Tp By RR Sp Yr Y m0 s0 : Nat} {Rw : Nat → Nat} {f : Nat → Int32} {M : nt_M} {o : Option Value × nt_M} {C : lb_C} {p : Nat} {u : Nat × Nat × Nat × Nat × Nat} {J : Nat → Nat → Int32} (hP : yc_P M t Rd Tp By RR Sp Yr Y Rw) (hS : yc_S Rw C f t Rd Tp By RR Y m0 s0 p 0 u J) (hb : lb_ub u) (k : nt_ev X d 95 [.ref Yr, .int (nI 4)] (me_w M J) o) : ∃ a, o = (some (.int a), me_w M J) ∧ (a = Int32.ofInt 1 ∧ lb_fu (p, u) 4 ∨ a = Int32.ofInt 0 ∧ ¬ lb_fu (p, u) 4) := by
  have k : nt_rn X d 95 (0, [(0, .ref Yr), (1, .int (nI 4))], [], me_w M J) o := k
  have t4 : t ≤ 400 := hP.2.2.2.2.2.1
  obtain ⟨b1, b2, b3, b4, b5⟩ := hb
  have k := ly_revb 2 (c' := (86, [(0, .ref Yr), (1, .int (nI 4))], [], me_w M J)) rfl k
  have k := ly_revb 1 (c' := (87, [(0, .ref Yr), (1, .int (nI 4))], [.ref Yr], me_w M J)) rfl k
  have k := lz_get (a := Yr) (g := 901) (M := me_w M J) (v := .ref Y) rfl (nt_gfR rfl hP.2.2.1.2) k
  have k := lz_get (a := Y) (g := 804) (M := me_w M J) (v := .int (nI u.2.2.2.2)) rfl (congrArg Value.int (hS.2.2.1.2.2.2.2)) k
  have k := ly_revb 1 (c' := (if (nI u.2.2.2.2) = 0 then 100 else 96, [(0, .ref Yr), (1, .int (nI 4))], [], me_w M J)) rfl k
  by_cases h93 : u.2.2.2.2 = 0
  · rw [if_pos (show (nI u.2.2.2.2) = 0 from show nI u.2.2.2.2 = nI 0 from congrArg nI h93)] at k
    have k := ly_revb 1 (c' := (101, [(0, .ref Yr), (1, .int (nI 4))], [.int (Int32.ofInt 0)], me_w M J)) rfl k
    have k := lz_ri rfl (by decide) k
    exact ⟨_, k, Or.inr ⟨rfl, fun c => c h93⟩⟩
  · rw [if_neg (show ¬ ((nI u.2.2.2.2) = 0) from nI_ne0 (Nat.pos_of_ne_zero h93) (by omega))] at k
    have k := ly_revb 2 (c' := (101, [(0, .ref Yr), (1, .int (nI 4))], [.int (Int32.ofInt 1)], me_w M J)) rfl k
    have k := lz_ri rfl (by decide) k
    exact ⟨_, k, Or.inl ⟨rfl, show ¬ u.2.2.2.2 = 0 from h93⟩⟩
theorem yc_at {X : nt_X} {d t Rd Tp By RR Sp Yr Y m0 s0 : Nat} {Rw : Nat → Nat} {f : Nat → Int32} {M : nt_M} {o : Option Value × nt_M} {C : lb_C} {p : Nat} {u : Nat × Nat × Nat × Nat × Nat} {J : Nat → Nat → Int32} (hP : yc_P M t Rd Tp By RR Sp Yr Y Rw) (hS : yc_S Rw C f t Rd Tp By RR Y m0 s0 p 0 u J) (hp : p ≤ t) (k : nt_ev X d 94 [.ref Yr] (me_w M J) o) : ∃ a, o = (some (.int a), me_w M J) ∧ ((∃ w, w < 5 ∧ a = nI w ∧ lb_yw f t p w ∧ ∀ v, v < w → ¬ lb_yw f t p v) ∨ a = Int32.ofInt (-1) ∧ ∀ v, v < 5 → ¬ lb_yw f t p v) := by
  have k : nt_rn X d 94 (0, [(0, .ref Yr)], [], me_w M J) o := k
  have t4 : t ≤ 400 := hP.2.2.2.2.2.1
  have k := ly_revb 1 (c' := (1, [(0, .ref Yr)], [.ref Yr], me_w M J)) rfl k
  have k := lz_get (a := Yr) (g := 900) (M := me_w M J) (v := .ref Rd) rfl (nt_gfR rfl hP.2.2.1.1) k
  have k := ly_revb 1 (c' := (6, [(0, .ref Yr)], [.ref (nt_sp + 1 + 0), .ref Rd], me_w M J)) rfl k
  obtain ⟨d1, o1, ed, kc, k⟩ := lz_c (g := 30) (q := 1) (vs := [.ref Rd, .ref (nt_sp + 1 + 0)]) (rest := []) rfl rfl (by decide) (Or.inr (Or.inl ⟨_, rfl, rfl⟩)) rfl k
  obtain ⟨r, e1, hr⟩ := lc_isAt (yc_lP hP hS) (yc_lS hP hS) hp kc
  subst e1
  rcases hr with ⟨rfl, g0⟩ | ⟨rfl, g0⟩
  · have k : nt_rn X _ 94 (9, [(0, .ref Yr)], [.int (Int32.ofInt 1)], me_w M J) _ := k
    have k := ly_revb 1 (c' := (if (Int32.ofInt 1) = 0 then 14 else 12, [(0, .ref Yr)], [], me_w M J)) rfl k
    rw [if_neg (show ¬ ((Int32.ofInt 1) = 0) from by decide)] at k
    have k := ly_revb 1 (c' := (13, [(0, .ref Yr)], [.int (Int32.ofInt 0)], me_w M J)) rfl k
    have k := lz_ri rfl (by decide) k
    refine ⟨_, k, Or.inl ⟨0, by decide, rfl, g0, fun v hv => ?_⟩⟩
    omega
  · have k : nt_rn X _ 94 (9, [(0, .ref Yr)], [.int (Int32.ofInt 0)], me_w M J) _ := k
    have k := ly_revb 1 (c' := (if (Int32.ofInt 0) = 0 then 14 else 12, [(0, .ref Yr)], [], me_w M J)) rfl k
    rw [if_pos (show (Int32.ofInt 0) = 0 from by decide)] at k
    have k := ly_revb 1 (c' := (15, [(0, .ref Yr)], [.ref Yr], me_w M J)) rfl k
    have k := lz_get (a := Yr) (g := 900) (M := me_w M J) (v := .ref Rd) rfl (nt_gfR rfl hP.2.2.1.1) k
    have k := ly_revb 1 (c' := (20, [(0, .ref Yr)], [.ref (nt_sp + 1 + 1), .ref Rd], me_w M J)) rfl k
    obtain ⟨d1, o1, ed, kc, k⟩ := lz_c (g := 30) (q := 1) (vs := [.ref Rd, .ref (nt_sp + 1 + 1)]) (rest := []) rfl rfl (by decide) (Or.inr (Or.inl ⟨_, rfl, rfl⟩)) rfl k
    obtain ⟨r, e1, hr⟩ := lc_isAt (yc_lP hP hS) (yc_lS hP hS) hp kc
    subst e1
    rcases hr with ⟨rfl, g1⟩ | ⟨rfl, g1⟩
    · have k : nt_rn X _ 94 (23, [(0, .ref Yr)], [.int (Int32.ofInt 1)], me_w M J) _ := k
      have k := ly_revb 1 (c' := (if (Int32.ofInt 1) = 0 then 28 else 26, [(0, .ref Yr)], [], me_w M J)) rfl k
      rw [if_neg (show ¬ ((Int32.ofInt 1) = 0) from by decide)] at k
      have k := ly_revb 1 (c' := (27, [(0, .ref Yr)], [.int (Int32.ofInt 1)], me_w M J)) rfl k
      have k := lz_ri rfl (by decide) k
      refine ⟨_, k, Or.inl ⟨1, by decide, rfl, g1, fun v hv => ?_⟩⟩
      rcases (by omega : v = 0) with rfl
      · exact g0
    · have k : nt_rn X _ 94 (23, [(0, .ref Yr)], [.int (Int32.ofInt 0)], me_w M J) _ := k
      have k := ly_revb 1 (c' := (if (Int32.ofInt 0) = 0 then 28 else 26, [(0, .ref Yr)], [], me_w M J)) rfl k
      rw [if_pos (show (Int32.ofInt 0) = 0 from by decide)] at k
      have k := ly_revb 1 (c' := (29, [(0, .ref Yr)], [.ref Yr], me_w M J)) rfl k
      have k := lz_get (a := Yr) (g := 900) (M := me_w M J) (v := .ref Rd) rfl (nt_gfR rfl hP.2.2.1.1) k
      have k := ly_revb 1 (c' := (34, [(0, .ref Yr)], [.ref (nt_sp + 1 + 2), .ref Rd], me_w M J)) rfl k
      obtain ⟨d1, o1, ed, kc, k⟩ := lz_c (g := 30) (q := 1) (vs := [.ref Rd, .ref (nt_sp + 1 + 2)]) (rest := []) rfl rfl (by decide) (Or.inr (Or.inl ⟨_, rfl, rfl⟩)) rfl k
      obtain ⟨r, e1, hr⟩ := lc_isAt (yc_lP hP hS) (yc_lS hP hS) hp kc
      subst e1
      rcases hr with ⟨rfl, g2⟩ | ⟨rfl, g2⟩
      · have k : nt_rn X _ 94 (37, [(0, .ref Yr)], [.int (Int32.ofInt 1)], me_w M J) _ := k
        have k := ly_revb 1 (c' := (if (Int32.ofInt 1) = 0 then 42 else 40, [(0, .ref Yr)], [], me_w M J)) rfl k
        rw [if_neg (show ¬ ((Int32.ofInt 1) = 0) from by decide)] at k
        have k := ly_revb 1 (c' := (41, [(0, .ref Yr)], [.int (Int32.ofInt 2)], me_w M J)) rfl k
        have k := lz_ri rfl (by decide) k
        refine ⟨_, k, Or.inl ⟨2, by decide, rfl, g2, fun v hv => ?_⟩⟩
        rcases (by omega : v = 0 ∨ v = 1) with rfl | rfl
        · exact g0
        · exact g1
      · have k : nt_rn X _ 94 (37, [(0, .ref Yr)], [.int (Int32.ofInt 0)], me_w M J) _ := k
        have k := ly_revb 1 (c' := (if (Int32.ofInt 0) = 0 then 42 else 40, [(0, .ref Yr)], [], me_w M J)) rfl k
        rw [if_pos (show (Int32.ofInt 0) = 0 from by decide)] at k
        have k := ly_revb 1 (c' := (43, [(0, .ref Yr)], [.ref Yr], me_w M J)) rfl k
        have k := lz_get (a := Yr) (g := 900) (M := me_w M J) (v := .ref Rd) rfl (nt_gfR rfl hP.2.2.1.1) k
        have k := ly_revb 1 (c' := (48, [(0, .ref Yr)], [.ref (nt_sp + 1 + 3), .ref Rd], me_w M J)) rfl k
        obtain ⟨d1, o1, ed, kc, k⟩ := lz_c (g := 30) (q := 1) (vs := [.ref Rd, .ref (nt_sp + 1 + 3)]) (rest := []) rfl rfl (by decide) (Or.inr (Or.inl ⟨_, rfl, rfl⟩)) rfl k
        obtain ⟨r, e1, hr⟩ := lc_isAt (yc_lP hP hS) (yc_lS hP hS) hp kc
        subst e1
        rcases hr with ⟨rfl, g3⟩ | ⟨rfl, g3⟩
        · have k : nt_rn X _ 94 (51, [(0, .ref Yr)], [.int (Int32.ofInt 1)], me_w M J) _ := k
          have k := ly_revb 1 (c' := (if (Int32.ofInt 1) = 0 then 56 else 54, [(0, .ref Yr)], [], me_w M J)) rfl k
          rw [if_neg (show ¬ ((Int32.ofInt 1) = 0) from by decide)] at k
          have k := ly_revb 1 (c' := (55, [(0, .ref Yr)], [.int (Int32.ofInt 3)], me_w M J)) rfl k
          have k := lz_ri rfl (by decide) k
          refine ⟨_, k, Or.inl ⟨3, by decide, rfl, g3, fun v hv => ?_⟩⟩
          rcases (by omega : v = 0 ∨ v = 1 ∨ v = 2) with rfl | rfl | rfl
          · exact g0
          · exact g1
          · exact g2
        · have k : nt_rn X _ 94 (51, [(0, .ref Yr)], [.int (Int32.ofInt 0)], me_w M J) _ := k
          have k := ly_revb 1 (c' := (if (Int32.ofInt 0) = 0 then 56 else 54, [(0, .ref Yr)], [], me_w M J)) rfl k
          rw [if_pos (show (Int32.ofInt 0) = 0 from by decide)] at k
          have k := ly_revb 1 (c' := (57, [(0, .ref Yr)], [.ref Yr], me_w M J)) rfl k
          have k := lz_get (a := Yr) (g := 900) (M := me_w M J) (v := .ref Rd) rfl (nt_gfR rfl hP.2.2.1.1) k
          have k := ly_revb 1 (c' := (62, [(0, .ref Yr)], [.ref (nt_sp + 1 + 4), .ref Rd], me_w M J)) rfl k
          obtain ⟨d1, o1, ed, kc, k⟩ := lz_c (g := 30) (q := 1) (vs := [.ref Rd, .ref (nt_sp + 1 + 4)]) (rest := []) rfl rfl (by decide) (Or.inr (Or.inl ⟨_, rfl, rfl⟩)) rfl k
          obtain ⟨r, e1, hr⟩ := lc_isAt (yc_lP hP hS) (yc_lS hP hS) hp kc
          subst e1
          rcases hr with ⟨rfl, g4⟩ | ⟨rfl, g4⟩
          · have k : nt_rn X _ 94 (65, [(0, .ref Yr)], [.int (Int32.ofInt 1)], me_w M J) _ := k
            have k := ly_revb 1 (c' := (if (Int32.ofInt 1) = 0 then 72 else 68, [(0, .ref Yr)], [], me_w M J)) rfl k
            rw [if_neg (show ¬ ((Int32.ofInt 1) = 0) from by decide)] at k
            have k := ly_revb 2 (c' := (73, [(0, .ref Yr)], [.int (Int32.ofInt 4)], me_w M J)) rfl k
            have k := lz_ri rfl (by decide) k
            refine ⟨_, k, Or.inl ⟨4, by decide, rfl, g4, fun v hv => ?_⟩⟩
            rcases (by omega : v = 0 ∨ v = 1 ∨ v = 2 ∨ v = 3) with rfl | rfl | rfl | rfl
            · exact g0
            · exact g1
            · exact g2
            · exact g3
          · have k : nt_rn X _ 94 (65, [(0, .ref Yr)], [.int (Int32.ofInt 0)], me_w M J) _ := k
            have k := ly_revb 1 (c' := (if (Int32.ofInt 0) = 0 then 72 else 68, [(0, .ref Yr)], [], me_w M J)) rfl k
            rw [if_pos (show (Int32.ofInt 0) = 0 from by decide)] at k
            have k := ly_revb 1 (c' := (73, [(0, .ref Yr)], [.int (Int32.ofInt (-1))], me_w M J)) rfl k
            have k := lz_ri rfl (by decide) k
            refine ⟨_, k, Or.inr ⟨rfl, fun v hv => ?_⟩⟩
            rcases (by omega : v = 0 ∨ v = 1 ∨ v = 2 ∨ v = 3 ∨ v = 4) with rfl | rfl | rfl | rfl | rfl
            · exact g0
            · exact g1
            · exact g2
            · exact g3
            · exact g4
theorem yc_clause {X : nt_X} {d t Rd Tp By RR Sp Yr Y m0 s0 : Nat} {Rw : Nat → Nat} {f : Nat → Int32} {M : nt_M} {o : Option Value × nt_M} {C : lb_C} {p : Nat} {u : Nat × Nat × Nat × Nat × Nat} {J : Nat → Nat → Int32} {i : Nat} (hP : yc_P M t Rd Tp By RR Sp Yr Y Rw) (hS : yc_S Rw C f t Rd Tp By RR Y m0 s0 p 0 u J) (hp : p ≤ t) (hb : lb_ub u) (hi : i ≤ 40) (k : nt_ev X d 93 [.ref Yr, .int (nI i)] (me_w M J) o) : ∃ r J', o = (none, me_w M J') ∧ lb_yc f t i (p, u) r ∧ yc_Q Rw (fun v D => lb_ycC f t (p, u) v C D) f t Rd Tp By RR Y m0 s0 r J' := by
  have k : nt_rn X d 93 (0, [(0, .ref Yr), (1, .int (nI i))], [], me_w M J) o := k
  have t4 : t ≤ 400 := hP.2.2.2.2.2.1
  have k := ly_revb 1 (c' := (1, [(0, .ref Yr), (1, .int (nI i))], [.ref Yr], me_w M J)) rfl k
  obtain ⟨d1, o1, ed, kc, k⟩ := lz_c (g := 94) (q := 1) (vs := [.ref Yr]) (rest := []) rfl rfl (by decide) (Or.inr (Or.inl ⟨_, rfl, rfl⟩)) rfl k
  obtain ⟨a, e1, hw⟩ := yc_at hP hS hp kc
  subst e1
  rcases hw with ⟨w, hw, rfl, hat, hbe⟩ | ⟨rfl, hno⟩
  · rcases (by omega : w = 0 ∨ w = 1 ∨ w = 2 ∨ w = 3 ∨ w = 4) with rfl | rfl | rfl | rfl | rfl
    · have k : nt_rn X _ 93 (4, [(0, .ref Yr), (1, .int (nI i))], [.int (nI 0)], me_w M J) _ := k
      have k := ly_revb 4 (c' := (if (nI 0) = (Int32.ofInt (-1)) then 10 else 21, [(2, .int (nI 0)), (0, .ref Yr), (1, .int (nI i))], [], me_w M J)) rfl k
      rw [if_neg (show ¬ ((nI 0) = (Int32.ofInt (-1))) from me_nm1 (by decide))] at k
      have k := ly_revb 3 (c' := (if (Int32.ofInt 40) ≤ (nI i) then 56 else 27, [(2, .int (nI 0)), (0, .ref Yr), (1, .int (nI i))], [], me_w M J)) rfl k
      by_cases h24 : 40 ≤ i
      · rw [if_pos (show (Int32.ofInt 40) ≤ (nI i) from show nI 40 ≤ nI i from nI_le h24 (by omega))] at k
        have k := ly_revb 1 (c' := (57, [(2, .int (nI 0)), (0, .ref Yr), (1, .int (nI i))], [.ref Yr], me_w M J)) rfl k
        have k := lz_get (a := Yr) (g := 900) (M := me_w M J) (v := .ref Rd) rfl (nt_gfR rfl hP.2.2.1.1) k
        have k := ly_revb 1 (c' := (61, [(2, .int (nI 0)), (0, .ref Yr), (1, .int (nI i))], [.int (Int32.ofInt 4), .ref Rd], me_w M J)) rfl k
        obtain ⟨d1, o1, ed, kc, k⟩ := lz_c (g := 31) (q := 1) (vs := [.ref Rd, .int (Int32.ofInt 4)]) (rest := []) rfl rfl (by decide) (Or.inr (Or.inl ⟨_, rfl, rfl⟩)) rfl k
        obtain ⟨hf, e1⟩ := (lc_fail (yc_lP hP hS) (yc_lS hP hS) hp kc).resolve_right (fun c => c.1 rfl)
        subst e1
        have hS1 := yc_Sp (q := t) hP (yc_Sf (fb := lb_c p (Int32.ofInt 4)) hP hS)
        have k : nt_rn X _ 93 (64, [(2, .int (nI 0)), (0, .ref Yr), (1, .int (nI i))], [], me_w M (nt_u (nt_u J Rd 2 (lb_c p (Int32.ofInt 4))) Rd 1 (nI t))) _ := k
        have k := ly_revb 1 (c' := (72, [(2, .int (nI 0)), (0, .ref Yr), (1, .int (nI i))], [], me_w M (nt_u (nt_u J Rd 2 (lb_c p (Int32.ofInt 4))) Rd 1 (nI t)))) rfl k
        have k := lz_rv rfl rfl k
        exact ⟨.inl (lb_c p (Int32.ofInt 4)), _, k, Or.inr ⟨0, by decide, hat, hbe, Or.inl ⟨Or.inl (by omega), rfl⟩⟩, (lb_c_ne (by omega) (by decide) (by decide)), _, _, hS1⟩
      · rw [if_neg (show ¬ ((Int32.ofInt 40) ≤ (nI i)) from show ¬ nI 40 ≤ nI i from nI_ge (Nat.not_le.mp h24) (by omega))] at k
        have k := ly_revb 2 (c' := (if (nI i) = 0 then 31 else 35, [(2, .int (nI 0)), (0, .ref Yr), (1, .int (nI i))], [], me_w M J)) rfl k
        by_cases h28 : i = 0
        · rw [if_pos (show (nI i) = 0 from show nI i = nI 0 from congrArg nI h28)] at k
          have k := ly_revb 4 (c' := (if (nI 0) = 0 then 40 else 44, [(2, .int (nI 0)), (0, .ref Yr), (1, .int (nI i))], [.int (Int32.ofInt 1)], me_w M J)) rfl k
          rw [if_pos (show (nI 0) = 0 from by decide)] at k
          have k := ly_revb 3 (c' := (if (Int32.ofInt 1) = (Int32.ofInt 1) then 48 else 56, [(2, .int (nI 0)), (0, .ref Yr), (1, .int (nI i))], [], me_w M J)) rfl k
          rw [if_pos (show (Int32.ofInt 1) = (Int32.ofInt 1) from by decide)] at k
          have k := ly_revb 2 (c' := (50, [(2, .int (nI 0)), (0, .ref Yr), (1, .int (nI i))], [.int (nI 0), .ref Yr], me_w M J)) rfl k
          obtain ⟨d1, o1, ed, kc, k⟩ := lz_c (g := 95) (q := 1) (vs := [.ref Yr, .int (nI 0)]) (rest := []) rfl rfl (by decide) (Or.inr (Or.inl ⟨_, rfl, rfl⟩)) rfl k
          obtain ⟨a, e1, hfu⟩ := yc_fu0 hP hS hb kc
          subst e1
          rcases hfu with ⟨rfl, hfu⟩ | ⟨rfl, hfu⟩
          · have k : nt_rn X _ 93 (53, [(2, .int (nI 0)), (0, .ref Yr), (1, .int (nI i))], [.int (Int32.ofInt 1)], me_w M J) _ := k
            have k := ly_revb 1 (c' := (if (Int32.ofInt 1) = 0 then 67 else 56, [(2, .int (nI 0)), (0, .ref Yr), (1, .int (nI i))], [], me_w M J)) rfl k
            rw [if_neg (show ¬ ((Int32.ofInt 1) = 0) from by decide)] at k
            have k := ly_revb 1 (c' := (57, [(2, .int (nI 0)), (0, .ref Yr), (1, .int (nI i))], [.ref Yr], me_w M J)) rfl k
            have k := lz_get (a := Yr) (g := 900) (M := me_w M J) (v := .ref Rd) rfl (nt_gfR rfl hP.2.2.1.1) k
            have k := ly_revb 1 (c' := (61, [(2, .int (nI 0)), (0, .ref Yr), (1, .int (nI i))], [.int (Int32.ofInt 4), .ref Rd], me_w M J)) rfl k
            obtain ⟨d1, o1, ed, kc, k⟩ := lz_c (g := 31) (q := 1) (vs := [.ref Rd, .int (Int32.ofInt 4)]) (rest := []) rfl rfl (by decide) (Or.inr (Or.inl ⟨_, rfl, rfl⟩)) rfl k
            obtain ⟨hf, e1⟩ := (lc_fail (yc_lP hP hS) (yc_lS hP hS) hp kc).resolve_right (fun c => c.1 rfl)
            subst e1
            have hS1 := yc_Sp (q := t) hP (yc_Sf (fb := lb_c p (Int32.ofInt 4)) hP hS)
            have k : nt_rn X _ 93 (64, [(2, .int (nI 0)), (0, .ref Yr), (1, .int (nI i))], [], me_w M (nt_u (nt_u J Rd 2 (lb_c p (Int32.ofInt 4))) Rd 1 (nI t))) _ := k
            have k := ly_revb 1 (c' := (72, [(2, .int (nI 0)), (0, .ref Yr), (1, .int (nI i))], [], me_w M (nt_u (nt_u J Rd 2 (lb_c p (Int32.ofInt 4))) Rd 1 (nI t)))) rfl k
            have k := lz_rv rfl rfl k
            exact ⟨.inl (lb_c p (Int32.ofInt 4)), _, k, Or.inr ⟨0, by decide, hat, hbe, Or.inl ⟨Or.inr (Or.inr hfu), rfl⟩⟩, (lb_c_ne (by omega) (by decide) (by decide)), _, _, hS1⟩
          · have k : nt_rn X _ 93 (53, [(2, .int (nI 0)), (0, .ref Yr), (1, .int (nI i))], [.int (Int32.ofInt 0)], me_w M J) _ := k
            have k := ly_revb 1 (c' := (if (Int32.ofInt 0) = 0 then 67 else 56, [(2, .int (nI 0)), (0, .ref Yr), (1, .int (nI i))], [], me_w M J)) rfl k
            rw [if_pos (show (Int32.ofInt 0) = 0 from by decide)] at k
            have k := ly_revb 2 (c' := (69, [(2, .int (nI 0)), (0, .ref Yr), (1, .int (nI i))], [.int (nI 0), .ref Yr], me_w M J)) rfl k
            obtain ⟨d1, o1, ed, kc, k⟩ := lz_c (g := 96) (q := 1) (vs := [.ref Yr, .int (nI 0)]) (rest := []) rfl rfl (by decide) (Or.inr (Or.inl ⟨_, rfl, rfl⟩)) rfl k
            obtain ⟨r, J9, e1, hpa, hQ⟩ := yc_pa0 hP hS hp hb hat hfu kc
            subst e1
            have k : nt_rn X _ 93 (72, [(2, .int (nI 0)), (0, .ref Yr), (1, .int (nI i))], [], me_w M J9) _ := k
            have k := lz_rv rfl rfl k
            refine ⟨r, _, k, Or.inr ⟨0, by decide, hat, hbe, Or.inr ⟨?_, hpa⟩⟩, yc_Qm (fun v D hh => ⟨0, by decide, hat, hbe, hh⟩) hQ⟩
            intro c; rcases c with c | c | c
            · omega
            · exact c (by omega)
            · exact hfu c
        · rw [if_neg (show ¬ ((nI i) = 0) from nI_ne0 (Nat.pos_of_ne_zero h28) (by omega))] at k
          have k := ly_revb 3 (c' := (if (nI 0) = 0 then 40 else 44, [(2, .int (nI 0)), (0, .ref Yr), (1, .int (nI i))], [.int (Int32.ofInt 0)], me_w M J)) rfl k
          rw [if_pos (show (nI 0) = 0 from by decide)] at k
          have k := ly_revb 3 (c' := (if (Int32.ofInt 0) = (Int32.ofInt 1) then 48 else 56, [(2, .int (nI 0)), (0, .ref Yr), (1, .int (nI i))], [], me_w M J)) rfl k
          rw [if_neg (show ¬ ((Int32.ofInt 0) = (Int32.ofInt 1)) from by decide)] at k
          have k := ly_revb 1 (c' := (57, [(2, .int (nI 0)), (0, .ref Yr), (1, .int (nI i))], [.ref Yr], me_w M J)) rfl k
          have k := lz_get (a := Yr) (g := 900) (M := me_w M J) (v := .ref Rd) rfl (nt_gfR rfl hP.2.2.1.1) k
          have k := ly_revb 1 (c' := (61, [(2, .int (nI 0)), (0, .ref Yr), (1, .int (nI i))], [.int (Int32.ofInt 4), .ref Rd], me_w M J)) rfl k
          obtain ⟨d1, o1, ed, kc, k⟩ := lz_c (g := 31) (q := 1) (vs := [.ref Rd, .int (Int32.ofInt 4)]) (rest := []) rfl rfl (by decide) (Or.inr (Or.inl ⟨_, rfl, rfl⟩)) rfl k
          obtain ⟨hf, e1⟩ := (lc_fail (yc_lP hP hS) (yc_lS hP hS) hp kc).resolve_right (fun c => c.1 rfl)
          subst e1
          have hS1 := yc_Sp (q := t) hP (yc_Sf (fb := lb_c p (Int32.ofInt 4)) hP hS)
          have k : nt_rn X _ 93 (64, [(2, .int (nI 0)), (0, .ref Yr), (1, .int (nI i))], [], me_w M (nt_u (nt_u J Rd 2 (lb_c p (Int32.ofInt 4))) Rd 1 (nI t))) _ := k
          have k := ly_revb 1 (c' := (72, [(2, .int (nI 0)), (0, .ref Yr), (1, .int (nI i))], [], me_w M (nt_u (nt_u J Rd 2 (lb_c p (Int32.ofInt 4))) Rd 1 (nI t)))) rfl k
          have k := lz_rv rfl rfl k
          exact ⟨.inl (lb_c p (Int32.ofInt 4)), _, k, Or.inr ⟨0, by decide, hat, hbe, Or.inl ⟨Or.inr (Or.inl (by omega)), rfl⟩⟩, (lb_c_ne (by omega) (by decide) (by decide)), _, _, hS1⟩
    · have k : nt_rn X _ 93 (4, [(0, .ref Yr), (1, .int (nI i))], [.int (nI 1)], me_w M J) _ := k
      have k := ly_revb 4 (c' := (if (nI 1) = (Int32.ofInt (-1)) then 10 else 21, [(2, .int (nI 1)), (0, .ref Yr), (1, .int (nI i))], [], me_w M J)) rfl k
      rw [if_neg (show ¬ ((nI 1) = (Int32.ofInt (-1))) from me_nm1 (by decide))] at k
      have k := ly_revb 3 (c' := (if (Int32.ofInt 40) ≤ (nI i) then 56 else 27, [(2, .int (nI 1)), (0, .ref Yr), (1, .int (nI i))], [], me_w M J)) rfl k
      by_cases h24 : 40 ≤ i
      · rw [if_pos (show (Int32.ofInt 40) ≤ (nI i) from show nI 40 ≤ nI i from nI_le h24 (by omega))] at k
        have k := ly_revb 1 (c' := (57, [(2, .int (nI 1)), (0, .ref Yr), (1, .int (nI i))], [.ref Yr], me_w M J)) rfl k
        have k := lz_get (a := Yr) (g := 900) (M := me_w M J) (v := .ref Rd) rfl (nt_gfR rfl hP.2.2.1.1) k
        have k := ly_revb 1 (c' := (61, [(2, .int (nI 1)), (0, .ref Yr), (1, .int (nI i))], [.int (Int32.ofInt 4), .ref Rd], me_w M J)) rfl k
        obtain ⟨d1, o1, ed, kc, k⟩ := lz_c (g := 31) (q := 1) (vs := [.ref Rd, .int (Int32.ofInt 4)]) (rest := []) rfl rfl (by decide) (Or.inr (Or.inl ⟨_, rfl, rfl⟩)) rfl k
        obtain ⟨hf, e1⟩ := (lc_fail (yc_lP hP hS) (yc_lS hP hS) hp kc).resolve_right (fun c => c.1 rfl)
        subst e1
        have hS1 := yc_Sp (q := t) hP (yc_Sf (fb := lb_c p (Int32.ofInt 4)) hP hS)
        have k : nt_rn X _ 93 (64, [(2, .int (nI 1)), (0, .ref Yr), (1, .int (nI i))], [], me_w M (nt_u (nt_u J Rd 2 (lb_c p (Int32.ofInt 4))) Rd 1 (nI t))) _ := k
        have k := ly_revb 1 (c' := (72, [(2, .int (nI 1)), (0, .ref Yr), (1, .int (nI i))], [], me_w M (nt_u (nt_u J Rd 2 (lb_c p (Int32.ofInt 4))) Rd 1 (nI t)))) rfl k
        have k := lz_rv rfl rfl k
        exact ⟨.inl (lb_c p (Int32.ofInt 4)), _, k, Or.inr ⟨1, by decide, hat, hbe, Or.inl ⟨Or.inl (by omega), rfl⟩⟩, (lb_c_ne (by omega) (by decide) (by decide)), _, _, hS1⟩
      · rw [if_neg (show ¬ ((Int32.ofInt 40) ≤ (nI i)) from show ¬ nI 40 ≤ nI i from nI_ge (Nat.not_le.mp h24) (by omega))] at k
        have k := ly_revb 2 (c' := (if (nI i) = 0 then 31 else 35, [(2, .int (nI 1)), (0, .ref Yr), (1, .int (nI i))], [], me_w M J)) rfl k
        by_cases h28 : i = 0
        · rw [if_pos (show (nI i) = 0 from show nI i = nI 0 from congrArg nI h28)] at k
          have k := ly_revb 4 (c' := (if (nI 1) = 0 then 40 else 44, [(2, .int (nI 1)), (0, .ref Yr), (1, .int (nI i))], [.int (Int32.ofInt 1)], me_w M J)) rfl k
          rw [if_neg (show ¬ ((nI 1) = 0) from by decide)] at k
          have k := ly_revb 2 (c' := (if (Int32.ofInt 1) = (Int32.ofInt 0) then 48 else 56, [(2, .int (nI 1)), (0, .ref Yr), (1, .int (nI i))], [], me_w M J)) rfl k
          rw [if_neg (show ¬ ((Int32.ofInt 1) = (Int32.ofInt 0)) from by decide)] at k
          have k := ly_revb 1 (c' := (57, [(2, .int (nI 1)), (0, .ref Yr), (1, .int (nI i))], [.ref Yr], me_w M J)) rfl k
          have k := lz_get (a := Yr) (g := 900) (M := me_w M J) (v := .ref Rd) rfl (nt_gfR rfl hP.2.2.1.1) k
          have k := ly_revb 1 (c' := (61, [(2, .int (nI 1)), (0, .ref Yr), (1, .int (nI i))], [.int (Int32.ofInt 4), .ref Rd], me_w M J)) rfl k
          obtain ⟨d1, o1, ed, kc, k⟩ := lz_c (g := 31) (q := 1) (vs := [.ref Rd, .int (Int32.ofInt 4)]) (rest := []) rfl rfl (by decide) (Or.inr (Or.inl ⟨_, rfl, rfl⟩)) rfl k
          obtain ⟨hf, e1⟩ := (lc_fail (yc_lP hP hS) (yc_lS hP hS) hp kc).resolve_right (fun c => c.1 rfl)
          subst e1
          have hS1 := yc_Sp (q := t) hP (yc_Sf (fb := lb_c p (Int32.ofInt 4)) hP hS)
          have k : nt_rn X _ 93 (64, [(2, .int (nI 1)), (0, .ref Yr), (1, .int (nI i))], [], me_w M (nt_u (nt_u J Rd 2 (lb_c p (Int32.ofInt 4))) Rd 1 (nI t))) _ := k
          have k := ly_revb 1 (c' := (72, [(2, .int (nI 1)), (0, .ref Yr), (1, .int (nI i))], [], me_w M (nt_u (nt_u J Rd 2 (lb_c p (Int32.ofInt 4))) Rd 1 (nI t)))) rfl k
          have k := lz_rv rfl rfl k
          exact ⟨.inl (lb_c p (Int32.ofInt 4)), _, k, Or.inr ⟨1, by decide, hat, hbe, Or.inl ⟨Or.inr (Or.inl (by omega)), rfl⟩⟩, (lb_c_ne (by omega) (by decide) (by decide)), _, _, hS1⟩
        · rw [if_neg (show ¬ ((nI i) = 0) from nI_ne0 (Nat.pos_of_ne_zero h28) (by omega))] at k
          have k := ly_revb 3 (c' := (if (nI 1) = 0 then 40 else 44, [(2, .int (nI 1)), (0, .ref Yr), (1, .int (nI i))], [.int (Int32.ofInt 0)], me_w M J)) rfl k
          rw [if_neg (show ¬ ((nI 1) = 0) from by decide)] at k
          have k := ly_revb 2 (c' := (if (Int32.ofInt 0) = (Int32.ofInt 0) then 48 else 56, [(2, .int (nI 1)), (0, .ref Yr), (1, .int (nI i))], [], me_w M J)) rfl k
          rw [if_pos (show (Int32.ofInt 0) = (Int32.ofInt 0) from by decide)] at k
          have k := ly_revb 2 (c' := (50, [(2, .int (nI 1)), (0, .ref Yr), (1, .int (nI i))], [.int (nI 1), .ref Yr], me_w M J)) rfl k
          obtain ⟨d1, o1, ed, kc, k⟩ := lz_c (g := 95) (q := 1) (vs := [.ref Yr, .int (nI 1)]) (rest := []) rfl rfl (by decide) (Or.inr (Or.inl ⟨_, rfl, rfl⟩)) rfl k
          obtain ⟨a, e1, hfu⟩ := yc_fu1 hP hS hb kc
          subst e1
          rcases hfu with ⟨rfl, hfu⟩ | ⟨rfl, hfu⟩
          · have k : nt_rn X _ 93 (53, [(2, .int (nI 1)), (0, .ref Yr), (1, .int (nI i))], [.int (Int32.ofInt 1)], me_w M J) _ := k
            have k := ly_revb 1 (c' := (if (Int32.ofInt 1) = 0 then 67 else 56, [(2, .int (nI 1)), (0, .ref Yr), (1, .int (nI i))], [], me_w M J)) rfl k
            rw [if_neg (show ¬ ((Int32.ofInt 1) = 0) from by decide)] at k
            have k := ly_revb 1 (c' := (57, [(2, .int (nI 1)), (0, .ref Yr), (1, .int (nI i))], [.ref Yr], me_w M J)) rfl k
            have k := lz_get (a := Yr) (g := 900) (M := me_w M J) (v := .ref Rd) rfl (nt_gfR rfl hP.2.2.1.1) k
            have k := ly_revb 1 (c' := (61, [(2, .int (nI 1)), (0, .ref Yr), (1, .int (nI i))], [.int (Int32.ofInt 4), .ref Rd], me_w M J)) rfl k
            obtain ⟨d1, o1, ed, kc, k⟩ := lz_c (g := 31) (q := 1) (vs := [.ref Rd, .int (Int32.ofInt 4)]) (rest := []) rfl rfl (by decide) (Or.inr (Or.inl ⟨_, rfl, rfl⟩)) rfl k
            obtain ⟨hf, e1⟩ := (lc_fail (yc_lP hP hS) (yc_lS hP hS) hp kc).resolve_right (fun c => c.1 rfl)
            subst e1
            have hS1 := yc_Sp (q := t) hP (yc_Sf (fb := lb_c p (Int32.ofInt 4)) hP hS)
            have k : nt_rn X _ 93 (64, [(2, .int (nI 1)), (0, .ref Yr), (1, .int (nI i))], [], me_w M (nt_u (nt_u J Rd 2 (lb_c p (Int32.ofInt 4))) Rd 1 (nI t))) _ := k
            have k := ly_revb 1 (c' := (72, [(2, .int (nI 1)), (0, .ref Yr), (1, .int (nI i))], [], me_w M (nt_u (nt_u J Rd 2 (lb_c p (Int32.ofInt 4))) Rd 1 (nI t)))) rfl k
            have k := lz_rv rfl rfl k
            exact ⟨.inl (lb_c p (Int32.ofInt 4)), _, k, Or.inr ⟨1, by decide, hat, hbe, Or.inl ⟨Or.inr (Or.inr hfu), rfl⟩⟩, (lb_c_ne (by omega) (by decide) (by decide)), _, _, hS1⟩
          · have k : nt_rn X _ 93 (53, [(2, .int (nI 1)), (0, .ref Yr), (1, .int (nI i))], [.int (Int32.ofInt 0)], me_w M J) _ := k
            have k := ly_revb 1 (c' := (if (Int32.ofInt 0) = 0 then 67 else 56, [(2, .int (nI 1)), (0, .ref Yr), (1, .int (nI i))], [], me_w M J)) rfl k
            rw [if_pos (show (Int32.ofInt 0) = 0 from by decide)] at k
            have k := ly_revb 2 (c' := (69, [(2, .int (nI 1)), (0, .ref Yr), (1, .int (nI i))], [.int (nI 1), .ref Yr], me_w M J)) rfl k
            obtain ⟨d1, o1, ed, kc, k⟩ := lz_c (g := 96) (q := 1) (vs := [.ref Yr, .int (nI 1)]) (rest := []) rfl rfl (by decide) (Or.inr (Or.inl ⟨_, rfl, rfl⟩)) rfl k
            obtain ⟨r, J9, e1, hpa, hQ⟩ := yc_pa1 hP hS hp hb hat hfu kc
            subst e1
            have k : nt_rn X _ 93 (72, [(2, .int (nI 1)), (0, .ref Yr), (1, .int (nI i))], [], me_w M J9) _ := k
            have k := lz_rv rfl rfl k
            refine ⟨r, _, k, Or.inr ⟨1, by decide, hat, hbe, Or.inr ⟨?_, hpa⟩⟩, yc_Qm (fun v D hh => ⟨1, by decide, hat, hbe, hh⟩) hQ⟩
            intro c; rcases c with c | c | c
            · omega
            · exact c (by omega)
            · exact hfu c
    · have k : nt_rn X _ 93 (4, [(0, .ref Yr), (1, .int (nI i))], [.int (nI 2)], me_w M J) _ := k
      have k := ly_revb 4 (c' := (if (nI 2) = (Int32.ofInt (-1)) then 10 else 21, [(2, .int (nI 2)), (0, .ref Yr), (1, .int (nI i))], [], me_w M J)) rfl k
      rw [if_neg (show ¬ ((nI 2) = (Int32.ofInt (-1))) from me_nm1 (by decide))] at k
      have k := ly_revb 3 (c' := (if (Int32.ofInt 40) ≤ (nI i) then 56 else 27, [(2, .int (nI 2)), (0, .ref Yr), (1, .int (nI i))], [], me_w M J)) rfl k
      by_cases h24 : 40 ≤ i
      · rw [if_pos (show (Int32.ofInt 40) ≤ (nI i) from show nI 40 ≤ nI i from nI_le h24 (by omega))] at k
        have k := ly_revb 1 (c' := (57, [(2, .int (nI 2)), (0, .ref Yr), (1, .int (nI i))], [.ref Yr], me_w M J)) rfl k
        have k := lz_get (a := Yr) (g := 900) (M := me_w M J) (v := .ref Rd) rfl (nt_gfR rfl hP.2.2.1.1) k
        have k := ly_revb 1 (c' := (61, [(2, .int (nI 2)), (0, .ref Yr), (1, .int (nI i))], [.int (Int32.ofInt 4), .ref Rd], me_w M J)) rfl k
        obtain ⟨d1, o1, ed, kc, k⟩ := lz_c (g := 31) (q := 1) (vs := [.ref Rd, .int (Int32.ofInt 4)]) (rest := []) rfl rfl (by decide) (Or.inr (Or.inl ⟨_, rfl, rfl⟩)) rfl k
        obtain ⟨hf, e1⟩ := (lc_fail (yc_lP hP hS) (yc_lS hP hS) hp kc).resolve_right (fun c => c.1 rfl)
        subst e1
        have hS1 := yc_Sp (q := t) hP (yc_Sf (fb := lb_c p (Int32.ofInt 4)) hP hS)
        have k : nt_rn X _ 93 (64, [(2, .int (nI 2)), (0, .ref Yr), (1, .int (nI i))], [], me_w M (nt_u (nt_u J Rd 2 (lb_c p (Int32.ofInt 4))) Rd 1 (nI t))) _ := k
        have k := ly_revb 1 (c' := (72, [(2, .int (nI 2)), (0, .ref Yr), (1, .int (nI i))], [], me_w M (nt_u (nt_u J Rd 2 (lb_c p (Int32.ofInt 4))) Rd 1 (nI t)))) rfl k
        have k := lz_rv rfl rfl k
        exact ⟨.inl (lb_c p (Int32.ofInt 4)), _, k, Or.inr ⟨2, by decide, hat, hbe, Or.inl ⟨Or.inl (by omega), rfl⟩⟩, (lb_c_ne (by omega) (by decide) (by decide)), _, _, hS1⟩
      · rw [if_neg (show ¬ ((Int32.ofInt 40) ≤ (nI i)) from show ¬ nI 40 ≤ nI i from nI_ge (Nat.not_le.mp h24) (by omega))] at k
        have k := ly_revb 2 (c' := (if (nI i) = 0 then 31 else 35, [(2, .int (nI 2)), (0, .ref Yr), (1, .int (nI i))], [], me_w M J)) rfl k
        by_cases h28 : i = 0
        · rw [if_pos (show (nI i) = 0 from show nI i = nI 0 from congrArg nI h28)] at k
          have k := ly_revb 4 (c' := (if (nI 2) = 0 then 40 else 44, [(2, .int (nI 2)), (0, .ref Yr), (1, .int (nI i))], [.int (Int32.ofInt 1)], me_w M J)) rfl k
          rw [if_neg (show ¬ ((nI 2) = 0) from by decide)] at k
          have k := ly_revb 2 (c' := (if (Int32.ofInt 1) = (Int32.ofInt 0) then 48 else 56, [(2, .int (nI 2)), (0, .ref Yr), (1, .int (nI i))], [], me_w M J)) rfl k
          rw [if_neg (show ¬ ((Int32.ofInt 1) = (Int32.ofInt 0)) from by decide)] at k
          have k := ly_revb 1 (c' := (57, [(2, .int (nI 2)), (0, .ref Yr), (1, .int (nI i))], [.ref Yr], me_w M J)) rfl k
          have k := lz_get (a := Yr) (g := 900) (M := me_w M J) (v := .ref Rd) rfl (nt_gfR rfl hP.2.2.1.1) k
          have k := ly_revb 1 (c' := (61, [(2, .int (nI 2)), (0, .ref Yr), (1, .int (nI i))], [.int (Int32.ofInt 4), .ref Rd], me_w M J)) rfl k
          obtain ⟨d1, o1, ed, kc, k⟩ := lz_c (g := 31) (q := 1) (vs := [.ref Rd, .int (Int32.ofInt 4)]) (rest := []) rfl rfl (by decide) (Or.inr (Or.inl ⟨_, rfl, rfl⟩)) rfl k
          obtain ⟨hf, e1⟩ := (lc_fail (yc_lP hP hS) (yc_lS hP hS) hp kc).resolve_right (fun c => c.1 rfl)
          subst e1
          have hS1 := yc_Sp (q := t) hP (yc_Sf (fb := lb_c p (Int32.ofInt 4)) hP hS)
          have k : nt_rn X _ 93 (64, [(2, .int (nI 2)), (0, .ref Yr), (1, .int (nI i))], [], me_w M (nt_u (nt_u J Rd 2 (lb_c p (Int32.ofInt 4))) Rd 1 (nI t))) _ := k
          have k := ly_revb 1 (c' := (72, [(2, .int (nI 2)), (0, .ref Yr), (1, .int (nI i))], [], me_w M (nt_u (nt_u J Rd 2 (lb_c p (Int32.ofInt 4))) Rd 1 (nI t)))) rfl k
          have k := lz_rv rfl rfl k
          exact ⟨.inl (lb_c p (Int32.ofInt 4)), _, k, Or.inr ⟨2, by decide, hat, hbe, Or.inl ⟨Or.inr (Or.inl (by omega)), rfl⟩⟩, (lb_c_ne (by omega) (by decide) (by decide)), _, _, hS1⟩
        · rw [if_neg (show ¬ ((nI i) = 0) from nI_ne0 (Nat.pos_of_ne_zero h28) (by omega))] at k
          have k := ly_revb 3 (c' := (if (nI 2) = 0 then 40 else 44, [(2, .int (nI 2)), (0, .ref Yr), (1, .int (nI i))], [.int (Int32.ofInt 0)], me_w M J)) rfl k
          rw [if_neg (show ¬ ((nI 2) = 0) from by decide)] at k
          have k := ly_revb 2 (c' := (if (Int32.ofInt 0) = (Int32.ofInt 0) then 48 else 56, [(2, .int (nI 2)), (0, .ref Yr), (1, .int (nI i))], [], me_w M J)) rfl k
          rw [if_pos (show (Int32.ofInt 0) = (Int32.ofInt 0) from by decide)] at k
          have k := ly_revb 2 (c' := (50, [(2, .int (nI 2)), (0, .ref Yr), (1, .int (nI i))], [.int (nI 2), .ref Yr], me_w M J)) rfl k
          obtain ⟨d1, o1, ed, kc, k⟩ := lz_c (g := 95) (q := 1) (vs := [.ref Yr, .int (nI 2)]) (rest := []) rfl rfl (by decide) (Or.inr (Or.inl ⟨_, rfl, rfl⟩)) rfl k
          obtain ⟨a, e1, hfu⟩ := yc_fu2 hP hS hb kc
          subst e1
          rcases hfu with ⟨rfl, hfu⟩ | ⟨rfl, hfu⟩
          · have k : nt_rn X _ 93 (53, [(2, .int (nI 2)), (0, .ref Yr), (1, .int (nI i))], [.int (Int32.ofInt 1)], me_w M J) _ := k
            have k := ly_revb 1 (c' := (if (Int32.ofInt 1) = 0 then 67 else 56, [(2, .int (nI 2)), (0, .ref Yr), (1, .int (nI i))], [], me_w M J)) rfl k
            rw [if_neg (show ¬ ((Int32.ofInt 1) = 0) from by decide)] at k
            have k := ly_revb 1 (c' := (57, [(2, .int (nI 2)), (0, .ref Yr), (1, .int (nI i))], [.ref Yr], me_w M J)) rfl k
            have k := lz_get (a := Yr) (g := 900) (M := me_w M J) (v := .ref Rd) rfl (nt_gfR rfl hP.2.2.1.1) k
            have k := ly_revb 1 (c' := (61, [(2, .int (nI 2)), (0, .ref Yr), (1, .int (nI i))], [.int (Int32.ofInt 4), .ref Rd], me_w M J)) rfl k
            obtain ⟨d1, o1, ed, kc, k⟩ := lz_c (g := 31) (q := 1) (vs := [.ref Rd, .int (Int32.ofInt 4)]) (rest := []) rfl rfl (by decide) (Or.inr (Or.inl ⟨_, rfl, rfl⟩)) rfl k
            obtain ⟨hf, e1⟩ := (lc_fail (yc_lP hP hS) (yc_lS hP hS) hp kc).resolve_right (fun c => c.1 rfl)
            subst e1
            have hS1 := yc_Sp (q := t) hP (yc_Sf (fb := lb_c p (Int32.ofInt 4)) hP hS)
            have k : nt_rn X _ 93 (64, [(2, .int (nI 2)), (0, .ref Yr), (1, .int (nI i))], [], me_w M (nt_u (nt_u J Rd 2 (lb_c p (Int32.ofInt 4))) Rd 1 (nI t))) _ := k
            have k := ly_revb 1 (c' := (72, [(2, .int (nI 2)), (0, .ref Yr), (1, .int (nI i))], [], me_w M (nt_u (nt_u J Rd 2 (lb_c p (Int32.ofInt 4))) Rd 1 (nI t)))) rfl k
            have k := lz_rv rfl rfl k
            exact ⟨.inl (lb_c p (Int32.ofInt 4)), _, k, Or.inr ⟨2, by decide, hat, hbe, Or.inl ⟨Or.inr (Or.inr hfu), rfl⟩⟩, (lb_c_ne (by omega) (by decide) (by decide)), _, _, hS1⟩
          · have k : nt_rn X _ 93 (53, [(2, .int (nI 2)), (0, .ref Yr), (1, .int (nI i))], [.int (Int32.ofInt 0)], me_w M J) _ := k
            have k := ly_revb 1 (c' := (if (Int32.ofInt 0) = 0 then 67 else 56, [(2, .int (nI 2)), (0, .ref Yr), (1, .int (nI i))], [], me_w M J)) rfl k
            rw [if_pos (show (Int32.ofInt 0) = 0 from by decide)] at k
            have k := ly_revb 2 (c' := (69, [(2, .int (nI 2)), (0, .ref Yr), (1, .int (nI i))], [.int (nI 2), .ref Yr], me_w M J)) rfl k
            obtain ⟨d1, o1, ed, kc, k⟩ := lz_c (g := 96) (q := 1) (vs := [.ref Yr, .int (nI 2)]) (rest := []) rfl rfl (by decide) (Or.inr (Or.inl ⟨_, rfl, rfl⟩)) rfl k
            obtain ⟨r, J9, e1, hpa, hQ⟩ := yc_pa2 hP hS hp hb hat hfu kc
            subst e1
            have k : nt_rn X _ 93 (72, [(2, .int (nI 2)), (0, .ref Yr), (1, .int (nI i))], [], me_w M J9) _ := k
            have k := lz_rv rfl rfl k
            refine ⟨r, _, k, Or.inr ⟨2, by decide, hat, hbe, Or.inr ⟨?_, hpa⟩⟩, yc_Qm (fun v D hh => ⟨2, by decide, hat, hbe, hh⟩) hQ⟩
            intro c; rcases c with c | c | c
            · omega
            · exact c (by omega)
            · exact hfu c
    · have k : nt_rn X _ 93 (4, [(0, .ref Yr), (1, .int (nI i))], [.int (nI 3)], me_w M J) _ := k
      have k := ly_revb 4 (c' := (if (nI 3) = (Int32.ofInt (-1)) then 10 else 21, [(2, .int (nI 3)), (0, .ref Yr), (1, .int (nI i))], [], me_w M J)) rfl k
      rw [if_neg (show ¬ ((nI 3) = (Int32.ofInt (-1))) from me_nm1 (by decide))] at k
      have k := ly_revb 3 (c' := (if (Int32.ofInt 40) ≤ (nI i) then 56 else 27, [(2, .int (nI 3)), (0, .ref Yr), (1, .int (nI i))], [], me_w M J)) rfl k
      by_cases h24 : 40 ≤ i
      · rw [if_pos (show (Int32.ofInt 40) ≤ (nI i) from show nI 40 ≤ nI i from nI_le h24 (by omega))] at k
        have k := ly_revb 1 (c' := (57, [(2, .int (nI 3)), (0, .ref Yr), (1, .int (nI i))], [.ref Yr], me_w M J)) rfl k
        have k := lz_get (a := Yr) (g := 900) (M := me_w M J) (v := .ref Rd) rfl (nt_gfR rfl hP.2.2.1.1) k
        have k := ly_revb 1 (c' := (61, [(2, .int (nI 3)), (0, .ref Yr), (1, .int (nI i))], [.int (Int32.ofInt 4), .ref Rd], me_w M J)) rfl k
        obtain ⟨d1, o1, ed, kc, k⟩ := lz_c (g := 31) (q := 1) (vs := [.ref Rd, .int (Int32.ofInt 4)]) (rest := []) rfl rfl (by decide) (Or.inr (Or.inl ⟨_, rfl, rfl⟩)) rfl k
        obtain ⟨hf, e1⟩ := (lc_fail (yc_lP hP hS) (yc_lS hP hS) hp kc).resolve_right (fun c => c.1 rfl)
        subst e1
        have hS1 := yc_Sp (q := t) hP (yc_Sf (fb := lb_c p (Int32.ofInt 4)) hP hS)
        have k : nt_rn X _ 93 (64, [(2, .int (nI 3)), (0, .ref Yr), (1, .int (nI i))], [], me_w M (nt_u (nt_u J Rd 2 (lb_c p (Int32.ofInt 4))) Rd 1 (nI t))) _ := k
        have k := ly_revb 1 (c' := (72, [(2, .int (nI 3)), (0, .ref Yr), (1, .int (nI i))], [], me_w M (nt_u (nt_u J Rd 2 (lb_c p (Int32.ofInt 4))) Rd 1 (nI t)))) rfl k
        have k := lz_rv rfl rfl k
        exact ⟨.inl (lb_c p (Int32.ofInt 4)), _, k, Or.inr ⟨3, by decide, hat, hbe, Or.inl ⟨Or.inl (by omega), rfl⟩⟩, (lb_c_ne (by omega) (by decide) (by decide)), _, _, hS1⟩
      · rw [if_neg (show ¬ ((Int32.ofInt 40) ≤ (nI i)) from show ¬ nI 40 ≤ nI i from nI_ge (Nat.not_le.mp h24) (by omega))] at k
        have k := ly_revb 2 (c' := (if (nI i) = 0 then 31 else 35, [(2, .int (nI 3)), (0, .ref Yr), (1, .int (nI i))], [], me_w M J)) rfl k
        by_cases h28 : i = 0
        · rw [if_pos (show (nI i) = 0 from show nI i = nI 0 from congrArg nI h28)] at k
          have k := ly_revb 4 (c' := (if (nI 3) = 0 then 40 else 44, [(2, .int (nI 3)), (0, .ref Yr), (1, .int (nI i))], [.int (Int32.ofInt 1)], me_w M J)) rfl k
          rw [if_neg (show ¬ ((nI 3) = 0) from by decide)] at k
          have k := ly_revb 2 (c' := (if (Int32.ofInt 1) = (Int32.ofInt 0) then 48 else 56, [(2, .int (nI 3)), (0, .ref Yr), (1, .int (nI i))], [], me_w M J)) rfl k
          rw [if_neg (show ¬ ((Int32.ofInt 1) = (Int32.ofInt 0)) from by decide)] at k
          have k := ly_revb 1 (c' := (57, [(2, .int (nI 3)), (0, .ref Yr), (1, .int (nI i))], [.ref Yr], me_w M J)) rfl k
          have k := lz_get (a := Yr) (g := 900) (M := me_w M J) (v := .ref Rd) rfl (nt_gfR rfl hP.2.2.1.1) k
          have k := ly_revb 1 (c' := (61, [(2, .int (nI 3)), (0, .ref Yr), (1, .int (nI i))], [.int (Int32.ofInt 4), .ref Rd], me_w M J)) rfl k
          obtain ⟨d1, o1, ed, kc, k⟩ := lz_c (g := 31) (q := 1) (vs := [.ref Rd, .int (Int32.ofInt 4)]) (rest := []) rfl rfl (by decide) (Or.inr (Or.inl ⟨_, rfl, rfl⟩)) rfl k
          obtain ⟨hf, e1⟩ := (lc_fail (yc_lP hP hS) (yc_lS hP hS) hp kc).resolve_right (fun c => c.1 rfl)
          subst e1
          have hS1 := yc_Sp (q := t) hP (yc_Sf (fb := lb_c p (Int32.ofInt 4)) hP hS)
          have k : nt_rn X _ 93 (64, [(2, .int (nI 3)), (0, .ref Yr), (1, .int (nI i))], [], me_w M (nt_u (nt_u J Rd 2 (lb_c p (Int32.ofInt 4))) Rd 1 (nI t))) _ := k
          have k := ly_revb 1 (c' := (72, [(2, .int (nI 3)), (0, .ref Yr), (1, .int (nI i))], [], me_w M (nt_u (nt_u J Rd 2 (lb_c p (Int32.ofInt 4))) Rd 1 (nI t)))) rfl k
          have k := lz_rv rfl rfl k
          exact ⟨.inl (lb_c p (Int32.ofInt 4)), _, k, Or.inr ⟨3, by decide, hat, hbe, Or.inl ⟨Or.inr (Or.inl (by omega)), rfl⟩⟩, (lb_c_ne (by omega) (by decide) (by decide)), _, _, hS1⟩
        · rw [if_neg (show ¬ ((nI i) = 0) from nI_ne0 (Nat.pos_of_ne_zero h28) (by omega))] at k
          have k := ly_revb 3 (c' := (if (nI 3) = 0 then 40 else 44, [(2, .int (nI 3)), (0, .ref Yr), (1, .int (nI i))], [.int (Int32.ofInt 0)], me_w M J)) rfl k
          rw [if_neg (show ¬ ((nI 3) = 0) from by decide)] at k
          have k := ly_revb 2 (c' := (if (Int32.ofInt 0) = (Int32.ofInt 0) then 48 else 56, [(2, .int (nI 3)), (0, .ref Yr), (1, .int (nI i))], [], me_w M J)) rfl k
          rw [if_pos (show (Int32.ofInt 0) = (Int32.ofInt 0) from by decide)] at k
          have k := ly_revb 2 (c' := (50, [(2, .int (nI 3)), (0, .ref Yr), (1, .int (nI i))], [.int (nI 3), .ref Yr], me_w M J)) rfl k
          obtain ⟨d1, o1, ed, kc, k⟩ := lz_c (g := 95) (q := 1) (vs := [.ref Yr, .int (nI 3)]) (rest := []) rfl rfl (by decide) (Or.inr (Or.inl ⟨_, rfl, rfl⟩)) rfl k
          obtain ⟨a, e1, hfu⟩ := yc_fu3 hP hS hb kc
          subst e1
          rcases hfu with ⟨rfl, hfu⟩ | ⟨rfl, hfu⟩
          · have k : nt_rn X _ 93 (53, [(2, .int (nI 3)), (0, .ref Yr), (1, .int (nI i))], [.int (Int32.ofInt 1)], me_w M J) _ := k
            have k := ly_revb 1 (c' := (if (Int32.ofInt 1) = 0 then 67 else 56, [(2, .int (nI 3)), (0, .ref Yr), (1, .int (nI i))], [], me_w M J)) rfl k
            rw [if_neg (show ¬ ((Int32.ofInt 1) = 0) from by decide)] at k
            have k := ly_revb 1 (c' := (57, [(2, .int (nI 3)), (0, .ref Yr), (1, .int (nI i))], [.ref Yr], me_w M J)) rfl k
            have k := lz_get (a := Yr) (g := 900) (M := me_w M J) (v := .ref Rd) rfl (nt_gfR rfl hP.2.2.1.1) k
            have k := ly_revb 1 (c' := (61, [(2, .int (nI 3)), (0, .ref Yr), (1, .int (nI i))], [.int (Int32.ofInt 4), .ref Rd], me_w M J)) rfl k
            obtain ⟨d1, o1, ed, kc, k⟩ := lz_c (g := 31) (q := 1) (vs := [.ref Rd, .int (Int32.ofInt 4)]) (rest := []) rfl rfl (by decide) (Or.inr (Or.inl ⟨_, rfl, rfl⟩)) rfl k
            obtain ⟨hf, e1⟩ := (lc_fail (yc_lP hP hS) (yc_lS hP hS) hp kc).resolve_right (fun c => c.1 rfl)
            subst e1
            have hS1 := yc_Sp (q := t) hP (yc_Sf (fb := lb_c p (Int32.ofInt 4)) hP hS)
            have k : nt_rn X _ 93 (64, [(2, .int (nI 3)), (0, .ref Yr), (1, .int (nI i))], [], me_w M (nt_u (nt_u J Rd 2 (lb_c p (Int32.ofInt 4))) Rd 1 (nI t))) _ := k
            have k := ly_revb 1 (c' := (72, [(2, .int (nI 3)), (0, .ref Yr), (1, .int (nI i))], [], me_w M (nt_u (nt_u J Rd 2 (lb_c p (Int32.ofInt 4))) Rd 1 (nI t)))) rfl k
            have k := lz_rv rfl rfl k
            exact ⟨.inl (lb_c p (Int32.ofInt 4)), _, k, Or.inr ⟨3, by decide, hat, hbe, Or.inl ⟨Or.inr (Or.inr hfu), rfl⟩⟩, (lb_c_ne (by omega) (by decide) (by decide)), _, _, hS1⟩
          · have k : nt_rn X _ 93 (53, [(2, .int (nI 3)), (0, .ref Yr), (1, .int (nI i))], [.int (Int32.ofInt 0)], me_w M J) _ := k
            have k := ly_revb 1 (c' := (if (Int32.ofInt 0) = 0 then 67 else 56, [(2, .int (nI 3)), (0, .ref Yr), (1, .int (nI i))], [], me_w M J)) rfl k
            rw [if_pos (show (Int32.ofInt 0) = 0 from by decide)] at k
            have k := ly_revb 2 (c' := (69, [(2, .int (nI 3)), (0, .ref Yr), (1, .int (nI i))], [.int (nI 3), .ref Yr], me_w M J)) rfl k
            obtain ⟨d1, o1, ed, kc, k⟩ := lz_c (g := 96) (q := 1) (vs := [.ref Yr, .int (nI 3)]) (rest := []) rfl rfl (by decide) (Or.inr (Or.inl ⟨_, rfl, rfl⟩)) rfl k
            obtain ⟨r, J9, e1, hpa, hQ⟩ := yc_pa3 hP hS hp hb hat hfu kc
            subst e1
            have k : nt_rn X _ 93 (72, [(2, .int (nI 3)), (0, .ref Yr), (1, .int (nI i))], [], me_w M J9) _ := k
            have k := lz_rv rfl rfl k
            refine ⟨r, _, k, Or.inr ⟨3, by decide, hat, hbe, Or.inr ⟨?_, hpa⟩⟩, yc_Qm (fun v D hh => ⟨3, by decide, hat, hbe, hh⟩) hQ⟩
            intro c; rcases c with c | c | c
            · omega
            · exact c (by omega)
            · exact hfu c
    · have k : nt_rn X _ 93 (4, [(0, .ref Yr), (1, .int (nI i))], [.int (nI 4)], me_w M J) _ := k
      have k := ly_revb 4 (c' := (if (nI 4) = (Int32.ofInt (-1)) then 10 else 21, [(2, .int (nI 4)), (0, .ref Yr), (1, .int (nI i))], [], me_w M J)) rfl k
      rw [if_neg (show ¬ ((nI 4) = (Int32.ofInt (-1))) from me_nm1 (by decide))] at k
      have k := ly_revb 3 (c' := (if (Int32.ofInt 40) ≤ (nI i) then 56 else 27, [(2, .int (nI 4)), (0, .ref Yr), (1, .int (nI i))], [], me_w M J)) rfl k
      by_cases h24 : 40 ≤ i
      · rw [if_pos (show (Int32.ofInt 40) ≤ (nI i) from show nI 40 ≤ nI i from nI_le h24 (by omega))] at k
        have k := ly_revb 1 (c' := (57, [(2, .int (nI 4)), (0, .ref Yr), (1, .int (nI i))], [.ref Yr], me_w M J)) rfl k
        have k := lz_get (a := Yr) (g := 900) (M := me_w M J) (v := .ref Rd) rfl (nt_gfR rfl hP.2.2.1.1) k
        have k := ly_revb 1 (c' := (61, [(2, .int (nI 4)), (0, .ref Yr), (1, .int (nI i))], [.int (Int32.ofInt 4), .ref Rd], me_w M J)) rfl k
        obtain ⟨d1, o1, ed, kc, k⟩ := lz_c (g := 31) (q := 1) (vs := [.ref Rd, .int (Int32.ofInt 4)]) (rest := []) rfl rfl (by decide) (Or.inr (Or.inl ⟨_, rfl, rfl⟩)) rfl k
        obtain ⟨hf, e1⟩ := (lc_fail (yc_lP hP hS) (yc_lS hP hS) hp kc).resolve_right (fun c => c.1 rfl)
        subst e1
        have hS1 := yc_Sp (q := t) hP (yc_Sf (fb := lb_c p (Int32.ofInt 4)) hP hS)
        have k : nt_rn X _ 93 (64, [(2, .int (nI 4)), (0, .ref Yr), (1, .int (nI i))], [], me_w M (nt_u (nt_u J Rd 2 (lb_c p (Int32.ofInt 4))) Rd 1 (nI t))) _ := k
        have k := ly_revb 1 (c' := (72, [(2, .int (nI 4)), (0, .ref Yr), (1, .int (nI i))], [], me_w M (nt_u (nt_u J Rd 2 (lb_c p (Int32.ofInt 4))) Rd 1 (nI t)))) rfl k
        have k := lz_rv rfl rfl k
        exact ⟨.inl (lb_c p (Int32.ofInt 4)), _, k, Or.inr ⟨4, by decide, hat, hbe, Or.inl ⟨Or.inl (by omega), rfl⟩⟩, (lb_c_ne (by omega) (by decide) (by decide)), _, _, hS1⟩
      · rw [if_neg (show ¬ ((Int32.ofInt 40) ≤ (nI i)) from show ¬ nI 40 ≤ nI i from nI_ge (Nat.not_le.mp h24) (by omega))] at k
        have k := ly_revb 2 (c' := (if (nI i) = 0 then 31 else 35, [(2, .int (nI 4)), (0, .ref Yr), (1, .int (nI i))], [], me_w M J)) rfl k
        by_cases h28 : i = 0
        · rw [if_pos (show (nI i) = 0 from show nI i = nI 0 from congrArg nI h28)] at k
          have k := ly_revb 4 (c' := (if (nI 4) = 0 then 40 else 44, [(2, .int (nI 4)), (0, .ref Yr), (1, .int (nI i))], [.int (Int32.ofInt 1)], me_w M J)) rfl k
          rw [if_neg (show ¬ ((nI 4) = 0) from by decide)] at k
          have k := ly_revb 2 (c' := (if (Int32.ofInt 1) = (Int32.ofInt 0) then 48 else 56, [(2, .int (nI 4)), (0, .ref Yr), (1, .int (nI i))], [], me_w M J)) rfl k
          rw [if_neg (show ¬ ((Int32.ofInt 1) = (Int32.ofInt 0)) from by decide)] at k
          have k := ly_revb 1 (c' := (57, [(2, .int (nI 4)), (0, .ref Yr), (1, .int (nI i))], [.ref Yr], me_w M J)) rfl k
          have k := lz_get (a := Yr) (g := 900) (M := me_w M J) (v := .ref Rd) rfl (nt_gfR rfl hP.2.2.1.1) k
          have k := ly_revb 1 (c' := (61, [(2, .int (nI 4)), (0, .ref Yr), (1, .int (nI i))], [.int (Int32.ofInt 4), .ref Rd], me_w M J)) rfl k
          obtain ⟨d1, o1, ed, kc, k⟩ := lz_c (g := 31) (q := 1) (vs := [.ref Rd, .int (Int32.ofInt 4)]) (rest := []) rfl rfl (by decide) (Or.inr (Or.inl ⟨_, rfl, rfl⟩)) rfl k
          obtain ⟨hf, e1⟩ := (lc_fail (yc_lP hP hS) (yc_lS hP hS) hp kc).resolve_right (fun c => c.1 rfl)
          subst e1
          have hS1 := yc_Sp (q := t) hP (yc_Sf (fb := lb_c p (Int32.ofInt 4)) hP hS)
          have k : nt_rn X _ 93 (64, [(2, .int (nI 4)), (0, .ref Yr), (1, .int (nI i))], [], me_w M (nt_u (nt_u J Rd 2 (lb_c p (Int32.ofInt 4))) Rd 1 (nI t))) _ := k
          have k := ly_revb 1 (c' := (72, [(2, .int (nI 4)), (0, .ref Yr), (1, .int (nI i))], [], me_w M (nt_u (nt_u J Rd 2 (lb_c p (Int32.ofInt 4))) Rd 1 (nI t)))) rfl k
          have k := lz_rv rfl rfl k
          exact ⟨.inl (lb_c p (Int32.ofInt 4)), _, k, Or.inr ⟨4, by decide, hat, hbe, Or.inl ⟨Or.inr (Or.inl (by omega)), rfl⟩⟩, (lb_c_ne (by omega) (by decide) (by decide)), _, _, hS1⟩
        · rw [if_neg (show ¬ ((nI i) = 0) from nI_ne0 (Nat.pos_of_ne_zero h28) (by omega))] at k
          have k := ly_revb 3 (c' := (if (nI 4) = 0 then 40 else 44, [(2, .int (nI 4)), (0, .ref Yr), (1, .int (nI i))], [.int (Int32.ofInt 0)], me_w M J)) rfl k
          rw [if_neg (show ¬ ((nI 4) = 0) from by decide)] at k
          have k := ly_revb 2 (c' := (if (Int32.ofInt 0) = (Int32.ofInt 0) then 48 else 56, [(2, .int (nI 4)), (0, .ref Yr), (1, .int (nI i))], [], me_w M J)) rfl k
          rw [if_pos (show (Int32.ofInt 0) = (Int32.ofInt 0) from by decide)] at k
          have k := ly_revb 2 (c' := (50, [(2, .int (nI 4)), (0, .ref Yr), (1, .int (nI i))], [.int (nI 4), .ref Yr], me_w M J)) rfl k
          obtain ⟨d1, o1, ed, kc, k⟩ := lz_c (g := 95) (q := 1) (vs := [.ref Yr, .int (nI 4)]) (rest := []) rfl rfl (by decide) (Or.inr (Or.inl ⟨_, rfl, rfl⟩)) rfl k
          obtain ⟨a, e1, hfu⟩ := yc_fu4 hP hS hb kc
          subst e1
          rcases hfu with ⟨rfl, hfu⟩ | ⟨rfl, hfu⟩
          · have k : nt_rn X _ 93 (53, [(2, .int (nI 4)), (0, .ref Yr), (1, .int (nI i))], [.int (Int32.ofInt 1)], me_w M J) _ := k
            have k := ly_revb 1 (c' := (if (Int32.ofInt 1) = 0 then 67 else 56, [(2, .int (nI 4)), (0, .ref Yr), (1, .int (nI i))], [], me_w M J)) rfl k
            rw [if_neg (show ¬ ((Int32.ofInt 1) = 0) from by decide)] at k
            have k := ly_revb 1 (c' := (57, [(2, .int (nI 4)), (0, .ref Yr), (1, .int (nI i))], [.ref Yr], me_w M J)) rfl k
            have k := lz_get (a := Yr) (g := 900) (M := me_w M J) (v := .ref Rd) rfl (nt_gfR rfl hP.2.2.1.1) k
            have k := ly_revb 1 (c' := (61, [(2, .int (nI 4)), (0, .ref Yr), (1, .int (nI i))], [.int (Int32.ofInt 4), .ref Rd], me_w M J)) rfl k
            obtain ⟨d1, o1, ed, kc, k⟩ := lz_c (g := 31) (q := 1) (vs := [.ref Rd, .int (Int32.ofInt 4)]) (rest := []) rfl rfl (by decide) (Or.inr (Or.inl ⟨_, rfl, rfl⟩)) rfl k
            obtain ⟨hf, e1⟩ := (lc_fail (yc_lP hP hS) (yc_lS hP hS) hp kc).resolve_right (fun c => c.1 rfl)
            subst e1
            have hS1 := yc_Sp (q := t) hP (yc_Sf (fb := lb_c p (Int32.ofInt 4)) hP hS)
            have k : nt_rn X _ 93 (64, [(2, .int (nI 4)), (0, .ref Yr), (1, .int (nI i))], [], me_w M (nt_u (nt_u J Rd 2 (lb_c p (Int32.ofInt 4))) Rd 1 (nI t))) _ := k
            have k := ly_revb 1 (c' := (72, [(2, .int (nI 4)), (0, .ref Yr), (1, .int (nI i))], [], me_w M (nt_u (nt_u J Rd 2 (lb_c p (Int32.ofInt 4))) Rd 1 (nI t)))) rfl k
            have k := lz_rv rfl rfl k
            exact ⟨.inl (lb_c p (Int32.ofInt 4)), _, k, Or.inr ⟨4, by decide, hat, hbe, Or.inl ⟨Or.inr (Or.inr hfu), rfl⟩⟩, (lb_c_ne (by omega) (by decide) (by decide)), _, _, hS1⟩
          · have k : nt_rn X _ 93 (53, [(2, .int (nI 4)), (0, .ref Yr), (1, .int (nI i))], [.int (Int32.ofInt 0)], me_w M J) _ := k
            have k := ly_revb 1 (c' := (if (Int32.ofInt 0) = 0 then 67 else 56, [(2, .int (nI 4)), (0, .ref Yr), (1, .int (nI i))], [], me_w M J)) rfl k
            rw [if_pos (show (Int32.ofInt 0) = 0 from by decide)] at k
            have k := ly_revb 2 (c' := (69, [(2, .int (nI 4)), (0, .ref Yr), (1, .int (nI i))], [.int (nI 4), .ref Yr], me_w M J)) rfl k
            obtain ⟨d1, o1, ed, kc, k⟩ := lz_c (g := 96) (q := 1) (vs := [.ref Yr, .int (nI 4)]) (rest := []) rfl rfl (by decide) (Or.inr (Or.inl ⟨_, rfl, rfl⟩)) rfl k
            obtain ⟨r, J9, e1, hpa, hQ⟩ := yc_pa4 hP hS hp hb hat hfu kc
            subst e1
            have k : nt_rn X _ 93 (72, [(2, .int (nI 4)), (0, .ref Yr), (1, .int (nI i))], [], me_w M J9) _ := k
            have k := lz_rv rfl rfl k
            refine ⟨r, _, k, Or.inr ⟨4, by decide, hat, hbe, Or.inr ⟨?_, hpa⟩⟩, yc_Qm (fun v D hh => ⟨4, by decide, hat, hbe, hh⟩) hQ⟩
            intro c; rcases c with c | c | c
            · omega
            · exact c (by omega)
            · exact hfu c
  · have k : nt_rn X _ 93 (4, [(0, .ref Yr), (1, .int (nI i))], [.int (Int32.ofInt (-1))], me_w M J) _ := k
    have k := ly_revb 4 (c' := (if (Int32.ofInt (-1)) = (Int32.ofInt (-1)) then 10 else 21, [(2, .int (Int32.ofInt (-1))), (0, .ref Yr), (1, .int (nI i))], [], me_w M J)) rfl k
    rw [if_pos (show (Int32.ofInt (-1)) = (Int32.ofInt (-1)) from rfl)] at k
    have k := ly_revb 1 (c' := (11, [(2, .int (Int32.ofInt (-1))), (0, .ref Yr), (1, .int (nI i))], [.ref Yr], me_w M J)) rfl k
    have k := lz_get (a := Yr) (g := 900) (M := me_w M J) (v := .ref Rd) rfl (nt_gfR rfl hP.2.2.1.1) k
    have k := ly_revb 1 (c' := (15, [(2, .int (Int32.ofInt (-1))), (0, .ref Yr), (1, .int (nI i))], [.int (Int32.ofInt 0), .ref Rd], me_w M J)) rfl k
    obtain ⟨d1, o1, ed, kc, k⟩ := lz_c (g := 31) (q := 1) (vs := [.ref Rd, .int (Int32.ofInt 0)]) (rest := []) rfl rfl (by decide) (Or.inr (Or.inl ⟨_, rfl, rfl⟩)) rfl k
    obtain ⟨hf, e1⟩ := (lc_fail (yc_lP hP hS) (yc_lS hP hS) hp kc).resolve_right (fun c => c.1 rfl)
    subst e1
    have hS1 := yc_Sp (q := t) hP (yc_Sf (fb := lb_c p (Int32.ofInt 0)) hP hS)
    have k : nt_rn X _ 93 (18, [(2, .int (Int32.ofInt (-1))), (0, .ref Yr), (1, .int (nI i))], [], me_w M (nt_u (nt_u J Rd 2 (lb_c p (Int32.ofInt 0))) Rd 1 (nI t))) _ := k
    have k := ly_revb 1 (c' := (72, [(2, .int (Int32.ofInt (-1))), (0, .ref Yr), (1, .int (nI i))], [], me_w M (nt_u (nt_u J Rd 2 (lb_c p (Int32.ofInt 0))) Rd 1 (nI t)))) rfl k
    have k := lz_rv rfl rfl k
    exact ⟨.inl (lb_c p (Int32.ofInt 0)), _, k, Or.inl ⟨hno, rfl⟩, (lb_c_ne (by omega) (by decide) (by decide)), _, _, hS1⟩
def lb_ry : Int32 ⊕ lb_U → Int32
  | .inl c => c
  | .inr _ => 0
def lb_hd (h : Nat) : Nat := if h = 0 then 30 else h
/-- the yard's object holds what was read -/
def yc_R (Rw : Nat → Nat) (Y : Nat) (u : Nat × Nat × Nat × Nat × Nat) (D : lb_C) (J : Nat → Nat → Int32) : Prop := (J Y 0 = nI u.1 ∧ J Y 1 = nI u.2.1 ∧ J Y 2 = nI u.2.2.1 ∧ J Y 3 = nI u.2.2.2.1 ∧ J Y 4 = nI (lb_hd u.2.2.2.2)) ∧ ∀ i, 5 ≤ i → i ≤ 12 → ∀ j, J (Rw i) j = D i j
theorem yc_rdl {X : nt_X} {d t Rd Tp By RR Sp Yr Y m0 s0 : Nat} {Rw : Nat → Nat} {f : Nat → Int32} {M : nt_M} {o : Option Value × nt_M} (hP : yc_P M t Rd Tp By RR Sp Yr Y Rw) : ∀ (c i p : Nat) (u : Nat × Nat × Nat × Nat × Nat) (C : lb_C) (J : Nat → Nat → Int32), i + c = 40 → p ≤ t → lb_ub u → yc_S Rw C f t Rd Tp By RR Y m0 s0 p 0 u J → nt_rn X d 92 (23, [(3, .int (nI i)), (2, .int (Int32.ofInt 1)), (0, .ref Yr), (1, .ref Y)], [], me_w M J) o → ∃ k r J', o = (some (.int (lb_ry r)), me_w M J') ∧ lb_ya f t k i (p, u) r ∧ (∀ u1, r = .inr u1 → lb_ub u1.2 ∧ ∃ k D, lb_yaC f t k i (p, u) u1 C D ∧ yc_R Rw Y u1.2 D J') ∧ (∀ c, r = .inl c → c ≠ 0) := by
  have t4 : t ≤ 400 := hP.2.2.2.2.2.1
  intro c
  induction c with
  | zero =>
    intro i p u C J hc hp hb hS k
    have k := ly_revb 2 (c' := (if (Int32.ofInt 1) = 0 then 52 else 27, [(3, .int (nI i)), (2, .int (Int32.ofInt 1)), (0, .ref Yr), (1, .ref Y)], [], me_w M J)) rfl k
    rw [if_neg (show ¬ ((Int32.ofInt 1) = 0) from by decide)] at k
    have k := ly_revb 3 (c' := (if (Int32.ofInt 40) < (nI i) then 52 else 33, [(3, .int (nI i)), (2, .int (Int32.ofInt 1)), (0, .ref Yr), (1, .ref Y)], [], me_w M J)) rfl k
    rw [if_neg (show ¬ ((Int32.ofInt 40) < (nI i)) from show ¬ nI 40 < nI i from nI_nlt (by omega) (by omega))] at k
    have k := ly_revb 2 (c' := (35, [(3, .int (nI i)), (2, .int (Int32.ofInt 1)), (0, .ref Yr), (1, .ref Y)], [.int (nI i), .ref Yr], me_w M J)) rfl k
    obtain ⟨d1, o1, ed, kc, k⟩ := lz_c (g := 93) (q := 1) (vs := [.ref Yr, .int (nI i)]) (rest := []) rfl rfl (by decide) (Or.inr (Or.inl ⟨_, rfl, rfl⟩)) rfl k
    obtain ⟨r1, J1, e1, hy, hQ⟩ := yc_clause hP hS hp hb (by omega) kc
    subst e1
    rcases r1 with c | u1
    · obtain ⟨hc, u9, D9, hS9⟩ := hQ
      have k : nt_rn X _ 92 (38, [(3, .int (nI i)), (2, .int (Int32.ofInt 1)), (0, .ref Yr), (1, .ref Y)], [], me_w M J1) _ := k
      have k := ly_revb 1 (c' := (39, [(3, .int (nI i)), (2, .int (Int32.ofInt 1)), (0, .ref Yr), (1, .ref Y)], [.ref Yr], me_w M J1)) rfl k
      have k := lz_get (a := Yr) (g := 900) (M := me_w M J1) (v := .ref Rd) rfl (nt_gfR rfl hP.2.2.1.1) k
      obtain ⟨d1, o1, ed, kc, k⟩ := lz_c (g := 35) (q := 1) (vs := [.ref Rd]) (rest := []) rfl rfl (by decide) (Or.inr (Or.inl ⟨_, rfl, rfl⟩)) rfl k
      have hgt : lb_g f t t = Int32.ofInt (-1) := if_neg (by omega)
      have e1 : o1 = (some (.int (Int32.ofInt 0)), me_w M J1) := by
        rcases lc_nextClause (yc_lP hP hS9) (yc_lS hP hS9) (Nat.le_refl t) kc with ⟨q, _⟩ | ⟨_, q⟩ | ⟨_, q, _⟩ | ⟨_, q, _⟩
        · rw [hgt] at q; exact absurd q (by decide)
        · exact q
        · exact absurd hgt q
        · exact absurd hgt q
      subst e1
      have k : nt_rn X _ 92 (45, [(3, .int (nI i)), (2, .int (Int32.ofInt 1)), (0, .ref Yr), (1, .ref Y)], [.int (Int32.ofInt 0)], me_w M J1) _ := k
      have k := ly_revb 2 (c' := (49, [(3, .int ((nI i) + Int32.ofInt 1)), (2, .int (Int32.ofInt 0)), (0, .ref Yr), (1, .ref Y)], [], me_w M J1)) rfl k
      rw [show ((nI i) + Int32.ofInt 1 : Int32) = nI (i + 1) from me_add (k := 1)] at k
      have k := ly_revb 1 (c' := (23, [(3, .int (nI (i + 1))), (2, .int (Int32.ofInt 0)), (0, .ref Yr), (1, .ref Y)], [], me_w M J1)) rfl k
      have k := ly_revb 2 (c' := (if (Int32.ofInt 0) = 0 then 52 else 27, [(3, .int (nI (i + 1))), (2, .int (Int32.ofInt 0)), (0, .ref Yr), (1, .ref Y)], [], me_w M J1)) rfl k
      rw [if_pos (show (Int32.ofInt 0) = 0 from by decide)] at k
      have k := ly_revb 1 (c' := (53, [(3, .int (nI (i + 1))), (2, .int (Int32.ofInt 0)), (0, .ref Yr), (1, .ref Y)], [.ref Yr], me_w M J1)) rfl k
      have k := lz_get (a := Yr) (g := 901) (M := me_w M J1) (v := .ref Y) rfl (nt_gfR rfl hP.2.2.1.2) k
      have k := lz_get (a := Y) (g := 804) (M := me_w M J1) (v := .int (nI u9.2.2.2.2)) rfl (congrArg Value.int (hS9.2.2.1.2.2.2.2)) k
      have k := ly_revb 1 (c' := (if (nI u9.2.2.2.2) = 0 then 62 else 71, [(3, .int (nI (i + 1))), (2, .int (Int32.ofInt 0)), (0, .ref Yr), (1, .ref Y)], [], me_w M J1)) rfl k
      by_cases h59 : nI u9.2.2.2.2 = 0
      · rw [if_pos (show (nI u9.2.2.2.2) = 0 from h59)] at k
        have k := ly_revb 1 (c' := (63, [(3, .int (nI (i + 1))), (2, .int (Int32.ofInt 0)), (0, .ref Yr), (1, .ref Y)], [.ref Yr], me_w M J1)) rfl k
        have k := lz_get (a := Yr) (g := 901) (M := me_w M J1) (v := .ref Y) rfl (nt_gfR rfl hP.2.2.1.2) k
        have k := ly_revb 1 (c' := (68, [(3, .int (nI (i + 1))), (2, .int (Int32.ofInt 0)), (0, .ref Yr), (1, .ref Y)], [.int (Int32.ofInt 30), .ref Y], me_w M J1)) rfl k
        have k := me_put rfl (by decide) k
        have k : nt_rn X _ 92 (71, [(3, .int (nI (i + 1))), (2, .int (Int32.ofInt 0)), (0, .ref Yr), (1, .ref Y)], [], me_w M (nt_u J1 Y 4 (Int32.ofInt 30))) _ := k
        have hS1 := yc_S4 (y := 30) hP hS9
        have k := ly_revb 1 (c' := (72, [(3, .int (nI (i + 1))), (2, .int (Int32.ofInt 0)), (0, .ref Yr), (1, .ref Y)], [.ref Yr], me_w M (nt_u J1 Y 4 (Int32.ofInt 30)))) rfl k
        have k := lz_get (a := Yr) (g := 900) (M := me_w M (nt_u J1 Y 4 (Int32.ofInt 30))) (v := .ref Rd) rfl (nt_gfR rfl hP.2.2.1.1) k
        obtain ⟨d1, o1, ed, kc, k⟩ := lz_c (g := 38) (q := 1) (vs := [.ref Rd]) (rest := []) rfl rfl (by decide) (Or.inr (Or.inl ⟨_, rfl, rfl⟩)) rfl k
        have e1 := lc_fault (yc_lP hP hS1) (yc_lS hP hS1) (Nat.le_refl t) kc
        subst e1
        have k : nt_rn X _ 92 (78, [(3, .int (nI (i + 1))), (2, .int (Int32.ofInt 0)), (0, .ref Yr), (1, .ref Y)], [.int (c)], me_w M (nt_u J1 Y 4 (Int32.ofInt 30))) _ := k
        have k := lz_ri rfl (by decide) k
        exact ⟨1, .inl c, _, k, ⟨_, hy, Or.inl ⟨c, rfl, rfl⟩⟩, fun u1 e => (by cases e), fun c e => (by cases e; exact hc)⟩
      · rw [if_neg (show ¬ ((nI u9.2.2.2.2) = 0) from h59)] at k
        have k := ly_revb 1 (c' := (72, [(3, .int (nI (i + 1))), (2, .int (Int32.ofInt 0)), (0, .ref Yr), (1, .ref Y)], [.ref Yr], me_w M J1)) rfl k
        have k := lz_get (a := Yr) (g := 900) (M := me_w M J1) (v := .ref Rd) rfl (nt_gfR rfl hP.2.2.1.1) k
        obtain ⟨d1, o1, ed, kc, k⟩ := lz_c (g := 38) (q := 1) (vs := [.ref Rd]) (rest := []) rfl rfl (by decide) (Or.inr (Or.inl ⟨_, rfl, rfl⟩)) rfl k
        have e1 := lc_fault (yc_lP hP hS9) (yc_lS hP hS9) (Nat.le_refl t) kc
        subst e1
        have k : nt_rn X _ 92 (78, [(3, .int (nI (i + 1))), (2, .int (Int32.ofInt 0)), (0, .ref Yr), (1, .ref Y)], [.int (c)], me_w M J1) _ := k
        have k := lz_ri rfl (by decide) k
        exact ⟨1, .inl c, _, k, ⟨_, hy, Or.inl ⟨c, rfl, rfl⟩⟩, fun u1 e => (by cases e), fun c e => (by cases e; exact hc)⟩
    · obtain ⟨hp1, hb1, D9, hC9, hS9⟩ := hQ
      have k : nt_rn X _ 92 (38, [(3, .int (nI i)), (2, .int (Int32.ofInt 1)), (0, .ref Yr), (1, .ref Y)], [], me_w M J1) _ := k
      have k := ly_revb 1 (c' := (39, [(3, .int (nI i)), (2, .int (Int32.ofInt 1)), (0, .ref Yr), (1, .ref Y)], [.ref Yr], me_w M J1)) rfl k
      have k := lz_get (a := Yr) (g := 900) (M := me_w M J1) (v := .ref Rd) rfl (nt_gfR rfl hP.2.2.1.1) k
      obtain ⟨d1, o1, ed, kc, k⟩ := lz_c (g := 35) (q := 1) (vs := [.ref Rd]) (rest := []) rfl rfl (by decide) (Or.inr (Or.inl ⟨_, rfl, rfl⟩)) rfl k
      rcases lc_nextClause (yc_lP hP hS9) (yc_lS hP hS9) hp1 kc with ⟨hn, e1⟩ | ⟨hn, e1⟩ | ⟨hn, hn2, _, e1⟩ | ⟨_, _, hf, _⟩
      · have hlt := lb_g_lt (f := f) (t := t) (p := u1.1) (by rw [hn]; decide)
        rw [Nat.min_eq_left (show u1.1 + 1 ≤ t from hlt)] at e1
        subst e1
        have hS1 := yc_Sp (q := lb_s f t (u1.1 + 1)) hP hS9
        have hp2 : lb_s f t (u1.1 + 1) ≤ t := (lb_s_le (t - (u1.1 + 1)) (u1.1 + 1) (by omega)).2
        have k : nt_rn X _ 92 (45, [(3, .int (nI i)), (2, .int (Int32.ofInt 1)), (0, .ref Yr), (1, .ref Y)], [.int (Int32.ofInt 1)], me_w M (nt_u J1 Rd 1 (nI (lb_s f t (u1.1 + 1))))) _ := k
        have k := ly_revb 2 (c' := (49, [(3, .int ((nI i) + Int32.ofInt 1)), (2, .int (Int32.ofInt 1)), (0, .ref Yr), (1, .ref Y)], [], me_w M (nt_u J1 Rd 1 (nI (lb_s f t (u1.1 + 1)))))) rfl k
        rw [show ((nI i) + Int32.ofInt 1 : Int32) = nI (i + 1) from me_add (k := 1)] at k
        have k := ly_revb 1 (c' := (23, [(3, .int (nI (i + 1))), (2, .int (Int32.ofInt 1)), (0, .ref Yr), (1, .ref Y)], [], me_w M (nt_u J1 Rd 1 (nI (lb_s f t (u1.1 + 1)))))) rfl k
        exfalso
        obtain ⟨w, hw, hat, hbe, hh⟩ := hy.resolve_left (fun h => by cases h.2)
        rcases hh with ⟨_, h⟩ | ⟨h, _⟩
        · cases h
        · exact h (Or.inl (by omega))
      · subst e1
        have k : nt_rn X _ 92 (45, [(3, .int (nI i)), (2, .int (Int32.ofInt 1)), (0, .ref Yr), (1, .ref Y)], [.int (Int32.ofInt 0)], me_w M J1) _ := k
        have k := ly_revb 2 (c' := (49, [(3, .int ((nI i) + Int32.ofInt 1)), (2, .int (Int32.ofInt 0)), (0, .ref Yr), (1, .ref Y)], [], me_w M J1)) rfl k
        rw [show ((nI i) + Int32.ofInt 1 : Int32) = nI (i + 1) from me_add (k := 1)] at k
        have k := ly_revb 1 (c' := (23, [(3, .int (nI (i + 1))), (2, .int (Int32.ofInt 0)), (0, .ref Yr), (1, .ref Y)], [], me_w M J1)) rfl k
        have k := ly_revb 2 (c' := (if (Int32.ofInt 0) = 0 then 52 else 27, [(3, .int (nI (i + 1))), (2, .int (Int32.ofInt 0)), (0, .ref Yr), (1, .ref Y)], [], me_w M J1)) rfl k
        rw [if_pos (show (Int32.ofInt 0) = 0 from by decide)] at k
        have k := ly_revb 1 (c' := (53, [(3, .int (nI (i + 1))), (2, .int (Int32.ofInt 0)), (0, .ref Yr), (1, .ref Y)], [.ref Yr], me_w M J1)) rfl k
        have k := lz_get (a := Yr) (g := 901) (M := me_w M J1) (v := .ref Y) rfl (nt_gfR rfl hP.2.2.1.2) k
        have k := lz_get (a := Y) (g := 804) (M := me_w M J1) (v := .int (nI u1.2.2.2.2.2)) rfl (congrArg Value.int (hS9.2.2.1.2.2.2.2)) k
        have k := ly_revb 1 (c' := (if (nI u1.2.2.2.2.2) = 0 then 62 else 71, [(3, .int (nI (i + 1))), (2, .int (Int32.ofInt 0)), (0, .ref Yr), (1, .ref Y)], [], me_w M J1)) rfl k
        by_cases h59 : u1.2.2.2.2.2 = 0
        · rw [if_pos (show (nI u1.2.2.2.2.2) = 0 from show nI u1.2.2.2.2.2 = nI 0 from congrArg nI h59)] at k
          have k := ly_revb 1 (c' := (63, [(3, .int (nI (i + 1))), (2, .int (Int32.ofInt 0)), (0, .ref Yr), (1, .ref Y)], [.ref Yr], me_w M J1)) rfl k
          have k := lz_get (a := Yr) (g := 901) (M := me_w M J1) (v := .ref Y) rfl (nt_gfR rfl hP.2.2.1.2) k
          have k := ly_revb 1 (c' := (68, [(3, .int (nI (i + 1))), (2, .int (Int32.ofInt 0)), (0, .ref Yr), (1, .ref Y)], [.int (Int32.ofInt 30), .ref Y], me_w M J1)) rfl k
          have k := me_put rfl (by decide) k
          have k : nt_rn X _ 92 (71, [(3, .int (nI (i + 1))), (2, .int (Int32.ofInt 0)), (0, .ref Yr), (1, .ref Y)], [], me_w M (nt_u J1 Y 4 (Int32.ofInt 30))) _ := k
          have hS1 := yc_S4 (y := 30) hP hS9
          have k := ly_revb 1 (c' := (72, [(3, .int (nI (i + 1))), (2, .int (Int32.ofInt 0)), (0, .ref Yr), (1, .ref Y)], [.ref Yr], me_w M (nt_u J1 Y 4 (Int32.ofInt 30)))) rfl k
          have k := lz_get (a := Yr) (g := 900) (M := me_w M (nt_u J1 Y 4 (Int32.ofInt 30))) (v := .ref Rd) rfl (nt_gfR rfl hP.2.2.1.1) k
          obtain ⟨d1, o1, ed, kc, k⟩ := lz_c (g := 38) (q := 1) (vs := [.ref Rd]) (rest := []) rfl rfl (by decide) (Or.inr (Or.inl ⟨_, rfl, rfl⟩)) rfl k
          have e1 := lc_fault (yc_lP hP hS1) (yc_lS hP hS1) hp1 kc
          subst e1
          have k : nt_rn X _ 92 (78, [(3, .int (nI (i + 1))), (2, .int (Int32.ofInt 0)), (0, .ref Yr), (1, .ref Y)], [.int ((0 : Int32))], me_w M (nt_u J1 Y 4 (Int32.ofInt 30))) _ := k
          have k := lz_ri rfl (by decide) k
          exact ⟨1, .inr u1, _, k, ⟨_, hy, Or.inr ⟨u1, rfl, Or.inr (Or.inl ⟨hn, rfl⟩)⟩⟩, fun u2 e => (by cases e; exact ⟨hb1, 1, D9, ⟨_, _, hy, hC9, Or.inr ⟨hn, rfl, rfl⟩⟩, ⟨hS1.2.2.1.1, hS1.2.2.1.2.1, hS1.2.2.1.2.2.1, hS1.2.2.1.2.2.2.1, hS1.2.2.1.2.2.2.2.trans (congrArg nI (if_pos h59).symm)⟩, hS1.2.2.2.2⟩), fun c e => (by cases e)⟩
        · rw [if_neg (show ¬ ((nI u1.2.2.2.2.2) = 0) from nI_ne0 (Nat.pos_of_ne_zero h59) (by have := hb1.2.2.2.2; omega))] at k
          have k := ly_revb 1 (c' := (72, [(3, .int (nI (i + 1))), (2, .int (Int32.ofInt 0)), (0, .ref Yr), (1, .ref Y)], [.ref Yr], me_w M J1)) rfl k
          have k := lz_get (a := Yr) (g := 900) (M := me_w M J1) (v := .ref Rd) rfl (nt_gfR rfl hP.2.2.1.1) k
          obtain ⟨d1, o1, ed, kc, k⟩ := lz_c (g := 38) (q := 1) (vs := [.ref Rd]) (rest := []) rfl rfl (by decide) (Or.inr (Or.inl ⟨_, rfl, rfl⟩)) rfl k
          have e1 := lc_fault (yc_lP hP hS9) (yc_lS hP hS9) hp1 kc
          subst e1
          have k : nt_rn X _ 92 (78, [(3, .int (nI (i + 1))), (2, .int (Int32.ofInt 0)), (0, .ref Yr), (1, .ref Y)], [.int ((0 : Int32))], me_w M J1) _ := k
          have k := lz_ri rfl (by decide) k
          exact ⟨1, .inr u1, _, k, ⟨_, hy, Or.inr ⟨u1, rfl, Or.inr (Or.inl ⟨hn, rfl⟩)⟩⟩, fun u2 e => (by cases e; exact ⟨hb1, 1, D9, ⟨_, _, hy, hC9, Or.inr ⟨hn, rfl, rfl⟩⟩, ⟨hS9.2.2.1.1, hS9.2.2.1.2.1, hS9.2.2.1.2.2.1, hS9.2.2.1.2.2.2.1, hS9.2.2.1.2.2.2.2.trans (congrArg nI (if_neg h59).symm)⟩, hS9.2.2.2.2⟩), fun c e => (by cases e)⟩
      · subst e1
        have hS1 := yc_Sp (q := t) hP (yc_Sf (fb := lb_c u1.1 (Int32.ofInt 0)) hP hS9)
        have k : nt_rn X _ 92 (45, [(3, .int (nI i)), (2, .int (Int32.ofInt 1)), (0, .ref Yr), (1, .ref Y)], [.int (Int32.ofInt 0)], me_w M (nt_u (nt_u J1 Rd 2 (lb_c u1.1 (Int32.ofInt 0))) Rd 1 (nI t))) _ := k
        have k := ly_revb 2 (c' := (49, [(3, .int ((nI i) + Int32.ofInt 1)), (2, .int (Int32.ofInt 0)), (0, .ref Yr), (1, .ref Y)], [], me_w M (nt_u (nt_u J1 Rd 2 (lb_c u1.1 (Int32.ofInt 0))) Rd 1 (nI t)))) rfl k
        rw [show ((nI i) + Int32.ofInt 1 : Int32) = nI (i + 1) from me_add (k := 1)] at k
        have k := ly_revb 1 (c' := (23, [(3, .int (nI (i + 1))), (2, .int (Int32.ofInt 0)), (0, .ref Yr), (1, .ref Y)], [], me_w M (nt_u (nt_u J1 Rd 2 (lb_c u1.1 (Int32.ofInt 0))) Rd 1 (nI t)))) rfl k
        have k := ly_revb 2 (c' := (if (Int32.ofInt 0) = 0 then 52 else 27, [(3, .int (nI (i + 1))), (2, .int (Int32.ofInt 0)), (0, .ref Yr), (1, .ref Y)], [], me_w M (nt_u (nt_u J1 Rd 2 (lb_c u1.1 (Int32.ofInt 0))) Rd 1 (nI t)))) rfl k
        rw [if_pos (show (Int32.ofInt 0) = 0 from by decide)] at k
        have k := ly_revb 1 (c' := (53, [(3, .int (nI (i + 1))), (2, .int (Int32.ofInt 0)), (0, .ref Yr), (1, .ref Y)], [.ref Yr], me_w M (nt_u (nt_u J1 Rd 2 (lb_c u1.1 (Int32.ofInt 0))) Rd 1 (nI t)))) rfl k
        have k := lz_get (a := Yr) (g := 901) (M := me_w M (nt_u (nt_u J1 Rd 2 (lb_c u1.1 (Int32.ofInt 0))) Rd 1 (nI t))) (v := .ref Y) rfl (nt_gfR rfl hP.2.2.1.2) k
        have k := lz_get (a := Y) (g := 804) (M := me_w M (nt_u (nt_u J1 Rd 2 (lb_c u1.1 (Int32.ofInt 0))) Rd 1 (nI t))) (v := .int (nI u1.2.2.2.2.2)) rfl (congrArg Value.int (hS1.2.2.1.2.2.2.2)) k
        have k := ly_revb 1 (c' := (if (nI u1.2.2.2.2.2) = 0 then 62 else 71, [(3, .int (nI (i + 1))), (2, .int (Int32.ofInt 0)), (0, .ref Yr), (1, .ref Y)], [], me_w M (nt_u (nt_u J1 Rd 2 (lb_c u1.1 (Int32.ofInt 0))) Rd 1 (nI t)))) rfl k
        by_cases h59 : u1.2.2.2.2.2 = 0
        · rw [if_pos (show (nI u1.2.2.2.2.2) = 0 from show nI u1.2.2.2.2.2 = nI 0 from congrArg nI h59)] at k
          have k := ly_revb 1 (c' := (63, [(3, .int (nI (i + 1))), (2, .int (Int32.ofInt 0)), (0, .ref Yr), (1, .ref Y)], [.ref Yr], me_w M (nt_u (nt_u J1 Rd 2 (lb_c u1.1 (Int32.ofInt 0))) Rd 1 (nI t)))) rfl k
          have k := lz_get (a := Yr) (g := 901) (M := me_w M (nt_u (nt_u J1 Rd 2 (lb_c u1.1 (Int32.ofInt 0))) Rd 1 (nI t))) (v := .ref Y) rfl (nt_gfR rfl hP.2.2.1.2) k
          have k := ly_revb 1 (c' := (68, [(3, .int (nI (i + 1))), (2, .int (Int32.ofInt 0)), (0, .ref Yr), (1, .ref Y)], [.int (Int32.ofInt 30), .ref Y], me_w M (nt_u (nt_u J1 Rd 2 (lb_c u1.1 (Int32.ofInt 0))) Rd 1 (nI t)))) rfl k
          have k := me_put rfl (by decide) k
          have k : nt_rn X _ 92 (71, [(3, .int (nI (i + 1))), (2, .int (Int32.ofInt 0)), (0, .ref Yr), (1, .ref Y)], [], me_w M (nt_u (nt_u (nt_u J1 Rd 2 (lb_c u1.1 (Int32.ofInt 0))) Rd 1 (nI t)) Y 4 (Int32.ofInt 30))) _ := k
          have hS2 := yc_S4 (y := 30) hP hS1
          have k := ly_revb 1 (c' := (72, [(3, .int (nI (i + 1))), (2, .int (Int32.ofInt 0)), (0, .ref Yr), (1, .ref Y)], [.ref Yr], me_w M (nt_u (nt_u (nt_u J1 Rd 2 (lb_c u1.1 (Int32.ofInt 0))) Rd 1 (nI t)) Y 4 (Int32.ofInt 30)))) rfl k
          have k := lz_get (a := Yr) (g := 900) (M := me_w M (nt_u (nt_u (nt_u J1 Rd 2 (lb_c u1.1 (Int32.ofInt 0))) Rd 1 (nI t)) Y 4 (Int32.ofInt 30))) (v := .ref Rd) rfl (nt_gfR rfl hP.2.2.1.1) k
          obtain ⟨d1, o1, ed, kc, k⟩ := lz_c (g := 38) (q := 1) (vs := [.ref Rd]) (rest := []) rfl rfl (by decide) (Or.inr (Or.inl ⟨_, rfl, rfl⟩)) rfl k
          have e1 := lc_fault (yc_lP hP hS2) (yc_lS hP hS2) (Nat.le_refl t) kc
          subst e1
          have k : nt_rn X _ 92 (78, [(3, .int (nI (i + 1))), (2, .int (Int32.ofInt 0)), (0, .ref Yr), (1, .ref Y)], [.int (lb_c u1.1 (Int32.ofInt 0))], me_w M (nt_u (nt_u (nt_u J1 Rd 2 (lb_c u1.1 (Int32.ofInt 0))) Rd 1 (nI t)) Y 4 (Int32.ofInt 30))) _ := k
          have k := lz_ri rfl (by decide) k
          exact ⟨1, .inl (lb_c u1.1 (Int32.ofInt 0)), _, k, ⟨_, hy, Or.inr ⟨u1, rfl, Or.inr (Or.inr ⟨hn, hn2, rfl⟩)⟩⟩, fun u1 e => (by cases e), fun c e => (by cases e; exact (lb_c_ne (by omega) (by decide) (by decide)))⟩
        · rw [if_neg (show ¬ ((nI u1.2.2.2.2.2) = 0) from nI_ne0 (Nat.pos_of_ne_zero h59) (by have := hb1.2.2.2.2; omega))] at k
          have k := ly_revb 1 (c' := (72, [(3, .int (nI (i + 1))), (2, .int (Int32.ofInt 0)), (0, .ref Yr), (1, .ref Y)], [.ref Yr], me_w M (nt_u (nt_u J1 Rd 2 (lb_c u1.1 (Int32.ofInt 0))) Rd 1 (nI t)))) rfl k
          have k := lz_get (a := Yr) (g := 900) (M := me_w M (nt_u (nt_u J1 Rd 2 (lb_c u1.1 (Int32.ofInt 0))) Rd 1 (nI t))) (v := .ref Rd) rfl (nt_gfR rfl hP.2.2.1.1) k
          obtain ⟨d1, o1, ed, kc, k⟩ := lz_c (g := 38) (q := 1) (vs := [.ref Rd]) (rest := []) rfl rfl (by decide) (Or.inr (Or.inl ⟨_, rfl, rfl⟩)) rfl k
          have e1 := lc_fault (yc_lP hP hS1) (yc_lS hP hS1) (Nat.le_refl t) kc
          subst e1
          have k : nt_rn X _ 92 (78, [(3, .int (nI (i + 1))), (2, .int (Int32.ofInt 0)), (0, .ref Yr), (1, .ref Y)], [.int (lb_c u1.1 (Int32.ofInt 0))], me_w M (nt_u (nt_u J1 Rd 2 (lb_c u1.1 (Int32.ofInt 0))) Rd 1 (nI t))) _ := k
          have k := lz_ri rfl (by decide) k
          exact ⟨1, .inl (lb_c u1.1 (Int32.ofInt 0)), _, k, ⟨_, hy, Or.inr ⟨u1, rfl, Or.inr (Or.inr ⟨hn, hn2, rfl⟩)⟩⟩, fun u1 e => (by cases e), fun c e => (by cases e; exact (lb_c_ne (by omega) (by decide) (by decide)))⟩
      · exact absurd rfl hf
  | succ c ih =>
    intro i p u C J hc hp hb hS k
    have k := ly_revb 2 (c' := (if (Int32.ofInt 1) = 0 then 52 else 27, [(3, .int (nI i)), (2, .int (Int32.ofInt 1)), (0, .ref Yr), (1, .ref Y)], [], me_w M J)) rfl k
    rw [if_neg (show ¬ ((Int32.ofInt 1) = 0) from by decide)] at k
    have k := ly_revb 3 (c' := (if (Int32.ofInt 40) < (nI i) then 52 else 33, [(3, .int (nI i)), (2, .int (Int32.ofInt 1)), (0, .ref Yr), (1, .ref Y)], [], me_w M J)) rfl k
    rw [if_neg (show ¬ ((Int32.ofInt 40) < (nI i)) from show ¬ nI 40 < nI i from nI_nlt (by omega) (by omega))] at k
    have k := ly_revb 2 (c' := (35, [(3, .int (nI i)), (2, .int (Int32.ofInt 1)), (0, .ref Yr), (1, .ref Y)], [.int (nI i), .ref Yr], me_w M J)) rfl k
    obtain ⟨d1, o1, ed, kc, k⟩ := lz_c (g := 93) (q := 1) (vs := [.ref Yr, .int (nI i)]) (rest := []) rfl rfl (by decide) (Or.inr (Or.inl ⟨_, rfl, rfl⟩)) rfl k
    obtain ⟨r1, J1, e1, hy, hQ⟩ := yc_clause hP hS hp hb (by omega) kc
    subst e1
    rcases r1 with c | u1
    · obtain ⟨hc, u9, D9, hS9⟩ := hQ
      have k : nt_rn X _ 92 (38, [(3, .int (nI i)), (2, .int (Int32.ofInt 1)), (0, .ref Yr), (1, .ref Y)], [], me_w M J1) _ := k
      have k := ly_revb 1 (c' := (39, [(3, .int (nI i)), (2, .int (Int32.ofInt 1)), (0, .ref Yr), (1, .ref Y)], [.ref Yr], me_w M J1)) rfl k
      have k := lz_get (a := Yr) (g := 900) (M := me_w M J1) (v := .ref Rd) rfl (nt_gfR rfl hP.2.2.1.1) k
      obtain ⟨d1, o1, ed, kc, k⟩ := lz_c (g := 35) (q := 1) (vs := [.ref Rd]) (rest := []) rfl rfl (by decide) (Or.inr (Or.inl ⟨_, rfl, rfl⟩)) rfl k
      have hgt : lb_g f t t = Int32.ofInt (-1) := if_neg (by omega)
      have e1 : o1 = (some (.int (Int32.ofInt 0)), me_w M J1) := by
        rcases lc_nextClause (yc_lP hP hS9) (yc_lS hP hS9) (Nat.le_refl t) kc with ⟨q, _⟩ | ⟨_, q⟩ | ⟨_, q, _⟩ | ⟨_, q, _⟩
        · rw [hgt] at q; exact absurd q (by decide)
        · exact q
        · exact absurd hgt q
        · exact absurd hgt q
      subst e1
      have k : nt_rn X _ 92 (45, [(3, .int (nI i)), (2, .int (Int32.ofInt 1)), (0, .ref Yr), (1, .ref Y)], [.int (Int32.ofInt 0)], me_w M J1) _ := k
      have k := ly_revb 2 (c' := (49, [(3, .int ((nI i) + Int32.ofInt 1)), (2, .int (Int32.ofInt 0)), (0, .ref Yr), (1, .ref Y)], [], me_w M J1)) rfl k
      rw [show ((nI i) + Int32.ofInt 1 : Int32) = nI (i + 1) from me_add (k := 1)] at k
      have k := ly_revb 1 (c' := (23, [(3, .int (nI (i + 1))), (2, .int (Int32.ofInt 0)), (0, .ref Yr), (1, .ref Y)], [], me_w M J1)) rfl k
      have k := ly_revb 2 (c' := (if (Int32.ofInt 0) = 0 then 52 else 27, [(3, .int (nI (i + 1))), (2, .int (Int32.ofInt 0)), (0, .ref Yr), (1, .ref Y)], [], me_w M J1)) rfl k
      rw [if_pos (show (Int32.ofInt 0) = 0 from by decide)] at k
      have k := ly_revb 1 (c' := (53, [(3, .int (nI (i + 1))), (2, .int (Int32.ofInt 0)), (0, .ref Yr), (1, .ref Y)], [.ref Yr], me_w M J1)) rfl k
      have k := lz_get (a := Yr) (g := 901) (M := me_w M J1) (v := .ref Y) rfl (nt_gfR rfl hP.2.2.1.2) k
      have k := lz_get (a := Y) (g := 804) (M := me_w M J1) (v := .int (nI u9.2.2.2.2)) rfl (congrArg Value.int (hS9.2.2.1.2.2.2.2)) k
      have k := ly_revb 1 (c' := (if (nI u9.2.2.2.2) = 0 then 62 else 71, [(3, .int (nI (i + 1))), (2, .int (Int32.ofInt 0)), (0, .ref Yr), (1, .ref Y)], [], me_w M J1)) rfl k
      by_cases h59 : nI u9.2.2.2.2 = 0
      · rw [if_pos (show (nI u9.2.2.2.2) = 0 from h59)] at k
        have k := ly_revb 1 (c' := (63, [(3, .int (nI (i + 1))), (2, .int (Int32.ofInt 0)), (0, .ref Yr), (1, .ref Y)], [.ref Yr], me_w M J1)) rfl k
        have k := lz_get (a := Yr) (g := 901) (M := me_w M J1) (v := .ref Y) rfl (nt_gfR rfl hP.2.2.1.2) k
        have k := ly_revb 1 (c' := (68, [(3, .int (nI (i + 1))), (2, .int (Int32.ofInt 0)), (0, .ref Yr), (1, .ref Y)], [.int (Int32.ofInt 30), .ref Y], me_w M J1)) rfl k
        have k := me_put rfl (by decide) k
        have k : nt_rn X _ 92 (71, [(3, .int (nI (i + 1))), (2, .int (Int32.ofInt 0)), (0, .ref Yr), (1, .ref Y)], [], me_w M (nt_u J1 Y 4 (Int32.ofInt 30))) _ := k
        have hS1 := yc_S4 (y := 30) hP hS9
        have k := ly_revb 1 (c' := (72, [(3, .int (nI (i + 1))), (2, .int (Int32.ofInt 0)), (0, .ref Yr), (1, .ref Y)], [.ref Yr], me_w M (nt_u J1 Y 4 (Int32.ofInt 30)))) rfl k
        have k := lz_get (a := Yr) (g := 900) (M := me_w M (nt_u J1 Y 4 (Int32.ofInt 30))) (v := .ref Rd) rfl (nt_gfR rfl hP.2.2.1.1) k
        obtain ⟨d1, o1, ed, kc, k⟩ := lz_c (g := 38) (q := 1) (vs := [.ref Rd]) (rest := []) rfl rfl (by decide) (Or.inr (Or.inl ⟨_, rfl, rfl⟩)) rfl k
        have e1 := lc_fault (yc_lP hP hS1) (yc_lS hP hS1) (Nat.le_refl t) kc
        subst e1
        have k : nt_rn X _ 92 (78, [(3, .int (nI (i + 1))), (2, .int (Int32.ofInt 0)), (0, .ref Yr), (1, .ref Y)], [.int (c)], me_w M (nt_u J1 Y 4 (Int32.ofInt 30))) _ := k
        have k := lz_ri rfl (by decide) k
        exact ⟨1, .inl c, _, k, ⟨_, hy, Or.inl ⟨c, rfl, rfl⟩⟩, fun u1 e => (by cases e), fun c e => (by cases e; exact hc)⟩
      · rw [if_neg (show ¬ ((nI u9.2.2.2.2) = 0) from h59)] at k
        have k := ly_revb 1 (c' := (72, [(3, .int (nI (i + 1))), (2, .int (Int32.ofInt 0)), (0, .ref Yr), (1, .ref Y)], [.ref Yr], me_w M J1)) rfl k
        have k := lz_get (a := Yr) (g := 900) (M := me_w M J1) (v := .ref Rd) rfl (nt_gfR rfl hP.2.2.1.1) k
        obtain ⟨d1, o1, ed, kc, k⟩ := lz_c (g := 38) (q := 1) (vs := [.ref Rd]) (rest := []) rfl rfl (by decide) (Or.inr (Or.inl ⟨_, rfl, rfl⟩)) rfl k
        have e1 := lc_fault (yc_lP hP hS9) (yc_lS hP hS9) (Nat.le_refl t) kc
        subst e1
        have k : nt_rn X _ 92 (78, [(3, .int (nI (i + 1))), (2, .int (Int32.ofInt 0)), (0, .ref Yr), (1, .ref Y)], [.int (c)], me_w M J1) _ := k
        have k := lz_ri rfl (by decide) k
        exact ⟨1, .inl c, _, k, ⟨_, hy, Or.inl ⟨c, rfl, rfl⟩⟩, fun u1 e => (by cases e), fun c e => (by cases e; exact hc)⟩
    · obtain ⟨hp1, hb1, D9, hC9, hS9⟩ := hQ
      have k : nt_rn X _ 92 (38, [(3, .int (nI i)), (2, .int (Int32.ofInt 1)), (0, .ref Yr), (1, .ref Y)], [], me_w M J1) _ := k
      have k := ly_revb 1 (c' := (39, [(3, .int (nI i)), (2, .int (Int32.ofInt 1)), (0, .ref Yr), (1, .ref Y)], [.ref Yr], me_w M J1)) rfl k
      have k := lz_get (a := Yr) (g := 900) (M := me_w M J1) (v := .ref Rd) rfl (nt_gfR rfl hP.2.2.1.1) k
      obtain ⟨d1, o1, ed, kc, k⟩ := lz_c (g := 35) (q := 1) (vs := [.ref Rd]) (rest := []) rfl rfl (by decide) (Or.inr (Or.inl ⟨_, rfl, rfl⟩)) rfl k
      rcases lc_nextClause (yc_lP hP hS9) (yc_lS hP hS9) hp1 kc with ⟨hn, e1⟩ | ⟨hn, e1⟩ | ⟨hn, hn2, _, e1⟩ | ⟨_, _, hf, _⟩
      · have hlt := lb_g_lt (f := f) (t := t) (p := u1.1) (by rw [hn]; decide)
        rw [Nat.min_eq_left (show u1.1 + 1 ≤ t from hlt)] at e1
        subst e1
        have hS1 := yc_Sp (q := lb_s f t (u1.1 + 1)) hP hS9
        have hp2 : lb_s f t (u1.1 + 1) ≤ t := (lb_s_le (t - (u1.1 + 1)) (u1.1 + 1) (by omega)).2
        have k : nt_rn X _ 92 (45, [(3, .int (nI i)), (2, .int (Int32.ofInt 1)), (0, .ref Yr), (1, .ref Y)], [.int (Int32.ofInt 1)], me_w M (nt_u J1 Rd 1 (nI (lb_s f t (u1.1 + 1))))) _ := k
        have k := ly_revb 2 (c' := (49, [(3, .int ((nI i) + Int32.ofInt 1)), (2, .int (Int32.ofInt 1)), (0, .ref Yr), (1, .ref Y)], [], me_w M (nt_u J1 Rd 1 (nI (lb_s f t (u1.1 + 1)))))) rfl k
        rw [show ((nI i) + Int32.ofInt 1 : Int32) = nI (i + 1) from me_add (k := 1)] at k
        have k := ly_revb 1 (c' := (23, [(3, .int (nI (i + 1))), (2, .int (Int32.ofInt 1)), (0, .ref Yr), (1, .ref Y)], [], me_w M (nt_u J1 Rd 1 (nI (lb_s f t (u1.1 + 1)))))) rfl k
        obtain ⟨k9, r, J', e9, hya, hf1, hf2⟩ := ih (i + 1) (lb_s f t (u1.1 + 1)) u1.2 _ _ (by omega) hp2 hb1 hS1 k
        exact ⟨k9 + 1, r, J', e9, ⟨_, hy, Or.inr ⟨u1, rfl, Or.inl ⟨hn, hya⟩⟩⟩, fun u2 e2 => (fun ⟨x0, k0, D0, x1, x2⟩ => ⟨x0, k0 + 1, D0, ⟨_, _, hy, hC9, Or.inl ⟨hn, x1⟩⟩, x2⟩) (hf1 u2 e2), hf2⟩
      · subst e1
        have k : nt_rn X _ 92 (45, [(3, .int (nI i)), (2, .int (Int32.ofInt 1)), (0, .ref Yr), (1, .ref Y)], [.int (Int32.ofInt 0)], me_w M J1) _ := k
        have k := ly_revb 2 (c' := (49, [(3, .int ((nI i) + Int32.ofInt 1)), (2, .int (Int32.ofInt 0)), (0, .ref Yr), (1, .ref Y)], [], me_w M J1)) rfl k
        rw [show ((nI i) + Int32.ofInt 1 : Int32) = nI (i + 1) from me_add (k := 1)] at k
        have k := ly_revb 1 (c' := (23, [(3, .int (nI (i + 1))), (2, .int (Int32.ofInt 0)), (0, .ref Yr), (1, .ref Y)], [], me_w M J1)) rfl k
        have k := ly_revb 2 (c' := (if (Int32.ofInt 0) = 0 then 52 else 27, [(3, .int (nI (i + 1))), (2, .int (Int32.ofInt 0)), (0, .ref Yr), (1, .ref Y)], [], me_w M J1)) rfl k
        rw [if_pos (show (Int32.ofInt 0) = 0 from by decide)] at k
        have k := ly_revb 1 (c' := (53, [(3, .int (nI (i + 1))), (2, .int (Int32.ofInt 0)), (0, .ref Yr), (1, .ref Y)], [.ref Yr], me_w M J1)) rfl k
        have k := lz_get (a := Yr) (g := 901) (M := me_w M J1) (v := .ref Y) rfl (nt_gfR rfl hP.2.2.1.2) k
        have k := lz_get (a := Y) (g := 804) (M := me_w M J1) (v := .int (nI u1.2.2.2.2.2)) rfl (congrArg Value.int (hS9.2.2.1.2.2.2.2)) k
        have k := ly_revb 1 (c' := (if (nI u1.2.2.2.2.2) = 0 then 62 else 71, [(3, .int (nI (i + 1))), (2, .int (Int32.ofInt 0)), (0, .ref Yr), (1, .ref Y)], [], me_w M J1)) rfl k
        by_cases h59 : u1.2.2.2.2.2 = 0
        · rw [if_pos (show (nI u1.2.2.2.2.2) = 0 from show nI u1.2.2.2.2.2 = nI 0 from congrArg nI h59)] at k
          have k := ly_revb 1 (c' := (63, [(3, .int (nI (i + 1))), (2, .int (Int32.ofInt 0)), (0, .ref Yr), (1, .ref Y)], [.ref Yr], me_w M J1)) rfl k
          have k := lz_get (a := Yr) (g := 901) (M := me_w M J1) (v := .ref Y) rfl (nt_gfR rfl hP.2.2.1.2) k
          have k := ly_revb 1 (c' := (68, [(3, .int (nI (i + 1))), (2, .int (Int32.ofInt 0)), (0, .ref Yr), (1, .ref Y)], [.int (Int32.ofInt 30), .ref Y], me_w M J1)) rfl k
          have k := me_put rfl (by decide) k
          have k : nt_rn X _ 92 (71, [(3, .int (nI (i + 1))), (2, .int (Int32.ofInt 0)), (0, .ref Yr), (1, .ref Y)], [], me_w M (nt_u J1 Y 4 (Int32.ofInt 30))) _ := k
          have hS1 := yc_S4 (y := 30) hP hS9
          have k := ly_revb 1 (c' := (72, [(3, .int (nI (i + 1))), (2, .int (Int32.ofInt 0)), (0, .ref Yr), (1, .ref Y)], [.ref Yr], me_w M (nt_u J1 Y 4 (Int32.ofInt 30)))) rfl k
          have k := lz_get (a := Yr) (g := 900) (M := me_w M (nt_u J1 Y 4 (Int32.ofInt 30))) (v := .ref Rd) rfl (nt_gfR rfl hP.2.2.1.1) k
          obtain ⟨d1, o1, ed, kc, k⟩ := lz_c (g := 38) (q := 1) (vs := [.ref Rd]) (rest := []) rfl rfl (by decide) (Or.inr (Or.inl ⟨_, rfl, rfl⟩)) rfl k
          have e1 := lc_fault (yc_lP hP hS1) (yc_lS hP hS1) hp1 kc
          subst e1
          have k : nt_rn X _ 92 (78, [(3, .int (nI (i + 1))), (2, .int (Int32.ofInt 0)), (0, .ref Yr), (1, .ref Y)], [.int ((0 : Int32))], me_w M (nt_u J1 Y 4 (Int32.ofInt 30))) _ := k
          have k := lz_ri rfl (by decide) k
          exact ⟨1, .inr u1, _, k, ⟨_, hy, Or.inr ⟨u1, rfl, Or.inr (Or.inl ⟨hn, rfl⟩)⟩⟩, fun u2 e => (by cases e; exact ⟨hb1, 1, D9, ⟨_, _, hy, hC9, Or.inr ⟨hn, rfl, rfl⟩⟩, ⟨hS1.2.2.1.1, hS1.2.2.1.2.1, hS1.2.2.1.2.2.1, hS1.2.2.1.2.2.2.1, hS1.2.2.1.2.2.2.2.trans (congrArg nI (if_pos h59).symm)⟩, hS1.2.2.2.2⟩), fun c e => (by cases e)⟩
        · rw [if_neg (show ¬ ((nI u1.2.2.2.2.2) = 0) from nI_ne0 (Nat.pos_of_ne_zero h59) (by have := hb1.2.2.2.2; omega))] at k
          have k := ly_revb 1 (c' := (72, [(3, .int (nI (i + 1))), (2, .int (Int32.ofInt 0)), (0, .ref Yr), (1, .ref Y)], [.ref Yr], me_w M J1)) rfl k
          have k := lz_get (a := Yr) (g := 900) (M := me_w M J1) (v := .ref Rd) rfl (nt_gfR rfl hP.2.2.1.1) k
          obtain ⟨d1, o1, ed, kc, k⟩ := lz_c (g := 38) (q := 1) (vs := [.ref Rd]) (rest := []) rfl rfl (by decide) (Or.inr (Or.inl ⟨_, rfl, rfl⟩)) rfl k
          have e1 := lc_fault (yc_lP hP hS9) (yc_lS hP hS9) hp1 kc
          subst e1
          have k : nt_rn X _ 92 (78, [(3, .int (nI (i + 1))), (2, .int (Int32.ofInt 0)), (0, .ref Yr), (1, .ref Y)], [.int ((0 : Int32))], me_w M J1) _ := k
          have k := lz_ri rfl (by decide) k
          exact ⟨1, .inr u1, _, k, ⟨_, hy, Or.inr ⟨u1, rfl, Or.inr (Or.inl ⟨hn, rfl⟩)⟩⟩, fun u2 e => (by cases e; exact ⟨hb1, 1, D9, ⟨_, _, hy, hC9, Or.inr ⟨hn, rfl, rfl⟩⟩, ⟨hS9.2.2.1.1, hS9.2.2.1.2.1, hS9.2.2.1.2.2.1, hS9.2.2.1.2.2.2.1, hS9.2.2.1.2.2.2.2.trans (congrArg nI (if_neg h59).symm)⟩, hS9.2.2.2.2⟩), fun c e => (by cases e)⟩
      · subst e1
        have hS1 := yc_Sp (q := t) hP (yc_Sf (fb := lb_c u1.1 (Int32.ofInt 0)) hP hS9)
        have k : nt_rn X _ 92 (45, [(3, .int (nI i)), (2, .int (Int32.ofInt 1)), (0, .ref Yr), (1, .ref Y)], [.int (Int32.ofInt 0)], me_w M (nt_u (nt_u J1 Rd 2 (lb_c u1.1 (Int32.ofInt 0))) Rd 1 (nI t))) _ := k
        have k := ly_revb 2 (c' := (49, [(3, .int ((nI i) + Int32.ofInt 1)), (2, .int (Int32.ofInt 0)), (0, .ref Yr), (1, .ref Y)], [], me_w M (nt_u (nt_u J1 Rd 2 (lb_c u1.1 (Int32.ofInt 0))) Rd 1 (nI t)))) rfl k
        rw [show ((nI i) + Int32.ofInt 1 : Int32) = nI (i + 1) from me_add (k := 1)] at k
        have k := ly_revb 1 (c' := (23, [(3, .int (nI (i + 1))), (2, .int (Int32.ofInt 0)), (0, .ref Yr), (1, .ref Y)], [], me_w M (nt_u (nt_u J1 Rd 2 (lb_c u1.1 (Int32.ofInt 0))) Rd 1 (nI t)))) rfl k
        have k := ly_revb 2 (c' := (if (Int32.ofInt 0) = 0 then 52 else 27, [(3, .int (nI (i + 1))), (2, .int (Int32.ofInt 0)), (0, .ref Yr), (1, .ref Y)], [], me_w M (nt_u (nt_u J1 Rd 2 (lb_c u1.1 (Int32.ofInt 0))) Rd 1 (nI t)))) rfl k
        rw [if_pos (show (Int32.ofInt 0) = 0 from by decide)] at k
        have k := ly_revb 1 (c' := (53, [(3, .int (nI (i + 1))), (2, .int (Int32.ofInt 0)), (0, .ref Yr), (1, .ref Y)], [.ref Yr], me_w M (nt_u (nt_u J1 Rd 2 (lb_c u1.1 (Int32.ofInt 0))) Rd 1 (nI t)))) rfl k
        have k := lz_get (a := Yr) (g := 901) (M := me_w M (nt_u (nt_u J1 Rd 2 (lb_c u1.1 (Int32.ofInt 0))) Rd 1 (nI t))) (v := .ref Y) rfl (nt_gfR rfl hP.2.2.1.2) k
        have k := lz_get (a := Y) (g := 804) (M := me_w M (nt_u (nt_u J1 Rd 2 (lb_c u1.1 (Int32.ofInt 0))) Rd 1 (nI t))) (v := .int (nI u1.2.2.2.2.2)) rfl (congrArg Value.int (hS1.2.2.1.2.2.2.2)) k
        have k := ly_revb 1 (c' := (if (nI u1.2.2.2.2.2) = 0 then 62 else 71, [(3, .int (nI (i + 1))), (2, .int (Int32.ofInt 0)), (0, .ref Yr), (1, .ref Y)], [], me_w M (nt_u (nt_u J1 Rd 2 (lb_c u1.1 (Int32.ofInt 0))) Rd 1 (nI t)))) rfl k
        by_cases h59 : u1.2.2.2.2.2 = 0
        · rw [if_pos (show (nI u1.2.2.2.2.2) = 0 from show nI u1.2.2.2.2.2 = nI 0 from congrArg nI h59)] at k
          have k := ly_revb 1 (c' := (63, [(3, .int (nI (i + 1))), (2, .int (Int32.ofInt 0)), (0, .ref Yr), (1, .ref Y)], [.ref Yr], me_w M (nt_u (nt_u J1 Rd 2 (lb_c u1.1 (Int32.ofInt 0))) Rd 1 (nI t)))) rfl k
          have k := lz_get (a := Yr) (g := 901) (M := me_w M (nt_u (nt_u J1 Rd 2 (lb_c u1.1 (Int32.ofInt 0))) Rd 1 (nI t))) (v := .ref Y) rfl (nt_gfR rfl hP.2.2.1.2) k
          have k := ly_revb 1 (c' := (68, [(3, .int (nI (i + 1))), (2, .int (Int32.ofInt 0)), (0, .ref Yr), (1, .ref Y)], [.int (Int32.ofInt 30), .ref Y], me_w M (nt_u (nt_u J1 Rd 2 (lb_c u1.1 (Int32.ofInt 0))) Rd 1 (nI t)))) rfl k
          have k := me_put rfl (by decide) k
          have k : nt_rn X _ 92 (71, [(3, .int (nI (i + 1))), (2, .int (Int32.ofInt 0)), (0, .ref Yr), (1, .ref Y)], [], me_w M (nt_u (nt_u (nt_u J1 Rd 2 (lb_c u1.1 (Int32.ofInt 0))) Rd 1 (nI t)) Y 4 (Int32.ofInt 30))) _ := k
          have hS2 := yc_S4 (y := 30) hP hS1
          have k := ly_revb 1 (c' := (72, [(3, .int (nI (i + 1))), (2, .int (Int32.ofInt 0)), (0, .ref Yr), (1, .ref Y)], [.ref Yr], me_w M (nt_u (nt_u (nt_u J1 Rd 2 (lb_c u1.1 (Int32.ofInt 0))) Rd 1 (nI t)) Y 4 (Int32.ofInt 30)))) rfl k
          have k := lz_get (a := Yr) (g := 900) (M := me_w M (nt_u (nt_u (nt_u J1 Rd 2 (lb_c u1.1 (Int32.ofInt 0))) Rd 1 (nI t)) Y 4 (Int32.ofInt 30))) (v := .ref Rd) rfl (nt_gfR rfl hP.2.2.1.1) k
          obtain ⟨d1, o1, ed, kc, k⟩ := lz_c (g := 38) (q := 1) (vs := [.ref Rd]) (rest := []) rfl rfl (by decide) (Or.inr (Or.inl ⟨_, rfl, rfl⟩)) rfl k
          have e1 := lc_fault (yc_lP hP hS2) (yc_lS hP hS2) (Nat.le_refl t) kc
          subst e1
          have k : nt_rn X _ 92 (78, [(3, .int (nI (i + 1))), (2, .int (Int32.ofInt 0)), (0, .ref Yr), (1, .ref Y)], [.int (lb_c u1.1 (Int32.ofInt 0))], me_w M (nt_u (nt_u (nt_u J1 Rd 2 (lb_c u1.1 (Int32.ofInt 0))) Rd 1 (nI t)) Y 4 (Int32.ofInt 30))) _ := k
          have k := lz_ri rfl (by decide) k
          exact ⟨1, .inl (lb_c u1.1 (Int32.ofInt 0)), _, k, ⟨_, hy, Or.inr ⟨u1, rfl, Or.inr (Or.inr ⟨hn, hn2, rfl⟩)⟩⟩, fun u1 e => (by cases e), fun c e => (by cases e; exact (lb_c_ne (by omega) (by decide) (by decide)))⟩
        · rw [if_neg (show ¬ ((nI u1.2.2.2.2.2) = 0) from nI_ne0 (Nat.pos_of_ne_zero h59) (by have := hb1.2.2.2.2; omega))] at k
          have k := ly_revb 1 (c' := (72, [(3, .int (nI (i + 1))), (2, .int (Int32.ofInt 0)), (0, .ref Yr), (1, .ref Y)], [.ref Yr], me_w M (nt_u (nt_u J1 Rd 2 (lb_c u1.1 (Int32.ofInt 0))) Rd 1 (nI t)))) rfl k
          have k := lz_get (a := Yr) (g := 900) (M := me_w M (nt_u (nt_u J1 Rd 2 (lb_c u1.1 (Int32.ofInt 0))) Rd 1 (nI t))) (v := .ref Rd) rfl (nt_gfR rfl hP.2.2.1.1) k
          obtain ⟨d1, o1, ed, kc, k⟩ := lz_c (g := 38) (q := 1) (vs := [.ref Rd]) (rest := []) rfl rfl (by decide) (Or.inr (Or.inl ⟨_, rfl, rfl⟩)) rfl k
          have e1 := lc_fault (yc_lP hP hS1) (yc_lS hP hS1) (Nat.le_refl t) kc
          subst e1
          have k : nt_rn X _ 92 (78, [(3, .int (nI (i + 1))), (2, .int (Int32.ofInt 0)), (0, .ref Yr), (1, .ref Y)], [.int (lb_c u1.1 (Int32.ofInt 0))], me_w M (nt_u (nt_u J1 Rd 2 (lb_c u1.1 (Int32.ofInt 0))) Rd 1 (nI t))) _ := k
          have k := lz_ri rfl (by decide) k
          exact ⟨1, .inl (lb_c u1.1 (Int32.ofInt 0)), _, k, ⟨_, hy, Or.inr ⟨u1, rfl, Or.inr (Or.inr ⟨hn, hn2, rfl⟩)⟩⟩, fun u1 e => (by cases e), fun c e => (by cases e; exact (lb_c_ne (by omega) (by decide) (by decide)))⟩
      · exact absurd rfl hf
theorem yc_clear {X : nt_X} {d Y : Nat} {M : nt_M} {J : Nat → Nat → Int32} {o : Option Value × nt_M} (k : nt_ev X d 86 [.ref Y] (me_w M J) o) : o = (none, me_w M (nt_u (nt_u (nt_u (nt_u (nt_u J Y 0 (Int32.ofInt 0)) Y 1 (Int32.ofInt 0)) Y 2 (Int32.ofInt 0)) Y 3 (Int32.ofInt 0)) Y 4 (Int32.ofInt 0))) := by
  have k : nt_rn X d 86 (0, [(0, .ref Y)], [], me_w M J) o := k
  have k := ly_revb 2 (c' := (2, [(0, .ref Y)], [.int (Int32.ofInt 0), .ref Y], me_w M J)) rfl k
  have k := me_put rfl (by decide) k
  have k : nt_rn X _ 86 (5, [(0, .ref Y)], [], me_w M (nt_u J Y 0 (Int32.ofInt 0))) _ := k
  have k := ly_revb 2 (c' := (7, [(0, .ref Y)], [.int (Int32.ofInt 0), .ref Y], me_w M (nt_u J Y 0 (Int32.ofInt 0)))) rfl k
  have k := me_put rfl (by decide) k
  have k : nt_rn X _ 86 (10, [(0, .ref Y)], [], me_w M (nt_u (nt_u J Y 0 (Int32.ofInt 0)) Y 1 (Int32.ofInt 0))) _ := k
  have k := ly_revb 2 (c' := (12, [(0, .ref Y)], [.int (Int32.ofInt 0), .ref Y], me_w M (nt_u (nt_u J Y 0 (Int32.ofInt 0)) Y 1 (Int32.ofInt 0)))) rfl k
  have k := me_put rfl (by decide) k
  have k : nt_rn X _ 86 (15, [(0, .ref Y)], [], me_w M (nt_u (nt_u (nt_u J Y 0 (Int32.ofInt 0)) Y 1 (Int32.ofInt 0)) Y 2 (Int32.ofInt 0))) _ := k
  have k := ly_revb 2 (c' := (17, [(0, .ref Y)], [.int (Int32.ofInt 0), .ref Y], me_w M (nt_u (nt_u (nt_u J Y 0 (Int32.ofInt 0)) Y 1 (Int32.ofInt 0)) Y 2 (Int32.ofInt 0)))) rfl k
  have k := me_put rfl (by decide) k
  have k : nt_rn X _ 86 (20, [(0, .ref Y)], [], me_w M (nt_u (nt_u (nt_u (nt_u J Y 0 (Int32.ofInt 0)) Y 1 (Int32.ofInt 0)) Y 2 (Int32.ofInt 0)) Y 3 (Int32.ofInt 0))) _ := k
  have k := ly_revb 2 (c' := (22, [(0, .ref Y)], [.int (Int32.ofInt 0), .ref Y], me_w M (nt_u (nt_u (nt_u (nt_u J Y 0 (Int32.ofInt 0)) Y 1 (Int32.ofInt 0)) Y 2 (Int32.ofInt 0)) Y 3 (Int32.ofInt 0)))) rfl k
  have k := me_put rfl (by decide) k
  have k : nt_rn X _ 86 (25, [(0, .ref Y)], [], me_w M (nt_u (nt_u (nt_u (nt_u (nt_u J Y 0 (Int32.ofInt 0)) Y 1 (Int32.ofInt 0)) Y 2 (Int32.ofInt 0)) Y 3 (Int32.ofInt 0)) Y 4 (Int32.ofInt 0))) _ := k
  have k := lz_rv rfl rfl k
  exact k
end
section
/-! what a yard's text says is the same, whoever reads it; how large its numbers are -/
theorem lb_nu_b {f : Nat → Int32} {t p : Nat} {lo hi : Int32} {q : Nat} {x : Int32} (h : lb_nu f t p lo hi (.inr (q, x))) : lo.toInt ≤ x.toInt ∧ x.toInt ≤ hi.toInt := by
  rcases h with ⟨a, h⟩ | ⟨a, b, h⟩ | ⟨a, b, c, h⟩
  · cases h
  · cases h
  · have e := Sum.inr.inj h
    have e2 : x = lb_v f p (lb_d f t p) := congrArg Prod.snd e
    rw [e2]
    exact c
theorem lb_nu_e {f : Nat → Int32} {t p : Nat} {lo hi : Int32} {q q' : Nat} {x x' : Int32} (h : lb_nu f t p lo hi (.inr (q, x))) (h' : lb_nu f t p lo hi (.inr (q', x'))) : q' = q ∧ x' = x := by
  have e := Sum.inr.inj (lb_nu_det h' h)
  exact ⟨congrArg Prod.fst e, congrArg Prod.snd e⟩
theorem lb_shC2 {f : Nat → Int32} {t s : Nat} : ∀ (j i p q q' : Nat) (C C' D D' : lb_C), lb_shC f t s j i p q C D → lb_shC f t s j i p q' C' D' → q' = q ∧ (∀ m, i ≤ m → m < i + j → D 5 (4 * s + m) = D' 5 (4 * s + m) ∧ 0 ≤ (D 5 (4 * s + m)).toInt ∧ (D 5 (4 * s + m)).toInt ≤ 5) ∧ (∀ n, n < 4 * s + i ∨ 4 * s + i + j ≤ n → D 5 n = C 5 n ∧ D' 5 n = C' 5 n) ∧ (∀ a, a ≠ 5 → D a = C a ∧ D' a = C' a) := by
  intro j
  induction j with
  | zero =>
    intro i p q q' C C' D D' h h'
    obtain ⟨e1, e2⟩ := h
    obtain ⟨e3, e4⟩ := h'
    subst e2
    subst e4
    exact ⟨e3.trans e1.symm, fun m a b => by omega, fun _ _ => ⟨rfl, rfl⟩, fun _ _ => ⟨rfl, rfl⟩⟩
  | succ j ih =>
    intro i p q q' C C' D D' h h'
    obtain ⟨q1, x, hn, h⟩ := h
    obtain ⟨q1', x', hn', h'⟩ := h'
    obtain ⟨e1, e2⟩ := lb_nu_e hn hn'
    subst e1
    subst e2
    have hb := lb_nu_b hn
    obtain ⟨a1, a2, a3, a4⟩ := ih (i + 1) _ _ _ _ _ _ _ h h'
    have z0 : (Int32.ofInt 0).toInt = 0 := by decide
    have z5 : (Int32.ofInt 5).toInt = 5 := by decide
    refine ⟨a1, fun m m1 m2 => ?_, fun n hn => ?_, fun a ha => ?_⟩
    · by_cases e : m = i
      · subst e
        obtain ⟨b1, b2⟩ := a3 (4 * s + m) (Or.inl (by omega))
        rw [b1, b2, me_us, me_us]
        exact ⟨rfl, by omega, by omega⟩
      · exact a2 m (by omega) (by omega)
    · obtain ⟨b1, b2⟩ := a3 n (by omega)
      rw [b1, b2, me_uk (by omega), me_uk (by omega)]
      exact ⟨rfl, rfl⟩
    · obtain ⟨b1, b2⟩ := a4 a ha
      rw [b1, b2, me_uo ha, me_uo ha]
      exact ⟨rfl, rfl⟩
def yz (u : Nat × Nat × Nat × Nat × Nat) (C C' : lb_C) : Prop := (∀ s k, s < u.2.1 → k < u.1 → C 5 (4 * s + k) = C' 5 (4 * s + k)) ∧ (∀ n, n < u.2.2.1 → C 6 n = C' 6 n ∧ C 7 n = C' 7 n ∧ C 8 n = C' 8 n) ∧ (∀ n, n < u.2.2.2.1 → C 9 n = C' 9 n ∧ C 10 n = C' 10 n ∧ C 11 n = C' 11 n ∧ C 12 n = C' 12 n)
def yb (u : Nat × Nat × Nat × Nat × Nat) (C : lb_C) : Prop := (∀ s k, s < u.2.1 → k < u.1 → 0 ≤ (C 5 (4 * s + k)).toInt ∧ (C 5 (4 * s + k)).toInt ≤ 5) ∧ (∀ n, n < u.2.2.1 → (0 ≤ (C 6 n).toInt ∧ (C 6 n).toInt < u.1) ∧ (1 ≤ (C 7 n).toInt ∧ (C 7 n).toInt ≤ 99) ∧ (0 ≤ (C 8 n).toInt ∧ (C 8 n).toInt < u.2.1)) ∧ (∀ n, n < u.2.2.2.1 → (0 ≤ (C 9 n).toInt ∧ (C 9 n).toInt < u.2.1) ∧ 0 ≤ (C 10 n).toInt ∧ (C 10 n).toInt < (C 11 n).toInt ∧ (C 11 n).toInt ≤ 99 ∧ 0 ≤ (C 12 n).toInt ∧ (C 12 n).toInt ≤ 999)
def yk (u : Nat × Nat × Nat × Nat × Nat) (C C' : lb_C) : Prop := yz u C C' ∧ yb u C
theorem yk_0 {k h : Nat} {C C' : lb_C} : yk (k, 0, 0, 0, h) C C' := ⟨⟨fun s k hs => absurd hs (Nat.not_lt_zero _), fun n hn => absurd hn (Nat.not_lt_zero _), fun n hn => absurd hn (Nat.not_lt_zero _)⟩, fun s k hs => absurd hs (Nat.not_lt_zero _), fun n hn => absurd hn (Nat.not_lt_zero _), fun n hn => absurd hn (Nat.not_lt_zero _)⟩
theorem yn1 {k : Nat} {x : Int32} (hk : k ≤ 1000) (h0 : (Int32.ofInt 0).toInt ≤ x.toInt) (h1 : x.toInt ≤ (nI k - Int32.ofInt 1).toInt) : 0 ≤ x.toInt ∧ x.toInt < k := by
  have z0 : (Int32.ofInt 0).toInt = 0 := by decide
  have z1 : (Int32.ofInt 1).toInt = 1 := by decide
  rw [Int32.toInt_sub, z1, nI_toInt (by omega), Int.bmod_eq_of_le (by omega) (by omega)] at h1
  omega
/-- one clause -/
theorem yk_1 {f : Nat → Int32} {t i : Nat} {u u1 : lb_U} {C C' D D' : lb_C} (h0 : i = 0 → u.2.2.1 = 0 ∧ u.2.2.2.1 = 0 ∧ u.2.2.2.2.1 = 0) (hk4 : u.2.1 ≤ 4) (hs6 : u.2.2.1 ≤ 6) (hk : yk u.2 C C') (hy : lb_yc f t i u (.inr u1)) (hC : lb_ycC f t u u1 C D) (hC' : lb_ycC f t u u1 C' D') : yk u1.2 D D' ∧ u1.2.1 ≤ 4 ∧ u1.2.2.1 ≤ 6 ∧ (i = 0 → 1 ≤ u1.2.1) ∧ (i ≠ 0 → u1.2.1 = u.2.1) := by
  rcases hy with ⟨_, e⟩ | ⟨w, hw, a, b, hy⟩
  · cases e
  rcases hy with ⟨_, e⟩ | ⟨hx, hy⟩
  · cases e
  obtain ⟨w1, hw1, a1, b1, hC⟩ := hC
  obtain ⟨w2, hw2, a2, b2, hC'⟩ := hC'
  have e1 : w1 = w := by
    rcases Nat.lt_trichotomy w1 w with q | q | q
    · exact absurd a1 (b _ q)
    · exact q
    · exact absurd a (b1 _ q)
  have e2 : w2 = w := by
    rcases Nat.lt_trichotomy w2 w with q | q | q
    · exact absurd a2 (b _ q)
    · exact q
    · exact absurd a (b2 _ q)
  subst e1
  subst e2
  have hxi : i = 0 ↔ w2 = 0 := Classical.byContradiction fun c => hx (Or.inr (Or.inl c))
  have hxf : ¬ lb_fu u w2 := fun c => hx (Or.inr (Or.inr c))
  obtain ⟨⟨k1, k2, k3⟩, l1, l2, l3⟩ := hk
  obtain ⟨p, uk, us, up, uv, uh⟩ := u
  dsimp only at h0 hk4 hs6 k1 k2 k3 l1 l2 l3 hC hC' hy hxf
  have z0 : (Int32.ofInt 0).toInt = 0 := by decide
  have z1 : (Int32.ofInt 1).toInt = 1 := by decide
  have z4 : (Int32.ofInt 4).toInt = 4 := by decide
  have z98 : (Int32.ofInt 98).toInt = 98 := by decide
  have z99 : (Int32.ofInt 99).toInt = 99 := by decide
  have z999 : (Int32.ofInt 999).toInt = 999 := by decide
  rcases (by omega : w2 = 0 ∨ w2 = 1 ∨ w2 = 2 ∨ w2 = 3 ∨ w2 = 4) with rfl | rfl | rfl | rfl | rfl
  · obtain ⟨r1, hn, hr⟩ := hy
    rcases hr with ⟨c, _, e⟩ | ⟨q, x, er, e⟩
    · cases e
    subst er
    have hb := lb_nu_b hn
    have e := Sum.inr.inj e
    subst e
    obtain ⟨g1, g2, g3⟩ := h0 (hxi.mpr rfl)
    subst g1
    subst g2
    subst g3
    have eD : D = C := hC
    have eD' : D' = C' := hC'
    dsimp only
    exact ⟨yk_0, by omega, by omega, fun _ => by omega, fun c => absurd (hxi.mpr rfl) c⟩
  · obtain ⟨r1, hn, hr⟩ := hy
    rcases hr with ⟨c, _, e⟩ | ⟨q, er, e⟩
    · cases e
    subst er
    have e := Sum.inr.inj e
    subst e
    dsimp only at hC hC' ⊢
    have hC : lb_shC f t us uk 0 _ q C D := hC
    have hC' : lb_shC f t us uk 0 _ q C' D' := hC'
    obtain ⟨_, c1, c2, c3⟩ := lb_shC2 _ _ _ _ _ _ _ _ _ hC hC'
    have hf : ¬ 6 ≤ us := hxf
    refine ⟨⟨⟨fun s k hs hk => ?_, fun n hn => ?_, fun n hn => ?_⟩, fun s k hs hk => ?_, fun n hn => ?_, fun n hn => ?_⟩, hk4, by omega, fun c => absurd (hxi.mp c) (by decide), fun _ => rfl⟩
    · dsimp only at hs hk
      by_cases e : s = us
      · subst e
        exact (c1 k (by omega) (by omega)).1
      · obtain ⟨d1, d2⟩ := c2 (4 * s + k) (Or.inl (by omega))
        rw [d1, d2]
        exact k1 s k (by omega) hk
    · rw [(c3 6 (by decide)).1, (c3 6 (by decide)).2, (c3 7 (by decide)).1, (c3 7 (by decide)).2, (c3 8 (by decide)).1, (c3 8 (by decide)).2]
      exact k2 n hn
    · rw [(c3 9 (by decide)).1, (c3 9 (by decide)).2, (c3 10 (by decide)).1, (c3 10 (by decide)).2, (c3 11 (by decide)).1, (c3 11 (by decide)).2, (c3 12 (by decide)).1, (c3 12 (by decide)).2]
      exact k3 n hn
    · dsimp only at hs hk
      by_cases e : s = us
      · subst e
        exact (c1 k (by omega) (by omega)).2
      · obtain ⟨d1, d2⟩ := c2 (4 * s + k) (Or.inl (by omega))
        rw [d1]
        exact l1 s k (by omega) hk
    · rw [(c3 6 (by decide)).1, (c3 7 (by decide)).1, (c3 8 (by decide)).1]
      have := l2 n hn
      dsimp only at this ⊢
      omega
    · rw [(c3 9 (by decide)).1, (c3 10 (by decide)).1, (c3 11 (by decide)).1, (c3 12 (by decide)).1]
      have := l3 n hn
      dsimp only at this ⊢
      omega
  · obtain ⟨r1, hn, hr⟩ := hy
    rcases hr with ⟨c, _, e⟩ | ⟨q, er, e⟩
    · cases e
    subst er
    have e := Sum.inr.inj e
    subst e
    dsimp only at hC hC' ⊢
    obtain ⟨q1, q2, x1, x2, x3, m1, m2, m3, eD⟩ := hC
    obtain ⟨q1', q2', x1', x2', x3', m1', m2', m3', eD'⟩ := hC'
    obtain ⟨f1, f2⟩ := lb_nu_e m1 m1'
    subst f1
    subst f2
    obtain ⟨f1, f2⟩ := lb_nu_e m2 m2'
    subst f1
    subst f2
    obtain ⟨_, f2⟩ := lb_nu_e m3 m3'
    subst f2
    have y1 := lb_nu_b m1
    have y2 := lb_nu_b m2
    have y3 := lb_nu_b m3
    have yy1 := yn1 (k := uk) (by omega) y1.1 y1.2
    have yy3 := yn1 (k := us) (by omega) y3.1 y3.2
    have F : ∀ (E : lb_C), (∀ a, a ≠ 6 → a ≠ 7 → a ≠ 8 → nt_u (nt_u (nt_u E 6 up x1') 7 up x2') 8 up x3' a = E a) ∧ (∀ n, n ≠ up → nt_u (nt_u (nt_u E 6 up x1') 7 up x2') 8 up x3' 6 n = E 6 n ∧ nt_u (nt_u (nt_u E 6 up x1') 7 up x2') 8 up x3' 7 n = E 7 n ∧ nt_u (nt_u (nt_u E 6 up x1') 7 up x2') 8 up x3' 8 n = E 8 n) ∧ nt_u (nt_u (nt_u E 6 up x1') 7 up x2') 8 up x3' 6 up = x1' ∧ nt_u (nt_u (nt_u E 6 up x1') 7 up x2') 8 up x3' 7 up = x2' ∧ nt_u (nt_u (nt_u E 6 up x1') 7 up x2') 8 up x3' 8 up = x3' := by
      intro E
      refine ⟨fun a g1 g2 g3 => ?_, fun n g => ⟨?_, ?_, ?_⟩, ?_, ?_, me_us⟩
      · rw [me_uo g3, me_uo g2, me_uo g1]
      · rw [me_uo (by decide), me_uo (by decide), me_uk g]
      · rw [me_uo (by decide), me_uk g, me_uo (by decide)]
      · rw [me_uk g, me_uo (by decide), me_uo (by decide)]
      · rw [me_uo (by decide), me_uo (by decide), me_us]
      · rw [me_uo (by decide), me_us]
    obtain ⟨F1, F2, F3, F4, F5⟩ := F C
    obtain ⟨G1, G2, G3, G4, G5⟩ := F C'
    rw [← eD] at F1 F2 F3 F4 F5
    rw [← eD'] at G1 G2 G3 G4 G5
    refine ⟨⟨⟨fun s k hs hk => ?_, fun n hn => ?_, fun n hn => ?_⟩, fun s k hs hk => ?_, fun n hn => ?_, fun n hn => ?_⟩, hk4, hs6, fun c => absurd (hxi.mp c) (by decide), fun _ => rfl⟩
    · rw [F1 5 (by decide) (by decide) (by decide), G1 5 (by decide) (by decide) (by decide)]
      exact k1 s k hs hk
    · dsimp only at hn
      by_cases e : n = up
      · subst e
        rw [F3, F4, F5, G3, G4, G5]
        exact ⟨rfl, rfl, rfl⟩
      · rw [(F2 n e).1, (F2 n e).2.1, (F2 n e).2.2, (G2 n e).1, (G2 n e).2.1, (G2 n e).2.2]
        exact k2 n (by omega)
    · rw [F1 9 (by decide) (by decide) (by decide), G1 9 (by decide) (by decide) (by decide), F1 10 (by decide) (by decide) (by decide), G1 10 (by decide) (by decide) (by decide), F1 11 (by decide) (by decide) (by decide), G1 11 (by decide) (by decide) (by decide), F1 12 (by decide) (by decide) (by decide), G1 12 (by decide) (by decide) (by decide)]
      exact k3 n hn
    · rw [F1 5 (by decide) (by decide) (by decide)]
      exact l1 s k hs hk
    · dsimp only at hn
      by_cases e : n = up
      · subst e
        rw [F3, F4, F5]
        dsimp only
        exact ⟨yy1, by omega, yy3⟩
      · rw [(F2 n e).1, (F2 n e).2.1, (F2 n e).2.2]
        exact l2 n (by omega)
    · rw [F1 9 (by decide) (by decide) (by decide), F1 10 (by decide) (by decide) (by decide), F1 11 (by decide) (by decide) (by decide), F1 12 (by decide) (by decide) (by decide)]
      exact l3 n hn
  · obtain ⟨r1, hn, hr⟩ := hy
    rcases hr with ⟨c, _, e⟩ | ⟨q, er, e⟩
    · cases e
    subst er
    have e := Sum.inr.inj e
    subst e
    dsimp only at hC hC' ⊢
    obtain ⟨q1, q2, q3, x1, x2, x3, x4, m1, m2, m3, m4, eD⟩ := hC
    obtain ⟨q1', q2', q3', x1', x2', x3', x4', m1', m2', m3', m4', eD'⟩ := hC'
    obtain ⟨f1, f2⟩ := lb_nu_e m1 m1'
    subst f1
    subst f2
    obtain ⟨f1, f2⟩ := lb_nu_e m2 m2'
    subst f1
    subst f2
    obtain ⟨f1, f2⟩ := lb_nu_e m3 m3'
    subst f1
    subst f2
    obtain ⟨_, f2⟩ := lb_nu_e m4 m4'
    subst f2
    have y1 := lb_nu_b m1
    have y2 := lb_nu_b m2
    have y3 := lb_nu_b m3
    have y4 := lb_nu_b m4
    have yy1 := yn1 (k := us) (by omega) y1.1 y1.2
    have ex : (x2' + Int32.ofInt 1).toInt = x2'.toInt + 1 := by
      rw [Int32.toInt_add, z1, Int.bmod_eq_of_le (by omega) (by omega)]
    have F : ∀ (E : lb_C), (∀ a, a ≠ 9 → a ≠ 10 → a ≠ 11 → a ≠ 12 → nt_u (nt_u (nt_u (nt_u E 9 uv x1') 10 uv x2') 11 uv x3') 12 uv x4' a = E a) ∧ (∀ n, n ≠ uv → nt_u (nt_u (nt_u (nt_u E 9 uv x1') 10 uv x2') 11 uv x3') 12 uv x4' 9 n = E 9 n ∧ nt_u (nt_u (nt_u (nt_u E 9 uv x1') 10 uv x2') 11 uv x3') 12 uv x4' 10 n = E 10 n ∧ nt_u (nt_u (nt_u (nt_u E 9 uv x1') 10 uv x2') 11 uv x3') 12 uv x4' 11 n = E 11 n ∧ nt_u (nt_u (nt_u (nt_u E 9 uv x1') 10 uv x2') 11 uv x3') 12 uv x4' 12 n = E 12 n) ∧ nt_u (nt_u (nt_u (nt_u E 9 uv x1') 10 uv x2') 11 uv x3') 12 uv x4' 9 uv = x1' ∧ nt_u (nt_u (nt_u (nt_u E 9 uv x1') 10 uv x2') 11 uv x3') 12 uv x4' 10 uv = x2' ∧ nt_u (nt_u (nt_u (nt_u E 9 uv x1') 10 uv x2') 11 uv x3') 12 uv x4' 11 uv = x3' ∧ nt_u (nt_u (nt_u (nt_u E 9 uv x1') 10 uv x2') 11 uv x3') 12 uv x4' 12 uv = x4' := by
      intro E
      refine ⟨fun a g1 g2 g3 g4 => ?_, fun n g => ⟨?_, ?_, ?_, ?_⟩, ?_, ?_, ?_, me_us⟩
      · rw [me_uo g4, me_uo g3, me_uo g2, me_uo g1]
      · rw [me_uo (by decide), me_uo (by decide), me_uo (by decide), me_uk g]
      · rw [me_uo (by decide), me_uo (by decide), me_uk g, me_uo (by decide)]
      · rw [me_uo (by decide), me_uk g, me_uo (by decide), me_uo (by decide)]
      · rw [me_uk g, me_uo (by decide), me_uo (by decide), me_uo (by decide)]
      · rw [me_uo (by decide), me_uo (by decide), me_uo (by decide), me_us]
      · rw [me_uo (by decide), me_uo (by decide), me_us]
      · rw [me_uo (by decide), me_us]
    obtain ⟨F1, F2, F3, F4, F5, F6⟩ := F C
    obtain ⟨G1, G2, G3, G4, G5, G6⟩ := F C'
    rw [← eD] at F1 F2 F3 F4 F5 F6
    rw [← eD'] at G1 G2 G3 G4 G5 G6
    refine ⟨⟨⟨fun s k hs hk => ?_, fun n hn => ?_, fun n hn => ?_⟩, fun s k hs hk => ?_, fun n hn => ?_, fun n hn => ?_⟩, hk4, hs6, fun c => absurd (hxi.mp c) (by decide), fun _ => rfl⟩
    · rw [F1 5 (by decide) (by decide) (by decide) (by decide), G1 5 (by decide) (by decide) (by decide) (by decide)]
      exact k1 s k hs hk
    · rw [F1 6 (by decide) (by decide) (by decide) (by decide), G1 6 (by decide) (by decide) (by decide) (by decide), F1 7 (by decide) (by decide) (by decide) (by decide), G1 7 (by decide) (by decide) (by decide) (by decide), F1 8 (by decide) (by decide) (by decide) (by decide), G1 8 (by decide) (by decide) (by decide) (by decide)]
      exact k2 n hn
    · dsimp only at hn
      by_cases e : n = uv
      · subst e
        rw [F3, F4, F5, F6, G3, G4, G5, G6]
        exact ⟨rfl, rfl, rfl, rfl⟩
      · rw [(F2 n e).1, (F2 n e).2.1, (F2 n e).2.2.1, (F2 n e).2.2.2, (G2 n e).1, (G2 n e).2.1, (G2 n e).2.2.1, (G2 n e).2.2.2]
        exact k3 n (by omega)
    · rw [F1 5 (by decide) (by decide) (by decide) (by decide)]
      exact l1 s k hs hk
    · rw [F1 6 (by decide) (by decide) (by decide) (by decide), F1 7 (by decide) (by decide) (by decide) (by decide), F1 8 (by decide) (by decide) (by decide) (by decide)]
      exact l2 n hn
    · dsimp only at hn
      by_cases e : n = uv
      · subst e
        rw [F3, F4, F5, F6]
        dsimp only
        exact ⟨yy1, by omega, by omega, by omega, by omega, by omega⟩
      · rw [(F2 n e).1, (F2 n e).2.1, (F2 n e).2.2.1, (F2 n e).2.2.2]
        exact l3 n (by omega)
  · obtain ⟨r1, hn, hr⟩ := hy
    rcases hr with ⟨c, _, e⟩ | ⟨q, x, er, e⟩
    · cases e
    have e := Sum.inr.inj e
    subst e
    have eD : D = C := hC
    have eD' : D' = C' := hC'
    rw [eD, eD']
    exact ⟨⟨⟨k1, k2, k3⟩, l1, l2, l3⟩, hk4, hs6, fun c => absurd (hxi.mp c) (by decide), fun _ => rfl⟩
theorem lb_yaC2 {f : Nat → Int32} {t : Nat} : ∀ (k k' i : Nat) (u v v' : lb_U) (C C' D D' : lb_C), (i = 0 → u.2.2.1 = 0 ∧ u.2.2.2.1 = 0 ∧ u.2.2.2.2.1 = 0) → (i ≠ 0 → 1 ≤ u.2.1) → u.2.1 ≤ 4 → u.2.2.1 ≤ 6 → yk u.2 C C' → lb_yaC f t k i u v C D → lb_yaC f t k' i u v' C' D' → v' = v ∧ yk v.2 D D' ∧ 1 ≤ v.2.1 := by
  intro k
  induction k with
  | zero => intro k' i u v v' C C' D D' _ _ _ _ _ h; exact h.elim
  | succ k ih =>
    intro k' i u v v' C C' D D' h0 h1 h4 h6 hk h h'
    cases k' with
    | zero => exact h'.elim
    | succ k' =>
      obtain ⟨u1, C1, hy, hC, h⟩ := h
      obtain ⟨u1', C1', hy', hC', h'⟩ := h'
      have e := Sum.inr.inj (lb_yc_det hy' hy)
      subst e
      obtain ⟨g1, g2, g3, g4, g5⟩ := yk_1 h0 h4 h6 hk hy hC hC'
      have g6 : 1 ≤ u1'.2.1 := by
        by_cases e : i = 0
        · exact g4 e
        · rw [g5 e]
          exact h1 e
      rcases h with ⟨a, h⟩ | ⟨a, h, hD⟩ <;> rcases h' with ⟨a', h'⟩ | ⟨a', h', hD'⟩
      · exact ih k' (i + 1) (lb_s f t (u1'.1 + 1), u1'.2) v v' C1 C1' D D' (fun c => absurd c (Nat.succ_ne_zero _)) (fun _ => g6) g2 g3 g1 h h'
      · rw [a] at a'
        exact absurd a' (by decide)
      · rw [a] at a'
        exact absurd a' (by decide)
      · subst h
        subst hD
        subst hD'
        exact ⟨h', g1, g6⟩
end
section
/-! a new yard begins -/
theorem mw_R {M : nt_M} {J : Nat → Nat → Int32} {a k b : Nat} (h : nt_R M a k = some b) : nt_R (me_w M J) a k = some b := h
theorem mw_gI {M : nt_M} {J : Nat → Nat → Int32} {a c j : Nat} {x : Int32} (ht : nt_tg c j = 0) (h : J a j = x) : nt_gf (me_w M J) a c j = .int x := by
  unfold nt_gf
  rw [ht]
  exact congrArg Value.int h
theorem mw_RL {M : nt_M} {J : Nat → Nat → Int32} {L : Nat → Nat → Int64} {a k b : Nat} (h : nt_R M a k = some b) : nt_R (me_w (lw M L) J) a k = some b := h
/-! $State.begin -/
def x64_32 (q : Nat → Nat) : Nat → Int32 → (Nat → Nat → Int32) → (Nat → Nat → Int32)
  | 0, v2, J => J
  | c + 1, v2, J => if (Int32.ofInt 6) ≤ v2 then J
    else (x64_32 q c (v2 + (Int32.ofInt 1)) (nt_u (nt_u (nt_u J (q 10) v2.toNatClampNeg (Int32.ofInt 0)) (q 11) v2.toNatClampNeg (Int32.ofInt 0)) (q 12) v2.toNatClampNeg (Int32.ofInt (-1))))
theorem xt64_32 {X : nt_X} {d : Nat} {M : nt_M} {o : Option Value × nt_M} {q : Nat → Nat} {v1 : Int32} (hq : xs_Q M q) : ∀ (c : Nat) (v2 : Int32) (J : Nat → Nat → Int32), (Int32.ofInt 6).toInt - v2.toInt ≤ c → nt_rn X d 64 (32, [(0, .ref (q 0)), (1, .int v1), (2, .int v2)], [], me_w M J) o → ∃ (w2 : Int32), nt_rn X d 64 (65, [(0, .ref (q 0)), (1, .int v1), (2, .int w2)], [], me_w M (x64_32 q c v2 J)) o := by
  intro c
  induction c with
  | zero =>
    intro v2 J hc k
    have k := ly_revb 3 (c' := (if (Int32.ofInt 6) ≤ v2 then 65 else 38, [(0, .ref (q 0)), (1, .int v1), (2, .int v2)], [], me_w M J)) rfl k
    have h35 : (Int32.ofInt 6) ≤ v2 := lx_end hc
    rw [if_pos h35] at k
    have k := nt_rn_w (a := [(0, .ref (q 0)), (1, .int v1), (2, .int v2)]) (b := [(0, .ref (q 0)), (1, .int v1), (2, .int v2)]) ⟨rfl, rfl, rfl, trivial⟩ rfl k
    rw [x64_32]
    exact ⟨_, k⟩
  | succ c ih =>
    intro v2 J hc k
    have k := ly_revb 3 (c' := (if (Int32.ofInt 6) ≤ v2 then 65 else 38, [(0, .ref (q 0)), (1, .int v1), (2, .int v2)], [], me_w M J)) rfl k
    by_cases h35 : (Int32.ofInt 6) ≤ v2
    · rw [if_pos h35] at k
      have k := nt_rn_w (a := [(0, .ref (q 0)), (1, .int v1), (2, .int v2)]) (b := [(0, .ref (q 0)), (1, .int v1), (2, .int v2)]) ⟨rfl, rfl, rfl, trivial⟩ rfl k
      rw [x64_32, if_pos h35]
      exact ⟨_, k⟩
    · rw [if_neg h35] at k
      have k := ly_revb 1 (c' := (39, [(0, .ref (q 0)), (1, .int v1), (2, .int v2)], [.ref (q 0)], me_w M J)) rfl k
      have k := lz_get (a := (q 0)) (g := 607) (M := me_w M J) (v := .ref (q 10)) rfl (nt_gfR rfl (hq.1 (0, 7, 10) (by decide))) k
      have k := ly_revb 2 (c' := (44, [(0, .ref (q 0)), (1, .int v1), (2, .int v2)], [.int (Int32.ofInt 0), .int v2, .ref (q 10)], me_w M J)) rfl k
      have k := mx_iast (q := v2.toNatClampNeg) rfl rfl k
      have k : nt_rn X _ 64 (45, [(0, .ref (q 0)), (1, .int v1), (2, .int v2)], [], me_w M (nt_u J (q 10) v2.toNatClampNeg (Int32.ofInt 0))) _ := k
      have k := ly_revb 1 (c' := (46, [(0, .ref (q 0)), (1, .int v1), (2, .int v2)], [.ref (q 0)], me_w M (nt_u J (q 10) v2.toNatClampNeg (Int32.ofInt 0)))) rfl k
      have k := lz_get (a := (q 0)) (g := 608) (M := me_w M (nt_u J (q 10) v2.toNatClampNeg (Int32.ofInt 0))) (v := .ref (q 11)) rfl (nt_gfR rfl (hq.1 (0, 8, 11) (by decide))) k
      have k := ly_revb 2 (c' := (51, [(0, .ref (q 0)), (1, .int v1), (2, .int v2)], [.int (Int32.ofInt 0), .int v2, .ref (q 11)], me_w M (nt_u J (q 10) v2.toNatClampNeg (Int32.ofInt 0)))) rfl k
      have k := mx_iast (q := v2.toNatClampNeg) rfl rfl k
      have k : nt_rn X _ 64 (52, [(0, .ref (q 0)), (1, .int v1), (2, .int v2)], [], me_w M (nt_u (nt_u J (q 10) v2.toNatClampNeg (Int32.ofInt 0)) (q 11) v2.toNatClampNeg (Int32.ofInt 0))) _ := k
      have k := ly_revb 1 (c' := (53, [(0, .ref (q 0)), (1, .int v1), (2, .int v2)], [.ref (q 0)], me_w M (nt_u (nt_u J (q 10) v2.toNatClampNeg (Int32.ofInt 0)) (q 11) v2.toNatClampNeg (Int32.ofInt 0)))) rfl k
      have k := lz_get (a := (q 0)) (g := 609) (M := me_w M (nt_u (nt_u J (q 10) v2.toNatClampNeg (Int32.ofInt 0)) (q 11) v2.toNatClampNeg (Int32.ofInt 0))) (v := .ref (q 12)) rfl (nt_gfR rfl (hq.1 (0, 9, 12) (by decide))) k
      have k := ly_revb 2 (c' := (58, [(0, .ref (q 0)), (1, .int v1), (2, .int v2)], [.int (Int32.ofInt (-1)), .int v2, .ref (q 12)], me_w M (nt_u (nt_u J (q 10) v2.toNatClampNeg (Int32.ofInt 0)) (q 11) v2.toNatClampNeg (Int32.ofInt 0)))) rfl k
      have k := mx_iast (q := v2.toNatClampNeg) rfl rfl k
      have k : nt_rn X _ 64 (59, [(0, .ref (q 0)), (1, .int v1), (2, .int v2)], [], me_w M (nt_u (nt_u (nt_u J (q 10) v2.toNatClampNeg (Int32.ofInt 0)) (q 11) v2.toNatClampNeg (Int32.ofInt 0)) (q 12) v2.toNatClampNeg (Int32.ofInt (-1)))) _ := k
      have k := ly_revb 2 (c' := (32, [(2, .int (v2 + (Int32.ofInt 1))), (0, .ref (q 0)), (1, .int v1)], [], me_w M (nt_u (nt_u (nt_u J (q 10) v2.toNatClampNeg (Int32.ofInt 0)) (q 11) v2.toNatClampNeg (Int32.ofInt 0)) (q 12) v2.toNatClampNeg (Int32.ofInt (-1))))) rfl k
      have k := nt_rn_w (a := [(2, .int (v2 + (Int32.ofInt 1))), (0, .ref (q 0)), (1, .int v1)]) (b := [(0, .ref (q 0)), (1, .int v1), (2, .int (v2 + (Int32.ofInt 1)))]) ⟨rfl, rfl, rfl, trivial⟩ rfl k
      have k := ih (v2 + (Int32.ofInt 1)) (nt_u (nt_u (nt_u J (q 10) v2.toNatClampNeg (Int32.ofInt 0)) (q 11) v2.toNatClampNeg (Int32.ofInt 0)) (q 12) v2.toNatClampNeg (Int32.ofInt (-1))) (lx_dec h35 hc) k
      rw [x64_32, if_neg h35]
      exact k
theorem x64_32_frJ {q : Nat → Nat} {b : Nat} : ∀ (c : Nat) (v2 : Int32) (J : Nat → Nat → Int32), b ≠ q 10 → b ≠ q 11 → b ≠ q 12 → x64_32 q c v2 J b = J b := by
  intro c
  induction c with
  | zero =>
    intro v2 J n0 n1 n2
    rw [x64_32]
    all_goals first | (dsimp only; exact (show J b = J b from rfl)) | exact (show J b = J b from rfl)
  | succ c ih =>
    intro v2 J n0 n1 n2
    rw [x64_32]
    by_cases h : (Int32.ofInt 6) ≤ v2
    · rw [if_pos h]
      all_goals first | (dsimp only; exact (show J b = J b from rfl)) | exact (show J b = J b from rfl)
    · rw [if_neg h]
      exact (ih _ _ n0 n1 n2).trans ((mu_o n2).trans ((mu_o n1).trans (mu_o n0)))
def x64_67 (q : Nat → Nat) : Nat → Int32 → (Nat → Nat → Int32) → (Nat → Nat → Int32)
  | 0, v2, J => J
  | c + 1, v2, J => if (Int32.ofInt 24) ≤ v2 then J
    else (x64_67 q c (v2 + (Int32.ofInt 1)) (nt_u (nt_u (nt_u J (q 13) v2.toNatClampNeg (J (q 4) v2.toNatClampNeg)) (q 14) v2.toNatClampNeg (Int32.ofInt (-1))) (q 15) v2.toNatClampNeg (vp_nar .boolean (Int32.ofInt 0))))
theorem xt64_67 {X : nt_X} {d : Nat} {M : nt_M} {o : Option Value × nt_M} {q : Nat → Nat} {v1 : Int32} (hq : xs_Q M q) : ∀ (c : Nat) (v2 : Int32) (J : Nat → Nat → Int32), (Int32.ofInt 24).toInt - v2.toInt ≤ c → nt_rn X d 64 (67, [(0, .ref (q 0)), (1, .int v1), (2, .int v2)], [], me_w M J) o → ∃ (w2 : Int32), nt_rn X d 64 (108, [(0, .ref (q 0)), (1, .int v1), (2, .int w2)], [], me_w M (x64_67 q c v2 J)) o := by
  intro c
  induction c with
  | zero =>
    intro v2 J hc k
    have k := ly_revb 3 (c' := (if (Int32.ofInt 24) ≤ v2 then 108 else 73, [(0, .ref (q 0)), (1, .int v1), (2, .int v2)], [], me_w M J)) rfl k
    have h70 : (Int32.ofInt 24) ≤ v2 := lx_end hc
    rw [if_pos h70] at k
    have k := nt_rn_w (a := [(0, .ref (q 0)), (1, .int v1), (2, .int v2)]) (b := [(0, .ref (q 0)), (1, .int v1), (2, .int v2)]) ⟨rfl, rfl, rfl, trivial⟩ rfl k
    rw [x64_67]
    exact ⟨_, k⟩
  | succ c ih =>
    intro v2 J hc k
    have k := ly_revb 3 (c' := (if (Int32.ofInt 24) ≤ v2 then 108 else 73, [(0, .ref (q 0)), (1, .int v1), (2, .int v2)], [], me_w M J)) rfl k
    by_cases h70 : (Int32.ofInt 24) ≤ v2
    · rw [if_pos h70] at k
      have k := nt_rn_w (a := [(0, .ref (q 0)), (1, .int v1), (2, .int v2)]) (b := [(0, .ref (q 0)), (1, .int v1), (2, .int v2)]) ⟨rfl, rfl, rfl, trivial⟩ rfl k
      rw [x64_67, if_pos h70]
      exact ⟨_, k⟩
    · rw [if_neg h70] at k
      have k := ly_revb 1 (c' := (74, [(0, .ref (q 0)), (1, .int v1), (2, .int v2)], [.ref (q 0)], me_w M J)) rfl k
      have k := lz_get (a := (q 0)) (g := 610) (M := me_w M J) (v := .ref (q 13)) rfl (nt_gfR rfl (hq.1 (0, 10, 13) (by decide))) k
      have k := ly_revb 2 (c' := (79, [(0, .ref (q 0)), (1, .int v1), (2, .int v2)], [.ref (q 0), .int v2, .ref (q 13)], me_w M J)) rfl k
      have k := lz_get (a := (q 0)) (g := 600) (M := me_w M J) (v := .ref (q 1)) rfl (nt_gfR rfl (hq.1 (0, 0, 1) (by decide))) k
      have k := lz_get (a := (q 1)) (g := 807) (M := me_w M J) (v := .ref (q 4)) rfl (nt_gfR rfl (hq.1 (1, 7, 4) (by decide))) k
      have k := ly_revb 1 (c' := (86, [(0, .ref (q 0)), (1, .int v1), (2, .int v2)], [.int v2, .ref (q 4), .int v2, .ref (q 13)], me_w M J)) rfl k
      have k := mx_iald (v := J (q 4) v2.toNatClampNeg) rfl (hq.2.2.1 4 (by omega)) (rfl) k
      have k := mx_iast (q := v2.toNatClampNeg) rfl rfl k
      have k : nt_rn X _ 64 (88, [(0, .ref (q 0)), (1, .int v1), (2, .int v2)], [], me_w M (nt_u J (q 13) v2.toNatClampNeg (J (q 4) v2.toNatClampNeg))) _ := k
      have k := ly_revb 1 (c' := (89, [(0, .ref (q 0)), (1, .int v1), (2, .int v2)], [.ref (q 0)], me_w M (nt_u J (q 13) v2.toNatClampNeg (J (q 4) v2.toNatClampNeg)))) rfl k
      have k := lz_get (a := (q 0)) (g := 611) (M := me_w M (nt_u J (q 13) v2.toNatClampNeg (J (q 4) v2.toNatClampNeg))) (v := .ref (q 14)) rfl (nt_gfR rfl (hq.1 (0, 11, 14) (by decide))) k
      have k := ly_revb 2 (c' := (94, [(0, .ref (q 0)), (1, .int v1), (2, .int v2)], [.int (Int32.ofInt (-1)), .int v2, .ref (q 14)], me_w M (nt_u J (q 13) v2.toNatClampNeg (J (q 4) v2.toNatClampNeg)))) rfl k
      have k := mx_iast (q := v2.toNatClampNeg) rfl rfl k
      have k : nt_rn X _ 64 (95, [(0, .ref (q 0)), (1, .int v1), (2, .int v2)], [], me_w M (nt_u (nt_u J (q 13) v2.toNatClampNeg (J (q 4) v2.toNatClampNeg)) (q 14) v2.toNatClampNeg (Int32.ofInt (-1)))) _ := k
      have k := ly_revb 1 (c' := (96, [(0, .ref (q 0)), (1, .int v1), (2, .int v2)], [.ref (q 0)], me_w M (nt_u (nt_u J (q 13) v2.toNatClampNeg (J (q 4) v2.toNatClampNeg)) (q 14) v2.toNatClampNeg (Int32.ofInt (-1))))) rfl k
      have k := lz_get (a := (q 0)) (g := 612) (M := me_w M (nt_u (nt_u J (q 13) v2.toNatClampNeg (J (q 4) v2.toNatClampNeg)) (q 14) v2.toNatClampNeg (Int32.ofInt (-1)))) (v := .ref (q 15)) rfl (nt_gfR rfl (hq.1 (0, 12, 15) (by decide))) k
      have k := ly_revb 2 (c' := (101, [(0, .ref (q 0)), (1, .int v1), (2, .int v2)], [.int (Int32.ofInt 0), .int v2, .ref (q 15)], me_w M (nt_u (nt_u J (q 13) v2.toNatClampNeg (J (q 4) v2.toNatClampNeg)) (q 14) v2.toNatClampNeg (Int32.ofInt (-1))))) rfl k
      have k := mx_bast (q := v2.toNatClampNeg) rfl hq.2.2.2 rfl k
      have k : nt_rn X _ 64 (102, [(0, .ref (q 0)), (1, .int v1), (2, .int v2)], [], me_w M (nt_u (nt_u (nt_u J (q 13) v2.toNatClampNeg (J (q 4) v2.toNatClampNeg)) (q 14) v2.toNatClampNeg (Int32.ofInt (-1))) (q 15) v2.toNatClampNeg (vp_nar .boolean (Int32.ofInt 0)))) _ := k
      have k := ly_revb 2 (c' := (67, [(2, .int (v2 + (Int32.ofInt 1))), (0, .ref (q 0)), (1, .int v1)], [], me_w M (nt_u (nt_u (nt_u J (q 13) v2.toNatClampNeg (J (q 4) v2.toNatClampNeg)) (q 14) v2.toNatClampNeg (Int32.ofInt (-1))) (q 15) v2.toNatClampNeg (vp_nar .boolean (Int32.ofInt 0))))) rfl k
      have k := nt_rn_w (a := [(2, .int (v2 + (Int32.ofInt 1))), (0, .ref (q 0)), (1, .int v1)]) (b := [(0, .ref (q 0)), (1, .int v1), (2, .int (v2 + (Int32.ofInt 1)))]) ⟨rfl, rfl, rfl, trivial⟩ rfl k
      have k := ih (v2 + (Int32.ofInt 1)) (nt_u (nt_u (nt_u J (q 13) v2.toNatClampNeg (J (q 4) v2.toNatClampNeg)) (q 14) v2.toNatClampNeg (Int32.ofInt (-1))) (q 15) v2.toNatClampNeg (vp_nar .boolean (Int32.ofInt 0))) (lx_dec h70 hc) k
      rw [x64_67, if_neg h70]
      exact k
theorem x64_67_frJ {q : Nat → Nat} {b : Nat} : ∀ (c : Nat) (v2 : Int32) (J : Nat → Nat → Int32), b ≠ q 13 → b ≠ q 14 → b ≠ q 15 → x64_67 q c v2 J b = J b := by
  intro c
  induction c with
  | zero =>
    intro v2 J n0 n1 n2
    rw [x64_67]
    all_goals first | (dsimp only; exact (show J b = J b from rfl)) | exact (show J b = J b from rfl)
  | succ c ih =>
    intro v2 J n0 n1 n2
    rw [x64_67]
    by_cases h : (Int32.ofInt 24) ≤ v2
    · rw [if_pos h]
      all_goals first | (dsimp only; exact (show J b = J b from rfl)) | exact (show J b = J b from rfl)
    · rw [if_neg h]
      exact (ih _ _ n0 n1 n2).trans ((mu_o n2).trans ((mu_o n1).trans (mu_o n0)))
def x64_110 (q : Nat → Nat) : Nat → Int32 → (Nat → Nat → Int32) → (Nat → Nat → Int32)
  | 0, v2, J => J
  | c + 1, v2, J => if (Int32.ofInt 8) ≤ v2 then J
    else (x64_110 q c (v2 + (Int32.ofInt 1)) (nt_u J (q 16) v2.toNatClampNeg (Int32.ofInt 0)))
theorem xt64_110 {X : nt_X} {d : Nat} {M : nt_M} {o : Option Value × nt_M} {q : Nat → Nat} {v1 : Int32} (hq : xs_Q M q) : ∀ (c : Nat) (v2 : Int32) (J : Nat → Nat → Int32), (Int32.ofInt 8).toInt - v2.toInt ≤ c → nt_rn X d 64 (110, [(0, .ref (q 0)), (1, .int v1), (2, .int v2)], [], me_w M J) o → ∃ (w2 : Int32), nt_rn X d 64 (129, [(0, .ref (q 0)), (1, .int v1), (2, .int w2)], [], me_w M (x64_110 q c v2 J)) o := by
  intro c
  induction c with
  | zero =>
    intro v2 J hc k
    have k := ly_revb 3 (c' := (if (Int32.ofInt 8) ≤ v2 then 129 else 116, [(0, .ref (q 0)), (1, .int v1), (2, .int v2)], [], me_w M J)) rfl k
    have h113 : (Int32.ofInt 8) ≤ v2 := lx_end hc
    rw [if_pos h113] at k
    have k := nt_rn_w (a := [(0, .ref (q 0)), (1, .int v1), (2, .int v2)]) (b := [(0, .ref (q 0)), (1, .int v1), (2, .int v2)]) ⟨rfl, rfl, rfl, trivial⟩ rfl k
    rw [x64_110]
    exact ⟨_, k⟩
  | succ c ih =>
    intro v2 J hc k
    have k := ly_revb 3 (c' := (if (Int32.ofInt 8) ≤ v2 then 129 else 116, [(0, .ref (q 0)), (1, .int v1), (2, .int v2)], [], me_w M J)) rfl k
    by_cases h113 : (Int32.ofInt 8) ≤ v2
    · rw [if_pos h113] at k
      have k := nt_rn_w (a := [(0, .ref (q 0)), (1, .int v1), (2, .int v2)]) (b := [(0, .ref (q 0)), (1, .int v1), (2, .int v2)]) ⟨rfl, rfl, rfl, trivial⟩ rfl k
      rw [x64_110, if_pos h113]
      exact ⟨_, k⟩
    · rw [if_neg h113] at k
      have k := ly_revb 1 (c' := (117, [(0, .ref (q 0)), (1, .int v1), (2, .int v2)], [.ref (q 0)], me_w M J)) rfl k
      have k := lz_get (a := (q 0)) (g := 613) (M := me_w M J) (v := .ref (q 16)) rfl (nt_gfR rfl (hq.1 (0, 13, 16) (by decide))) k
      have k := ly_revb 2 (c' := (122, [(0, .ref (q 0)), (1, .int v1), (2, .int v2)], [.int (Int32.ofInt 0), .int v2, .ref (q 16)], me_w M J)) rfl k
      have k := mx_iast (q := v2.toNatClampNeg) rfl rfl k
      have k : nt_rn X _ 64 (123, [(0, .ref (q 0)), (1, .int v1), (2, .int v2)], [], me_w M (nt_u J (q 16) v2.toNatClampNeg (Int32.ofInt 0))) _ := k
      have k := ly_revb 2 (c' := (110, [(2, .int (v2 + (Int32.ofInt 1))), (0, .ref (q 0)), (1, .int v1)], [], me_w M (nt_u J (q 16) v2.toNatClampNeg (Int32.ofInt 0)))) rfl k
      have k := nt_rn_w (a := [(2, .int (v2 + (Int32.ofInt 1))), (0, .ref (q 0)), (1, .int v1)]) (b := [(0, .ref (q 0)), (1, .int v1), (2, .int (v2 + (Int32.ofInt 1)))]) ⟨rfl, rfl, rfl, trivial⟩ rfl k
      have k := ih (v2 + (Int32.ofInt 1)) (nt_u J (q 16) v2.toNatClampNeg (Int32.ofInt 0)) (lx_dec h113 hc) k
      rw [x64_110, if_neg h113]
      exact k
theorem x64_110_frJ {q : Nat → Nat} {b : Nat} : ∀ (c : Nat) (v2 : Int32) (J : Nat → Nat → Int32), b ≠ q 16 → x64_110 q c v2 J b = J b := by
  intro c
  induction c with
  | zero =>
    intro v2 J n0
    rw [x64_110]
    all_goals first | (dsimp only; exact (show J b = J b from rfl)) | exact (show J b = J b from rfl)
  | succ c ih =>
    intro v2 J n0
    rw [x64_110]
    by_cases h : (Int32.ofInt 8) ≤ v2
    · rw [if_pos h]
      all_goals first | (dsimp only; exact (show J b = J b from rfl)) | exact (show J b = J b from rfl)
    · rw [if_neg h]
      exact (ih _ _ n0).trans (mu_o n0)
def x64 (q : Nat → Nat) (v1 : Int32) (J : Nat → Nat → Int32) : (Nat → Nat → Int32) := (x64_110 q ((Int32.ofInt 8).toNatClampNeg) (Int32.ofInt 0) (x64_67 q ((Int32.ofInt 24).toNatClampNeg) (Int32.ofInt 0) (x64_32 q ((Int32.ofInt 6).toNatClampNeg) (Int32.ofInt 0) (nt_u (nt_u (nt_u (nt_u (nt_u (nt_u J (q 0) 1 (Int32.ofInt 1)) (q 0) 2 (Int32.ofInt 0)) (q 0) 3 (Int32.ofInt 0)) (q 0) 4 (Int32.ofInt 0)) (q 0) 5 (Int32.ofInt 0)) (q 0) 6 v1))))
theorem xt64 {X : nt_X} {d : Nat} {M : nt_M} {o : Option Value × nt_M} {q : Nat → Nat} {v1 : Int32} {J : Nat → Nat → Int32} (hq : xs_Q M q) (k : nt_ev X d 64 [.ref (q 0), .int v1] (me_w M J) o) : o = (none, me_w M (x64 q v1 J)) := by
  have k : nt_rn X d 64 (0, [(0, .ref (q 0)), (1, .int v1)], [], me_w M J) o := k
  have k := ly_revb 2 (c' := (2, [(0, .ref (q 0)), (1, .int v1)], [.int (Int32.ofInt 1), .ref (q 0)], me_w M J)) rfl k
  have k := me_put rfl (by decide) k
  have k : nt_rn X _ 64 (5, [(0, .ref (q 0)), (1, .int v1)], [], me_w M (nt_u J (q 0) 1 (Int32.ofInt 1))) _ := k
  have k := ly_revb 2 (c' := (7, [(0, .ref (q 0)), (1, .int v1)], [.int (Int32.ofInt 0), .ref (q 0)], me_w M (nt_u J (q 0) 1 (Int32.ofInt 1)))) rfl k
  have k := me_put rfl (by decide) k
  have k : nt_rn X _ 64 (10, [(0, .ref (q 0)), (1, .int v1)], [], me_w M (nt_u (nt_u J (q 0) 1 (Int32.ofInt 1)) (q 0) 2 (Int32.ofInt 0))) _ := k
  have k := ly_revb 2 (c' := (12, [(0, .ref (q 0)), (1, .int v1)], [.int (Int32.ofInt 0), .ref (q 0)], me_w M (nt_u (nt_u J (q 0) 1 (Int32.ofInt 1)) (q 0) 2 (Int32.ofInt 0)))) rfl k
  have k := me_put rfl (by decide) k
  have k : nt_rn X _ 64 (15, [(0, .ref (q 0)), (1, .int v1)], [], me_w M (nt_u (nt_u (nt_u J (q 0) 1 (Int32.ofInt 1)) (q 0) 2 (Int32.ofInt 0)) (q 0) 3 (Int32.ofInt 0))) _ := k
  have k := ly_revb 2 (c' := (17, [(0, .ref (q 0)), (1, .int v1)], [.int (Int32.ofInt 0), .ref (q 0)], me_w M (nt_u (nt_u (nt_u J (q 0) 1 (Int32.ofInt 1)) (q 0) 2 (Int32.ofInt 0)) (q 0) 3 (Int32.ofInt 0)))) rfl k
  have k := me_put rfl (by decide) k
  have k : nt_rn X _ 64 (20, [(0, .ref (q 0)), (1, .int v1)], [], me_w M (nt_u (nt_u (nt_u (nt_u J (q 0) 1 (Int32.ofInt 1)) (q 0) 2 (Int32.ofInt 0)) (q 0) 3 (Int32.ofInt 0)) (q 0) 4 (Int32.ofInt 0))) _ := k
  have k := ly_revb 2 (c' := (22, [(0, .ref (q 0)), (1, .int v1)], [.int (Int32.ofInt 0), .ref (q 0)], me_w M (nt_u (nt_u (nt_u (nt_u J (q 0) 1 (Int32.ofInt 1)) (q 0) 2 (Int32.ofInt 0)) (q 0) 3 (Int32.ofInt 0)) (q 0) 4 (Int32.ofInt 0)))) rfl k
  have k := me_put rfl (by decide) k
  have k : nt_rn X _ 64 (25, [(0, .ref (q 0)), (1, .int v1)], [], me_w M (nt_u (nt_u (nt_u (nt_u (nt_u J (q 0) 1 (Int32.ofInt 1)) (q 0) 2 (Int32.ofInt 0)) (q 0) 3 (Int32.ofInt 0)) (q 0) 4 (Int32.ofInt 0)) (q 0) 5 (Int32.ofInt 0))) _ := k
  have k := ly_revb 2 (c' := (27, [(0, .ref (q 0)), (1, .int v1)], [.int v1, .ref (q 0)], me_w M (nt_u (nt_u (nt_u (nt_u (nt_u J (q 0) 1 (Int32.ofInt 1)) (q 0) 2 (Int32.ofInt 0)) (q 0) 3 (Int32.ofInt 0)) (q 0) 4 (Int32.ofInt 0)) (q 0) 5 (Int32.ofInt 0)))) rfl k
  have k := me_put rfl (by decide) k
  have k : nt_rn X _ 64 (30, [(0, .ref (q 0)), (1, .int v1)], [], me_w M (nt_u (nt_u (nt_u (nt_u (nt_u (nt_u J (q 0) 1 (Int32.ofInt 1)) (q 0) 2 (Int32.ofInt 0)) (q 0) 3 (Int32.ofInt 0)) (q 0) 4 (Int32.ofInt 0)) (q 0) 5 (Int32.ofInt 0)) (q 0) 6 v1)) _ := k
  have k := ly_revb 2 (c' := (32, [(2, .int (Int32.ofInt 0)), (0, .ref (q 0)), (1, .int v1)], [], me_w M (nt_u (nt_u (nt_u (nt_u (nt_u (nt_u J (q 0) 1 (Int32.ofInt 1)) (q 0) 2 (Int32.ofInt 0)) (q 0) 3 (Int32.ofInt 0)) (q 0) 4 (Int32.ofInt 0)) (q 0) 5 (Int32.ofInt 0)) (q 0) 6 v1))) rfl k
  have k := nt_rn_w (a := [(2, .int (Int32.ofInt 0)), (0, .ref (q 0)), (1, .int v1)]) (b := [(0, .ref (q 0)), (1, .int v1), (2, .int (Int32.ofInt 0))]) ⟨rfl, rfl, rfl, trivial⟩ rfl k
  have k := xt64_32 hq  ((Int32.ofInt 6).toNatClampNeg) (Int32.ofInt 0) (nt_u (nt_u (nt_u (nt_u (nt_u (nt_u J (q 0) 1 (Int32.ofInt 1)) (q 0) 2 (Int32.ofInt 0)) (q 0) 3 (Int32.ofInt 0)) (q 0) 4 (Int32.ofInt 0)) (q 0) 5 (Int32.ofInt 0)) (q 0) 6 v1) (lx_beg (by decide)) k
  obtain ⟨w2, k⟩ := k
  have k : nt_rn X _ 64 (65, [(0, .ref (q 0)), (1, .int v1), (2, .int w2)], [], me_w M (x64_32 q ((Int32.ofInt 6).toNatClampNeg) (Int32.ofInt 0) (nt_u (nt_u (nt_u (nt_u (nt_u (nt_u J (q 0) 1 (Int32.ofInt 1)) (q 0) 2 (Int32.ofInt 0)) (q 0) 3 (Int32.ofInt 0)) (q 0) 4 (Int32.ofInt 0)) (q 0) 5 (Int32.ofInt 0)) (q 0) 6 v1))) _ := k
  have k := ly_revb 2 (c' := (67, [(2, .int (Int32.ofInt 0)), (0, .ref (q 0)), (1, .int v1)], [], me_w M (x64_32 q ((Int32.ofInt 6).toNatClampNeg) (Int32.ofInt 0) (nt_u (nt_u (nt_u (nt_u (nt_u (nt_u J (q 0) 1 (Int32.ofInt 1)) (q 0) 2 (Int32.ofInt 0)) (q 0) 3 (Int32.ofInt 0)) (q 0) 4 (Int32.ofInt 0)) (q 0) 5 (Int32.ofInt 0)) (q 0) 6 v1)))) rfl k
  have k := nt_rn_w (a := [(2, .int (Int32.ofInt 0)), (0, .ref (q 0)), (1, .int v1)]) (b := [(0, .ref (q 0)), (1, .int v1), (2, .int (Int32.ofInt 0))]) ⟨rfl, rfl, rfl, trivial⟩ rfl k
  have k := xt64_67 hq  ((Int32.ofInt 24).toNatClampNeg) (Int32.ofInt 0) (x64_32 q ((Int32.ofInt 6).toNatClampNeg) (Int32.ofInt 0) (nt_u (nt_u (nt_u (nt_u (nt_u (nt_u J (q 0) 1 (Int32.ofInt 1)) (q 0) 2 (Int32.ofInt 0)) (q 0) 3 (Int32.ofInt 0)) (q 0) 4 (Int32.ofInt 0)) (q 0) 5 (Int32.ofInt 0)) (q 0) 6 v1)) (lx_beg (by decide)) k
  obtain ⟨w2, k⟩ := k
  have k : nt_rn X _ 64 (108, [(0, .ref (q 0)), (1, .int v1), (2, .int w2)], [], me_w M (x64_67 q ((Int32.ofInt 24).toNatClampNeg) (Int32.ofInt 0) (x64_32 q ((Int32.ofInt 6).toNatClampNeg) (Int32.ofInt 0) (nt_u (nt_u (nt_u (nt_u (nt_u (nt_u J (q 0) 1 (Int32.ofInt 1)) (q 0) 2 (Int32.ofInt 0)) (q 0) 3 (Int32.ofInt 0)) (q 0) 4 (Int32.ofInt 0)) (q 0) 5 (Int32.ofInt 0)) (q 0) 6 v1)))) _ := k
  have k := ly_revb 2 (c' := (110, [(2, .int (Int32.ofInt 0)), (0, .ref (q 0)), (1, .int v1)], [], me_w M (x64_67 q ((Int32.ofInt 24).toNatClampNeg) (Int32.ofInt 0) (x64_32 q ((Int32.ofInt 6).toNatClampNeg) (Int32.ofInt 0) (nt_u (nt_u (nt_u (nt_u (nt_u (nt_u J (q 0) 1 (Int32.ofInt 1)) (q 0) 2 (Int32.ofInt 0)) (q 0) 3 (Int32.ofInt 0)) (q 0) 4 (Int32.ofInt 0)) (q 0) 5 (Int32.ofInt 0)) (q 0) 6 v1))))) rfl k
  have k := nt_rn_w (a := [(2, .int (Int32.ofInt 0)), (0, .ref (q 0)), (1, .int v1)]) (b := [(0, .ref (q 0)), (1, .int v1), (2, .int (Int32.ofInt 0))]) ⟨rfl, rfl, rfl, trivial⟩ rfl k
  have k := xt64_110 hq  ((Int32.ofInt 8).toNatClampNeg) (Int32.ofInt 0) (x64_67 q ((Int32.ofInt 24).toNatClampNeg) (Int32.ofInt 0) (x64_32 q ((Int32.ofInt 6).toNatClampNeg) (Int32.ofInt 0) (nt_u (nt_u (nt_u (nt_u (nt_u (nt_u J (q 0) 1 (Int32.ofInt 1)) (q 0) 2 (Int32.ofInt 0)) (q 0) 3 (Int32.ofInt 0)) (q 0) 4 (Int32.ofInt 0)) (q 0) 5 (Int32.ofInt 0)) (q 0) 6 v1))) (lx_beg (by decide)) k
  obtain ⟨w2, k⟩ := k
  have k : nt_rn X _ 64 (129, [(0, .ref (q 0)), (1, .int v1), (2, .int w2)], [], me_w M (x64_110 q ((Int32.ofInt 8).toNatClampNeg) (Int32.ofInt 0) (x64_67 q ((Int32.ofInt 24).toNatClampNeg) (Int32.ofInt 0) (x64_32 q ((Int32.ofInt 6).toNatClampNeg) (Int32.ofInt 0) (nt_u (nt_u (nt_u (nt_u (nt_u (nt_u J (q 0) 1 (Int32.ofInt 1)) (q 0) 2 (Int32.ofInt 0)) (q 0) 3 (Int32.ofInt 0)) (q 0) 4 (Int32.ofInt 0)) (q 0) 5 (Int32.ofInt 0)) (q 0) 6 v1))))) _ := k
  have k := lz_rv rfl rfl k
  rw [k, x64]
theorem x64_frJ {q : Nat → Nat} {v1 : Int32} {J : Nat → Nat → Int32} {b : Nat} (n0 : b ≠ q 0) (n1 : b ≠ q 10) (n2 : b ≠ q 11) (n3 : b ≠ q 12) (n4 : b ≠ q 13) (n5 : b ≠ q 14) (n6 : b ≠ q 15) (n7 : b ≠ q 16) : x64 q v1 J b = J b := by
  unfold x64
  all_goals first | (dsimp only; exact (show (x64_110 q ((Int32.ofInt 8).toNatClampNeg) (Int32.ofInt 0) (x64_67 q ((Int32.ofInt 24).toNatClampNeg) (Int32.ofInt 0) (x64_32 q ((Int32.ofInt 6).toNatClampNeg) (Int32.ofInt 0) (nt_u (nt_u (nt_u (nt_u (nt_u (nt_u J (q 0) 1 (Int32.ofInt 1)) (q 0) 2 (Int32.ofInt 0)) (q 0) 3 (Int32.ofInt 0)) (q 0) 4 (Int32.ofInt 0)) (q 0) 5 (Int32.ofInt 0)) (q 0) 6 v1)))) b = J b from (x64_110_frJ _ _ _ n7).trans ((x64_67_frJ _ _ _ n4 n5 n6).trans ((x64_32_frJ _ _ _ n1 n2 n3).trans ((mu_o n0).trans ((mu_o n0).trans ((mu_o n0).trans ((mu_o n0).trans ((mu_o n0).trans (mu_o n0)))))))))) | exact (show (x64_110 q ((Int32.ofInt 8).toNatClampNeg) (Int32.ofInt 0) (x64_67 q ((Int32.ofInt 24).toNatClampNeg) (Int32.ofInt 0) (x64_32 q ((Int32.ofInt 6).toNatClampNeg) (Int32.ofInt 0) (nt_u (nt_u (nt_u (nt_u (nt_u (nt_u J (q 0) 1 (Int32.ofInt 1)) (q 0) 2 (Int32.ofInt 0)) (q 0) 3 (Int32.ofInt 0)) (q 0) 4 (Int32.ofInt 0)) (q 0) 5 (Int32.ofInt 0)) (q 0) 6 v1)))) b = J b from (x64_110_frJ _ _ _ n7).trans ((x64_67_frJ _ _ _ n4 n5 n6).trans ((x64_32_frJ _ _ _ n1 n2 n3).trans ((mu_o n0).trans ((mu_o n0).trans ((mu_o n0).trans ((mu_o n0).trans ((mu_o n0).trans (mu_o n0)))))))))
/-! Model.yard -/
def x166F_56 (p : Nat → Nat) (v1 : Int32) : Nat → Int32 → (Nat → Nat → Int32) → (Nat → Nat → Int32)
  | 0, v2, J => J
  | c + 1, v2, J => if (Int32.ofInt 212) ≤ v2 then J
    else (x166F_56 p v1 c (v2 + (Int32.ofInt 1)) (nt_u J (p 4) v2.toNatClampNeg (Int32.ofInt 0)))
theorem xt166F_56 {X : nt_X} {d : Nat} {M : nt_M} {o : Option Value × nt_M} {p : Nat → Nat} {v1 : Int32} (hp : xs_P M p) : ∀ (c : Nat) (v2 : Int32) (J : Nat → Nat → Int32), (Int32.ofInt 212).toInt - v2.toInt ≤ c → nt_rn X d 166 (56, [(0, .ref (p 0)), (1, .int v1), (2, .int v2)], [], me_w M J) o → ∃ (w2 : Int32), nt_rn X d 166 (76, [(0, .ref (p 0)), (1, .int v1), (2, .int w2)], [], me_w M (x166F_56 p v1 c v2 J)) o := by
  intro c
  induction c with
  | zero =>
    intro v2 J hc k
    have k := ly_revb 3 (c' := (if (Int32.ofInt 212) ≤ v2 then 76 else 63, [(0, .ref (p 0)), (1, .int v1), (2, .int v2)], [], me_w M J)) rfl k
    have h60 : (Int32.ofInt 212) ≤ v2 := lx_end hc
    rw [if_pos h60] at k
    have k := nt_rn_w (a := [(0, .ref (p 0)), (1, .int v1), (2, .int v2)]) (b := [(0, .ref (p 0)), (1, .int v1), (2, .int v2)]) ⟨rfl, rfl, rfl, trivial⟩ rfl k
    rw [x166F_56]
    exact ⟨_, k⟩
  | succ c ih =>
    intro v2 J hc k
    have k := ly_revb 3 (c' := (if (Int32.ofInt 212) ≤ v2 then 76 else 63, [(0, .ref (p 0)), (1, .int v1), (2, .int v2)], [], me_w M J)) rfl k
    by_cases h60 : (Int32.ofInt 212) ≤ v2
    · rw [if_pos h60] at k
      have k := nt_rn_w (a := [(0, .ref (p 0)), (1, .int v1), (2, .int v2)]) (b := [(0, .ref (p 0)), (1, .int v1), (2, .int v2)]) ⟨rfl, rfl, rfl, trivial⟩ rfl k
      rw [x166F_56, if_pos h60]
      exact ⟨_, k⟩
    · rw [if_neg h60] at k
      have k := ly_revb 1 (c' := (64, [(0, .ref (p 0)), (1, .int v1), (2, .int v2)], [.ref (p 0)], me_w M J)) rfl k
      have k := lz_get (a := (p 0)) (g := 1127) (M := me_w M J) (v := .ref (p 4)) rfl (nt_gfR rfl (mw_R (hp.1 (0, 27, 4) (by decide)))) k
      have k := ly_revb 2 (c' := (69, [(0, .ref (p 0)), (1, .int v1), (2, .int v2)], [.int (Int32.ofInt 0), .int v2, .ref (p 4)], me_w M J)) rfl k
      have k := mx_iast (q := v2.toNatClampNeg) rfl rfl k
      have k : nt_rn X _ 166 (70, [(0, .ref (p 0)), (1, .int v1), (2, .int v2)], [], me_w M (nt_u J (p 4) v2.toNatClampNeg (Int32.ofInt 0))) _ := k
      have k := ly_revb 2 (c' := (56, [(2, .int (v2 + (Int32.ofInt 1))), (0, .ref (p 0)), (1, .int v1)], [], me_w M (nt_u J (p 4) v2.toNatClampNeg (Int32.ofInt 0)))) rfl k
      have k := nt_rn_w (a := [(2, .int (v2 + (Int32.ofInt 1))), (0, .ref (p 0)), (1, .int v1)]) (b := [(0, .ref (p 0)), (1, .int v1), (2, .int (v2 + (Int32.ofInt 1)))]) ⟨rfl, rfl, rfl, trivial⟩ rfl k
      have k := ih (v2 + (Int32.ofInt 1)) (nt_u J (p 4) v2.toNatClampNeg (Int32.ofInt 0)) (lx_dec h60 hc) k
      rw [x166F_56, if_neg h60]
      exact k
theorem x166F_56_frJ {p : Nat → Nat} {v1 : Int32} {b : Nat} : ∀ (c : Nat) (v2 : Int32) (J : Nat → Nat → Int32), b ≠ p 4 → x166F_56 p v1 c v2 J b = J b := by
  intro c
  induction c with
  | zero =>
    intro v2 J n0
    rw [x166F_56]
    all_goals first | (dsimp only; exact (show J b = J b from rfl)) | exact (show J b = J b from rfl)
  | succ c ih =>
    intro v2 J n0
    rw [x166F_56]
    by_cases h : (Int32.ofInt 212) ≤ v2
    · rw [if_pos h]
      all_goals first | (dsimp only; exact (show J b = J b from rfl)) | exact (show J b = J b from rfl)
    · rw [if_neg h]
      exact (ih _ _ n0).trans (mu_o n0)
def x166F_158 (p : Nat → Nat) (v2 : Int32) : Nat → Int32 → (Nat → Nat → Int32) → (Nat → Nat → Int32)
  | 0, v3, J => J
  | c + 1, v3, J => if (J (p 0) 7) ≤ v3 then J
    else (x166F_158 p v2 c (v3 + (Int32.ofInt 1)) (nt_u J (p 4) ((((Int32.ofInt 10) + ((Int32.ofInt 7) * v2)) + v3).toNatClampNeg) (J (p 11) ((((Int32.ofInt 4) * v2) + v3).toNatClampNeg))))
theorem xt166F_158 {X : nt_X} {d : Nat} {M : nt_M} {o : Option Value × nt_M} {p : Nat → Nat} {v1 : Int32} {v2 : Int32} (hp : xs_P M p) : ∀ (c : Nat) (v3 : Int32) (J : Nat → Nat → Int32), (J (p 0) 7).toInt - v3.toInt ≤ c → nt_rn X d 166 (158, [(0, .ref (p 0)), (1, .int v1), (2, .int v2), (3, .int v3)], [], me_w M J) o → ∃ (w3 : Int32), nt_rn X d 166 (196, [(0, .ref (p 0)), (1, .int v1), (2, .int v2), (3, .int w3)], [], me_w M (x166F_158 p v2 c v3 J)) o := by
  intro c
  induction c with
  | zero =>
    intro v3 J hc k
    have k := ly_revb 2 (c' := (160, [(0, .ref (p 0)), (1, .int v1), (2, .int v2), (3, .int v3)], [.ref (p 0), .int v3], me_w M J)) rfl k
    have k := lz_get (a := (p 0)) (g := 1107) (M := me_w M J) (v := .int (J (p 0) 7)) rfl (mw_gI (by decide) (rfl)) k
    have k := ly_revb 1 (c' := (if (J (p 0) 7) ≤ v3 then 196 else 166, [(0, .ref (p 0)), (1, .int v1), (2, .int v2), (3, .int v3)], [], me_w M J)) rfl k
    have h163 : (J (p 0) 7) ≤ v3 := lx_end hc
    rw [if_pos h163] at k
    have k := nt_rn_w (a := [(0, .ref (p 0)), (1, .int v1), (2, .int v2), (3, .int v3)]) (b := [(0, .ref (p 0)), (1, .int v1), (2, .int v2), (3, .int v3)]) ⟨rfl, rfl, rfl, rfl, trivial⟩ rfl k
    rw [x166F_158]
    exact ⟨_, k⟩
  | succ c ih =>
    intro v3 J hc k
    have k := ly_revb 2 (c' := (160, [(0, .ref (p 0)), (1, .int v1), (2, .int v2), (3, .int v3)], [.ref (p 0), .int v3], me_w M J)) rfl k
    have k := lz_get (a := (p 0)) (g := 1107) (M := me_w M J) (v := .int (J (p 0) 7)) rfl (mw_gI (by decide) (rfl)) k
    have k := ly_revb 1 (c' := (if (J (p 0) 7) ≤ v3 then 196 else 166, [(0, .ref (p 0)), (1, .int v1), (2, .int v2), (3, .int v3)], [], me_w M J)) rfl k
    by_cases h163 : (J (p 0) 7) ≤ v3
    · rw [if_pos h163] at k
      have k := nt_rn_w (a := [(0, .ref (p 0)), (1, .int v1), (2, .int v2), (3, .int v3)]) (b := [(0, .ref (p 0)), (1, .int v1), (2, .int v2), (3, .int v3)]) ⟨rfl, rfl, rfl, rfl, trivial⟩ rfl k
      rw [x166F_158, if_pos h163]
      exact ⟨_, k⟩
    · rw [if_neg h163] at k
      have k := ly_revb 1 (c' := (167, [(0, .ref (p 0)), (1, .int v1), (2, .int v2), (3, .int v3)], [.ref (p 0)], me_w M J)) rfl k
      have k := lz_get (a := (p 0)) (g := 1127) (M := me_w M J) (v := .ref (p 4)) rfl (nt_gfR rfl (mw_R (hp.1 (0, 27, 4) (by decide)))) k
      have k := ly_revb 8 (c' := (180, [(0, .ref (p 0)), (1, .int v1), (2, .int v2), (3, .int v3)], [.ref (p 0), .int (((Int32.ofInt 10) + ((Int32.ofInt 7) * v2)) + v3), .ref (p 4)], me_w M J)) rfl k
      have k := lz_get (a := (p 0)) (g := 1112) (M := me_w M J) (v := .ref (p 11)) rfl (nt_gfR rfl (mw_R (hp.1 (0, 12, 11) (by decide)))) k
      have k := ly_revb 5 (c' := (188, [(0, .ref (p 0)), (1, .int v1), (2, .int v2), (3, .int v3)], [.int (((Int32.ofInt 4) * v2) + v3), .ref (p 11), .int (((Int32.ofInt 10) + ((Int32.ofInt 7) * v2)) + v3), .ref (p 4)], me_w M J)) rfl k
      have k := mx_iald (v := J (p 11) ((((Int32.ofInt 4) * v2) + v3).toNatClampNeg)) rfl (hp.2.2.1 11 (by omega)) (rfl) k
      have k := mx_iast (q := (((Int32.ofInt 10) + ((Int32.ofInt 7) * v2)) + v3).toNatClampNeg) rfl rfl k
      have k : nt_rn X _ 166 (190, [(0, .ref (p 0)), (1, .int v1), (2, .int v2), (3, .int v3)], [], me_w M (nt_u J (p 4) ((((Int32.ofInt 10) + ((Int32.ofInt 7) * v2)) + v3).toNatClampNeg) (J (p 11) ((((Int32.ofInt 4) * v2) + v3).toNatClampNeg)))) _ := k
      have k := ly_revb 2 (c' := (158, [(3, .int (v3 + (Int32.ofInt 1))), (0, .ref (p 0)), (1, .int v1), (2, .int v2)], [], me_w M (nt_u J (p 4) ((((Int32.ofInt 10) + ((Int32.ofInt 7) * v2)) + v3).toNatClampNeg) (J (p 11) ((((Int32.ofInt 4) * v2) + v3).toNatClampNeg))))) rfl k
      have k := nt_rn_w (a := [(3, .int (v3 + (Int32.ofInt 1))), (0, .ref (p 0)), (1, .int v1), (2, .int v2)]) (b := [(0, .ref (p 0)), (1, .int v1), (2, .int v2), (3, .int (v3 + (Int32.ofInt 1)))]) ⟨rfl, rfl, rfl, rfl, trivial⟩ rfl k
      have k := ih (v3 + (Int32.ofInt 1)) (nt_u J (p 4) ((((Int32.ofInt 10) + ((Int32.ofInt 7) * v2)) + v3).toNatClampNeg) (J (p 11) ((((Int32.ofInt 4) * v2) + v3).toNatClampNeg))) (by rw [show (nt_u J (p 4) ((((Int32.ofInt 10) + ((Int32.ofInt 7) * v2)) + v3).toNatClampNeg) (J (p 11) ((((Int32.ofInt 4) * v2) + v3).toNatClampNeg))) (p 0) 7 = J (p 0) 7 from mu_j (hp.2.1 0 4 (by omega) (by omega) (by decide))]; exact lx_dec h163 hc) k
      rw [x166F_158, if_neg h163]
      exact k
theorem x166F_158_frJ {p : Nat → Nat} {v2 : Int32} {b : Nat} : ∀ (c : Nat) (v3 : Int32) (J : Nat → Nat → Int32), b ≠ p 4 → x166F_158 p v2 c v3 J b = J b := by
  intro c
  induction c with
  | zero =>
    intro v3 J n0
    rw [x166F_158]
    all_goals first | (dsimp only; exact (show J b = J b from rfl)) | exact (show J b = J b from rfl)
  | succ c ih =>
    intro v3 J n0
    rw [x166F_158]
    by_cases h : (J (p 0) 7) ≤ v3
    · rw [if_pos h]
      all_goals first | (dsimp only; exact (show J b = J b from rfl)) | exact (show J b = J b from rfl)
    · rw [if_neg h]
      exact (ih _ _ n0).trans (mu_o n0)
def x166F_148 (p : Nat → Nat) : Nat → Int32 → (Nat → Nat → Int32) → (Nat → Nat → Int32)
  | 0, v2, J => J
  | c + 1, v2, J => if (J (p 0) 8) ≤ v2 then J
    else (x166F_148 p c (v2 + (Int32.ofInt 1)) (nt_u (x166F_158 p v2 ((J (p 0) 7).toNatClampNeg) (Int32.ofInt 0) J) (p 4) ((((Int32.ofInt 10) + ((Int32.ofInt 7) * v2)) + (Int32.ofInt 5)).toNatClampNeg) (Int32.ofInt (-1))))
theorem xt166F_148 {X : nt_X} {d : Nat} {M : nt_M} {o : Option Value × nt_M} {p : Nat → Nat} {v1 : Int32} (hp : xs_P M p) : ∀ (c : Nat) (v2 : Int32) (v3 : Int32) (J : Nat → Nat → Int32), (J (p 0) 8).toInt - v2.toInt ≤ c → nt_rn X d 166 (148, [(0, .ref (p 0)), (1, .int v1), (2, .int v2), (3, .int v3)], [], me_w M J) o → ∃ (w2 : Int32) (w3 : Int32), nt_rn X d 166 (217, [(0, .ref (p 0)), (1, .int v1), (2, .int w2), (3, .int w3)], [], me_w M (x166F_148 p c v2 J)) o := by
  intro c
  induction c with
  | zero =>
    intro v2 v3 J hc k
    have k := ly_revb 2 (c' := (150, [(0, .ref (p 0)), (1, .int v1), (2, .int v2), (3, .int v3)], [.ref (p 0), .int v2], me_w M J)) rfl k
    have k := lz_get (a := (p 0)) (g := 1108) (M := me_w M J) (v := .int (J (p 0) 8)) rfl (mw_gI (by decide) (rfl)) k
    have k := ly_revb 1 (c' := (if (J (p 0) 8) ≤ v2 then 217 else 156, [(0, .ref (p 0)), (1, .int v1), (2, .int v2), (3, .int v3)], [], me_w M J)) rfl k
    have h153 : (J (p 0) 8) ≤ v2 := lx_end hc
    rw [if_pos h153] at k
    have k := nt_rn_w (a := [(0, .ref (p 0)), (1, .int v1), (2, .int v2), (3, .int v3)]) (b := [(0, .ref (p 0)), (1, .int v1), (2, .int v2), (3, .int v3)]) ⟨rfl, rfl, rfl, rfl, trivial⟩ rfl k
    rw [x166F_148]
    exact ⟨_, _, k⟩
  | succ c ih =>
    intro v2 v3 J hc k
    have k := ly_revb 2 (c' := (150, [(0, .ref (p 0)), (1, .int v1), (2, .int v2), (3, .int v3)], [.ref (p 0), .int v2], me_w M J)) rfl k
    have k := lz_get (a := (p 0)) (g := 1108) (M := me_w M J) (v := .int (J (p 0) 8)) rfl (mw_gI (by decide) (rfl)) k
    have k := ly_revb 1 (c' := (if (J (p 0) 8) ≤ v2 then 217 else 156, [(0, .ref (p 0)), (1, .int v1), (2, .int v2), (3, .int v3)], [], me_w M J)) rfl k
    by_cases h153 : (J (p 0) 8) ≤ v2
    · rw [if_pos h153] at k
      have k := nt_rn_w (a := [(0, .ref (p 0)), (1, .int v1), (2, .int v2), (3, .int v3)]) (b := [(0, .ref (p 0)), (1, .int v1), (2, .int v2), (3, .int v3)]) ⟨rfl, rfl, rfl, rfl, trivial⟩ rfl k
      rw [x166F_148, if_pos h153]
      exact ⟨_, _, k⟩
    · rw [if_neg h153] at k
      have k := ly_revb 2 (c' := (158, [(3, .int (Int32.ofInt 0)), (0, .ref (p 0)), (1, .int v1), (2, .int v2)], [], me_w M J)) rfl k
      have k := nt_rn_w (a := [(3, .int (Int32.ofInt 0)), (0, .ref (p 0)), (1, .int v1), (2, .int v2)]) (b := [(0, .ref (p 0)), (1, .int v1), (2, .int v2), (3, .int (Int32.ofInt 0))]) ⟨rfl, rfl, rfl, rfl, trivial⟩ rfl k
      have k := xt166F_158 hp  ((J (p 0) 7).toNatClampNeg) (Int32.ofInt 0) J (lx_beg (by decide)) k
      obtain ⟨w3, k⟩ := k
      have k : nt_rn X _ 166 (196, [(0, .ref (p 0)), (1, .int v1), (2, .int v2), (3, .int w3)], [], me_w M (x166F_158 p v2 ((J (p 0) 7).toNatClampNeg) (Int32.ofInt 0) J)) _ := k
      have k := ly_revb 1 (c' := (197, [(0, .ref (p 0)), (1, .int v1), (2, .int v2), (3, .int w3)], [.ref (p 0)], me_w M (x166F_158 p v2 ((J (p 0) 7).toNatClampNeg) (Int32.ofInt 0) J))) rfl k
      have k := lz_get (a := (p 0)) (g := 1127) (M := me_w M (x166F_158 p v2 ((J (p 0) 7).toNatClampNeg) (Int32.ofInt 0) J)) (v := .ref (p 4)) rfl (nt_gfR rfl (mw_R (hp.1 (0, 27, 4) (by decide)))) k
      have k := ly_revb 8 (c' := (210, [(0, .ref (p 0)), (1, .int v1), (2, .int v2), (3, .int w3)], [.int (Int32.ofInt (-1)), .int (((Int32.ofInt 10) + ((Int32.ofInt 7) * v2)) + (Int32.ofInt 5)), .ref (p 4)], me_w M (x166F_158 p v2 ((J (p 0) 7).toNatClampNeg) (Int32.ofInt 0) J))) rfl k
      have k := mx_iast (q := (((Int32.ofInt 10) + ((Int32.ofInt 7) * v2)) + (Int32.ofInt 5)).toNatClampNeg) rfl rfl k
      have k : nt_rn X _ 166 (211, [(0, .ref (p 0)), (1, .int v1), (2, .int v2), (3, .int w3)], [], me_w M (nt_u (x166F_158 p v2 ((J (p 0) 7).toNatClampNeg) (Int32.ofInt 0) J) (p 4) ((((Int32.ofInt 10) + ((Int32.ofInt 7) * v2)) + (Int32.ofInt 5)).toNatClampNeg) (Int32.ofInt (-1)))) _ := k
      have k := ly_revb 2 (c' := (148, [(2, .int (v2 + (Int32.ofInt 1))), (0, .ref (p 0)), (1, .int v1), (3, .int w3)], [], me_w M (nt_u (x166F_158 p v2 ((J (p 0) 7).toNatClampNeg) (Int32.ofInt 0) J) (p 4) ((((Int32.ofInt 10) + ((Int32.ofInt 7) * v2)) + (Int32.ofInt 5)).toNatClampNeg) (Int32.ofInt (-1))))) rfl k
      have k := nt_rn_w (a := [(2, .int (v2 + (Int32.ofInt 1))), (0, .ref (p 0)), (1, .int v1), (3, .int w3)]) (b := [(0, .ref (p 0)), (1, .int v1), (2, .int (v2 + (Int32.ofInt 1))), (3, .int w3)]) ⟨rfl, rfl, rfl, rfl, trivial⟩ rfl k
      have k := ih (v2 + (Int32.ofInt 1)) w3 (nt_u (x166F_158 p v2 ((J (p 0) 7).toNatClampNeg) (Int32.ofInt 0) J) (p 4) ((((Int32.ofInt 10) + ((Int32.ofInt 7) * v2)) + (Int32.ofInt 5)).toNatClampNeg) (Int32.ofInt (-1))) (by rw [show (nt_u (x166F_158 p v2 ((J (p 0) 7).toNatClampNeg) (Int32.ofInt 0) J) (p 4) ((((Int32.ofInt 10) + ((Int32.ofInt 7) * v2)) + (Int32.ofInt 5)).toNatClampNeg) (Int32.ofInt (-1))) (p 0) 8 = J (p 0) 8 from (mu_j (hp.2.1 0 4 (by omega) (by omega) (by decide))).trans (congrFun (x166F_158_frJ _ _ _ (hp.2.1 0 4 (by omega) (by omega) (by decide))) 8)]; exact lx_dec h153 hc) k
      rw [x166F_148, if_neg h153]
      exact k
theorem x166F_148_frJ {p : Nat → Nat} {b : Nat} : ∀ (c : Nat) (v2 : Int32) (J : Nat → Nat → Int32), b ≠ p 4 → x166F_148 p c v2 J b = J b := by
  intro c
  induction c with
  | zero =>
    intro v2 J n0
    rw [x166F_148]
    all_goals first | (dsimp only; exact (show J b = J b from rfl)) | exact (show J b = J b from rfl)
  | succ c ih =>
    intro v2 J n0
    rw [x166F_148]
    by_cases h : (J (p 0) 8) ≤ v2
    · rw [if_pos h]
      all_goals first | (dsimp only; exact (show J b = J b from rfl)) | exact (show J b = J b from rfl)
    · rw [if_neg h]
      exact (ih _ _ n0).trans ((mu_o n0).trans (x166F_158_frJ _ _ _ n0))
def x166F_229 (p : Nat → Nat) (v2 : Int32) : Nat → Int32 → (Nat → Nat → Int32) → (Nat → Nat → Int32)
  | 0, v3, J => J
  | c + 1, v3, J => if (Int32.ofInt 3) ≤ v3 then J
    else (x166F_229 p v2 c (v3 + (Int32.ofInt 1)) (nt_u J (p 4) ((((Int32.ofInt 52) + ((Int32.ofInt 5) * v2)) + v3).toNatClampNeg) (J (p 12) ((((Int32.ofInt 3) * v2) + v3).toNatClampNeg))))
theorem xt166F_229 {X : nt_X} {d : Nat} {M : nt_M} {o : Option Value × nt_M} {p : Nat → Nat} {v1 : Int32} {v2 : Int32} (hp : xs_P M p) : ∀ (c : Nat) (v3 : Int32) (J : Nat → Nat → Int32), (Int32.ofInt 3).toInt - v3.toInt ≤ c → nt_rn X d 166 (229, [(0, .ref (p 0)), (1, .int v1), (2, .int v2), (3, .int v3)], [], me_w M J) o → ∃ (w3 : Int32), nt_rn X d 166 (263, [(0, .ref (p 0)), (1, .int v1), (2, .int v2), (3, .int w3)], [], me_w M (x166F_229 p v2 c v3 J)) o := by
  intro c
  induction c with
  | zero =>
    intro v3 J hc k
    have k := ly_revb 3 (c' := (if (Int32.ofInt 3) ≤ v3 then 263 else 234, [(0, .ref (p 0)), (1, .int v1), (2, .int v2), (3, .int v3)], [], me_w M J)) rfl k
    have h231 : (Int32.ofInt 3) ≤ v3 := lx_end hc
    rw [if_pos h231] at k
    have k := nt_rn_w (a := [(0, .ref (p 0)), (1, .int v1), (2, .int v2), (3, .int v3)]) (b := [(0, .ref (p 0)), (1, .int v1), (2, .int v2), (3, .int v3)]) ⟨rfl, rfl, rfl, rfl, trivial⟩ rfl k
    rw [x166F_229]
    exact ⟨_, k⟩
  | succ c ih =>
    intro v3 J hc k
    have k := ly_revb 3 (c' := (if (Int32.ofInt 3) ≤ v3 then 263 else 234, [(0, .ref (p 0)), (1, .int v1), (2, .int v2), (3, .int v3)], [], me_w M J)) rfl k
    by_cases h231 : (Int32.ofInt 3) ≤ v3
    · rw [if_pos h231] at k
      have k := nt_rn_w (a := [(0, .ref (p 0)), (1, .int v1), (2, .int v2), (3, .int v3)]) (b := [(0, .ref (p 0)), (1, .int v1), (2, .int v2), (3, .int v3)]) ⟨rfl, rfl, rfl, rfl, trivial⟩ rfl k
      rw [x166F_229, if_pos h231]
      exact ⟨_, k⟩
    · rw [if_neg h231] at k
      have k := ly_revb 1 (c' := (235, [(0, .ref (p 0)), (1, .int v1), (2, .int v2), (3, .int v3)], [.ref (p 0)], me_w M J)) rfl k
      have k := lz_get (a := (p 0)) (g := 1127) (M := me_w M J) (v := .ref (p 4)) rfl (nt_gfR rfl (mw_R (hp.1 (0, 27, 4) (by decide)))) k
      have k := ly_revb 8 (c' := (247, [(0, .ref (p 0)), (1, .int v1), (2, .int v2), (3, .int v3)], [.ref (p 0), .int (((Int32.ofInt 52) + ((Int32.ofInt 5) * v2)) + v3), .ref (p 4)], me_w M J)) rfl k
      have k := lz_get (a := (p 0)) (g := 1113) (M := me_w M J) (v := .ref (p 12)) rfl (nt_gfR rfl (mw_R (hp.1 (0, 13, 12) (by decide)))) k
      have k := ly_revb 5 (c' := (255, [(0, .ref (p 0)), (1, .int v1), (2, .int v2), (3, .int v3)], [.int (((Int32.ofInt 3) * v2) + v3), .ref (p 12), .int (((Int32.ofInt 52) + ((Int32.ofInt 5) * v2)) + v3), .ref (p 4)], me_w M J)) rfl k
      have k := mx_iald (v := J (p 12) ((((Int32.ofInt 3) * v2) + v3).toNatClampNeg)) rfl (hp.2.2.1 12 (by omega)) (rfl) k
      have k := mx_iast (q := (((Int32.ofInt 52) + ((Int32.ofInt 5) * v2)) + v3).toNatClampNeg) rfl rfl k
      have k : nt_rn X _ 166 (257, [(0, .ref (p 0)), (1, .int v1), (2, .int v2), (3, .int v3)], [], me_w M (nt_u J (p 4) ((((Int32.ofInt 52) + ((Int32.ofInt 5) * v2)) + v3).toNatClampNeg) (J (p 12) ((((Int32.ofInt 3) * v2) + v3).toNatClampNeg)))) _ := k
      have k := ly_revb 2 (c' := (229, [(3, .int (v3 + (Int32.ofInt 1))), (0, .ref (p 0)), (1, .int v1), (2, .int v2)], [], me_w M (nt_u J (p 4) ((((Int32.ofInt 52) + ((Int32.ofInt 5) * v2)) + v3).toNatClampNeg) (J (p 12) ((((Int32.ofInt 3) * v2) + v3).toNatClampNeg))))) rfl k
      have k := nt_rn_w (a := [(3, .int (v3 + (Int32.ofInt 1))), (0, .ref (p 0)), (1, .int v1), (2, .int v2)]) (b := [(0, .ref (p 0)), (1, .int v1), (2, .int v2), (3, .int (v3 + (Int32.ofInt 1)))]) ⟨rfl, rfl, rfl, rfl, trivial⟩ rfl k
      have k := ih (v3 + (Int32.ofInt 1)) (nt_u J (p 4) ((((Int32.ofInt 52) + ((Int32.ofInt 5) * v2)) + v3).toNatClampNeg) (J (p 12) ((((Int32.ofInt 3) * v2) + v3).toNatClampNeg))) (lx_dec h231 hc) k
      rw [x166F_229, if_neg h231]
      exact k
theorem x166F_229_frJ {p : Nat → Nat} {v2 : Int32} {b : Nat} : ∀ (c : Nat) (v3 : Int32) (J : Nat → Nat → Int32), b ≠ p 4 → x166F_229 p v2 c v3 J b = J b := by
  intro c
  induction c with
  | zero =>
    intro v3 J n0
    rw [x166F_229]
    all_goals first | (dsimp only; exact (show J b = J b from rfl)) | exact (show J b = J b from rfl)
  | succ c ih =>
    intro v3 J n0
    rw [x166F_229]
    by_cases h : (Int32.ofInt 3) ≤ v3
    · rw [if_pos h]
      all_goals first | (dsimp only; exact (show J b = J b from rfl)) | exact (show J b = J b from rfl)
    · rw [if_neg h]
      exact (ih _ _ n0).trans (mu_o n0)
def x166F_219 (p : Nat → Nat) : Nat → Int32 → (Nat → Nat → Int32) → (Nat → Nat → Int32)
  | 0, v2, J => J
  | c + 1, v2, J => if (J (p 0) 9) ≤ v2 then J
    else (x166F_219 p c (v2 + (Int32.ofInt 1)) (nt_u (x166F_229 p v2 ((Int32.ofInt 3).toNatClampNeg) (Int32.ofInt 0) J) (p 4) ((((Int32.ofInt 52) + ((Int32.ofInt 5) * v2)) + (Int32.ofInt 3)).toNatClampNeg) (Int32.ofInt (-1))))
theorem xt166F_219 {X : nt_X} {d : Nat} {M : nt_M} {o : Option Value × nt_M} {p : Nat → Nat} {v1 : Int32} (hp : xs_P M p) : ∀ (c : Nat) (v2 : Int32) (v3 : Int32) (J : Nat → Nat → Int32), (J (p 0) 9).toInt - v2.toInt ≤ c → nt_rn X d 166 (219, [(0, .ref (p 0)), (1, .int v1), (2, .int v2), (3, .int v3)], [], me_w M J) o → ∃ (w2 : Int32) (w3 : Int32), nt_rn X d 166 (283, [(0, .ref (p 0)), (1, .int v1), (2, .int w2), (3, .int w3)], [], me_w M (x166F_219 p c v2 J)) o := by
  intro c
  induction c with
  | zero =>
    intro v2 v3 J hc k
    have k := ly_revb 2 (c' := (221, [(0, .ref (p 0)), (1, .int v1), (2, .int v2), (3, .int v3)], [.ref (p 0), .int v2], me_w M J)) rfl k
    have k := lz_get (a := (p 0)) (g := 1109) (M := me_w M J) (v := .int (J (p 0) 9)) rfl (mw_gI (by decide) (rfl)) k
    have k := ly_revb 1 (c' := (if (J (p 0) 9) ≤ v2 then 283 else 227, [(0, .ref (p 0)), (1, .int v1), (2, .int v2), (3, .int v3)], [], me_w M J)) rfl k
    have h224 : (J (p 0) 9) ≤ v2 := lx_end hc
    rw [if_pos h224] at k
    have k := nt_rn_w (a := [(0, .ref (p 0)), (1, .int v1), (2, .int v2), (3, .int v3)]) (b := [(0, .ref (p 0)), (1, .int v1), (2, .int v2), (3, .int v3)]) ⟨rfl, rfl, rfl, rfl, trivial⟩ rfl k
    rw [x166F_219]
    exact ⟨_, _, k⟩
  | succ c ih =>
    intro v2 v3 J hc k
    have k := ly_revb 2 (c' := (221, [(0, .ref (p 0)), (1, .int v1), (2, .int v2), (3, .int v3)], [.ref (p 0), .int v2], me_w M J)) rfl k
    have k := lz_get (a := (p 0)) (g := 1109) (M := me_w M J) (v := .int (J (p 0) 9)) rfl (mw_gI (by decide) (rfl)) k
    have k := ly_revb 1 (c' := (if (J (p 0) 9) ≤ v2 then 283 else 227, [(0, .ref (p 0)), (1, .int v1), (2, .int v2), (3, .int v3)], [], me_w M J)) rfl k
    by_cases h224 : (J (p 0) 9) ≤ v2
    · rw [if_pos h224] at k
      have k := nt_rn_w (a := [(0, .ref (p 0)), (1, .int v1), (2, .int v2), (3, .int v3)]) (b := [(0, .ref (p 0)), (1, .int v1), (2, .int v2), (3, .int v3)]) ⟨rfl, rfl, rfl, rfl, trivial⟩ rfl k
      rw [x166F_219, if_pos h224]
      exact ⟨_, _, k⟩
    · rw [if_neg h224] at k
      have k := ly_revb 2 (c' := (229, [(3, .int (Int32.ofInt 0)), (0, .ref (p 0)), (1, .int v1), (2, .int v2)], [], me_w M J)) rfl k
      have k := nt_rn_w (a := [(3, .int (Int32.ofInt 0)), (0, .ref (p 0)), (1, .int v1), (2, .int v2)]) (b := [(0, .ref (p 0)), (1, .int v1), (2, .int v2), (3, .int (Int32.ofInt 0))]) ⟨rfl, rfl, rfl, rfl, trivial⟩ rfl k
      have k := xt166F_229 hp  ((Int32.ofInt 3).toNatClampNeg) (Int32.ofInt 0) J (lx_beg (by decide)) k
      obtain ⟨w3, k⟩ := k
      have k : nt_rn X _ 166 (263, [(0, .ref (p 0)), (1, .int v1), (2, .int v2), (3, .int w3)], [], me_w M (x166F_229 p v2 ((Int32.ofInt 3).toNatClampNeg) (Int32.ofInt 0) J)) _ := k
      have k := ly_revb 1 (c' := (264, [(0, .ref (p 0)), (1, .int v1), (2, .int v2), (3, .int w3)], [.ref (p 0)], me_w M (x166F_229 p v2 ((Int32.ofInt 3).toNatClampNeg) (Int32.ofInt 0) J))) rfl k
      have k := lz_get (a := (p 0)) (g := 1127) (M := me_w M (x166F_229 p v2 ((Int32.ofInt 3).toNatClampNeg) (Int32.ofInt 0) J)) (v := .ref (p 4)) rfl (nt_gfR rfl (mw_R (hp.1 (0, 27, 4) (by decide)))) k
      have k := ly_revb 8 (c' := (276, [(0, .ref (p 0)), (1, .int v1), (2, .int v2), (3, .int w3)], [.int (Int32.ofInt (-1)), .int (((Int32.ofInt 52) + ((Int32.ofInt 5) * v2)) + (Int32.ofInt 3)), .ref (p 4)], me_w M (x166F_229 p v2 ((Int32.ofInt 3).toNatClampNeg) (Int32.ofInt 0) J))) rfl k
      have k := mx_iast (q := (((Int32.ofInt 52) + ((Int32.ofInt 5) * v2)) + (Int32.ofInt 3)).toNatClampNeg) rfl rfl k
      have k : nt_rn X _ 166 (277, [(0, .ref (p 0)), (1, .int v1), (2, .int v2), (3, .int w3)], [], me_w M (nt_u (x166F_229 p v2 ((Int32.ofInt 3).toNatClampNeg) (Int32.ofInt 0) J) (p 4) ((((Int32.ofInt 52) + ((Int32.ofInt 5) * v2)) + (Int32.ofInt 3)).toNatClampNeg) (Int32.ofInt (-1)))) _ := k
      have k := ly_revb 2 (c' := (219, [(2, .int (v2 + (Int32.ofInt 1))), (0, .ref (p 0)), (1, .int v1), (3, .int w3)], [], me_w M (nt_u (x166F_229 p v2 ((Int32.ofInt 3).toNatClampNeg) (Int32.ofInt 0) J) (p 4) ((((Int32.ofInt 52) + ((Int32.ofInt 5) * v2)) + (Int32.ofInt 3)).toNatClampNeg) (Int32.ofInt (-1))))) rfl k
      have k := nt_rn_w (a := [(2, .int (v2 + (Int32.ofInt 1))), (0, .ref (p 0)), (1, .int v1), (3, .int w3)]) (b := [(0, .ref (p 0)), (1, .int v1), (2, .int (v2 + (Int32.ofInt 1))), (3, .int w3)]) ⟨rfl, rfl, rfl, rfl, trivial⟩ rfl k
      have k := ih (v2 + (Int32.ofInt 1)) w3 (nt_u (x166F_229 p v2 ((Int32.ofInt 3).toNatClampNeg) (Int32.ofInt 0) J) (p 4) ((((Int32.ofInt 52) + ((Int32.ofInt 5) * v2)) + (Int32.ofInt 3)).toNatClampNeg) (Int32.ofInt (-1))) (by rw [show (nt_u (x166F_229 p v2 ((Int32.ofInt 3).toNatClampNeg) (Int32.ofInt 0) J) (p 4) ((((Int32.ofInt 52) + ((Int32.ofInt 5) * v2)) + (Int32.ofInt 3)).toNatClampNeg) (Int32.ofInt (-1))) (p 0) 9 = J (p 0) 9 from (mu_j (hp.2.1 0 4 (by omega) (by omega) (by decide))).trans (congrFun (x166F_229_frJ _ _ _ (hp.2.1 0 4 (by omega) (by omega) (by decide))) 9)]; exact lx_dec h224 hc) k
      rw [x166F_219, if_neg h224]
      exact k
theorem x166F_219_frJ {p : Nat → Nat} {b : Nat} : ∀ (c : Nat) (v2 : Int32) (J : Nat → Nat → Int32), b ≠ p 4 → x166F_219 p c v2 J b = J b := by
  intro c
  induction c with
  | zero =>
    intro v2 J n0
    rw [x166F_219]
    all_goals first | (dsimp only; exact (show J b = J b from rfl)) | exact (show J b = J b from rfl)
  | succ c ih =>
    intro v2 J n0
    rw [x166F_219]
    by_cases h : (J (p 0) 9) ≤ v2
    · rw [if_pos h]
      all_goals first | (dsimp only; exact (show J b = J b from rfl)) | exact (show J b = J b from rfl)
    · rw [if_neg h]
      exact (ih _ _ n0).trans ((mu_o n0).trans (x166F_229_frJ _ _ _ n0))
def x166F_295 (p : Nat → Nat) (v2 : Int32) : Nat → Int32 → (Nat → Nat → Int32) → (Nat → Nat → Int32)
  | 0, v3, J => J
  | c + 1, v3, J => if (Int32.ofInt 4) ≤ v3 then J
    else (x166F_295 p v2 c (v3 + (Int32.ofInt 1)) (nt_u J (p 4) ((((Int32.ofInt 172) + ((Int32.ofInt 5) * v2)) + v3).toNatClampNeg) (J (p 13) ((((Int32.ofInt 4) * v2) + v3).toNatClampNeg))))
theorem xt166F_295 {X : nt_X} {d : Nat} {M : nt_M} {o : Option Value × nt_M} {p : Nat → Nat} {v1 : Int32} {v2 : Int32} (hp : xs_P M p) : ∀ (c : Nat) (v3 : Int32) (J : Nat → Nat → Int32), (Int32.ofInt 4).toInt - v3.toInt ≤ c → nt_rn X d 166 (295, [(0, .ref (p 0)), (1, .int v1), (2, .int v2), (3, .int v3)], [], me_w M J) o → ∃ (w3 : Int32), nt_rn X d 166 (330, [(0, .ref (p 0)), (1, .int v1), (2, .int v2), (3, .int w3)], [], me_w M (x166F_295 p v2 c v3 J)) o := by
  intro c
  induction c with
  | zero =>
    intro v3 J hc k
    have k := ly_revb 3 (c' := (if (Int32.ofInt 4) ≤ v3 then 330 else 300, [(0, .ref (p 0)), (1, .int v1), (2, .int v2), (3, .int v3)], [], me_w M J)) rfl k
    have h297 : (Int32.ofInt 4) ≤ v3 := lx_end hc
    rw [if_pos h297] at k
    have k := nt_rn_w (a := [(0, .ref (p 0)), (1, .int v1), (2, .int v2), (3, .int v3)]) (b := [(0, .ref (p 0)), (1, .int v1), (2, .int v2), (3, .int v3)]) ⟨rfl, rfl, rfl, rfl, trivial⟩ rfl k
    rw [x166F_295]
    exact ⟨_, k⟩
  | succ c ih =>
    intro v3 J hc k
    have k := ly_revb 3 (c' := (if (Int32.ofInt 4) ≤ v3 then 330 else 300, [(0, .ref (p 0)), (1, .int v1), (2, .int v2), (3, .int v3)], [], me_w M J)) rfl k
    by_cases h297 : (Int32.ofInt 4) ≤ v3
    · rw [if_pos h297] at k
      have k := nt_rn_w (a := [(0, .ref (p 0)), (1, .int v1), (2, .int v2), (3, .int v3)]) (b := [(0, .ref (p 0)), (1, .int v1), (2, .int v2), (3, .int v3)]) ⟨rfl, rfl, rfl, rfl, trivial⟩ rfl k
      rw [x166F_295, if_pos h297]
      exact ⟨_, k⟩
    · rw [if_neg h297] at k
      have k := ly_revb 1 (c' := (301, [(0, .ref (p 0)), (1, .int v1), (2, .int v2), (3, .int v3)], [.ref (p 0)], me_w M J)) rfl k
      have k := lz_get (a := (p 0)) (g := 1127) (M := me_w M J) (v := .ref (p 4)) rfl (nt_gfR rfl (mw_R (hp.1 (0, 27, 4) (by decide)))) k
      have k := ly_revb 8 (c' := (314, [(0, .ref (p 0)), (1, .int v1), (2, .int v2), (3, .int v3)], [.ref (p 0), .int (((Int32.ofInt 172) + ((Int32.ofInt 5) * v2)) + v3), .ref (p 4)], me_w M J)) rfl k
      have k := lz_get (a := (p 0)) (g := 1114) (M := me_w M J) (v := .ref (p 13)) rfl (nt_gfR rfl (mw_R (hp.1 (0, 14, 13) (by decide)))) k
      have k := ly_revb 5 (c' := (322, [(0, .ref (p 0)), (1, .int v1), (2, .int v2), (3, .int v3)], [.int (((Int32.ofInt 4) * v2) + v3), .ref (p 13), .int (((Int32.ofInt 172) + ((Int32.ofInt 5) * v2)) + v3), .ref (p 4)], me_w M J)) rfl k
      have k := mx_iald (v := J (p 13) ((((Int32.ofInt 4) * v2) + v3).toNatClampNeg)) rfl (hp.2.2.1 13 (by omega)) (rfl) k
      have k := mx_iast (q := (((Int32.ofInt 172) + ((Int32.ofInt 5) * v2)) + v3).toNatClampNeg) rfl rfl k
      have k : nt_rn X _ 166 (324, [(0, .ref (p 0)), (1, .int v1), (2, .int v2), (3, .int v3)], [], me_w M (nt_u J (p 4) ((((Int32.ofInt 172) + ((Int32.ofInt 5) * v2)) + v3).toNatClampNeg) (J (p 13) ((((Int32.ofInt 4) * v2) + v3).toNatClampNeg)))) _ := k
      have k := ly_revb 2 (c' := (295, [(3, .int (v3 + (Int32.ofInt 1))), (0, .ref (p 0)), (1, .int v1), (2, .int v2)], [], me_w M (nt_u J (p 4) ((((Int32.ofInt 172) + ((Int32.ofInt 5) * v2)) + v3).toNatClampNeg) (J (p 13) ((((Int32.ofInt 4) * v2) + v3).toNatClampNeg))))) rfl k
      have k := nt_rn_w (a := [(3, .int (v3 + (Int32.ofInt 1))), (0, .ref (p 0)), (1, .int v1), (2, .int v2)]) (b := [(0, .ref (p 0)), (1, .int v1), (2, .int v2), (3, .int (v3 + (Int32.ofInt 1)))]) ⟨rfl, rfl, rfl, rfl, trivial⟩ rfl k
      have k := ih (v3 + (Int32.ofInt 1)) (nt_u J (p 4) ((((Int32.ofInt 172) + ((Int32.ofInt 5) * v2)) + v3).toNatClampNeg) (J (p 13) ((((Int32.ofInt 4) * v2) + v3).toNatClampNeg))) (lx_dec h297 hc) k
      rw [x166F_295, if_neg h297]
      exact k
theorem x166F_295_frJ {p : Nat → Nat} {v2 : Int32} {b : Nat} : ∀ (c : Nat) (v3 : Int32) (J : Nat → Nat → Int32), b ≠ p 4 → x166F_295 p v2 c v3 J b = J b := by
  intro c
  induction c with
  | zero =>
    intro v3 J n0
    rw [x166F_295]
    all_goals first | (dsimp only; exact (show J b = J b from rfl)) | exact (show J b = J b from rfl)
  | succ c ih =>
    intro v3 J n0
    rw [x166F_295]
    by_cases h : (Int32.ofInt 4) ≤ v3
    · rw [if_pos h]
      all_goals first | (dsimp only; exact (show J b = J b from rfl)) | exact (show J b = J b from rfl)
    · rw [if_neg h]
      exact (ih _ _ n0).trans (mu_o n0)
def x166F_285 (p : Nat → Nat) : Nat → Int32 → (Nat → Nat → Int32) → (Nat → Nat → Int32)
  | 0, v2, J => J
  | c + 1, v2, J => if (J (p 0) 10) ≤ v2 then J
    else (x166F_285 p c (v2 + (Int32.ofInt 1)) (x166F_295 p v2 ((Int32.ofInt 4).toNatClampNeg) (Int32.ofInt 0) J))
theorem xt166F_285 {X : nt_X} {d : Nat} {M : nt_M} {o : Option Value × nt_M} {p : Nat → Nat} {v1 : Int32} (hp : xs_P M p) : ∀ (c : Nat) (v2 : Int32) (v3 : Int32) (J : Nat → Nat → Int32), (J (p 0) 10).toInt - v2.toInt ≤ c → nt_rn X d 166 (285, [(0, .ref (p 0)), (1, .int v1), (2, .int v2), (3, .int v3)], [], me_w M J) o → ∃ (w2 : Int32) (w3 : Int32), nt_rn X d 166 (336, [(0, .ref (p 0)), (1, .int v1), (2, .int w2), (3, .int w3)], [], me_w M (x166F_285 p c v2 J)) o := by
  intro c
  induction c with
  | zero =>
    intro v2 v3 J hc k
    have k := ly_revb 2 (c' := (287, [(0, .ref (p 0)), (1, .int v1), (2, .int v2), (3, .int v3)], [.ref (p 0), .int v2], me_w M J)) rfl k
    have k := lz_get (a := (p 0)) (g := 1110) (M := me_w M J) (v := .int (J (p 0) 10)) rfl (mw_gI (by decide) (rfl)) k
    have k := ly_revb 1 (c' := (if (J (p 0) 10) ≤ v2 then 336 else 293, [(0, .ref (p 0)), (1, .int v1), (2, .int v2), (3, .int v3)], [], me_w M J)) rfl k
    have h290 : (J (p 0) 10) ≤ v2 := lx_end hc
    rw [if_pos h290] at k
    have k := nt_rn_w (a := [(0, .ref (p 0)), (1, .int v1), (2, .int v2), (3, .int v3)]) (b := [(0, .ref (p 0)), (1, .int v1), (2, .int v2), (3, .int v3)]) ⟨rfl, rfl, rfl, rfl, trivial⟩ rfl k
    rw [x166F_285]
    exact ⟨_, _, k⟩
  | succ c ih =>
    intro v2 v3 J hc k
    have k := ly_revb 2 (c' := (287, [(0, .ref (p 0)), (1, .int v1), (2, .int v2), (3, .int v3)], [.ref (p 0), .int v2], me_w M J)) rfl k
    have k := lz_get (a := (p 0)) (g := 1110) (M := me_w M J) (v := .int (J (p 0) 10)) rfl (mw_gI (by decide) (rfl)) k
    have k := ly_revb 1 (c' := (if (J (p 0) 10) ≤ v2 then 336 else 293, [(0, .ref (p 0)), (1, .int v1), (2, .int v2), (3, .int v3)], [], me_w M J)) rfl k
    by_cases h290 : (J (p 0) 10) ≤ v2
    · rw [if_pos h290] at k
      have k := nt_rn_w (a := [(0, .ref (p 0)), (1, .int v1), (2, .int v2), (3, .int v3)]) (b := [(0, .ref (p 0)), (1, .int v1), (2, .int v2), (3, .int v3)]) ⟨rfl, rfl, rfl, rfl, trivial⟩ rfl k
      rw [x166F_285, if_pos h290]
      exact ⟨_, _, k⟩
    · rw [if_neg h290] at k
      have k := ly_revb 2 (c' := (295, [(3, .int (Int32.ofInt 0)), (0, .ref (p 0)), (1, .int v1), (2, .int v2)], [], me_w M J)) rfl k
      have k := nt_rn_w (a := [(3, .int (Int32.ofInt 0)), (0, .ref (p 0)), (1, .int v1), (2, .int v2)]) (b := [(0, .ref (p 0)), (1, .int v1), (2, .int v2), (3, .int (Int32.ofInt 0))]) ⟨rfl, rfl, rfl, rfl, trivial⟩ rfl k
      have k := xt166F_295 hp  ((Int32.ofInt 4).toNatClampNeg) (Int32.ofInt 0) J (lx_beg (by decide)) k
      obtain ⟨w3, k⟩ := k
      have k : nt_rn X _ 166 (330, [(0, .ref (p 0)), (1, .int v1), (2, .int v2), (3, .int w3)], [], me_w M (x166F_295 p v2 ((Int32.ofInt 4).toNatClampNeg) (Int32.ofInt 0) J)) _ := k
      have k := ly_revb 2 (c' := (285, [(2, .int (v2 + (Int32.ofInt 1))), (0, .ref (p 0)), (1, .int v1), (3, .int w3)], [], me_w M (x166F_295 p v2 ((Int32.ofInt 4).toNatClampNeg) (Int32.ofInt 0) J))) rfl k
      have k := nt_rn_w (a := [(2, .int (v2 + (Int32.ofInt 1))), (0, .ref (p 0)), (1, .int v1), (3, .int w3)]) (b := [(0, .ref (p 0)), (1, .int v1), (2, .int (v2 + (Int32.ofInt 1))), (3, .int w3)]) ⟨rfl, rfl, rfl, rfl, trivial⟩ rfl k
      have k := ih (v2 + (Int32.ofInt 1)) w3 (x166F_295 p v2 ((Int32.ofInt 4).toNatClampNeg) (Int32.ofInt 0) J) (by rw [show (x166F_295 p v2 ((Int32.ofInt 4).toNatClampNeg) (Int32.ofInt 0) J) (p 0) 10 = J (p 0) 10 from congrFun (x166F_295_frJ _ _ _ (hp.2.1 0 4 (by omega) (by omega) (by decide))) 10]; exact lx_dec h290 hc) k
      rw [x166F_285, if_neg h290]
      exact k
theorem x166F_285_frJ {p : Nat → Nat} {b : Nat} : ∀ (c : Nat) (v2 : Int32) (J : Nat → Nat → Int32), b ≠ p 4 → x166F_285 p c v2 J b = J b := by
  intro c
  induction c with
  | zero =>
    intro v2 J n0
    rw [x166F_285]
    all_goals first | (dsimp only; exact (show J b = J b from rfl)) | exact (show J b = J b from rfl)
  | succ c ih =>
    intro v2 J n0
    rw [x166F_285]
    by_cases h : (J (p 0) 10) ≤ v2
    · rw [if_pos h]
      all_goals first | (dsimp only; exact (show J b = J b from rfl)) | exact (show J b = J b from rfl)
    · rw [if_neg h]
      exact (ih _ _ n0).trans (x166F_295_frJ _ _ _ n0)
def x166F (p : Nat → Nat) (J : Nat → Nat → Int32) : Int32 × (Nat → Nat → Int32) := if 0 ≤ (J (p 0) 11) then (J (p 0) 8, x166F_285 p (((x166F_219 p (((x166F_148 p (((nt_u (nt_u (nt_u (nt_u (nt_u (nt_u (x166F_56 p (J (p 4) 9) ((Int32.ofInt 212).toNatClampNeg) (Int32.ofInt 0) J) (p 4) 0 (J (p 0) 7)) (p 4) 1 (J (p 0) 8)) (p 4) 2 (J (p 0) 9)) (p 4) 3 (J (p 0) 10)) (p 4) 5 (J (p 0) 11)) (p 4) 9 (J (p 4) 9)) (p 0) 8).toNatClampNeg) (Int32.ofInt 0) (nt_u (nt_u (nt_u (nt_u (nt_u (nt_u (x166F_56 p (J (p 4) 9) ((Int32.ofInt 212).toNatClampNeg) (Int32.ofInt 0) J) (p 4) 0 (J (p 0) 7)) (p 4) 1 (J (p 0) 8)) (p 4) 2 (J (p 0) 9)) (p 4) 3 (J (p 0) 10)) (p 4) 5 (J (p 0) 11)) (p 4) 9 (J (p 4) 9))) (p 0) 9).toNatClampNeg) (Int32.ofInt 0) (x166F_148 p (((nt_u (nt_u (nt_u (nt_u (nt_u (nt_u (x166F_56 p (J (p 4) 9) ((Int32.ofInt 212).toNatClampNeg) (Int32.ofInt 0) J) (p 4) 0 (J (p 0) 7)) (p 4) 1 (J (p 0) 8)) (p 4) 2 (J (p 0) 9)) (p 4) 3 (J (p 0) 10)) (p 4) 5 (J (p 0) 11)) (p 4) 9 (J (p 4) 9)) (p 0) 8).toNatClampNeg) (Int32.ofInt 0) (nt_u (nt_u (nt_u (nt_u (nt_u (nt_u (x166F_56 p (J (p 4) 9) ((Int32.ofInt 212).toNatClampNeg) (Int32.ofInt 0) J) (p 4) 0 (J (p 0) 7)) (p 4) 1 (J (p 0) 8)) (p 4) 2 (J (p 0) 9)) (p 4) 3 (J (p 0) 10)) (p 4) 5 (J (p 0) 11)) (p 4) 9 (J (p 4) 9)))) (p 0) 10).toNatClampNeg) (Int32.ofInt 0) (x166F_219 p (((x166F_148 p (((nt_u (nt_u (nt_u (nt_u (nt_u (nt_u (x166F_56 p (J (p 4) 9) ((Int32.ofInt 212).toNatClampNeg) (Int32.ofInt 0) J) (p 4) 0 (J (p 0) 7)) (p 4) 1 (J (p 0) 8)) (p 4) 2 (J (p 0) 9)) (p 4) 3 (J (p 0) 10)) (p 4) 5 (J (p 0) 11)) (p 4) 9 (J (p 4) 9)) (p 0) 8).toNatClampNeg) (Int32.ofInt 0) (nt_u (nt_u (nt_u (nt_u (nt_u (nt_u (x166F_56 p (J (p 4) 9) ((Int32.ofInt 212).toNatClampNeg) (Int32.ofInt 0) J) (p 4) 0 (J (p 0) 7)) (p 4) 1 (J (p 0) 8)) (p 4) 2 (J (p 0) 9)) (p 4) 3 (J (p 0) 10)) (p 4) 5 (J (p 0) 11)) (p 4) 9 (J (p 4) 9))) (p 0) 9).toNatClampNeg) (Int32.ofInt 0) (x166F_148 p (((nt_u (nt_u (nt_u (nt_u (nt_u (nt_u (x166F_56 p (J (p 4) 9) ((Int32.ofInt 212).toNatClampNeg) (Int32.ofInt 0) J) (p 4) 0 (J (p 0) 7)) (p 4) 1 (J (p 0) 8)) (p 4) 2 (J (p 0) 9)) (p 4) 3 (J (p 0) 10)) (p 4) 5 (J (p 0) 11)) (p 4) 9 (J (p 4) 9)) (p 0) 8).toNatClampNeg) (Int32.ofInt 0) (nt_u (nt_u (nt_u (nt_u (nt_u (nt_u (x166F_56 p (J (p 4) 9) ((Int32.ofInt 212).toNatClampNeg) (Int32.ofInt 0) J) (p 4) 0 (J (p 0) 7)) (p 4) 1 (J (p 0) 8)) (p 4) 2 (J (p 0) 9)) (p 4) 3 (J (p 0) 10)) (p 4) 5 (J (p 0) 11)) (p 4) 9 (J (p 4) 9)))))
  else (J (p 0) 8, x166F_285 p (((x166F_219 p (((x166F_148 p (((nt_u (nt_u (nt_u (nt_u (nt_u (nt_u (x166F_56 p (J (p 4) 9) ((Int32.ofInt 212).toNatClampNeg) (Int32.ofInt 0) J) (p 4) 0 (J (p 0) 7)) (p 4) 1 (J (p 0) 8)) (p 4) 2 (J (p 0) 9)) (p 4) 3 (J (p 0) 10)) (p 4) 5 (Int32.ofInt 30)) (p 4) 9 (J (p 4) 9)) (p 0) 8).toNatClampNeg) (Int32.ofInt 0) (nt_u (nt_u (nt_u (nt_u (nt_u (nt_u (x166F_56 p (J (p 4) 9) ((Int32.ofInt 212).toNatClampNeg) (Int32.ofInt 0) J) (p 4) 0 (J (p 0) 7)) (p 4) 1 (J (p 0) 8)) (p 4) 2 (J (p 0) 9)) (p 4) 3 (J (p 0) 10)) (p 4) 5 (Int32.ofInt 30)) (p 4) 9 (J (p 4) 9))) (p 0) 9).toNatClampNeg) (Int32.ofInt 0) (x166F_148 p (((nt_u (nt_u (nt_u (nt_u (nt_u (nt_u (x166F_56 p (J (p 4) 9) ((Int32.ofInt 212).toNatClampNeg) (Int32.ofInt 0) J) (p 4) 0 (J (p 0) 7)) (p 4) 1 (J (p 0) 8)) (p 4) 2 (J (p 0) 9)) (p 4) 3 (J (p 0) 10)) (p 4) 5 (Int32.ofInt 30)) (p 4) 9 (J (p 4) 9)) (p 0) 8).toNatClampNeg) (Int32.ofInt 0) (nt_u (nt_u (nt_u (nt_u (nt_u (nt_u (x166F_56 p (J (p 4) 9) ((Int32.ofInt 212).toNatClampNeg) (Int32.ofInt 0) J) (p 4) 0 (J (p 0) 7)) (p 4) 1 (J (p 0) 8)) (p 4) 2 (J (p 0) 9)) (p 4) 3 (J (p 0) 10)) (p 4) 5 (Int32.ofInt 30)) (p 4) 9 (J (p 4) 9)))) (p 0) 10).toNatClampNeg) (Int32.ofInt 0) (x166F_219 p (((x166F_148 p (((nt_u (nt_u (nt_u (nt_u (nt_u (nt_u (x166F_56 p (J (p 4) 9) ((Int32.ofInt 212).toNatClampNeg) (Int32.ofInt 0) J) (p 4) 0 (J (p 0) 7)) (p 4) 1 (J (p 0) 8)) (p 4) 2 (J (p 0) 9)) (p 4) 3 (J (p 0) 10)) (p 4) 5 (Int32.ofInt 30)) (p 4) 9 (J (p 4) 9)) (p 0) 8).toNatClampNeg) (Int32.ofInt 0) (nt_u (nt_u (nt_u (nt_u (nt_u (nt_u (x166F_56 p (J (p 4) 9) ((Int32.ofInt 212).toNatClampNeg) (Int32.ofInt 0) J) (p 4) 0 (J (p 0) 7)) (p 4) 1 (J (p 0) 8)) (p 4) 2 (J (p 0) 9)) (p 4) 3 (J (p 0) 10)) (p 4) 5 (Int32.ofInt 30)) (p 4) 9 (J (p 4) 9))) (p 0) 9).toNatClampNeg) (Int32.ofInt 0) (x166F_148 p (((nt_u (nt_u (nt_u (nt_u (nt_u (nt_u (x166F_56 p (J (p 4) 9) ((Int32.ofInt 212).toNatClampNeg) (Int32.ofInt 0) J) (p 4) 0 (J (p 0) 7)) (p 4) 1 (J (p 0) 8)) (p 4) 2 (J (p 0) 9)) (p 4) 3 (J (p 0) 10)) (p 4) 5 (Int32.ofInt 30)) (p 4) 9 (J (p 4) 9)) (p 0) 8).toNatClampNeg) (Int32.ofInt 0) (nt_u (nt_u (nt_u (nt_u (nt_u (nt_u (x166F_56 p (J (p 4) 9) ((Int32.ofInt 212).toNatClampNeg) (Int32.ofInt 0) J) (p 4) 0 (J (p 0) 7)) (p 4) 1 (J (p 0) 8)) (p 4) 2 (J (p 0) 9)) (p 4) 3 (J (p 0) 10)) (p 4) 5 (Int32.ofInt 30)) (p 4) 9 (J (p 4) 9)))))
theorem xt166F {X : nt_X} {d : Nat} {M : nt_M} {o : Option Value × nt_M} {p : Nat → Nat} {J : Nat → Nat → Int32} (hp : xs_P M p) (k : nt_rn X d 166 (46, [(0, .ref (p 0))], [], me_w M J) o) : o = (some (.int ((x166F p J).1)), me_w M ((x166F p J).2)) := by
  have k : nt_rn X d 166 (46, [(0, .ref (p 0))], [], me_w M J) o := k
  have k := ly_revb 1 (c' := (47, [(0, .ref (p 0))], [.ref (p 0)], me_w M J)) rfl k
  have k := lz_get (a := (p 0)) (g := 1127) (M := me_w M J) (v := .ref (p 4)) rfl (nt_gfR rfl (mw_R (hp.1 (0, 27, 4) (by decide)))) k
  have k := ly_revb 1 (c' := (52, [(0, .ref (p 0))], [.int (Int32.ofInt 9), .ref (p 4)], me_w M J)) rfl k
  have k := mx_iald (v := J (p 4) 9) rfl (hp.2.2.1 4 (by omega)) ((congrArg (J (p 4)) (show (Int32.ofInt 9).toNatClampNeg = 9 from rfl)).trans (rfl)) k
  have k := ly_revb 3 (c' := (56, [(2, .int (Int32.ofInt 0)), (1, .int (J (p 4) 9)), (0, .ref (p 0))], [], me_w M J)) rfl k
  have k := nt_rn_w (a := [(2, .int (Int32.ofInt 0)), (1, .int (J (p 4) 9)), (0, .ref (p 0))]) (b := [(0, .ref (p 0)), (1, .int (J (p 4) 9)), (2, .int (Int32.ofInt 0))]) ⟨rfl, rfl, rfl, trivial⟩ rfl k
  have k := xt166F_56 hp  ((Int32.ofInt 212).toNatClampNeg) (Int32.ofInt 0) J (lx_beg (by decide)) k
  obtain ⟨w2, k⟩ := k
  have k : nt_rn X _ 166 (76, [(0, .ref (p 0)), (1, .int (J (p 4) 9)), (2, .int w2)], [], me_w M (x166F_56 p (J (p 4) 9) ((Int32.ofInt 212).toNatClampNeg) (Int32.ofInt 0) J)) _ := k
  have k := ly_revb 1 (c' := (77, [(0, .ref (p 0)), (1, .int (J (p 4) 9)), (2, .int w2)], [.ref (p 0)], me_w M (x166F_56 p (J (p 4) 9) ((Int32.ofInt 212).toNatClampNeg) (Int32.ofInt 0) J))) rfl k
  have k := lz_get (a := (p 0)) (g := 1127) (M := me_w M (x166F_56 p (J (p 4) 9) ((Int32.ofInt 212).toNatClampNeg) (Int32.ofInt 0) J)) (v := .ref (p 4)) rfl (nt_gfR rfl (mw_R (hp.1 (0, 27, 4) (by decide)))) k
  have k := ly_revb 2 (c' := (82, [(0, .ref (p 0)), (1, .int (J (p 4) 9)), (2, .int w2)], [.ref (p 0), .int (Int32.ofInt 0), .ref (p 4)], me_w M (x166F_56 p (J (p 4) 9) ((Int32.ofInt 212).toNatClampNeg) (Int32.ofInt 0) J))) rfl k
  have k := lz_get (a := (p 0)) (g := 1107) (M := me_w M (x166F_56 p (J (p 4) 9) ((Int32.ofInt 212).toNatClampNeg) (Int32.ofInt 0) J)) (v := .int (J (p 0) 7)) rfl (mw_gI (by decide) (congrFun (x166F_56_frJ _ _ _ (hp.2.1 0 4 (by omega) (by omega) (by decide))) 7)) k
  have k := mx_iast (q := 0) rfl (show (Int32.ofInt 0).toNatClampNeg = 0 from rfl) k
  have k : nt_rn X _ 166 (86, [(0, .ref (p 0)), (1, .int (J (p 4) 9)), (2, .int w2)], [], me_w M (nt_u (x166F_56 p (J (p 4) 9) ((Int32.ofInt 212).toNatClampNeg) (Int32.ofInt 0) J) (p 4) 0 (J (p 0) 7))) _ := k
  have k := ly_revb 1 (c' := (87, [(0, .ref (p 0)), (1, .int (J (p 4) 9)), (2, .int w2)], [.ref (p 0)], me_w M (nt_u (x166F_56 p (J (p 4) 9) ((Int32.ofInt 212).toNatClampNeg) (Int32.ofInt 0) J) (p 4) 0 (J (p 0) 7)))) rfl k
  have k := lz_get (a := (p 0)) (g := 1127) (M := me_w M (nt_u (x166F_56 p (J (p 4) 9) ((Int32.ofInt 212).toNatClampNeg) (Int32.ofInt 0) J) (p 4) 0 (J (p 0) 7))) (v := .ref (p 4)) rfl (nt_gfR rfl (mw_R (hp.1 (0, 27, 4) (by decide)))) k
  have k := ly_revb 2 (c' := (92, [(0, .ref (p 0)), (1, .int (J (p 4) 9)), (2, .int w2)], [.ref (p 0), .int (Int32.ofInt 1), .ref (p 4)], me_w M (nt_u (x166F_56 p (J (p 4) 9) ((Int32.ofInt 212).toNatClampNeg) (Int32.ofInt 0) J) (p 4) 0 (J (p 0) 7)))) rfl k
  have k := lz_get (a := (p 0)) (g := 1108) (M := me_w M (nt_u (x166F_56 p (J (p 4) 9) ((Int32.ofInt 212).toNatClampNeg) (Int32.ofInt 0) J) (p 4) 0 (J (p 0) 7))) (v := .int (J (p 0) 8)) rfl (mw_gI (by decide) ((mu_j (hp.2.1 0 4 (by omega) (by omega) (by decide))).trans (congrFun (x166F_56_frJ _ _ _ (hp.2.1 0 4 (by omega) (by omega) (by decide))) 8))) k
  have k := mx_iast (q := 1) rfl (show (Int32.ofInt 1).toNatClampNeg = 1 from rfl) k
  have k : nt_rn X _ 166 (96, [(0, .ref (p 0)), (1, .int (J (p 4) 9)), (2, .int w2)], [], me_w M (nt_u (nt_u (x166F_56 p (J (p 4) 9) ((Int32.ofInt 212).toNatClampNeg) (Int32.ofInt 0) J) (p 4) 0 (J (p 0) 7)) (p 4) 1 (J (p 0) 8))) _ := k
  have k := ly_revb 1 (c' := (97, [(0, .ref (p 0)), (1, .int (J (p 4) 9)), (2, .int w2)], [.ref (p 0)], me_w M (nt_u (nt_u (x166F_56 p (J (p 4) 9) ((Int32.ofInt 212).toNatClampNeg) (Int32.ofInt 0) J) (p 4) 0 (J (p 0) 7)) (p 4) 1 (J (p 0) 8)))) rfl k
  have k := lz_get (a := (p 0)) (g := 1127) (M := me_w M (nt_u (nt_u (x166F_56 p (J (p 4) 9) ((Int32.ofInt 212).toNatClampNeg) (Int32.ofInt 0) J) (p 4) 0 (J (p 0) 7)) (p 4) 1 (J (p 0) 8))) (v := .ref (p 4)) rfl (nt_gfR rfl (mw_R (hp.1 (0, 27, 4) (by decide)))) k
  have k := ly_revb 2 (c' := (102, [(0, .ref (p 0)), (1, .int (J (p 4) 9)), (2, .int w2)], [.ref (p 0), .int (Int32.ofInt 2), .ref (p 4)], me_w M (nt_u (nt_u (x166F_56 p (J (p 4) 9) ((Int32.ofInt 212).toNatClampNeg) (Int32.ofInt 0) J) (p 4) 0 (J (p 0) 7)) (p 4) 1 (J (p 0) 8)))) rfl k
  have k := lz_get (a := (p 0)) (g := 1109) (M := me_w M (nt_u (nt_u (x166F_56 p (J (p 4) 9) ((Int32.ofInt 212).toNatClampNeg) (Int32.ofInt 0) J) (p 4) 0 (J (p 0) 7)) (p 4) 1 (J (p 0) 8))) (v := .int (J (p 0) 9)) rfl (mw_gI (by decide) ((mu_j (hp.2.1 0 4 (by omega) (by omega) (by decide))).trans ((mu_j (hp.2.1 0 4 (by omega) (by omega) (by decide))).trans (congrFun (x166F_56_frJ _ _ _ (hp.2.1 0 4 (by omega) (by omega) (by decide))) 9)))) k
  have k := mx_iast (q := 2) rfl (show (Int32.ofInt 2).toNatClampNeg = 2 from rfl) k
  have k : nt_rn X _ 166 (106, [(0, .ref (p 0)), (1, .int (J (p 4) 9)), (2, .int w2)], [], me_w M (nt_u (nt_u (nt_u (x166F_56 p (J (p 4) 9) ((Int32.ofInt 212).toNatClampNeg) (Int32.ofInt 0) J) (p 4) 0 (J (p 0) 7)) (p 4) 1 (J (p 0) 8)) (p 4) 2 (J (p 0) 9))) _ := k
  have k := ly_revb 1 (c' := (107, [(0, .ref (p 0)), (1, .int (J (p 4) 9)), (2, .int w2)], [.ref (p 0)], me_w M (nt_u (nt_u (nt_u (x166F_56 p (J (p 4) 9) ((Int32.ofInt 212).toNatClampNeg) (Int32.ofInt 0) J) (p 4) 0 (J (p 0) 7)) (p 4) 1 (J (p 0) 8)) (p 4) 2 (J (p 0) 9)))) rfl k
  have k := lz_get (a := (p 0)) (g := 1127) (M := me_w M (nt_u (nt_u (nt_u (x166F_56 p (J (p 4) 9) ((Int32.ofInt 212).toNatClampNeg) (Int32.ofInt 0) J) (p 4) 0 (J (p 0) 7)) (p 4) 1 (J (p 0) 8)) (p 4) 2 (J (p 0) 9))) (v := .ref (p 4)) rfl (nt_gfR rfl (mw_R (hp.1 (0, 27, 4) (by decide)))) k
  have k := ly_revb 2 (c' := (112, [(0, .ref (p 0)), (1, .int (J (p 4) 9)), (2, .int w2)], [.ref (p 0), .int (Int32.ofInt 3), .ref (p 4)], me_w M (nt_u (nt_u (nt_u (x166F_56 p (J (p 4) 9) ((Int32.ofInt 212).toNatClampNeg) (Int32.ofInt 0) J) (p 4) 0 (J (p 0) 7)) (p 4) 1 (J (p 0) 8)) (p 4) 2 (J (p 0) 9)))) rfl k
  have k := lz_get (a := (p 0)) (g := 1110) (M := me_w M (nt_u (nt_u (nt_u (x166F_56 p (J (p 4) 9) ((Int32.ofInt 212).toNatClampNeg) (Int32.ofInt 0) J) (p 4) 0 (J (p 0) 7)) (p 4) 1 (J (p 0) 8)) (p 4) 2 (J (p 0) 9))) (v := .int (J (p 0) 10)) rfl (mw_gI (by decide) ((mu_j (hp.2.1 0 4 (by omega) (by omega) (by decide))).trans ((mu_j (hp.2.1 0 4 (by omega) (by omega) (by decide))).trans ((mu_j (hp.2.1 0 4 (by omega) (by omega) (by decide))).trans (congrFun (x166F_56_frJ _ _ _ (hp.2.1 0 4 (by omega) (by omega) (by decide))) 10))))) k
  have k := mx_iast (q := 3) rfl (show (Int32.ofInt 3).toNatClampNeg = 3 from rfl) k
  have k : nt_rn X _ 166 (116, [(0, .ref (p 0)), (1, .int (J (p 4) 9)), (2, .int w2)], [], me_w M (nt_u (nt_u (nt_u (nt_u (x166F_56 p (J (p 4) 9) ((Int32.ofInt 212).toNatClampNeg) (Int32.ofInt 0) J) (p 4) 0 (J (p 0) 7)) (p 4) 1 (J (p 0) 8)) (p 4) 2 (J (p 0) 9)) (p 4) 3 (J (p 0) 10))) _ := k
  have k := ly_revb 1 (c' := (117, [(0, .ref (p 0)), (1, .int (J (p 4) 9)), (2, .int w2)], [.ref (p 0)], me_w M (nt_u (nt_u (nt_u (nt_u (x166F_56 p (J (p 4) 9) ((Int32.ofInt 212).toNatClampNeg) (Int32.ofInt 0) J) (p 4) 0 (J (p 0) 7)) (p 4) 1 (J (p 0) 8)) (p 4) 2 (J (p 0) 9)) (p 4) 3 (J (p 0) 10)))) rfl k
  have k := lz_get (a := (p 0)) (g := 1127) (M := me_w M (nt_u (nt_u (nt_u (nt_u (x166F_56 p (J (p 4) 9) ((Int32.ofInt 212).toNatClampNeg) (Int32.ofInt 0) J) (p 4) 0 (J (p 0) 7)) (p 4) 1 (J (p 0) 8)) (p 4) 2 (J (p 0) 9)) (p 4) 3 (J (p 0) 10))) (v := .ref (p 4)) rfl (nt_gfR rfl (mw_R (hp.1 (0, 27, 4) (by decide)))) k
  have k := ly_revb 2 (c' := (122, [(0, .ref (p 0)), (1, .int (J (p 4) 9)), (2, .int w2)], [.ref (p 0), .int (Int32.ofInt 5), .ref (p 4)], me_w M (nt_u (nt_u (nt_u (nt_u (x166F_56 p (J (p 4) 9) ((Int32.ofInt 212).toNatClampNeg) (Int32.ofInt 0) J) (p 4) 0 (J (p 0) 7)) (p 4) 1 (J (p 0) 8)) (p 4) 2 (J (p 0) 9)) (p 4) 3 (J (p 0) 10)))) rfl k
  have k := lz_get (a := (p 0)) (g := 1111) (M := me_w M (nt_u (nt_u (nt_u (nt_u (x166F_56 p (J (p 4) 9) ((Int32.ofInt 212).toNatClampNeg) (Int32.ofInt 0) J) (p 4) 0 (J (p 0) 7)) (p 4) 1 (J (p 0) 8)) (p 4) 2 (J (p 0) 9)) (p 4) 3 (J (p 0) 10))) (v := .int (J (p 0) 11)) rfl (mw_gI (by decide) ((mu_j (hp.2.1 0 4 (by omega) (by omega) (by decide))).trans ((mu_j (hp.2.1 0 4 (by omega) (by omega) (by decide))).trans ((mu_j (hp.2.1 0 4 (by omega) (by omega) (by decide))).trans ((mu_j (hp.2.1 0 4 (by omega) (by omega) (by decide))).trans (congrFun (x166F_56_frJ _ _ _ (hp.2.1 0 4 (by omega) (by omega) (by decide))) 11)))))) k
  have k := ly_revb 1 (c' := (if 0 ≤ (J (p 0) 11) then 133 else 128, [(0, .ref (p 0)), (1, .int (J (p 4) 9)), (2, .int w2)], [.int (Int32.ofInt 5), .ref (p 4)], me_w M (nt_u (nt_u (nt_u (nt_u (x166F_56 p (J (p 4) 9) ((Int32.ofInt 212).toNatClampNeg) (Int32.ofInt 0) J) (p 4) 0 (J (p 0) 7)) (p 4) 1 (J (p 0) 8)) (p 4) 2 (J (p 0) 9)) (p 4) 3 (J (p 0) 10)))) rfl k
  by_cases h125 : 0 ≤ (J (p 0) 11)
  · rw [if_pos h125] at k
    have k := ly_revb 1 (c' := (134, [(0, .ref (p 0)), (1, .int (J (p 4) 9)), (2, .int w2)], [.ref (p 0), .int (Int32.ofInt 5), .ref (p 4)], me_w M (nt_u (nt_u (nt_u (nt_u (x166F_56 p (J (p 4) 9) ((Int32.ofInt 212).toNatClampNeg) (Int32.ofInt 0) J) (p 4) 0 (J (p 0) 7)) (p 4) 1 (J (p 0) 8)) (p 4) 2 (J (p 0) 9)) (p 4) 3 (J (p 0) 10)))) rfl k
    have k := lz_get (a := (p 0)) (g := 1111) (M := me_w M (nt_u (nt_u (nt_u (nt_u (x166F_56 p (J (p 4) 9) ((Int32.ofInt 212).toNatClampNeg) (Int32.ofInt 0) J) (p 4) 0 (J (p 0) 7)) (p 4) 1 (J (p 0) 8)) (p 4) 2 (J (p 0) 9)) (p 4) 3 (J (p 0) 10))) (v := .int (J (p 0) 11)) rfl (mw_gI (by decide) ((mu_j (hp.2.1 0 4 (by omega) (by omega) (by decide))).trans ((mu_j (hp.2.1 0 4 (by omega) (by omega) (by decide))).trans ((mu_j (hp.2.1 0 4 (by omega) (by omega) (by decide))).trans ((mu_j (hp.2.1 0 4 (by omega) (by omega) (by decide))).trans (congrFun (x166F_56_frJ _ _ _ (hp.2.1 0 4 (by omega) (by omega) (by decide))) 11)))))) k
    have k := mx_iast (q := 5) rfl (show (Int32.ofInt 5).toNatClampNeg = 5 from rfl) k
    have k : nt_rn X _ 166 (138, [(0, .ref (p 0)), (1, .int (J (p 4) 9)), (2, .int w2)], [], me_w M (nt_u (nt_u (nt_u (nt_u (nt_u (x166F_56 p (J (p 4) 9) ((Int32.ofInt 212).toNatClampNeg) (Int32.ofInt 0) J) (p 4) 0 (J (p 0) 7)) (p 4) 1 (J (p 0) 8)) (p 4) 2 (J (p 0) 9)) (p 4) 3 (J (p 0) 10)) (p 4) 5 (J (p 0) 11))) _ := k
    have k := ly_revb 1 (c' := (139, [(0, .ref (p 0)), (1, .int (J (p 4) 9)), (2, .int w2)], [.ref (p 0)], me_w M (nt_u (nt_u (nt_u (nt_u (nt_u (x166F_56 p (J (p 4) 9) ((Int32.ofInt 212).toNatClampNeg) (Int32.ofInt 0) J) (p 4) 0 (J (p 0) 7)) (p 4) 1 (J (p 0) 8)) (p 4) 2 (J (p 0) 9)) (p 4) 3 (J (p 0) 10)) (p 4) 5 (J (p 0) 11)))) rfl k
    have k := lz_get (a := (p 0)) (g := 1127) (M := me_w M (nt_u (nt_u (nt_u (nt_u (nt_u (x166F_56 p (J (p 4) 9) ((Int32.ofInt 212).toNatClampNeg) (Int32.ofInt 0) J) (p 4) 0 (J (p 0) 7)) (p 4) 1 (J (p 0) 8)) (p 4) 2 (J (p 0) 9)) (p 4) 3 (J (p 0) 10)) (p 4) 5 (J (p 0) 11))) (v := .ref (p 4)) rfl (nt_gfR rfl (mw_R (hp.1 (0, 27, 4) (by decide)))) k
    have k := ly_revb 2 (c' := (145, [(0, .ref (p 0)), (1, .int (J (p 4) 9)), (2, .int w2)], [.int (J (p 4) 9), .int (Int32.ofInt 9), .ref (p 4)], me_w M (nt_u (nt_u (nt_u (nt_u (nt_u (x166F_56 p (J (p 4) 9) ((Int32.ofInt 212).toNatClampNeg) (Int32.ofInt 0) J) (p 4) 0 (J (p 0) 7)) (p 4) 1 (J (p 0) 8)) (p 4) 2 (J (p 0) 9)) (p 4) 3 (J (p 0) 10)) (p 4) 5 (J (p 0) 11)))) rfl k
    have k := mx_iast (q := 9) rfl (show (Int32.ofInt 9).toNatClampNeg = 9 from rfl) k
    have k : nt_rn X _ 166 (146, [(0, .ref (p 0)), (1, .int (J (p 4) 9)), (2, .int w2)], [], me_w M (nt_u (nt_u (nt_u (nt_u (nt_u (nt_u (x166F_56 p (J (p 4) 9) ((Int32.ofInt 212).toNatClampNeg) (Int32.ofInt 0) J) (p 4) 0 (J (p 0) 7)) (p 4) 1 (J (p 0) 8)) (p 4) 2 (J (p 0) 9)) (p 4) 3 (J (p 0) 10)) (p 4) 5 (J (p 0) 11)) (p 4) 9 (J (p 4) 9))) _ := k
    have k := ly_revb 2 (c' := (148, [(2, .int (Int32.ofInt 0)), (0, .ref (p 0)), (1, .int (J (p 4) 9))], [], me_w M (nt_u (nt_u (nt_u (nt_u (nt_u (nt_u (x166F_56 p (J (p 4) 9) ((Int32.ofInt 212).toNatClampNeg) (Int32.ofInt 0) J) (p 4) 0 (J (p 0) 7)) (p 4) 1 (J (p 0) 8)) (p 4) 2 (J (p 0) 9)) (p 4) 3 (J (p 0) 10)) (p 4) 5 (J (p 0) 11)) (p 4) 9 (J (p 4) 9)))) rfl k
    have k := nt_rn_w (a := [(2, .int (Int32.ofInt 0)), (0, .ref (p 0)), (1, .int (J (p 4) 9))]) (b := [(0, .ref (p 0)), (1, .int (J (p 4) 9)), (2, .int (Int32.ofInt 0)), (3, .int (Int32.ofInt 0))]) ⟨rfl, rfl, rfl, trivial⟩ rfl k
    have k := xt166F_148 hp  (((nt_u (nt_u (nt_u (nt_u (nt_u (nt_u (x166F_56 p (J (p 4) 9) ((Int32.ofInt 212).toNatClampNeg) (Int32.ofInt 0) J) (p 4) 0 (J (p 0) 7)) (p 4) 1 (J (p 0) 8)) (p 4) 2 (J (p 0) 9)) (p 4) 3 (J (p 0) 10)) (p 4) 5 (J (p 0) 11)) (p 4) 9 (J (p 4) 9)) (p 0) 8).toNatClampNeg) (Int32.ofInt 0) (Int32.ofInt 0) (nt_u (nt_u (nt_u (nt_u (nt_u (nt_u (x166F_56 p (J (p 4) 9) ((Int32.ofInt 212).toNatClampNeg) (Int32.ofInt 0) J) (p 4) 0 (J (p 0) 7)) (p 4) 1 (J (p 0) 8)) (p 4) 2 (J (p 0) 9)) (p 4) 3 (J (p 0) 10)) (p 4) 5 (J (p 0) 11)) (p 4) 9 (J (p 4) 9)) (lx_beg (by decide)) k
    obtain ⟨w2, w3, k⟩ := k
    have k : nt_rn X _ 166 (217, [(0, .ref (p 0)), (1, .int (J (p 4) 9)), (2, .int w2), (3, .int w3)], [], me_w M (x166F_148 p (((nt_u (nt_u (nt_u (nt_u (nt_u (nt_u (x166F_56 p (J (p 4) 9) ((Int32.ofInt 212).toNatClampNeg) (Int32.ofInt 0) J) (p 4) 0 (J (p 0) 7)) (p 4) 1 (J (p 0) 8)) (p 4) 2 (J (p 0) 9)) (p 4) 3 (J (p 0) 10)) (p 4) 5 (J (p 0) 11)) (p 4) 9 (J (p 4) 9)) (p 0) 8).toNatClampNeg) (Int32.ofInt 0) (nt_u (nt_u (nt_u (nt_u (nt_u (nt_u (x166F_56 p (J (p 4) 9) ((Int32.ofInt 212).toNatClampNeg) (Int32.ofInt 0) J) (p 4) 0 (J (p 0) 7)) (p 4) 1 (J (p 0) 8)) (p 4) 2 (J (p 0) 9)) (p 4) 3 (J (p 0) 10)) (p 4) 5 (J (p 0) 11)) (p 4) 9 (J (p 4) 9)))) _ := k
    have k := ly_revb 2 (c' := (219, [(2, .int (Int32.ofInt 0)), (0, .ref (p 0)), (1, .int (J (p 4) 9)), (3, .int w3)], [], me_w M (x166F_148 p (((nt_u (nt_u (nt_u (nt_u (nt_u (nt_u (x166F_56 p (J (p 4) 9) ((Int32.ofInt 212).toNatClampNeg) (Int32.ofInt 0) J) (p 4) 0 (J (p 0) 7)) (p 4) 1 (J (p 0) 8)) (p 4) 2 (J (p 0) 9)) (p 4) 3 (J (p 0) 10)) (p 4) 5 (J (p 0) 11)) (p 4) 9 (J (p 4) 9)) (p 0) 8).toNatClampNeg) (Int32.ofInt 0) (nt_u (nt_u (nt_u (nt_u (nt_u (nt_u (x166F_56 p (J (p 4) 9) ((Int32.ofInt 212).toNatClampNeg) (Int32.ofInt 0) J) (p 4) 0 (J (p 0) 7)) (p 4) 1 (J (p 0) 8)) (p 4) 2 (J (p 0) 9)) (p 4) 3 (J (p 0) 10)) (p 4) 5 (J (p 0) 11)) (p 4) 9 (J (p 4) 9))))) rfl k
    have k := nt_rn_w (a := [(2, .int (Int32.ofInt 0)), (0, .ref (p 0)), (1, .int (J (p 4) 9)), (3, .int w3)]) (b := [(0, .ref (p 0)), (1, .int (J (p 4) 9)), (2, .int (Int32.ofInt 0)), (3, .int w3)]) ⟨rfl, rfl, rfl, rfl, trivial⟩ rfl k
    have k := xt166F_219 hp  (((x166F_148 p (((nt_u (nt_u (nt_u (nt_u (nt_u (nt_u (x166F_56 p (J (p 4) 9) ((Int32.ofInt 212).toNatClampNeg) (Int32.ofInt 0) J) (p 4) 0 (J (p 0) 7)) (p 4) 1 (J (p 0) 8)) (p 4) 2 (J (p 0) 9)) (p 4) 3 (J (p 0) 10)) (p 4) 5 (J (p 0) 11)) (p 4) 9 (J (p 4) 9)) (p 0) 8).toNatClampNeg) (Int32.ofInt 0) (nt_u (nt_u (nt_u (nt_u (nt_u (nt_u (x166F_56 p (J (p 4) 9) ((Int32.ofInt 212).toNatClampNeg) (Int32.ofInt 0) J) (p 4) 0 (J (p 0) 7)) (p 4) 1 (J (p 0) 8)) (p 4) 2 (J (p 0) 9)) (p 4) 3 (J (p 0) 10)) (p 4) 5 (J (p 0) 11)) (p 4) 9 (J (p 4) 9))) (p 0) 9).toNatClampNeg) (Int32.ofInt 0) w3 (x166F_148 p (((nt_u (nt_u (nt_u (nt_u (nt_u (nt_u (x166F_56 p (J (p 4) 9) ((Int32.ofInt 212).toNatClampNeg) (Int32.ofInt 0) J) (p 4) 0 (J (p 0) 7)) (p 4) 1 (J (p 0) 8)) (p 4) 2 (J (p 0) 9)) (p 4) 3 (J (p 0) 10)) (p 4) 5 (J (p 0) 11)) (p 4) 9 (J (p 4) 9)) (p 0) 8).toNatClampNeg) (Int32.ofInt 0) (nt_u (nt_u (nt_u (nt_u (nt_u (nt_u (x166F_56 p (J (p 4) 9) ((Int32.ofInt 212).toNatClampNeg) (Int32.ofInt 0) J) (p 4) 0 (J (p 0) 7)) (p 4) 1 (J (p 0) 8)) (p 4) 2 (J (p 0) 9)) (p 4) 3 (J (p 0) 10)) (p 4) 5 (J (p 0) 11)) (p 4) 9 (J (p 4) 9))) (lx_beg (by decide)) k
    obtain ⟨w2, w3, k⟩ := k
    have k : nt_rn X _ 166 (283, [(0, .ref (p 0)), (1, .int (J (p 4) 9)), (2, .int w2), (3, .int w3)], [], me_w M (x166F_219 p (((x166F_148 p (((nt_u (nt_u (nt_u (nt_u (nt_u (nt_u (x166F_56 p (J (p 4) 9) ((Int32.ofInt 212).toNatClampNeg) (Int32.ofInt 0) J) (p 4) 0 (J (p 0) 7)) (p 4) 1 (J (p 0) 8)) (p 4) 2 (J (p 0) 9)) (p 4) 3 (J (p 0) 10)) (p 4) 5 (J (p 0) 11)) (p 4) 9 (J (p 4) 9)) (p 0) 8).toNatClampNeg) (Int32.ofInt 0) (nt_u (nt_u (nt_u (nt_u (nt_u (nt_u (x166F_56 p (J (p 4) 9) ((Int32.ofInt 212).toNatClampNeg) (Int32.ofInt 0) J) (p 4) 0 (J (p 0) 7)) (p 4) 1 (J (p 0) 8)) (p 4) 2 (J (p 0) 9)) (p 4) 3 (J (p 0) 10)) (p 4) 5 (J (p 0) 11)) (p 4) 9 (J (p 4) 9))) (p 0) 9).toNatClampNeg) (Int32.ofInt 0) (x166F_148 p (((nt_u (nt_u (nt_u (nt_u (nt_u (nt_u (x166F_56 p (J (p 4) 9) ((Int32.ofInt 212).toNatClampNeg) (Int32.ofInt 0) J) (p 4) 0 (J (p 0) 7)) (p 4) 1 (J (p 0) 8)) (p 4) 2 (J (p 0) 9)) (p 4) 3 (J (p 0) 10)) (p 4) 5 (J (p 0) 11)) (p 4) 9 (J (p 4) 9)) (p 0) 8).toNatClampNeg) (Int32.ofInt 0) (nt_u (nt_u (nt_u (nt_u (nt_u (nt_u (x166F_56 p (J (p 4) 9) ((Int32.ofInt 212).toNatClampNeg) (Int32.ofInt 0) J) (p 4) 0 (J (p 0) 7)) (p 4) 1 (J (p 0) 8)) (p 4) 2 (J (p 0) 9)) (p 4) 3 (J (p 0) 10)) (p 4) 5 (J (p 0) 11)) (p 4) 9 (J (p 4) 9))))) _ := k
    have k := ly_revb 2 (c' := (285, [(2, .int (Int32.ofInt 0)), (0, .ref (p 0)), (1, .int (J (p 4) 9)), (3, .int w3)], [], me_w M (x166F_219 p (((x166F_148 p (((nt_u (nt_u (nt_u (nt_u (nt_u (nt_u (x166F_56 p (J (p 4) 9) ((Int32.ofInt 212).toNatClampNeg) (Int32.ofInt 0) J) (p 4) 0 (J (p 0) 7)) (p 4) 1 (J (p 0) 8)) (p 4) 2 (J (p 0) 9)) (p 4) 3 (J (p 0) 10)) (p 4) 5 (J (p 0) 11)) (p 4) 9 (J (p 4) 9)) (p 0) 8).toNatClampNeg) (Int32.ofInt 0) (nt_u (nt_u (nt_u (nt_u (nt_u (nt_u (x166F_56 p (J (p 4) 9) ((Int32.ofInt 212).toNatClampNeg) (Int32.ofInt 0) J) (p 4) 0 (J (p 0) 7)) (p 4) 1 (J (p 0) 8)) (p 4) 2 (J (p 0) 9)) (p 4) 3 (J (p 0) 10)) (p 4) 5 (J (p 0) 11)) (p 4) 9 (J (p 4) 9))) (p 0) 9).toNatClampNeg) (Int32.ofInt 0) (x166F_148 p (((nt_u (nt_u (nt_u (nt_u (nt_u (nt_u (x166F_56 p (J (p 4) 9) ((Int32.ofInt 212).toNatClampNeg) (Int32.ofInt 0) J) (p 4) 0 (J (p 0) 7)) (p 4) 1 (J (p 0) 8)) (p 4) 2 (J (p 0) 9)) (p 4) 3 (J (p 0) 10)) (p 4) 5 (J (p 0) 11)) (p 4) 9 (J (p 4) 9)) (p 0) 8).toNatClampNeg) (Int32.ofInt 0) (nt_u (nt_u (nt_u (nt_u (nt_u (nt_u (x166F_56 p (J (p 4) 9) ((Int32.ofInt 212).toNatClampNeg) (Int32.ofInt 0) J) (p 4) 0 (J (p 0) 7)) (p 4) 1 (J (p 0) 8)) (p 4) 2 (J (p 0) 9)) (p 4) 3 (J (p 0) 10)) (p 4) 5 (J (p 0) 11)) (p 4) 9 (J (p 4) 9)))))) rfl k
    have k := nt_rn_w (a := [(2, .int (Int32.ofInt 0)), (0, .ref (p 0)), (1, .int (J (p 4) 9)), (3, .int w3)]) (b := [(0, .ref (p 0)), (1, .int (J (p 4) 9)), (2, .int (Int32.ofInt 0)), (3, .int w3)]) ⟨rfl, rfl, rfl, rfl, trivial⟩ rfl k
    have k := xt166F_285 hp  (((x166F_219 p (((x166F_148 p (((nt_u (nt_u (nt_u (nt_u (nt_u (nt_u (x166F_56 p (J (p 4) 9) ((Int32.ofInt 212).toNatClampNeg) (Int32.ofInt 0) J) (p 4) 0 (J (p 0) 7)) (p 4) 1 (J (p 0) 8)) (p 4) 2 (J (p 0) 9)) (p 4) 3 (J (p 0) 10)) (p 4) 5 (J (p 0) 11)) (p 4) 9 (J (p 4) 9)) (p 0) 8).toNatClampNeg) (Int32.ofInt 0) (nt_u (nt_u (nt_u (nt_u (nt_u (nt_u (x166F_56 p (J (p 4) 9) ((Int32.ofInt 212).toNatClampNeg) (Int32.ofInt 0) J) (p 4) 0 (J (p 0) 7)) (p 4) 1 (J (p 0) 8)) (p 4) 2 (J (p 0) 9)) (p 4) 3 (J (p 0) 10)) (p 4) 5 (J (p 0) 11)) (p 4) 9 (J (p 4) 9))) (p 0) 9).toNatClampNeg) (Int32.ofInt 0) (x166F_148 p (((nt_u (nt_u (nt_u (nt_u (nt_u (nt_u (x166F_56 p (J (p 4) 9) ((Int32.ofInt 212).toNatClampNeg) (Int32.ofInt 0) J) (p 4) 0 (J (p 0) 7)) (p 4) 1 (J (p 0) 8)) (p 4) 2 (J (p 0) 9)) (p 4) 3 (J (p 0) 10)) (p 4) 5 (J (p 0) 11)) (p 4) 9 (J (p 4) 9)) (p 0) 8).toNatClampNeg) (Int32.ofInt 0) (nt_u (nt_u (nt_u (nt_u (nt_u (nt_u (x166F_56 p (J (p 4) 9) ((Int32.ofInt 212).toNatClampNeg) (Int32.ofInt 0) J) (p 4) 0 (J (p 0) 7)) (p 4) 1 (J (p 0) 8)) (p 4) 2 (J (p 0) 9)) (p 4) 3 (J (p 0) 10)) (p 4) 5 (J (p 0) 11)) (p 4) 9 (J (p 4) 9)))) (p 0) 10).toNatClampNeg) (Int32.ofInt 0) w3 (x166F_219 p (((x166F_148 p (((nt_u (nt_u (nt_u (nt_u (nt_u (nt_u (x166F_56 p (J (p 4) 9) ((Int32.ofInt 212).toNatClampNeg) (Int32.ofInt 0) J) (p 4) 0 (J (p 0) 7)) (p 4) 1 (J (p 0) 8)) (p 4) 2 (J (p 0) 9)) (p 4) 3 (J (p 0) 10)) (p 4) 5 (J (p 0) 11)) (p 4) 9 (J (p 4) 9)) (p 0) 8).toNatClampNeg) (Int32.ofInt 0) (nt_u (nt_u (nt_u (nt_u (nt_u (nt_u (x166F_56 p (J (p 4) 9) ((Int32.ofInt 212).toNatClampNeg) (Int32.ofInt 0) J) (p 4) 0 (J (p 0) 7)) (p 4) 1 (J (p 0) 8)) (p 4) 2 (J (p 0) 9)) (p 4) 3 (J (p 0) 10)) (p 4) 5 (J (p 0) 11)) (p 4) 9 (J (p 4) 9))) (p 0) 9).toNatClampNeg) (Int32.ofInt 0) (x166F_148 p (((nt_u (nt_u (nt_u (nt_u (nt_u (nt_u (x166F_56 p (J (p 4) 9) ((Int32.ofInt 212).toNatClampNeg) (Int32.ofInt 0) J) (p 4) 0 (J (p 0) 7)) (p 4) 1 (J (p 0) 8)) (p 4) 2 (J (p 0) 9)) (p 4) 3 (J (p 0) 10)) (p 4) 5 (J (p 0) 11)) (p 4) 9 (J (p 4) 9)) (p 0) 8).toNatClampNeg) (Int32.ofInt 0) (nt_u (nt_u (nt_u (nt_u (nt_u (nt_u (x166F_56 p (J (p 4) 9) ((Int32.ofInt 212).toNatClampNeg) (Int32.ofInt 0) J) (p 4) 0 (J (p 0) 7)) (p 4) 1 (J (p 0) 8)) (p 4) 2 (J (p 0) 9)) (p 4) 3 (J (p 0) 10)) (p 4) 5 (J (p 0) 11)) (p 4) 9 (J (p 4) 9)))) (lx_beg (by decide)) k
    obtain ⟨w2, w3, k⟩ := k
    have k : nt_rn X _ 166 (336, [(0, .ref (p 0)), (1, .int (J (p 4) 9)), (2, .int w2), (3, .int w3)], [], me_w M (x166F_285 p (((x166F_219 p (((x166F_148 p (((nt_u (nt_u (nt_u (nt_u (nt_u (nt_u (x166F_56 p (J (p 4) 9) ((Int32.ofInt 212).toNatClampNeg) (Int32.ofInt 0) J) (p 4) 0 (J (p 0) 7)) (p 4) 1 (J (p 0) 8)) (p 4) 2 (J (p 0) 9)) (p 4) 3 (J (p 0) 10)) (p 4) 5 (J (p 0) 11)) (p 4) 9 (J (p 4) 9)) (p 0) 8).toNatClampNeg) (Int32.ofInt 0) (nt_u (nt_u (nt_u (nt_u (nt_u (nt_u (x166F_56 p (J (p 4) 9) ((Int32.ofInt 212).toNatClampNeg) (Int32.ofInt 0) J) (p 4) 0 (J (p 0) 7)) (p 4) 1 (J (p 0) 8)) (p 4) 2 (J (p 0) 9)) (p 4) 3 (J (p 0) 10)) (p 4) 5 (J (p 0) 11)) (p 4) 9 (J (p 4) 9))) (p 0) 9).toNatClampNeg) (Int32.ofInt 0) (x166F_148 p (((nt_u (nt_u (nt_u (nt_u (nt_u (nt_u (x166F_56 p (J (p 4) 9) ((Int32.ofInt 212).toNatClampNeg) (Int32.ofInt 0) J) (p 4) 0 (J (p 0) 7)) (p 4) 1 (J (p 0) 8)) (p 4) 2 (J (p 0) 9)) (p 4) 3 (J (p 0) 10)) (p 4) 5 (J (p 0) 11)) (p 4) 9 (J (p 4) 9)) (p 0) 8).toNatClampNeg) (Int32.ofInt 0) (nt_u (nt_u (nt_u (nt_u (nt_u (nt_u (x166F_56 p (J (p 4) 9) ((Int32.ofInt 212).toNatClampNeg) (Int32.ofInt 0) J) (p 4) 0 (J (p 0) 7)) (p 4) 1 (J (p 0) 8)) (p 4) 2 (J (p 0) 9)) (p 4) 3 (J (p 0) 10)) (p 4) 5 (J (p 0) 11)) (p 4) 9 (J (p 4) 9)))) (p 0) 10).toNatClampNeg) (Int32.ofInt 0) (x166F_219 p (((x166F_148 p (((nt_u (nt_u (nt_u (nt_u (nt_u (nt_u (x166F_56 p (J (p 4) 9) ((Int32.ofInt 212).toNatClampNeg) (Int32.ofInt 0) J) (p 4) 0 (J (p 0) 7)) (p 4) 1 (J (p 0) 8)) (p 4) 2 (J (p 0) 9)) (p 4) 3 (J (p 0) 10)) (p 4) 5 (J (p 0) 11)) (p 4) 9 (J (p 4) 9)) (p 0) 8).toNatClampNeg) (Int32.ofInt 0) (nt_u (nt_u (nt_u (nt_u (nt_u (nt_u (x166F_56 p (J (p 4) 9) ((Int32.ofInt 212).toNatClampNeg) (Int32.ofInt 0) J) (p 4) 0 (J (p 0) 7)) (p 4) 1 (J (p 0) 8)) (p 4) 2 (J (p 0) 9)) (p 4) 3 (J (p 0) 10)) (p 4) 5 (J (p 0) 11)) (p 4) 9 (J (p 4) 9))) (p 0) 9).toNatClampNeg) (Int32.ofInt 0) (x166F_148 p (((nt_u (nt_u (nt_u (nt_u (nt_u (nt_u (x166F_56 p (J (p 4) 9) ((Int32.ofInt 212).toNatClampNeg) (Int32.ofInt 0) J) (p 4) 0 (J (p 0) 7)) (p 4) 1 (J (p 0) 8)) (p 4) 2 (J (p 0) 9)) (p 4) 3 (J (p 0) 10)) (p 4) 5 (J (p 0) 11)) (p 4) 9 (J (p 4) 9)) (p 0) 8).toNatClampNeg) (Int32.ofInt 0) (nt_u (nt_u (nt_u (nt_u (nt_u (nt_u (x166F_56 p (J (p 4) 9) ((Int32.ofInt 212).toNatClampNeg) (Int32.ofInt 0) J) (p 4) 0 (J (p 0) 7)) (p 4) 1 (J (p 0) 8)) (p 4) 2 (J (p 0) 9)) (p 4) 3 (J (p 0) 10)) (p 4) 5 (J (p 0) 11)) (p 4) 9 (J (p 4) 9)))))) _ := k
    have k := ly_revb 1 (c' := (337, [(0, .ref (p 0)), (1, .int (J (p 4) 9)), (2, .int w2), (3, .int w3)], [.ref (p 0)], me_w M (x166F_285 p (((x166F_219 p (((x166F_148 p (((nt_u (nt_u (nt_u (nt_u (nt_u (nt_u (x166F_56 p (J (p 4) 9) ((Int32.ofInt 212).toNatClampNeg) (Int32.ofInt 0) J) (p 4) 0 (J (p 0) 7)) (p 4) 1 (J (p 0) 8)) (p 4) 2 (J (p 0) 9)) (p 4) 3 (J (p 0) 10)) (p 4) 5 (J (p 0) 11)) (p 4) 9 (J (p 4) 9)) (p 0) 8).toNatClampNeg) (Int32.ofInt 0) (nt_u (nt_u (nt_u (nt_u (nt_u (nt_u (x166F_56 p (J (p 4) 9) ((Int32.ofInt 212).toNatClampNeg) (Int32.ofInt 0) J) (p 4) 0 (J (p 0) 7)) (p 4) 1 (J (p 0) 8)) (p 4) 2 (J (p 0) 9)) (p 4) 3 (J (p 0) 10)) (p 4) 5 (J (p 0) 11)) (p 4) 9 (J (p 4) 9))) (p 0) 9).toNatClampNeg) (Int32.ofInt 0) (x166F_148 p (((nt_u (nt_u (nt_u (nt_u (nt_u (nt_u (x166F_56 p (J (p 4) 9) ((Int32.ofInt 212).toNatClampNeg) (Int32.ofInt 0) J) (p 4) 0 (J (p 0) 7)) (p 4) 1 (J (p 0) 8)) (p 4) 2 (J (p 0) 9)) (p 4) 3 (J (p 0) 10)) (p 4) 5 (J (p 0) 11)) (p 4) 9 (J (p 4) 9)) (p 0) 8).toNatClampNeg) (Int32.ofInt 0) (nt_u (nt_u (nt_u (nt_u (nt_u (nt_u (x166F_56 p (J (p 4) 9) ((Int32.ofInt 212).toNatClampNeg) (Int32.ofInt 0) J) (p 4) 0 (J (p 0) 7)) (p 4) 1 (J (p 0) 8)) (p 4) 2 (J (p 0) 9)) (p 4) 3 (J (p 0) 10)) (p 4) 5 (J (p 0) 11)) (p 4) 9 (J (p 4) 9)))) (p 0) 10).toNatClampNeg) (Int32.ofInt 0) (x166F_219 p (((x166F_148 p (((nt_u (nt_u (nt_u (nt_u (nt_u (nt_u (x166F_56 p (J (p 4) 9) ((Int32.ofInt 212).toNatClampNeg) (Int32.ofInt 0) J) (p 4) 0 (J (p 0) 7)) (p 4) 1 (J (p 0) 8)) (p 4) 2 (J (p 0) 9)) (p 4) 3 (J (p 0) 10)) (p 4) 5 (J (p 0) 11)) (p 4) 9 (J (p 4) 9)) (p 0) 8).toNatClampNeg) (Int32.ofInt 0) (nt_u (nt_u (nt_u (nt_u (nt_u (nt_u (x166F_56 p (J (p 4) 9) ((Int32.ofInt 212).toNatClampNeg) (Int32.ofInt 0) J) (p 4) 0 (J (p 0) 7)) (p 4) 1 (J (p 0) 8)) (p 4) 2 (J (p 0) 9)) (p 4) 3 (J (p 0) 10)) (p 4) 5 (J (p 0) 11)) (p 4) 9 (J (p 4) 9))) (p 0) 9).toNatClampNeg) (Int32.ofInt 0) (x166F_148 p (((nt_u (nt_u (nt_u (nt_u (nt_u (nt_u (x166F_56 p (J (p 4) 9) ((Int32.ofInt 212).toNatClampNeg) (Int32.ofInt 0) J) (p 4) 0 (J (p 0) 7)) (p 4) 1 (J (p 0) 8)) (p 4) 2 (J (p 0) 9)) (p 4) 3 (J (p 0) 10)) (p 4) 5 (J (p 0) 11)) (p 4) 9 (J (p 4) 9)) (p 0) 8).toNatClampNeg) (Int32.ofInt 0) (nt_u (nt_u (nt_u (nt_u (nt_u (nt_u (x166F_56 p (J (p 4) 9) ((Int32.ofInt 212).toNatClampNeg) (Int32.ofInt 0) J) (p 4) 0 (J (p 0) 7)) (p 4) 1 (J (p 0) 8)) (p 4) 2 (J (p 0) 9)) (p 4) 3 (J (p 0) 10)) (p 4) 5 (J (p 0) 11)) (p 4) 9 (J (p 4) 9))))))) rfl k
    have k := lz_get (a := (p 0)) (g := 1108) (M := me_w M (x166F_285 p (((x166F_219 p (((x166F_148 p (((nt_u (nt_u (nt_u (nt_u (nt_u (nt_u (x166F_56 p (J (p 4) 9) ((Int32.ofInt 212).toNatClampNeg) (Int32.ofInt 0) J) (p 4) 0 (J (p 0) 7)) (p 4) 1 (J (p 0) 8)) (p 4) 2 (J (p 0) 9)) (p 4) 3 (J (p 0) 10)) (p 4) 5 (J (p 0) 11)) (p 4) 9 (J (p 4) 9)) (p 0) 8).toNatClampNeg) (Int32.ofInt 0) (nt_u (nt_u (nt_u (nt_u (nt_u (nt_u (x166F_56 p (J (p 4) 9) ((Int32.ofInt 212).toNatClampNeg) (Int32.ofInt 0) J) (p 4) 0 (J (p 0) 7)) (p 4) 1 (J (p 0) 8)) (p 4) 2 (J (p 0) 9)) (p 4) 3 (J (p 0) 10)) (p 4) 5 (J (p 0) 11)) (p 4) 9 (J (p 4) 9))) (p 0) 9).toNatClampNeg) (Int32.ofInt 0) (x166F_148 p (((nt_u (nt_u (nt_u (nt_u (nt_u (nt_u (x166F_56 p (J (p 4) 9) ((Int32.ofInt 212).toNatClampNeg) (Int32.ofInt 0) J) (p 4) 0 (J (p 0) 7)) (p 4) 1 (J (p 0) 8)) (p 4) 2 (J (p 0) 9)) (p 4) 3 (J (p 0) 10)) (p 4) 5 (J (p 0) 11)) (p 4) 9 (J (p 4) 9)) (p 0) 8).toNatClampNeg) (Int32.ofInt 0) (nt_u (nt_u (nt_u (nt_u (nt_u (nt_u (x166F_56 p (J (p 4) 9) ((Int32.ofInt 212).toNatClampNeg) (Int32.ofInt 0) J) (p 4) 0 (J (p 0) 7)) (p 4) 1 (J (p 0) 8)) (p 4) 2 (J (p 0) 9)) (p 4) 3 (J (p 0) 10)) (p 4) 5 (J (p 0) 11)) (p 4) 9 (J (p 4) 9)))) (p 0) 10).toNatClampNeg) (Int32.ofInt 0) (x166F_219 p (((x166F_148 p (((nt_u (nt_u (nt_u (nt_u (nt_u (nt_u (x166F_56 p (J (p 4) 9) ((Int32.ofInt 212).toNatClampNeg) (Int32.ofInt 0) J) (p 4) 0 (J (p 0) 7)) (p 4) 1 (J (p 0) 8)) (p 4) 2 (J (p 0) 9)) (p 4) 3 (J (p 0) 10)) (p 4) 5 (J (p 0) 11)) (p 4) 9 (J (p 4) 9)) (p 0) 8).toNatClampNeg) (Int32.ofInt 0) (nt_u (nt_u (nt_u (nt_u (nt_u (nt_u (x166F_56 p (J (p 4) 9) ((Int32.ofInt 212).toNatClampNeg) (Int32.ofInt 0) J) (p 4) 0 (J (p 0) 7)) (p 4) 1 (J (p 0) 8)) (p 4) 2 (J (p 0) 9)) (p 4) 3 (J (p 0) 10)) (p 4) 5 (J (p 0) 11)) (p 4) 9 (J (p 4) 9))) (p 0) 9).toNatClampNeg) (Int32.ofInt 0) (x166F_148 p (((nt_u (nt_u (nt_u (nt_u (nt_u (nt_u (x166F_56 p (J (p 4) 9) ((Int32.ofInt 212).toNatClampNeg) (Int32.ofInt 0) J) (p 4) 0 (J (p 0) 7)) (p 4) 1 (J (p 0) 8)) (p 4) 2 (J (p 0) 9)) (p 4) 3 (J (p 0) 10)) (p 4) 5 (J (p 0) 11)) (p 4) 9 (J (p 4) 9)) (p 0) 8).toNatClampNeg) (Int32.ofInt 0) (nt_u (nt_u (nt_u (nt_u (nt_u (nt_u (x166F_56 p (J (p 4) 9) ((Int32.ofInt 212).toNatClampNeg) (Int32.ofInt 0) J) (p 4) 0 (J (p 0) 7)) (p 4) 1 (J (p 0) 8)) (p 4) 2 (J (p 0) 9)) (p 4) 3 (J (p 0) 10)) (p 4) 5 (J (p 0) 11)) (p 4) 9 (J (p 4) 9)))))) (v := .int (J (p 0) 8)) rfl (mw_gI (by decide) ((congrFun (x166F_285_frJ _ _ _ (hp.2.1 0 4 (by omega) (by omega) (by decide))) 8).trans ((congrFun (x166F_219_frJ _ _ _ (hp.2.1 0 4 (by omega) (by omega) (by decide))) 8).trans ((congrFun (x166F_148_frJ _ _ _ (hp.2.1 0 4 (by omega) (by omega) (by decide))) 8).trans ((mu_j (hp.2.1 0 4 (by omega) (by omega) (by decide))).trans ((mu_j (hp.2.1 0 4 (by omega) (by omega) (by decide))).trans ((mu_j (hp.2.1 0 4 (by omega) (by omega) (by decide))).trans ((mu_j (hp.2.1 0 4 (by omega) (by omega) (by decide))).trans ((mu_j (hp.2.1 0 4 (by omega) (by omega) (by decide))).trans ((mu_j (hp.2.1 0 4 (by omega) (by omega) (by decide))).trans (congrFun (x166F_56_frJ _ _ _ (hp.2.1 0 4 (by omega) (by omega) (by decide))) 8))))))))))) k
    have k := lz_ri rfl (by decide) k
    rw [k, x166F, if_pos h125]
  · rw [if_neg h125] at k
    have k := ly_revb 2 (c' := (137, [(0, .ref (p 0)), (1, .int (J (p 4) 9)), (2, .int w2)], [.int (Int32.ofInt 30), .int (Int32.ofInt 5), .ref (p 4)], me_w M (nt_u (nt_u (nt_u (nt_u (x166F_56 p (J (p 4) 9) ((Int32.ofInt 212).toNatClampNeg) (Int32.ofInt 0) J) (p 4) 0 (J (p 0) 7)) (p 4) 1 (J (p 0) 8)) (p 4) 2 (J (p 0) 9)) (p 4) 3 (J (p 0) 10)))) rfl k
    have k := mx_iast (q := 5) rfl (show (Int32.ofInt 5).toNatClampNeg = 5 from rfl) k
    have k : nt_rn X _ 166 (138, [(0, .ref (p 0)), (1, .int (J (p 4) 9)), (2, .int w2)], [], me_w M (nt_u (nt_u (nt_u (nt_u (nt_u (x166F_56 p (J (p 4) 9) ((Int32.ofInt 212).toNatClampNeg) (Int32.ofInt 0) J) (p 4) 0 (J (p 0) 7)) (p 4) 1 (J (p 0) 8)) (p 4) 2 (J (p 0) 9)) (p 4) 3 (J (p 0) 10)) (p 4) 5 (Int32.ofInt 30))) _ := k
    have k := ly_revb 1 (c' := (139, [(0, .ref (p 0)), (1, .int (J (p 4) 9)), (2, .int w2)], [.ref (p 0)], me_w M (nt_u (nt_u (nt_u (nt_u (nt_u (x166F_56 p (J (p 4) 9) ((Int32.ofInt 212).toNatClampNeg) (Int32.ofInt 0) J) (p 4) 0 (J (p 0) 7)) (p 4) 1 (J (p 0) 8)) (p 4) 2 (J (p 0) 9)) (p 4) 3 (J (p 0) 10)) (p 4) 5 (Int32.ofInt 30)))) rfl k
    have k := lz_get (a := (p 0)) (g := 1127) (M := me_w M (nt_u (nt_u (nt_u (nt_u (nt_u (x166F_56 p (J (p 4) 9) ((Int32.ofInt 212).toNatClampNeg) (Int32.ofInt 0) J) (p 4) 0 (J (p 0) 7)) (p 4) 1 (J (p 0) 8)) (p 4) 2 (J (p 0) 9)) (p 4) 3 (J (p 0) 10)) (p 4) 5 (Int32.ofInt 30))) (v := .ref (p 4)) rfl (nt_gfR rfl (mw_R (hp.1 (0, 27, 4) (by decide)))) k
    have k := ly_revb 2 (c' := (145, [(0, .ref (p 0)), (1, .int (J (p 4) 9)), (2, .int w2)], [.int (J (p 4) 9), .int (Int32.ofInt 9), .ref (p 4)], me_w M (nt_u (nt_u (nt_u (nt_u (nt_u (x166F_56 p (J (p 4) 9) ((Int32.ofInt 212).toNatClampNeg) (Int32.ofInt 0) J) (p 4) 0 (J (p 0) 7)) (p 4) 1 (J (p 0) 8)) (p 4) 2 (J (p 0) 9)) (p 4) 3 (J (p 0) 10)) (p 4) 5 (Int32.ofInt 30)))) rfl k
    have k := mx_iast (q := 9) rfl (show (Int32.ofInt 9).toNatClampNeg = 9 from rfl) k
    have k : nt_rn X _ 166 (146, [(0, .ref (p 0)), (1, .int (J (p 4) 9)), (2, .int w2)], [], me_w M (nt_u (nt_u (nt_u (nt_u (nt_u (nt_u (x166F_56 p (J (p 4) 9) ((Int32.ofInt 212).toNatClampNeg) (Int32.ofInt 0) J) (p 4) 0 (J (p 0) 7)) (p 4) 1 (J (p 0) 8)) (p 4) 2 (J (p 0) 9)) (p 4) 3 (J (p 0) 10)) (p 4) 5 (Int32.ofInt 30)) (p 4) 9 (J (p 4) 9))) _ := k
    have k := ly_revb 2 (c' := (148, [(2, .int (Int32.ofInt 0)), (0, .ref (p 0)), (1, .int (J (p 4) 9))], [], me_w M (nt_u (nt_u (nt_u (nt_u (nt_u (nt_u (x166F_56 p (J (p 4) 9) ((Int32.ofInt 212).toNatClampNeg) (Int32.ofInt 0) J) (p 4) 0 (J (p 0) 7)) (p 4) 1 (J (p 0) 8)) (p 4) 2 (J (p 0) 9)) (p 4) 3 (J (p 0) 10)) (p 4) 5 (Int32.ofInt 30)) (p 4) 9 (J (p 4) 9)))) rfl k
    have k := nt_rn_w (a := [(2, .int (Int32.ofInt 0)), (0, .ref (p 0)), (1, .int (J (p 4) 9))]) (b := [(0, .ref (p 0)), (1, .int (J (p 4) 9)), (2, .int (Int32.ofInt 0)), (3, .int (Int32.ofInt 0))]) ⟨rfl, rfl, rfl, trivial⟩ rfl k
    have k := xt166F_148 hp  (((nt_u (nt_u (nt_u (nt_u (nt_u (nt_u (x166F_56 p (J (p 4) 9) ((Int32.ofInt 212).toNatClampNeg) (Int32.ofInt 0) J) (p 4) 0 (J (p 0) 7)) (p 4) 1 (J (p 0) 8)) (p 4) 2 (J (p 0) 9)) (p 4) 3 (J (p 0) 10)) (p 4) 5 (Int32.ofInt 30)) (p 4) 9 (J (p 4) 9)) (p 0) 8).toNatClampNeg) (Int32.ofInt 0) (Int32.ofInt 0) (nt_u (nt_u (nt_u (nt_u (nt_u (nt_u (x166F_56 p (J (p 4) 9) ((Int32.ofInt 212).toNatClampNeg) (Int32.ofInt 0) J) (p 4) 0 (J (p 0) 7)) (p 4) 1 (J (p 0) 8)) (p 4) 2 (J (p 0) 9)) (p 4) 3 (J (p 0) 10)) (p 4) 5 (Int32.ofInt 30)) (p 4) 9 (J (p 4) 9)) (lx_beg (by decide)) k
    obtain ⟨w2, w3, k⟩ := k
    have k : nt_rn X _ 166 (217, [(0, .ref (p 0)), (1, .int (J (p 4) 9)), (2, .int w2), (3, .int w3)], [], me_w M (x166F_148 p (((nt_u (nt_u (nt_u (nt_u (nt_u (nt_u (x166F_56 p (J (p 4) 9) ((Int32.ofInt 212).toNatClampNeg) (Int32.ofInt 0) J) (p 4) 0 (J (p 0) 7)) (p 4) 1 (J (p 0) 8)) (p 4) 2 (J (p 0) 9)) (p 4) 3 (J (p 0) 10)) (p 4) 5 (Int32.ofInt 30)) (p 4) 9 (J (p 4) 9)) (p 0) 8).toNatClampNeg) (Int32.ofInt 0) (nt_u (nt_u (nt_u (nt_u (nt_u (nt_u (x166F_56 p (J (p 4) 9) ((Int32.ofInt 212).toNatClampNeg) (Int32.ofInt 0) J) (p 4) 0 (J (p 0) 7)) (p 4) 1 (J (p 0) 8)) (p 4) 2 (J (p 0) 9)) (p 4) 3 (J (p 0) 10)) (p 4) 5 (Int32.ofInt 30)) (p 4) 9 (J (p 4) 9)))) _ := k
    have k := ly_revb 2 (c' := (219, [(2, .int (Int32.ofInt 0)), (0, .ref (p 0)), (1, .int (J (p 4) 9)), (3, .int w3)], [], me_w M (x166F_148 p (((nt_u (nt_u (nt_u (nt_u (nt_u (nt_u (x166F_56 p (J (p 4) 9) ((Int32.ofInt 212).toNatClampNeg) (Int32.ofInt 0) J) (p 4) 0 (J (p 0) 7)) (p 4) 1 (J (p 0) 8)) (p 4) 2 (J (p 0) 9)) (p 4) 3 (J (p 0) 10)) (p 4) 5 (Int32.ofInt 30)) (p 4) 9 (J (p 4) 9)) (p 0) 8).toNatClampNeg) (Int32.ofInt 0) (nt_u (nt_u (nt_u (nt_u (nt_u (nt_u (x166F_56 p (J (p 4) 9) ((Int32.ofInt 212).toNatClampNeg) (Int32.ofInt 0) J) (p 4) 0 (J (p 0) 7)) (p 4) 1 (J (p 0) 8)) (p 4) 2 (J (p 0) 9)) (p 4) 3 (J (p 0) 10)) (p 4) 5 (Int32.ofInt 30)) (p 4) 9 (J (p 4) 9))))) rfl k
    have k := nt_rn_w (a := [(2, .int (Int32.ofInt 0)), (0, .ref (p 0)), (1, .int (J (p 4) 9)), (3, .int w3)]) (b := [(0, .ref (p 0)), (1, .int (J (p 4) 9)), (2, .int (Int32.ofInt 0)), (3, .int w3)]) ⟨rfl, rfl, rfl, rfl, trivial⟩ rfl k
    have k := xt166F_219 hp  (((x166F_148 p (((nt_u (nt_u (nt_u (nt_u (nt_u (nt_u (x166F_56 p (J (p 4) 9) ((Int32.ofInt 212).toNatClampNeg) (Int32.ofInt 0) J) (p 4) 0 (J (p 0) 7)) (p 4) 1 (J (p 0) 8)) (p 4) 2 (J (p 0) 9)) (p 4) 3 (J (p 0) 10)) (p 4) 5 (Int32.ofInt 30)) (p 4) 9 (J (p 4) 9)) (p 0) 8).toNatClampNeg) (Int32.ofInt 0) (nt_u (nt_u (nt_u (nt_u (nt_u (nt_u (x166F_56 p (J (p 4) 9) ((Int32.ofInt 212).toNatClampNeg) (Int32.ofInt 0) J) (p 4) 0 (J (p 0) 7)) (p 4) 1 (J (p 0) 8)) (p 4) 2 (J (p 0) 9)) (p 4) 3 (J (p 0) 10)) (p 4) 5 (Int32.ofInt 30)) (p 4) 9 (J (p 4) 9))) (p 0) 9).toNatClampNeg) (Int32.ofInt 0) w3 (x166F_148 p (((nt_u (nt_u (nt_u (nt_u (nt_u (nt_u (x166F_56 p (J (p 4) 9) ((Int32.ofInt 212).toNatClampNeg) (Int32.ofInt 0) J) (p 4) 0 (J (p 0) 7)) (p 4) 1 (J (p 0) 8)) (p 4) 2 (J (p 0) 9)) (p 4) 3 (J (p 0) 10)) (p 4) 5 (Int32.ofInt 30)) (p 4) 9 (J (p 4) 9)) (p 0) 8).toNatClampNeg) (Int32.ofInt 0) (nt_u (nt_u (nt_u (nt_u (nt_u (nt_u (x166F_56 p (J (p 4) 9) ((Int32.ofInt 212).toNatClampNeg) (Int32.ofInt 0) J) (p 4) 0 (J (p 0) 7)) (p 4) 1 (J (p 0) 8)) (p 4) 2 (J (p 0) 9)) (p 4) 3 (J (p 0) 10)) (p 4) 5 (Int32.ofInt 30)) (p 4) 9 (J (p 4) 9))) (lx_beg (by decide)) k
    obtain ⟨w2, w3, k⟩ := k
    have k : nt_rn X _ 166 (283, [(0, .ref (p 0)), (1, .int (J (p 4) 9)), (2, .int w2), (3, .int w3)], [], me_w M (x166F_219 p (((x166F_148 p (((nt_u (nt_u (nt_u (nt_u (nt_u (nt_u (x166F_56 p (J (p 4) 9) ((Int32.ofInt 212).toNatClampNeg) (Int32.ofInt 0) J) (p 4) 0 (J (p 0) 7)) (p 4) 1 (J (p 0) 8)) (p 4) 2 (J (p 0) 9)) (p 4) 3 (J (p 0) 10)) (p 4) 5 (Int32.ofInt 30)) (p 4) 9 (J (p 4) 9)) (p 0) 8).toNatClampNeg) (Int32.ofInt 0) (nt_u (nt_u (nt_u (nt_u (nt_u (nt_u (x166F_56 p (J (p 4) 9) ((Int32.ofInt 212).toNatClampNeg) (Int32.ofInt 0) J) (p 4) 0 (J (p 0) 7)) (p 4) 1 (J (p 0) 8)) (p 4) 2 (J (p 0) 9)) (p 4) 3 (J (p 0) 10)) (p 4) 5 (Int32.ofInt 30)) (p 4) 9 (J (p 4) 9))) (p 0) 9).toNatClampNeg) (Int32.ofInt 0) (x166F_148 p (((nt_u (nt_u (nt_u (nt_u (nt_u (nt_u (x166F_56 p (J (p 4) 9) ((Int32.ofInt 212).toNatClampNeg) (Int32.ofInt 0) J) (p 4) 0 (J (p 0) 7)) (p 4) 1 (J (p 0) 8)) (p 4) 2 (J (p 0) 9)) (p 4) 3 (J (p 0) 10)) (p 4) 5 (Int32.ofInt 30)) (p 4) 9 (J (p 4) 9)) (p 0) 8).toNatClampNeg) (Int32.ofInt 0) (nt_u (nt_u (nt_u (nt_u (nt_u (nt_u (x166F_56 p (J (p 4) 9) ((Int32.ofInt 212).toNatClampNeg) (Int32.ofInt 0) J) (p 4) 0 (J (p 0) 7)) (p 4) 1 (J (p 0) 8)) (p 4) 2 (J (p 0) 9)) (p 4) 3 (J (p 0) 10)) (p 4) 5 (Int32.ofInt 30)) (p 4) 9 (J (p 4) 9))))) _ := k
    have k := ly_revb 2 (c' := (285, [(2, .int (Int32.ofInt 0)), (0, .ref (p 0)), (1, .int (J (p 4) 9)), (3, .int w3)], [], me_w M (x166F_219 p (((x166F_148 p (((nt_u (nt_u (nt_u (nt_u (nt_u (nt_u (x166F_56 p (J (p 4) 9) ((Int32.ofInt 212).toNatClampNeg) (Int32.ofInt 0) J) (p 4) 0 (J (p 0) 7)) (p 4) 1 (J (p 0) 8)) (p 4) 2 (J (p 0) 9)) (p 4) 3 (J (p 0) 10)) (p 4) 5 (Int32.ofInt 30)) (p 4) 9 (J (p 4) 9)) (p 0) 8).toNatClampNeg) (Int32.ofInt 0) (nt_u (nt_u (nt_u (nt_u (nt_u (nt_u (x166F_56 p (J (p 4) 9) ((Int32.ofInt 212).toNatClampNeg) (Int32.ofInt 0) J) (p 4) 0 (J (p 0) 7)) (p 4) 1 (J (p 0) 8)) (p 4) 2 (J (p 0) 9)) (p 4) 3 (J (p 0) 10)) (p 4) 5 (Int32.ofInt 30)) (p 4) 9 (J (p 4) 9))) (p 0) 9).toNatClampNeg) (Int32.ofInt 0) (x166F_148 p (((nt_u (nt_u (nt_u (nt_u (nt_u (nt_u (x166F_56 p (J (p 4) 9) ((Int32.ofInt 212).toNatClampNeg) (Int32.ofInt 0) J) (p 4) 0 (J (p 0) 7)) (p 4) 1 (J (p 0) 8)) (p 4) 2 (J (p 0) 9)) (p 4) 3 (J (p 0) 10)) (p 4) 5 (Int32.ofInt 30)) (p 4) 9 (J (p 4) 9)) (p 0) 8).toNatClampNeg) (Int32.ofInt 0) (nt_u (nt_u (nt_u (nt_u (nt_u (nt_u (x166F_56 p (J (p 4) 9) ((Int32.ofInt 212).toNatClampNeg) (Int32.ofInt 0) J) (p 4) 0 (J (p 0) 7)) (p 4) 1 (J (p 0) 8)) (p 4) 2 (J (p 0) 9)) (p 4) 3 (J (p 0) 10)) (p 4) 5 (Int32.ofInt 30)) (p 4) 9 (J (p 4) 9)))))) rfl k
    have k := nt_rn_w (a := [(2, .int (Int32.ofInt 0)), (0, .ref (p 0)), (1, .int (J (p 4) 9)), (3, .int w3)]) (b := [(0, .ref (p 0)), (1, .int (J (p 4) 9)), (2, .int (Int32.ofInt 0)), (3, .int w3)]) ⟨rfl, rfl, rfl, rfl, trivial⟩ rfl k
    have k := xt166F_285 hp  (((x166F_219 p (((x166F_148 p (((nt_u (nt_u (nt_u (nt_u (nt_u (nt_u (x166F_56 p (J (p 4) 9) ((Int32.ofInt 212).toNatClampNeg) (Int32.ofInt 0) J) (p 4) 0 (J (p 0) 7)) (p 4) 1 (J (p 0) 8)) (p 4) 2 (J (p 0) 9)) (p 4) 3 (J (p 0) 10)) (p 4) 5 (Int32.ofInt 30)) (p 4) 9 (J (p 4) 9)) (p 0) 8).toNatClampNeg) (Int32.ofInt 0) (nt_u (nt_u (nt_u (nt_u (nt_u (nt_u (x166F_56 p (J (p 4) 9) ((Int32.ofInt 212).toNatClampNeg) (Int32.ofInt 0) J) (p 4) 0 (J (p 0) 7)) (p 4) 1 (J (p 0) 8)) (p 4) 2 (J (p 0) 9)) (p 4) 3 (J (p 0) 10)) (p 4) 5 (Int32.ofInt 30)) (p 4) 9 (J (p 4) 9))) (p 0) 9).toNatClampNeg) (Int32.ofInt 0) (x166F_148 p (((nt_u (nt_u (nt_u (nt_u (nt_u (nt_u (x166F_56 p (J (p 4) 9) ((Int32.ofInt 212).toNatClampNeg) (Int32.ofInt 0) J) (p 4) 0 (J (p 0) 7)) (p 4) 1 (J (p 0) 8)) (p 4) 2 (J (p 0) 9)) (p 4) 3 (J (p 0) 10)) (p 4) 5 (Int32.ofInt 30)) (p 4) 9 (J (p 4) 9)) (p 0) 8).toNatClampNeg) (Int32.ofInt 0) (nt_u (nt_u (nt_u (nt_u (nt_u (nt_u (x166F_56 p (J (p 4) 9) ((Int32.ofInt 212).toNatClampNeg) (Int32.ofInt 0) J) (p 4) 0 (J (p 0) 7)) (p 4) 1 (J (p 0) 8)) (p 4) 2 (J (p 0) 9)) (p 4) 3 (J (p 0) 10)) (p 4) 5 (Int32.ofInt 30)) (p 4) 9 (J (p 4) 9)))) (p 0) 10).toNatClampNeg) (Int32.ofInt 0) w3 (x166F_219 p (((x166F_148 p (((nt_u (nt_u (nt_u (nt_u (nt_u (nt_u (x166F_56 p (J (p 4) 9) ((Int32.ofInt 212).toNatClampNeg) (Int32.ofInt 0) J) (p 4) 0 (J (p 0) 7)) (p 4) 1 (J (p 0) 8)) (p 4) 2 (J (p 0) 9)) (p 4) 3 (J (p 0) 10)) (p 4) 5 (Int32.ofInt 30)) (p 4) 9 (J (p 4) 9)) (p 0) 8).toNatClampNeg) (Int32.ofInt 0) (nt_u (nt_u (nt_u (nt_u (nt_u (nt_u (x166F_56 p (J (p 4) 9) ((Int32.ofInt 212).toNatClampNeg) (Int32.ofInt 0) J) (p 4) 0 (J (p 0) 7)) (p 4) 1 (J (p 0) 8)) (p 4) 2 (J (p 0) 9)) (p 4) 3 (J (p 0) 10)) (p 4) 5 (Int32.ofInt 30)) (p 4) 9 (J (p 4) 9))) (p 0) 9).toNatClampNeg) (Int32.ofInt 0) (x166F_148 p (((nt_u (nt_u (nt_u (nt_u (nt_u (nt_u (x166F_56 p (J (p 4) 9) ((Int32.ofInt 212).toNatClampNeg) (Int32.ofInt 0) J) (p 4) 0 (J (p 0) 7)) (p 4) 1 (J (p 0) 8)) (p 4) 2 (J (p 0) 9)) (p 4) 3 (J (p 0) 10)) (p 4) 5 (Int32.ofInt 30)) (p 4) 9 (J (p 4) 9)) (p 0) 8).toNatClampNeg) (Int32.ofInt 0) (nt_u (nt_u (nt_u (nt_u (nt_u (nt_u (x166F_56 p (J (p 4) 9) ((Int32.ofInt 212).toNatClampNeg) (Int32.ofInt 0) J) (p 4) 0 (J (p 0) 7)) (p 4) 1 (J (p 0) 8)) (p 4) 2 (J (p 0) 9)) (p 4) 3 (J (p 0) 10)) (p 4) 5 (Int32.ofInt 30)) (p 4) 9 (J (p 4) 9)))) (lx_beg (by decide)) k
    obtain ⟨w2, w3, k⟩ := k
    have k : nt_rn X _ 166 (336, [(0, .ref (p 0)), (1, .int (J (p 4) 9)), (2, .int w2), (3, .int w3)], [], me_w M (x166F_285 p (((x166F_219 p (((x166F_148 p (((nt_u (nt_u (nt_u (nt_u (nt_u (nt_u (x166F_56 p (J (p 4) 9) ((Int32.ofInt 212).toNatClampNeg) (Int32.ofInt 0) J) (p 4) 0 (J (p 0) 7)) (p 4) 1 (J (p 0) 8)) (p 4) 2 (J (p 0) 9)) (p 4) 3 (J (p 0) 10)) (p 4) 5 (Int32.ofInt 30)) (p 4) 9 (J (p 4) 9)) (p 0) 8).toNatClampNeg) (Int32.ofInt 0) (nt_u (nt_u (nt_u (nt_u (nt_u (nt_u (x166F_56 p (J (p 4) 9) ((Int32.ofInt 212).toNatClampNeg) (Int32.ofInt 0) J) (p 4) 0 (J (p 0) 7)) (p 4) 1 (J (p 0) 8)) (p 4) 2 (J (p 0) 9)) (p 4) 3 (J (p 0) 10)) (p 4) 5 (Int32.ofInt 30)) (p 4) 9 (J (p 4) 9))) (p 0) 9).toNatClampNeg) (Int32.ofInt 0) (x166F_148 p (((nt_u (nt_u (nt_u (nt_u (nt_u (nt_u (x166F_56 p (J (p 4) 9) ((Int32.ofInt 212).toNatClampNeg) (Int32.ofInt 0) J) (p 4) 0 (J (p 0) 7)) (p 4) 1 (J (p 0) 8)) (p 4) 2 (J (p 0) 9)) (p 4) 3 (J (p 0) 10)) (p 4) 5 (Int32.ofInt 30)) (p 4) 9 (J (p 4) 9)) (p 0) 8).toNatClampNeg) (Int32.ofInt 0) (nt_u (nt_u (nt_u (nt_u (nt_u (nt_u (x166F_56 p (J (p 4) 9) ((Int32.ofInt 212).toNatClampNeg) (Int32.ofInt 0) J) (p 4) 0 (J (p 0) 7)) (p 4) 1 (J (p 0) 8)) (p 4) 2 (J (p 0) 9)) (p 4) 3 (J (p 0) 10)) (p 4) 5 (Int32.ofInt 30)) (p 4) 9 (J (p 4) 9)))) (p 0) 10).toNatClampNeg) (Int32.ofInt 0) (x166F_219 p (((x166F_148 p (((nt_u (nt_u (nt_u (nt_u (nt_u (nt_u (x166F_56 p (J (p 4) 9) ((Int32.ofInt 212).toNatClampNeg) (Int32.ofInt 0) J) (p 4) 0 (J (p 0) 7)) (p 4) 1 (J (p 0) 8)) (p 4) 2 (J (p 0) 9)) (p 4) 3 (J (p 0) 10)) (p 4) 5 (Int32.ofInt 30)) (p 4) 9 (J (p 4) 9)) (p 0) 8).toNatClampNeg) (Int32.ofInt 0) (nt_u (nt_u (nt_u (nt_u (nt_u (nt_u (x166F_56 p (J (p 4) 9) ((Int32.ofInt 212).toNatClampNeg) (Int32.ofInt 0) J) (p 4) 0 (J (p 0) 7)) (p 4) 1 (J (p 0) 8)) (p 4) 2 (J (p 0) 9)) (p 4) 3 (J (p 0) 10)) (p 4) 5 (Int32.ofInt 30)) (p 4) 9 (J (p 4) 9))) (p 0) 9).toNatClampNeg) (Int32.ofInt 0) (x166F_148 p (((nt_u (nt_u (nt_u (nt_u (nt_u (nt_u (x166F_56 p (J (p 4) 9) ((Int32.ofInt 212).toNatClampNeg) (Int32.ofInt 0) J) (p 4) 0 (J (p 0) 7)) (p 4) 1 (J (p 0) 8)) (p 4) 2 (J (p 0) 9)) (p 4) 3 (J (p 0) 10)) (p 4) 5 (Int32.ofInt 30)) (p 4) 9 (J (p 4) 9)) (p 0) 8).toNatClampNeg) (Int32.ofInt 0) (nt_u (nt_u (nt_u (nt_u (nt_u (nt_u (x166F_56 p (J (p 4) 9) ((Int32.ofInt 212).toNatClampNeg) (Int32.ofInt 0) J) (p 4) 0 (J (p 0) 7)) (p 4) 1 (J (p 0) 8)) (p 4) 2 (J (p 0) 9)) (p 4) 3 (J (p 0) 10)) (p 4) 5 (Int32.ofInt 30)) (p 4) 9 (J (p 4) 9)))))) _ := k
    have k := ly_revb 1 (c' := (337, [(0, .ref (p 0)), (1, .int (J (p 4) 9)), (2, .int w2), (3, .int w3)], [.ref (p 0)], me_w M (x166F_285 p (((x166F_219 p (((x166F_148 p (((nt_u (nt_u (nt_u (nt_u (nt_u (nt_u (x166F_56 p (J (p 4) 9) ((Int32.ofInt 212).toNatClampNeg) (Int32.ofInt 0) J) (p 4) 0 (J (p 0) 7)) (p 4) 1 (J (p 0) 8)) (p 4) 2 (J (p 0) 9)) (p 4) 3 (J (p 0) 10)) (p 4) 5 (Int32.ofInt 30)) (p 4) 9 (J (p 4) 9)) (p 0) 8).toNatClampNeg) (Int32.ofInt 0) (nt_u (nt_u (nt_u (nt_u (nt_u (nt_u (x166F_56 p (J (p 4) 9) ((Int32.ofInt 212).toNatClampNeg) (Int32.ofInt 0) J) (p 4) 0 (J (p 0) 7)) (p 4) 1 (J (p 0) 8)) (p 4) 2 (J (p 0) 9)) (p 4) 3 (J (p 0) 10)) (p 4) 5 (Int32.ofInt 30)) (p 4) 9 (J (p 4) 9))) (p 0) 9).toNatClampNeg) (Int32.ofInt 0) (x166F_148 p (((nt_u (nt_u (nt_u (nt_u (nt_u (nt_u (x166F_56 p (J (p 4) 9) ((Int32.ofInt 212).toNatClampNeg) (Int32.ofInt 0) J) (p 4) 0 (J (p 0) 7)) (p 4) 1 (J (p 0) 8)) (p 4) 2 (J (p 0) 9)) (p 4) 3 (J (p 0) 10)) (p 4) 5 (Int32.ofInt 30)) (p 4) 9 (J (p 4) 9)) (p 0) 8).toNatClampNeg) (Int32.ofInt 0) (nt_u (nt_u (nt_u (nt_u (nt_u (nt_u (x166F_56 p (J (p 4) 9) ((Int32.ofInt 212).toNatClampNeg) (Int32.ofInt 0) J) (p 4) 0 (J (p 0) 7)) (p 4) 1 (J (p 0) 8)) (p 4) 2 (J (p 0) 9)) (p 4) 3 (J (p 0) 10)) (p 4) 5 (Int32.ofInt 30)) (p 4) 9 (J (p 4) 9)))) (p 0) 10).toNatClampNeg) (Int32.ofInt 0) (x166F_219 p (((x166F_148 p (((nt_u (nt_u (nt_u (nt_u (nt_u (nt_u (x166F_56 p (J (p 4) 9) ((Int32.ofInt 212).toNatClampNeg) (Int32.ofInt 0) J) (p 4) 0 (J (p 0) 7)) (p 4) 1 (J (p 0) 8)) (p 4) 2 (J (p 0) 9)) (p 4) 3 (J (p 0) 10)) (p 4) 5 (Int32.ofInt 30)) (p 4) 9 (J (p 4) 9)) (p 0) 8).toNatClampNeg) (Int32.ofInt 0) (nt_u (nt_u (nt_u (nt_u (nt_u (nt_u (x166F_56 p (J (p 4) 9) ((Int32.ofInt 212).toNatClampNeg) (Int32.ofInt 0) J) (p 4) 0 (J (p 0) 7)) (p 4) 1 (J (p 0) 8)) (p 4) 2 (J (p 0) 9)) (p 4) 3 (J (p 0) 10)) (p 4) 5 (Int32.ofInt 30)) (p 4) 9 (J (p 4) 9))) (p 0) 9).toNatClampNeg) (Int32.ofInt 0) (x166F_148 p (((nt_u (nt_u (nt_u (nt_u (nt_u (nt_u (x166F_56 p (J (p 4) 9) ((Int32.ofInt 212).toNatClampNeg) (Int32.ofInt 0) J) (p 4) 0 (J (p 0) 7)) (p 4) 1 (J (p 0) 8)) (p 4) 2 (J (p 0) 9)) (p 4) 3 (J (p 0) 10)) (p 4) 5 (Int32.ofInt 30)) (p 4) 9 (J (p 4) 9)) (p 0) 8).toNatClampNeg) (Int32.ofInt 0) (nt_u (nt_u (nt_u (nt_u (nt_u (nt_u (x166F_56 p (J (p 4) 9) ((Int32.ofInt 212).toNatClampNeg) (Int32.ofInt 0) J) (p 4) 0 (J (p 0) 7)) (p 4) 1 (J (p 0) 8)) (p 4) 2 (J (p 0) 9)) (p 4) 3 (J (p 0) 10)) (p 4) 5 (Int32.ofInt 30)) (p 4) 9 (J (p 4) 9))))))) rfl k
    have k := lz_get (a := (p 0)) (g := 1108) (M := me_w M (x166F_285 p (((x166F_219 p (((x166F_148 p (((nt_u (nt_u (nt_u (nt_u (nt_u (nt_u (x166F_56 p (J (p 4) 9) ((Int32.ofInt 212).toNatClampNeg) (Int32.ofInt 0) J) (p 4) 0 (J (p 0) 7)) (p 4) 1 (J (p 0) 8)) (p 4) 2 (J (p 0) 9)) (p 4) 3 (J (p 0) 10)) (p 4) 5 (Int32.ofInt 30)) (p 4) 9 (J (p 4) 9)) (p 0) 8).toNatClampNeg) (Int32.ofInt 0) (nt_u (nt_u (nt_u (nt_u (nt_u (nt_u (x166F_56 p (J (p 4) 9) ((Int32.ofInt 212).toNatClampNeg) (Int32.ofInt 0) J) (p 4) 0 (J (p 0) 7)) (p 4) 1 (J (p 0) 8)) (p 4) 2 (J (p 0) 9)) (p 4) 3 (J (p 0) 10)) (p 4) 5 (Int32.ofInt 30)) (p 4) 9 (J (p 4) 9))) (p 0) 9).toNatClampNeg) (Int32.ofInt 0) (x166F_148 p (((nt_u (nt_u (nt_u (nt_u (nt_u (nt_u (x166F_56 p (J (p 4) 9) ((Int32.ofInt 212).toNatClampNeg) (Int32.ofInt 0) J) (p 4) 0 (J (p 0) 7)) (p 4) 1 (J (p 0) 8)) (p 4) 2 (J (p 0) 9)) (p 4) 3 (J (p 0) 10)) (p 4) 5 (Int32.ofInt 30)) (p 4) 9 (J (p 4) 9)) (p 0) 8).toNatClampNeg) (Int32.ofInt 0) (nt_u (nt_u (nt_u (nt_u (nt_u (nt_u (x166F_56 p (J (p 4) 9) ((Int32.ofInt 212).toNatClampNeg) (Int32.ofInt 0) J) (p 4) 0 (J (p 0) 7)) (p 4) 1 (J (p 0) 8)) (p 4) 2 (J (p 0) 9)) (p 4) 3 (J (p 0) 10)) (p 4) 5 (Int32.ofInt 30)) (p 4) 9 (J (p 4) 9)))) (p 0) 10).toNatClampNeg) (Int32.ofInt 0) (x166F_219 p (((x166F_148 p (((nt_u (nt_u (nt_u (nt_u (nt_u (nt_u (x166F_56 p (J (p 4) 9) ((Int32.ofInt 212).toNatClampNeg) (Int32.ofInt 0) J) (p 4) 0 (J (p 0) 7)) (p 4) 1 (J (p 0) 8)) (p 4) 2 (J (p 0) 9)) (p 4) 3 (J (p 0) 10)) (p 4) 5 (Int32.ofInt 30)) (p 4) 9 (J (p 4) 9)) (p 0) 8).toNatClampNeg) (Int32.ofInt 0) (nt_u (nt_u (nt_u (nt_u (nt_u (nt_u (x166F_56 p (J (p 4) 9) ((Int32.ofInt 212).toNatClampNeg) (Int32.ofInt 0) J) (p 4) 0 (J (p 0) 7)) (p 4) 1 (J (p 0) 8)) (p 4) 2 (J (p 0) 9)) (p 4) 3 (J (p 0) 10)) (p 4) 5 (Int32.ofInt 30)) (p 4) 9 (J (p 4) 9))) (p 0) 9).toNatClampNeg) (Int32.ofInt 0) (x166F_148 p (((nt_u (nt_u (nt_u (nt_u (nt_u (nt_u (x166F_56 p (J (p 4) 9) ((Int32.ofInt 212).toNatClampNeg) (Int32.ofInt 0) J) (p 4) 0 (J (p 0) 7)) (p 4) 1 (J (p 0) 8)) (p 4) 2 (J (p 0) 9)) (p 4) 3 (J (p 0) 10)) (p 4) 5 (Int32.ofInt 30)) (p 4) 9 (J (p 4) 9)) (p 0) 8).toNatClampNeg) (Int32.ofInt 0) (nt_u (nt_u (nt_u (nt_u (nt_u (nt_u (x166F_56 p (J (p 4) 9) ((Int32.ofInt 212).toNatClampNeg) (Int32.ofInt 0) J) (p 4) 0 (J (p 0) 7)) (p 4) 1 (J (p 0) 8)) (p 4) 2 (J (p 0) 9)) (p 4) 3 (J (p 0) 10)) (p 4) 5 (Int32.ofInt 30)) (p 4) 9 (J (p 4) 9)))))) (v := .int (J (p 0) 8)) rfl (mw_gI (by decide) ((congrFun (x166F_285_frJ _ _ _ (hp.2.1 0 4 (by omega) (by omega) (by decide))) 8).trans ((congrFun (x166F_219_frJ _ _ _ (hp.2.1 0 4 (by omega) (by omega) (by decide))) 8).trans ((congrFun (x166F_148_frJ _ _ _ (hp.2.1 0 4 (by omega) (by omega) (by decide))) 8).trans ((mu_j (hp.2.1 0 4 (by omega) (by omega) (by decide))).trans ((mu_j (hp.2.1 0 4 (by omega) (by omega) (by decide))).trans ((mu_j (hp.2.1 0 4 (by omega) (by omega) (by decide))).trans ((mu_j (hp.2.1 0 4 (by omega) (by omega) (by decide))).trans ((mu_j (hp.2.1 0 4 (by omega) (by omega) (by decide))).trans ((mu_j (hp.2.1 0 4 (by omega) (by omega) (by decide))).trans (congrFun (x166F_56_frJ _ _ _ (hp.2.1 0 4 (by omega) (by omega) (by decide))) 8))))))))))) k
    have k := lz_ri rfl (by decide) k
    rw [k, x166F, if_neg h125]
end
section
/-! the other side reads a yard -/
def lb_hh (h : Nat) : Int32 := if h = 0 then Int32.ofInt (-1) else nI h
def yr_C (R0 R1 R2 B Sg Ln : Nat) (C : lb_C) (J : Nat → Nat → Int32) : Prop := ((R0 ≠ B ∧ R0 ≠ Sg ∧ R0 ≠ Ln) ∧ (R1 ≠ B ∧ R1 ≠ Sg ∧ R1 ≠ Ln) ∧ (R2 ≠ B ∧ R2 ≠ Sg ∧ R2 ≠ Ln)) ∧ (R0 ≠ R1 ∧ R0 ≠ R2 ∧ R1 ≠ R2) ∧ (∀ n, J R0 n = C 5 n) ∧ (∀ n, J R1 (3 * n + 0) = C 6 n ∧ J R1 (3 * n + 1) = C 7 n ∧ J R1 (3 * n + 2) = C 8 n) ∧ (∀ n, J R2 (4 * n + 0) = C 9 n ∧ J R2 (4 * n + 1) = C 10 n ∧ J R2 (4 * n + 2) = C 11 n ∧ J R2 (4 * n + 3) = C 12 n)
theorem yr_Cr {R0 R1 R2 B Sg Ln : Nat} {C : lb_C} {J J' : Nat → Nat → Int32} (h : yr_C R0 R1 R2 B Sg Ln C J) (e : ∀ a, a ≠ B → a ≠ Sg → a ≠ Ln → J' a = J a) : yr_C R0 R1 R2 B Sg Ln C J' := by
  obtain ⟨⟨⟨a1, a2, a3⟩, ⟨b1, b2, b3⟩, ⟨c1, c2, c3⟩⟩, n, h0, h1, h2⟩ := h
  refine ⟨⟨⟨a1, a2, a3⟩, ⟨b1, b2, b3⟩, ⟨c1, c2, c3⟩⟩, n, ?_, ?_, ?_⟩
  · rw [e R0 a1 a2 a3]; exact h0
  · rw [e R1 b1 b2 b3]; exact h1
  · rw [e R2 c1 c2 c3]; exact h2
theorem yr_C0 {R0 R1 R2 B Sg Ln n j : Nat} {x : Int32} {C : lb_C} {J : Nat → Nat → Int32} (ej : j = n) (h : yr_C R0 R1 R2 B Sg Ln C J) : yr_C R0 R1 R2 B Sg Ln (nt_u C 5 n x) (nt_u J R0 j x) := by
  subst ej
  obtain ⟨ha, ⟨n1, n2, n3⟩, h0, h1, h2⟩ := h
  refine ⟨ha, ⟨n1, n2, n3⟩, fun m => ?_, fun m => ?_, fun m => ?_⟩
  · by_cases e : m = j
    · subst e
      rw [me_us, me_us]
    · rw [me_uk e, me_uk e]
      exact h0 m
  · rw [me_uo (Ne.symm n1), me_uo (by decide), me_uo (by decide), me_uo (by decide)]
    exact h1 m
  · rw [me_uo (Ne.symm n2), me_uo (by decide), me_uo (by decide), me_uo (by decide), me_uo (by decide)]
    exact h2 m
theorem yr_C10 {R0 R1 R2 B Sg Ln n j : Nat} {x : Int32} {C : lb_C} {J : Nat → Nat → Int32} (ej : j = 3 * n + 0) (h : yr_C R0 R1 R2 B Sg Ln C J) : yr_C R0 R1 R2 B Sg Ln (nt_u C 6 n x) (nt_u J R1 j x) := by
  subst ej
  obtain ⟨ha, ⟨n1, n2, n3⟩, h0, h1, h2⟩ := h
  refine ⟨ha, ⟨n1, n2, n3⟩, fun m => ?_, fun m => ⟨?_, ?_, ?_⟩, fun m => ?_⟩
  · rw [me_uo n1, me_uo (by decide)]
    exact h0 m
  · by_cases e : m = n
    · subst e
      rw [me_us, me_us]
    · rw [me_uk (by omega), me_uk e]
      exact (h1 m).1
  · rw [me_uk (by omega), me_uo (by decide)]
    exact (h1 m).2.1
  · rw [me_uk (by omega), me_uo (by decide)]
    exact (h1 m).2.2
  · rw [me_uo (Ne.symm n3), me_uo (by decide), me_uo (by decide), me_uo (by decide), me_uo (by decide)]
    exact h2 m
theorem yr_C11 {R0 R1 R2 B Sg Ln n j : Nat} {x : Int32} {C : lb_C} {J : Nat → Nat → Int32} (ej : j = 3 * n + 1) (h : yr_C R0 R1 R2 B Sg Ln C J) : yr_C R0 R1 R2 B Sg Ln (nt_u C 7 n x) (nt_u J R1 j x) := by
  subst ej
  obtain ⟨ha, ⟨n1, n2, n3⟩, h0, h1, h2⟩ := h
  refine ⟨ha, ⟨n1, n2, n3⟩, fun m => ?_, fun m => ⟨?_, ?_, ?_⟩, fun m => ?_⟩
  · rw [me_uo n1, me_uo (by decide)]
    exact h0 m
  · rw [me_uk (by omega), me_uo (by decide)]
    exact (h1 m).1
  · by_cases e : m = n
    · subst e
      rw [me_us, me_us]
    · rw [me_uk (by omega), me_uk e]
      exact (h1 m).2.1
  · rw [me_uk (by omega), me_uo (by decide)]
    exact (h1 m).2.2
  · rw [me_uo (Ne.symm n3), me_uo (by decide), me_uo (by decide), me_uo (by decide), me_uo (by decide)]
    exact h2 m
theorem yr_C12 {R0 R1 R2 B Sg Ln n j : Nat} {x : Int32} {C : lb_C} {J : Nat → Nat → Int32} (ej : j = 3 * n + 2) (h : yr_C R0 R1 R2 B Sg Ln C J) : yr_C R0 R1 R2 B Sg Ln (nt_u C 8 n x) (nt_u J R1 j x) := by
  subst ej
  obtain ⟨ha, ⟨n1, n2, n3⟩, h0, h1, h2⟩ := h
  refine ⟨ha, ⟨n1, n2, n3⟩, fun m => ?_, fun m => ⟨?_, ?_, ?_⟩, fun m => ?_⟩
  · rw [me_uo n1, me_uo (by decide)]
    exact h0 m
  · rw [me_uk (by omega), me_uo (by decide)]
    exact (h1 m).1
  · rw [me_uk (by omega), me_uo (by decide)]
    exact (h1 m).2.1
  · by_cases e : m = n
    · subst e
      rw [me_us, me_us]
    · rw [me_uk (by omega), me_uk e]
      exact (h1 m).2.2
  · rw [me_uo (Ne.symm n3), me_uo (by decide), me_uo (by decide), me_uo (by decide), me_uo (by decide)]
    exact h2 m
theorem yr_C20 {R0 R1 R2 B Sg Ln n j : Nat} {x : Int32} {C : lb_C} {J : Nat → Nat → Int32} (ej : j = 4 * n + 0) (h : yr_C R0 R1 R2 B Sg Ln C J) : yr_C R0 R1 R2 B Sg Ln (nt_u C 9 n x) (nt_u J R2 j x) := by
  subst ej
  obtain ⟨ha, ⟨n1, n2, n3⟩, h0, h1, h2⟩ := h
  refine ⟨ha, ⟨n1, n2, n3⟩, fun m => ?_, fun m => ?_, fun m => ⟨?_, ?_, ?_, ?_⟩⟩
  · rw [me_uo n2, me_uo (by decide)]
    exact h0 m
  · rw [me_uo n3, me_uo (by decide), me_uo (by decide), me_uo (by decide)]
    exact h1 m
  · by_cases e : m = n
    · subst e
      rw [me_us, me_us]
    · rw [me_uk (by omega), me_uk e]
      exact (h2 m).1
  · rw [me_uk (by omega), me_uo (by decide)]
    exact (h2 m).2.1
  · rw [me_uk (by omega), me_uo (by decide)]
    exact (h2 m).2.2.1
  · rw [me_uk (by omega), me_uo (by decide)]
    exact (h2 m).2.2.2
theorem yr_C21 {R0 R1 R2 B Sg Ln n j : Nat} {x : Int32} {C : lb_C} {J : Nat → Nat → Int32} (ej : j = 4 * n + 1) (h : yr_C R0 R1 R2 B Sg Ln C J) : yr_C R0 R1 R2 B Sg Ln (nt_u C 10 n x) (nt_u J R2 j x) := by
  subst ej
  obtain ⟨ha, ⟨n1, n2, n3⟩, h0, h1, h2⟩ := h
  refine ⟨ha, ⟨n1, n2, n3⟩, fun m => ?_, fun m => ?_, fun m => ⟨?_, ?_, ?_, ?_⟩⟩
  · rw [me_uo n2, me_uo (by decide)]
    exact h0 m
  · rw [me_uo n3, me_uo (by decide), me_uo (by decide), me_uo (by decide)]
    exact h1 m
  · rw [me_uk (by omega), me_uo (by decide)]
    exact (h2 m).1
  · by_cases e : m = n
    · subst e
      rw [me_us, me_us]
    · rw [me_uk (by omega), me_uk e]
      exact (h2 m).2.1
  · rw [me_uk (by omega), me_uo (by decide)]
    exact (h2 m).2.2.1
  · rw [me_uk (by omega), me_uo (by decide)]
    exact (h2 m).2.2.2
theorem yr_C22 {R0 R1 R2 B Sg Ln n j : Nat} {x : Int32} {C : lb_C} {J : Nat → Nat → Int32} (ej : j = 4 * n + 2) (h : yr_C R0 R1 R2 B Sg Ln C J) : yr_C R0 R1 R2 B Sg Ln (nt_u C 11 n x) (nt_u J R2 j x) := by
  subst ej
  obtain ⟨ha, ⟨n1, n2, n3⟩, h0, h1, h2⟩ := h
  refine ⟨ha, ⟨n1, n2, n3⟩, fun m => ?_, fun m => ?_, fun m => ⟨?_, ?_, ?_, ?_⟩⟩
  · rw [me_uo n2, me_uo (by decide)]
    exact h0 m
  · rw [me_uo n3, me_uo (by decide), me_uo (by decide), me_uo (by decide)]
    exact h1 m
  · rw [me_uk (by omega), me_uo (by decide)]
    exact (h2 m).1
  · rw [me_uk (by omega), me_uo (by decide)]
    exact (h2 m).2.1
  · by_cases e : m = n
    · subst e
      rw [me_us, me_us]
    · rw [me_uk (by omega), me_uk e]
      exact (h2 m).2.2.1
  · rw [me_uk (by omega), me_uo (by decide)]
    exact (h2 m).2.2.2
theorem yr_C23 {R0 R1 R2 B Sg Ln n j : Nat} {x : Int32} {C : lb_C} {J : Nat → Nat → Int32} (ej : j = 4 * n + 3) (h : yr_C R0 R1 R2 B Sg Ln C J) : yr_C R0 R1 R2 B Sg Ln (nt_u C 12 n x) (nt_u J R2 j x) := by
  subst ej
  obtain ⟨ha, ⟨n1, n2, n3⟩, h0, h1, h2⟩ := h
  refine ⟨ha, ⟨n1, n2, n3⟩, fun m => ?_, fun m => ?_, fun m => ⟨?_, ?_, ?_, ?_⟩⟩
  · rw [me_uo n2, me_uo (by decide)]
    exact h0 m
  · rw [me_uo n3, me_uo (by decide), me_uo (by decide), me_uo (by decide)]
    exact h1 m
  · rw [me_uk (by omega), me_uo (by decide)]
    exact (h2 m).1
  · rw [me_uk (by omega), me_uo (by decide)]
    exact (h2 m).2.1
  · rw [me_uk (by omega), me_uo (by decide)]
    exact (h2 m).2.2.1
  · by_cases e : m = n
    · subst e
      rw [me_us, me_us]
    · rw [me_uk (by omega), me_uk e]
      exact (h2 m).2.2.2
def yr_T (R0 R1 R2 : Nat) (C : lb_C) (M : nt_M) (f : Nat → Int32) (t B Tb Sg Ln q : Nat) (wr : Int32) (m : Nat) (e : Nat × (Nat → Int32)) (u : Nat × Nat × Nat × Nat × Nat) (li : Nat) (J : Nat → Nat → Int32) : Prop := md_P M J f t 6 B Tb Sg Ln ∧ md_S J B Sg Ln 6 q wr m e J ∧ (J B 7 = nI u.1 ∧ J B 8 = nI u.2.1 ∧ J B 9 = nI u.2.2.1 ∧ J B 10 = nI u.2.2.2.1 ∧ J B 11 = lb_hh u.2.2.2.2) ∧ J B 21 = nI li ∧ yr_C R0 R1 R2 B Sg Ln C J
theorem yr_up {R0 R1 R2 : Nat} {C : lb_C} {M : nt_M} {f : Nat → Int32} {t B Tb Sg Ln q m li : Nat} {wr : Int32} {e : Nat × (Nat → Int32)} {u : Nat × Nat × Nat × Nat × Nat} {J : Nat → Nat → Int32} (hT : yr_T R0 R1 R2 C M f t B Tb Sg Ln q wr m e u li J) {J' : Nat → Nat → Int32} {q' m' : Nat} {wr' : Int32} {e' : Nat × (Nat → Int32)} (hS : md_S J B Sg Ln 6 q' wr' m' e' J') : yr_T R0 R1 R2 C M f t B Tb Sg Ln q' wr' m' e' u li J' := by
  obtain ⟨⟨p1, p2, p3, p4, p5, p6⟩, h1, ⟨c1, c2, c3, c4, c5⟩, c6, c7⟩ := hT
  have b1 := hS.2.2.2.2.2.1
  have b2 := hS.2.2.2.2.2.2.1
  exact ⟨⟨p1, p2, (b1 1 (by decide) (by decide) (by decide) (by decide)).trans p3, (b1 18 (by decide) (by decide) (by decide) (by decide)).trans p4, fun j => by rw [b2 Tb p2.1 p2.2.1 p2.2.2.1]; exact p5 j, p6⟩, md_Sself hS, ⟨(b1 7 (by decide) (by decide) (by decide) (by decide)).trans c1, (b1 8 (by decide) (by decide) (by decide) (by decide)).trans c2, (b1 9 (by decide) (by decide) (by decide) (by decide)).trans c3, (b1 10 (by decide) (by decide) (by decide) (by decide)).trans c4, (b1 11 (by decide) (by decide) (by decide) (by decide)).trans c5⟩, (b1 21 (by decide) (by decide) (by decide) (by decide)).trans c6, yr_Cr c7 b2⟩
theorem yr_u0 {R0 R1 R2 : Nat} {C : lb_C} {M : nt_M} {f : Nat → Int32} {t B Tb Sg Ln q m li : Nat} {wr : Int32} {e : Nat × (Nat → Int32)} {u : Nat × Nat × Nat × Nat × Nat} {J : Nat → Nat → Int32} {y : Nat} (hT : yr_T R0 R1 R2 C M f t B Tb Sg Ln q wr m e u li J) : yr_T R0 R1 R2 C M f t B Tb Sg Ln q wr m e (y, u.2.1, u.2.2.1, u.2.2.2.1, u.2.2.2.2) li (nt_u J B 7 (nI y)) := by
  obtain ⟨⟨p1, p2, p3, p4, p5, p6⟩, ⟨a1, a2, a3, a4, a5, a6, a7, a8⟩, ⟨c1, c2, c3, c4, c5⟩, c6, c7⟩ := hT
  have n1 := p2.2.2.2.1
  have n2 := p2.2.2.2.2.1
  exact ⟨⟨p1, p2, (me_uk (by decide)).trans p3, (me_uk (by decide)).trans p4, fun j => (me_uj p2.1).trans (p5 j), p6⟩, ⟨(me_uk (by decide)).trans a1, (me_uk (by decide)).trans a2, (me_uk (by decide)).trans a3, (me_uj (Ne.symm n2)).trans a4, fun j hj => (me_uj (Ne.symm n1)).trans (a5 j hj), fun _ _ _ _ _ => rfl, fun _ _ _ _ => rfl, a8⟩, ⟨me_us, (me_uk (by decide)).trans c2, (me_uk (by decide)).trans c3, (me_uk (by decide)).trans c4, (me_uk (by decide)).trans c5⟩, (me_uk (by decide)).trans c6, yr_Cr c7 (fun a h1 _ _ => me_uo h1)⟩
theorem yr_u1 {R0 R1 R2 : Nat} {C : lb_C} {M : nt_M} {f : Nat → Int32} {t B Tb Sg Ln q m li : Nat} {wr : Int32} {e : Nat × (Nat → Int32)} {u : Nat × Nat × Nat × Nat × Nat} {J : Nat → Nat → Int32} {y : Nat} (hT : yr_T R0 R1 R2 C M f t B Tb Sg Ln q wr m e u li J) : yr_T R0 R1 R2 C M f t B Tb Sg Ln q wr m e (u.1, y, u.2.2.1, u.2.2.2.1, u.2.2.2.2) li (nt_u J B 8 (nI y)) := by
  obtain ⟨⟨p1, p2, p3, p4, p5, p6⟩, ⟨a1, a2, a3, a4, a5, a6, a7, a8⟩, ⟨c1, c2, c3, c4, c5⟩, c6, c7⟩ := hT
  have n1 := p2.2.2.2.1
  have n2 := p2.2.2.2.2.1
  exact ⟨⟨p1, p2, (me_uk (by decide)).trans p3, (me_uk (by decide)).trans p4, fun j => (me_uj p2.1).trans (p5 j), p6⟩, ⟨(me_uk (by decide)).trans a1, (me_uk (by decide)).trans a2, (me_uk (by decide)).trans a3, (me_uj (Ne.symm n2)).trans a4, fun j hj => (me_uj (Ne.symm n1)).trans (a5 j hj), fun _ _ _ _ _ => rfl, fun _ _ _ _ => rfl, a8⟩, ⟨(me_uk (by decide)).trans c1, me_us, (me_uk (by decide)).trans c3, (me_uk (by decide)).trans c4, (me_uk (by decide)).trans c5⟩, (me_uk (by decide)).trans c6, yr_Cr c7 (fun a h1 _ _ => me_uo h1)⟩
theorem yr_u2 {R0 R1 R2 : Nat} {C : lb_C} {M : nt_M} {f : Nat → Int32} {t B Tb Sg Ln q m li : Nat} {wr : Int32} {e : Nat × (Nat → Int32)} {u : Nat × Nat × Nat × Nat × Nat} {J : Nat → Nat → Int32} {y : Nat} (hT : yr_T R0 R1 R2 C M f t B Tb Sg Ln q wr m e u li J) : yr_T R0 R1 R2 C M f t B Tb Sg Ln q wr m e (u.1, u.2.1, y, u.2.2.2.1, u.2.2.2.2) li (nt_u J B 9 (nI y)) := by
  obtain ⟨⟨p1, p2, p3, p4, p5, p6⟩, ⟨a1, a2, a3, a4, a5, a6, a7, a8⟩, ⟨c1, c2, c3, c4, c5⟩, c6, c7⟩ := hT
  have n1 := p2.2.2.2.1
  have n2 := p2.2.2.2.2.1
  exact ⟨⟨p1, p2, (me_uk (by decide)).trans p3, (me_uk (by decide)).trans p4, fun j => (me_uj p2.1).trans (p5 j), p6⟩, ⟨(me_uk (by decide)).trans a1, (me_uk (by decide)).trans a2, (me_uk (by decide)).trans a3, (me_uj (Ne.symm n2)).trans a4, fun j hj => (me_uj (Ne.symm n1)).trans (a5 j hj), fun _ _ _ _ _ => rfl, fun _ _ _ _ => rfl, a8⟩, ⟨(me_uk (by decide)).trans c1, (me_uk (by decide)).trans c2, me_us, (me_uk (by decide)).trans c4, (me_uk (by decide)).trans c5⟩, (me_uk (by decide)).trans c6, yr_Cr c7 (fun a h1 _ _ => me_uo h1)⟩
theorem yr_u3 {R0 R1 R2 : Nat} {C : lb_C} {M : nt_M} {f : Nat → Int32} {t B Tb Sg Ln q m li : Nat} {wr : Int32} {e : Nat × (Nat → Int32)} {u : Nat × Nat × Nat × Nat × Nat} {J : Nat → Nat → Int32} {y : Nat} (hT : yr_T R0 R1 R2 C M f t B Tb Sg Ln q wr m e u li J) : yr_T R0 R1 R2 C M f t B Tb Sg Ln q wr m e (u.1, u.2.1, u.2.2.1, y, u.2.2.2.2) li (nt_u J B 10 (nI y)) := by
  obtain ⟨⟨p1, p2, p3, p4, p5, p6⟩, ⟨a1, a2, a3, a4, a5, a6, a7, a8⟩, ⟨c1, c2, c3, c4, c5⟩, c6, c7⟩ := hT
  have n1 := p2.2.2.2.1
  have n2 := p2.2.2.2.2.1
  exact ⟨⟨p1, p2, (me_uk (by decide)).trans p3, (me_uk (by decide)).trans p4, fun j => (me_uj p2.1).trans (p5 j), p6⟩, ⟨(me_uk (by decide)).trans a1, (me_uk (by decide)).trans a2, (me_uk (by decide)).trans a3, (me_uj (Ne.symm n2)).trans a4, fun j hj => (me_uj (Ne.symm n1)).trans (a5 j hj), fun _ _ _ _ _ => rfl, fun _ _ _ _ => rfl, a8⟩, ⟨(me_uk (by decide)).trans c1, (me_uk (by decide)).trans c2, (me_uk (by decide)).trans c3, me_us, (me_uk (by decide)).trans c5⟩, (me_uk (by decide)).trans c6, yr_Cr c7 (fun a h1 _ _ => me_uo h1)⟩
theorem yr_u4 {R0 R1 R2 : Nat} {C : lb_C} {M : nt_M} {f : Nat → Int32} {t B Tb Sg Ln q m li : Nat} {wr : Int32} {e : Nat × (Nat → Int32)} {u : Nat × Nat × Nat × Nat × Nat} {J : Nat → Nat → Int32} {y : Nat} (hT : yr_T R0 R1 R2 C M f t B Tb Sg Ln q wr m e u li J) : yr_T R0 R1 R2 C M f t B Tb Sg Ln q wr m e (u.1, u.2.1, u.2.2.1, u.2.2.2.1, y) li (nt_u J B 11 (lb_hh y)) := by
  obtain ⟨⟨p1, p2, p3, p4, p5, p6⟩, ⟨a1, a2, a3, a4, a5, a6, a7, a8⟩, ⟨c1, c2, c3, c4, c5⟩, c6, c7⟩ := hT
  have n1 := p2.2.2.2.1
  have n2 := p2.2.2.2.2.1
  exact ⟨⟨p1, p2, (me_uk (by decide)).trans p3, (me_uk (by decide)).trans p4, fun j => (me_uj p2.1).trans (p5 j), p6⟩, ⟨(me_uk (by decide)).trans a1, (me_uk (by decide)).trans a2, (me_uk (by decide)).trans a3, (me_uj (Ne.symm n2)).trans a4, fun j hj => (me_uj (Ne.symm n1)).trans (a5 j hj), fun _ _ _ _ _ => rfl, fun _ _ _ _ => rfl, a8⟩, ⟨(me_uk (by decide)).trans c1, (me_uk (by decide)).trans c2, (me_uk (by decide)).trans c3, (me_uk (by decide)).trans c4, me_us⟩, (me_uk (by decide)).trans c6, yr_Cr c7 (fun a h1 _ _ => me_uo h1)⟩
theorem yr_li {R0 R1 R2 : Nat} {C : lb_C} {M : nt_M} {f : Nat → Int32} {t B Tb Sg Ln q m li : Nat} {wr : Int32} {e : Nat × (Nat → Int32)} {u : Nat × Nat × Nat × Nat × Nat} {J : Nat → Nat → Int32} {y : Nat} (hT : yr_T R0 R1 R2 C M f t B Tb Sg Ln q wr m e u li J) : yr_T R0 R1 R2 C M f t B Tb Sg Ln q wr m e u y (nt_u J B 21 (nI y)) := by
  obtain ⟨⟨p1, p2, p3, p4, p5, p6⟩, ⟨a1, a2, a3, a4, a5, a6, a7, a8⟩, ⟨c1, c2, c3, c4, c5⟩, c6, c7⟩ := hT
  have n1 := p2.2.2.2.1
  have n2 := p2.2.2.2.2.1
  exact ⟨⟨p1, p2, (me_uk (by decide)).trans p3, (me_uk (by decide)).trans p4, fun j => (me_uj p2.1).trans (p5 j), p6⟩, ⟨(me_uk (by decide)).trans a1, (me_uk (by decide)).trans a2, (me_uk (by decide)).trans a3, (me_uj (Ne.symm n2)).trans a4, fun j hj => (me_uj (Ne.symm n1)).trans (a5 j hj), fun _ _ _ _ _ => rfl, fun _ _ _ _ => rfl, a8⟩, ⟨(me_uk (by decide)).trans c1, (me_uk (by decide)).trans c2, (me_uk (by decide)).trans c3, (me_uk (by decide)).trans c4, (me_uk (by decide)).trans c5⟩, me_us, yr_Cr c7 (fun a h1 _ _ => me_uo h1)⟩
theorem yr_row {R0 R1 R2 : Nat} {C : lb_C} {M : nt_M} {f : Nat → Int32} {t B Tb Sg Ln q m li : Nat} {wr : Int32} {e : Nat × (Nat → Int32)} {u : Nat × Nat × Nat × Nat × Nat} {J : Nat → Nat → Int32} {a j : Nat} {x : Int32} {D : lb_C} (hT : yr_T R0 R1 R2 C M f t B Tb Sg Ln q wr m e u li J) (h1 : a ≠ B) (h2 : a ≠ Tb) (h3 : a ≠ Sg) (h4 : a ≠ Ln) (hc : yr_C R0 R1 R2 B Sg Ln C J → yr_C R0 R1 R2 B Sg Ln D (nt_u J a j x)) : yr_T R0 R1 R2 D M f t B Tb Sg Ln q wr m e u li (nt_u J a j x) := by
  obtain ⟨⟨p1, p2, p3, p4, p5, p6⟩, ⟨a1, a2, a3, a4, a5, a6, a7, a8⟩, ⟨c1, c2, c3, c4, c5⟩, c6, c7⟩ := hT
  have z := fun i => me_uj (J := J) (k := j) (v := x) (j := i) (Ne.symm h1)
  exact ⟨⟨p1, p2, (z 1).trans p3, (z 18).trans p4, fun i => (me_uj (Ne.symm h2)).trans (p5 i), p6⟩, ⟨(z 15).trans a1, (z 16).trans a2, (z 19).trans a3, (me_uj (Ne.symm h4)).trans a4, fun i hi => (me_uj (Ne.symm h3)).trans (a5 i hi), fun _ _ _ _ _ => rfl, fun _ _ _ _ => rfl, a8⟩, ⟨(z 7).trans c1, (z 8).trans c2, (z 9).trans c3, (z 10).trans c4, (z 11).trans c5⟩, (z 21).trans c6, hc c7⟩
def yr_N (R0 R1 R2 : Nat) (C : lb_C) (M : nt_M) (f : Nat → Int32) (t B Tb Sg Ln m : Nat) (e : Nat × (Nat → Int32)) (u : Nat × Nat × Nat × Nat × Nat) (li : Nat) (r : lb_N) (a : Int32) (J : Nat → Nat → Int32) : Prop := match r with
  | .inl c => c ≠ 0 ∧ a = Int32.ofInt 0 ∧ ∃ q', q' ≤ t ∧ yr_T R0 R1 R2 C M f t B Tb Sg Ln q' c m e u li J
  | .inr p => a = Int32.ofInt 1 ∧ ∃ q', lb_s f t q' = p.1 ∧ q' ≤ t ∧ yr_T R0 R1 R2 C M f t B Tb Sg Ln q' 0 m e u li J ∧ J B 17 = p.2
theorem yr_num {R0 R1 R2 : Nat} {C : lb_C} {X : nt_X} {d t B Tb Sg Ln q m li : Nat} {f : Nat → Int32} {M : nt_M} {e : Nat × (Nat → Int32)} {u : Nat × Nat × Nat × Nat × Nat} {J : Nat → Nat → Int32} {o : Option Value × nt_M} {lo hi : Int32} (hT : yr_T R0 R1 R2 C M f t B Tb Sg Ln q 0 m e u li J) (hp : q ≤ t) (k : nt_ev X d 143 [.ref B, .int lo, .int hi] (me_w M J) o) : ∃ r a J', o = (some (.int a), me_w M J') ∧ lb_nu f t (lb_s f t q) lo hi r ∧ yr_N R0 R1 R2 C M f t B Tb Sg Ln m e u li r a J' := by
  have t4 : t ≤ 400 := hT.1.2.2.2.2.2.1
  have hp1 : lb_s f t q ≤ t := (lb_s_le (t - q) q (by omega)).2
  have hD := lb_d_le (f := f) (t := t) (t - lb_s f t q) (lb_s f t q) (by omega)
  obtain ⟨r, J', e1, h⟩ := md_num hT.1 hT.2.1 hp k
  rcases h with ⟨h0, rfl, hS⟩ | ⟨h0, hb, rfl, hS⟩ | ⟨h0, h5, hb, rfl, hS, h17⟩
  · exact ⟨.inl (lb_c (lb_s f t q) (Int32.ofInt 0)), _, J', e1, Or.inl ⟨h0, rfl⟩, lb_c_ne (by omega) (by decide) (by decide), rfl, _, hp1, yr_up hT hS⟩
  · exact ⟨.inl (lb_c (lb_s f t q) (Int32.ofInt 1)), _, J', e1, Or.inr (Or.inl ⟨h0, hb, rfl⟩), lb_c_ne (by omega) (by decide) (by decide), rfl, _, hD, yr_up hT hS⟩
  · exact ⟨.inr (lb_s f t (lb_s f t q + lb_d f t (lb_s f t q)), lb_v f (lb_s f t q) (lb_d f t (lb_s f t q))), _, J', e1, Or.inr (Or.inr ⟨h0, h5, hb, rfl⟩), rfl, _, rfl, hD, yr_up hT hS, h17⟩
def yr_Q (R0 R1 R2 : Nat) (P : lb_U → lb_C → Prop) (M : nt_M) (f : Nat → Int32) (t B Tb Sg Ln m : Nat) (e : Nat × (Nat → Int32)) (li : Nat) (r : Int32 ⊕ lb_U) (a : Int32) (J : Nat → Nat → Int32) : Prop := match r with
  | .inl c => c ≠ 0 ∧ a = Int32.ofInt 0 ∧ ∃ q' u' l' C, q' ≤ t ∧ yr_T R0 R1 R2 C M f t B Tb Sg Ln q' c m e u' l' J
  | .inr w => a = Int32.ofInt 1 ∧ lb_ub w.2 ∧ w.2.1 ≠ 0 ∧ ∃ q' C, lb_s f t q' = w.1 ∧ q' ≤ t ∧ P w C ∧ yr_T R0 R1 R2 C M f t B Tb Sg Ln q' 0 m e w.2 li J
theorem yr_Qm {R0 R1 R2 : Nat} {P P' : lb_U → lb_C → Prop} {M : nt_M} {f : Nat → Int32} {t B Tb Sg Ln m li : Nat} {e : Nat × (Nat → Int32)} {r : Int32 ⊕ lb_U} {a : Int32} {J : Nat → Nat → Int32} (h : ∀ w D, P w D → P' w D) (hQ : yr_Q R0 R1 R2 P M f t B Tb Sg Ln m e li r a J) : yr_Q R0 R1 R2 P' M f t B Tb Sg Ln m e li r a J := by
  rcases r with c | w
  · exact hQ
  · obtain ⟨h1, h2, h3, q', C, h4, h5, h6, h7⟩ := hQ
    exact ⟨h1, h2, h3, q', C, h4, h5, h _ _ h6, h7⟩
def yr_W (M : nt_M) (B Tb Sg Ln R0 R1 R2 : Nat) : Prop := (nt_R M B 12 = some R0 ∧ nt_R M B 13 = some R1 ∧ nt_R M B 14 = some R2) ∧ (R0 ≠ B ∧ R0 ≠ Tb ∧ R0 ≠ Sg ∧ R0 ≠ Ln) ∧ (R1 ≠ B ∧ R1 ≠ Tb ∧ R1 ≠ Sg ∧ R1 ≠ Ln) ∧ (R2 ≠ B ∧ R2 ≠ Tb ∧ R2 ≠ Sg ∧ R2 ≠ Ln)
theorem yr_kinds {R0 R1 R2 : Nat} {C : lb_C} {X : nt_X} {d t B Tb Sg Ln q m li : Nat} {f : Nat → Int32} {M : nt_M} {e : Nat × (Nat → Int32)} {u : Nat × Nat × Nat × Nat × Nat} {J : Nat → Nat → Int32} {o : Option Value × nt_M} (hW : yr_W M B Tb Sg Ln R0 R1 R2) (hT : yr_T R0 R1 R2 C M f t B Tb Sg Ln q 0 m e u li J) (hp : q ≤ t) (hb : lb_ub u) (hat : lb_yw f t q 0) (k : nt_ev X d 141 [.ref B, .int (nI q)] (me_w M J) o) : ∃ r a J', o = (some (.int a), me_w M J') ∧ (((u.1 ≠ 0) ∧ r = .inl (lb_c q (Int32.ofInt 4))) ∨ (¬ (u.1 ≠ 0) ∧ lb_pa f t (q, u) (lb_s f t (q + (lb_W (nt_sp + 1 + 0)).length)) 0 r)) ∧ yr_Q R0 R1 R2 (fun v D => lb_paC f t u (lb_s f t (q + (lb_W (nt_sp + 1 + 0)).length)) v.1 0 C D) M f t B Tb Sg Ln m e li r a J' := by
  have k : nt_rn X d 141 (0, [(0, .ref B), (1, .int (nI q))], [], me_w M J) o := k
  have t4 : t ≤ 400 := hT.1.2.2.2.2.2.1
  have hb0 := hb
  obtain ⟨d1, d2, d3, d4, d5⟩ := hb0
  have k := ly_revb 1 (c' := (1, [(0, .ref B), (1, .int (nI q))], [.ref B], me_w M J)) rfl k
  have k := lz_get (a := B) (g := 1107) (M := me_w M J) (v := .int (nI u.1)) rfl (congrArg Value.int (hT.2.2.1.1)) k
  have k := ly_revb 1 (c' := (if (nI u.1) ≤ 0 then 14 else 7, [(0, .ref B), (1, .int (nI q))], [], me_w M J)) rfl k
  by_cases h4 : u.1 = 0
  · rw [if_pos (show (nI u.1) ≤ 0 from by rw [h4]; decide)] at k
    have k := ly_revb 1 (c' := (15, [(0, .ref B), (1, .int (nI q))], [.ref B], me_w M J)) rfl k
    obtain ⟨d1, o1, ed, kc, k⟩ := lz_c (g := 142) (q := 1) (vs := [.ref B]) (rest := []) rfl rfl (by decide) (Or.inr (Or.inl ⟨_, rfl, rfl⟩)) rfl k
    have e1 := md_pass hT.1 hT.2.1 hp kc
    rw [lb_at_l hat] at e1
    subst e1
    have hR1 := yr_up hT (md_Sq (y := q + (lb_W (nt_sp + 1 + 0)).length) hT.1 hT.2.1)
    have hpw : q + (lb_W (nt_sp + 1 + 0)).length ≤ t := hat.1
    have k : nt_rn X _ 141 (18, [(0, .ref B), (1, .int (nI q))], [], me_w M (nt_u J B 15 (nI (q + (lb_W (nt_sp + 1 + 0)).length)))) _ := k
    have k := ly_revb 3 (c' := (21, [(0, .ref B), (1, .int (nI q))], [.int (Int32.ofInt 4), .int (Int32.ofInt 1), .ref B], me_w M (nt_u J B 15 (nI (q + (lb_W (nt_sp + 1 + 0)).length))))) rfl k
    obtain ⟨d1, o1, ed, kc, k⟩ := lz_c (g := 143) (q := 1) (vs := [.ref B, .int (Int32.ofInt 1), .int (Int32.ofInt 4)]) (rest := []) rfl rfl (by decide) (Or.inr (Or.inl ⟨_, rfl, rfl⟩)) rfl k
    obtain ⟨r1, a1, J1, e1, hv1, hN1⟩ := yr_num hR1 hpw kc
    subst e1
    rcases r1 with c | ⟨q1, x1⟩
    · obtain ⟨hc, rfl, y1, hy1, hT1⟩ := hN1
      have k : nt_rn X _ 141 (24, [(0, .ref B), (1, .int (nI q))], [.int (Int32.ofInt 0)], me_w M J1) _ := k
      have k := ly_revb 1 (c' := (if (Int32.ofInt 0) = 0 then 27 else 29, [(0, .ref B), (1, .int (nI q))], [], me_w M J1)) rfl k
      rw [if_pos (show (Int32.ofInt 0) = 0 from by decide)] at k
      have k := ly_revb 1 (c' := (28, [(0, .ref B), (1, .int (nI q))], [.int (Int32.ofInt 0)], me_w M J1)) rfl k
      have k := lz_ri rfl (by decide) k
      exact ⟨.inl c, _, _, k, Or.inr ⟨fun c => c h4, ⟨_, hv1, Or.inl ⟨c, rfl, rfl⟩⟩⟩, hc, rfl, _, _, _, _, hy1, hT1⟩
    · obtain ⟨rfl, y1, hz1, hy1, hT1, hw1⟩ := hN1
      dsimp only at hz1 hw1
      have hu1 := lb_nu_up (lb_s_le (t - (q + (lb_W (nt_sp + 1 + 0)).length)) (q + (lb_W (nt_sp + 1 + 0)).length) (by omega)).2 hv1
      have k : nt_rn X _ 141 (24, [(0, .ref B), (1, .int (nI q))], [.int (Int32.ofInt 1)], me_w M J1) _ := k
      have k := ly_revb 1 (c' := (if (Int32.ofInt 1) = 0 then 27 else 29, [(0, .ref B), (1, .int (nI q))], [], me_w M J1)) rfl k
      rw [if_neg (show ¬ ((Int32.ofInt 1) = 0) from by decide)] at k
      have k := ly_revb 2 (c' := (31, [(0, .ref B), (1, .int (nI q))], [.ref B, .ref B], me_w M J1)) rfl k
      have k := lz_get (a := B) (g := 1117) (M := me_w M J1) (v := .int (x1)) rfl (congrArg Value.int (hw1)) k
      have k := me_put rfl (by decide) k
      have k : nt_rn X _ 141 (37, [(0, .ref B), (1, .int (nI q))], [], me_w M (nt_u J1 B 7 (x1))) _ := k
      obtain ⟨ex, hx⟩ := yc_nn (b := 4) (by decide) hu1.2.1 hu1.2.2
      dsimp only at ex hx
      have hR2 := yr_u0 (y := x1.toInt.toNat) hT1
      rw [← ex] at hR2
      have k := ly_revb 1 (c' := (38, [(0, .ref B), (1, .int (nI q))], [.int (Int32.ofInt 1)], me_w M (nt_u J1 B 7 (x1)))) rfl k
      have k := lz_ri rfl (by decide) k
      obtain ⟨b1, b2, b3, b4, b5⟩ := hb
      exact ⟨.inr (q1, x1.toInt.toNat, u.2.1, u.2.2.1, u.2.2.2.1, u.2.2.2.2), _, _, k, Or.inr ⟨fun c => c h4, ⟨_, hv1, Or.inr ⟨_, _, rfl, rfl⟩⟩⟩, rfl, ⟨hx, b2, b3, b4, b5⟩, by dsimp only; have h1 : (1 : Int) ≤ x1.toInt := hu1.2.1; omega, y1, _, hz1, hy1, rfl, hR2⟩
  · rw [if_neg (show ¬ ((nI u.1) ≤ 0) from nI_nle (Nat.pos_of_ne_zero h4) (by omega))] at k
    have k := ly_revb 3 (c' := (10, [(0, .ref B), (1, .int (nI q))], [.int (nI q), .int (Int32.ofInt 4), .ref B], me_w M J)) rfl k
    obtain ⟨d1, o1, ed, kc, k⟩ := lz_c (g := 139) (q := 1) (vs := [.ref B, .int (Int32.ofInt 4), .int (nI q)]) (rest := []) rfl rfl (by decide) (Or.inr (Or.inl ⟨_, rfl, rfl⟩)) rfl k
    obtain ⟨hf, e1⟩ := (md_fails (a := q) hT.1 hT.2.1 hp kc).resolve_right (fun c => c.1 rfl)
    subst e1
    have hR1 := yr_up hT (md_Sw (y := lb_c q (Int32.ofInt 4)) hT.1 hT.2.1)
    have k : nt_rn X _ 141 (13, [(0, .ref B), (1, .int (nI q))], [.int (Int32.ofInt 0)], me_w M (nt_u J B 16 (lb_c q (Int32.ofInt 4)))) _ := k
    have k := lz_ri rfl (by decide) k
    exact ⟨.inl (lb_c q (Int32.ofInt 4)), _, _, k, Or.inl ⟨h4, rfl⟩, (lb_c_ne (by omega) (by decide) (by decide)), rfl, _, _, _, _, hp, hR1⟩
theorem yr_plank {R0 R1 R2 : Nat} {C : lb_C} {X : nt_X} {d t B Tb Sg Ln q m li : Nat} {f : Nat → Int32} {M : nt_M} {e : Nat × (Nat → Int32)} {u : Nat × Nat × Nat × Nat × Nat} {J : Nat → Nat → Int32} {o : Option Value × nt_M} (hW : yr_W M B Tb Sg Ln R0 R1 R2) (hT : yr_T R0 R1 R2 C M f t B Tb Sg Ln q 0 m e u li J) (hp : q ≤ t) (hb : lb_ub u) (hk0 : u.1 ≠ 0) (hat : lb_yw f t q 2) (k : nt_ev X d 147 [.ref B, .int (nI q)] (me_w M J) o) : ∃ r a J', o = (some (.int a), me_w M J') ∧ (((24 ≤ u.2.2.1) ∧ r = .inl (lb_c q (Int32.ofInt 4))) ∨ (¬ (24 ≤ u.2.2.1) ∧ lb_pa f t (q, u) (lb_s f t (q + (lb_W (nt_sp + 1 + 2)).length)) 2 r)) ∧ yr_Q R0 R1 R2 (fun v D => lb_paC f t u (lb_s f t (q + (lb_W (nt_sp + 1 + 2)).length)) v.1 2 C D) M f t B Tb Sg Ln m e li r a J' := by
  have k : nt_rn X d 147 (0, [(0, .ref B), (1, .int (nI q))], [], me_w M J) o := k
  have t4 : t ≤ 400 := hT.1.2.2.2.2.2.1
  have hb0 := hb
  obtain ⟨d1, d2, d3, d4, d5⟩ := hb0
  have k := ly_revb 1 (c' := (1, [(0, .ref B), (1, .int (nI q))], [.ref B], me_w M J)) rfl k
  have k := lz_get (a := B) (g := 1109) (M := me_w M J) (v := .int (nI u.2.2.1)) rfl (congrArg Value.int (hT.2.2.1.2.2.1)) k
  have k := ly_revb 2 (c' := (if (nI u.2.2.1) = (Int32.ofInt 24) then 9 else 16, [(0, .ref B), (1, .int (nI q))], [], me_w M J)) rfl k
  by_cases h6 : u.2.2.1 = 24
  · rw [if_pos (show (nI u.2.2.1) = (Int32.ofInt 24) from show nI u.2.2.1 = nI 24 from congrArg nI h6)] at k
    have k := ly_revb 3 (c' := (12, [(0, .ref B), (1, .int (nI q))], [.int (nI q), .int (Int32.ofInt 4), .ref B], me_w M J)) rfl k
    obtain ⟨d1, o1, ed, kc, k⟩ := lz_c (g := 139) (q := 1) (vs := [.ref B, .int (Int32.ofInt 4), .int (nI q)]) (rest := []) rfl rfl (by decide) (Or.inr (Or.inl ⟨_, rfl, rfl⟩)) rfl k
    obtain ⟨hf, e1⟩ := (md_fails (a := q) hT.1 hT.2.1 hp kc).resolve_right (fun c => c.1 rfl)
    subst e1
    have hR1 := yr_up hT (md_Sw (y := lb_c q (Int32.ofInt 4)) hT.1 hT.2.1)
    have k : nt_rn X _ 147 (15, [(0, .ref B), (1, .int (nI q))], [.int (Int32.ofInt 0)], me_w M (nt_u J B 16 (lb_c q (Int32.ofInt 4)))) _ := k
    have k := lz_ri rfl (by decide) k
    exact ⟨.inl (lb_c q (Int32.ofInt 4)), _, _, k, Or.inl ⟨by omega, rfl⟩, (lb_c_ne (by omega) (by decide) (by decide)), rfl, _, _, _, _, hp, hR1⟩
  · rw [if_neg (show ¬ ((nI u.2.2.1) = (Int32.ofInt 24)) from show ¬ nI u.2.2.1 = nI 24 from me_ne h6 (by omega) (by omega))] at k
    have k := ly_revb 1 (c' := (17, [(0, .ref B), (1, .int (nI q))], [.ref B], me_w M J)) rfl k
    obtain ⟨d1, o1, ed, kc, k⟩ := lz_c (g := 142) (q := 1) (vs := [.ref B]) (rest := []) rfl rfl (by decide) (Or.inr (Or.inl ⟨_, rfl, rfl⟩)) rfl k
    have e1 := md_pass hT.1 hT.2.1 hp kc
    rw [lb_at_l hat] at e1
    subst e1
    have hR1 := yr_up hT (md_Sq (y := q + (lb_W (nt_sp + 1 + 2)).length) hT.1 hT.2.1)
    have hpw : q + (lb_W (nt_sp + 1 + 2)).length ≤ t := hat.1
    have k : nt_rn X _ 147 (20, [(0, .ref B), (1, .int (nI q))], [], me_w M (nt_u J B 15 (nI (q + (lb_W (nt_sp + 1 + 2)).length)))) _ := k
    have k := ly_revb 2 (c' := (22, [(0, .ref B), (1, .int (nI q))], [.ref B, .int (Int32.ofInt 3)], me_w M (nt_u J B 15 (nI (q + (lb_W (nt_sp + 1 + 2)).length))))) rfl k
    have k := lz_get (a := B) (g := 1109) (M := me_w M (nt_u J B 15 (nI (q + (lb_W (nt_sp + 1 + 2)).length)))) (v := .int (nI u.2.2.1)) rfl (congrArg Value.int (hR1.2.2.1.2.2.1)) k
    have k := ly_revb 5 (c' := (30, [(2, .int ((Int32.ofInt 3) * (nI u.2.2.1))), (0, .ref B), (1, .int (nI q))], [.ref B, .int (Int32.ofInt 0), .ref B], me_w M (nt_u J B 15 (nI (q + (lb_W (nt_sp + 1 + 2)).length))))) rfl k
    have k := lz_get (a := B) (g := 1107) (M := me_w M (nt_u J B 15 (nI (q + (lb_W (nt_sp + 1 + 2)).length)))) (v := .int (nI u.1)) rfl (congrArg Value.int (hR1.2.2.1.1)) k
    have k := ly_revb 2 (c' := (35, [(2, .int ((Int32.ofInt 3) * (nI u.2.2.1))), (0, .ref B), (1, .int (nI q))], [.int ((nI u.1) - (Int32.ofInt 1)), .int (Int32.ofInt 0), .ref B], me_w M (nt_u J B 15 (nI (q + (lb_W (nt_sp + 1 + 2)).length))))) rfl k
    obtain ⟨d1, o1, ed, kc, k⟩ := lz_c (g := 143) (q := 1) (vs := [.ref B, .int (Int32.ofInt 0), .int ((nI u.1) - (Int32.ofInt 1))]) (rest := []) rfl rfl (by decide) (Or.inr (Or.inl ⟨_, rfl, rfl⟩)) rfl k
    obtain ⟨r1, a1, J1, e1, hv1, hN1⟩ := yr_num hR1 hpw kc
    subst e1
    rcases r1 with c | ⟨q1, x1⟩
    · obtain ⟨hc, rfl, y1, hy1, hT1⟩ := hN1
      have k : nt_rn X _ 147 (38, [(2, .int ((Int32.ofInt 3) * (nI u.2.2.1))), (0, .ref B), (1, .int (nI q))], [.int (Int32.ofInt 0)], me_w M J1) _ := k
      have k := ly_revb 1 (c' := (if (Int32.ofInt 0) = 0 then 41 else 43, [(2, .int ((Int32.ofInt 3) * (nI u.2.2.1))), (0, .ref B), (1, .int (nI q))], [], me_w M J1)) rfl k
      rw [if_pos (show (Int32.ofInt 0) = 0 from by decide)] at k
      have k := ly_revb 1 (c' := (42, [(2, .int ((Int32.ofInt 3) * (nI u.2.2.1))), (0, .ref B), (1, .int (nI q))], [.int (Int32.ofInt 0)], me_w M J1)) rfl k
      have k := lz_ri rfl (by decide) k
      exact ⟨.inl c, _, _, k, Or.inr ⟨by omega, ⟨.inl c, ⟨_, hv1, Or.inl ⟨c, rfl, rfl⟩⟩, Or.inl ⟨c, rfl, rfl⟩⟩⟩, hc, rfl, _, _, _, _, hy1, hT1⟩
    · obtain ⟨rfl, y1, hz1, hy1, hT1, hw1⟩ := hN1
      dsimp only at hz1 hw1
      have hu1 := lb_nu_up (lb_s_le (t - (q + (lb_W (nt_sp + 1 + 2)).length)) (q + (lb_W (nt_sp + 1 + 2)).length) (by omega)).2 hv1
      have k : nt_rn X _ 147 (38, [(2, .int ((Int32.ofInt 3) * (nI u.2.2.1))), (0, .ref B), (1, .int (nI q))], [.int (Int32.ofInt 1)], me_w M J1) _ := k
      have k := ly_revb 1 (c' := (if (Int32.ofInt 1) = 0 then 41 else 43, [(2, .int ((Int32.ofInt 3) * (nI u.2.2.1))), (0, .ref B), (1, .int (nI q))], [], me_w M J1)) rfl k
      rw [if_neg (show ¬ ((Int32.ofInt 1) = 0) from by decide)] at k
      have k := ly_revb 1 (c' := (44, [(2, .int ((Int32.ofInt 3) * (nI u.2.2.1))), (0, .ref B), (1, .int (nI q))], [.ref B], me_w M J1)) rfl k
      have k := lz_get (a := B) (g := 1113) (M := me_w M J1) (v := .ref R1) rfl (nt_gfR rfl hW.1.2.1) k
      have k := ly_revb 2 (c' := (49, [(2, .int ((Int32.ofInt 3) * (nI u.2.2.1))), (0, .ref B), (1, .int (nI q))], [.ref B, .int ((Int32.ofInt 3) * (nI u.2.2.1)), .ref R1], me_w M J1)) rfl k
      have k := lz_get (a := B) (g := 1117) (M := me_w M J1) (v := .int (x1)) rfl (congrArg Value.int (hw1)) k
      have k := me_iastx rfl k
      have hR2 := yr_row (j := ((Int32.ofInt 3) * (nI u.2.2.1)).toNatClampNeg) (x := x1) hT1 hW.2.2.1.1 hW.2.2.1.2.1 hW.2.2.1.2.2.1 hW.2.2.1.2.2.2 (fun c => yr_C10 (lb_ix30 (by omega)) c)
      have k : nt_rn X _ 147 (53, [(2, .int ((Int32.ofInt 3) * (nI u.2.2.1))), (0, .ref B), (1, .int (nI q))], [], me_w M (nt_u J1 R1 ((Int32.ofInt 3) * (nI u.2.2.1)).toNatClampNeg (x1))) _ := k
      have k := ly_revb 3 (c' := (57, [(2, .int ((Int32.ofInt 3) * (nI u.2.2.1))), (0, .ref B), (1, .int (nI q))], [.int (Int32.ofInt 99), .int (Int32.ofInt 1), .ref B], me_w M (nt_u J1 R1 ((Int32.ofInt 3) * (nI u.2.2.1)).toNatClampNeg (x1)))) rfl k
      obtain ⟨d1, o1, ed, kc, k⟩ := lz_c (g := 143) (q := 1) (vs := [.ref B, .int (Int32.ofInt 1), .int (Int32.ofInt 99)]) (rest := []) rfl rfl (by decide) (Or.inr (Or.inl ⟨_, rfl, rfl⟩)) rfl k
      obtain ⟨r2, a2, J2, e1, hv2, hN2⟩ := yr_num hR2 hy1 kc
      subst e1
      rw [hz1] at hv2
      rcases r2 with c | ⟨q2, x2⟩
      · obtain ⟨hc, rfl, y2, hy2, hT2⟩ := hN2
        have k : nt_rn X _ 147 (60, [(2, .int ((Int32.ofInt 3) * (nI u.2.2.1))), (0, .ref B), (1, .int (nI q))], [.int (Int32.ofInt 0)], me_w M J2) _ := k
        have k := ly_revb 1 (c' := (if (Int32.ofInt 0) = 0 then 63 else 65, [(2, .int ((Int32.ofInt 3) * (nI u.2.2.1))), (0, .ref B), (1, .int (nI q))], [], me_w M J2)) rfl k
        rw [if_pos (show (Int32.ofInt 0) = 0 from by decide)] at k
        have k := ly_revb 1 (c' := (64, [(2, .int ((Int32.ofInt 3) * (nI u.2.2.1))), (0, .ref B), (1, .int (nI q))], [.int (Int32.ofInt 0)], me_w M J2)) rfl k
        have k := lz_ri rfl (by decide) k
        exact ⟨.inl c, _, _, k, Or.inr ⟨by omega, ⟨.inl c, ⟨_, hv1, Or.inr ⟨_, _, rfl, ⟨_, hv2, Or.inl ⟨c, rfl, rfl⟩⟩⟩⟩, Or.inl ⟨c, rfl, rfl⟩⟩⟩, hc, rfl, _, _, _, _, hy2, hT2⟩
      · obtain ⟨rfl, y2, hz2, hy2, hT2, hw2⟩ := hN2
        dsimp only at hz2 hw2
        have hu2 := lb_nu_up hu1.1 hv2
        have k : nt_rn X _ 147 (60, [(2, .int ((Int32.ofInt 3) * (nI u.2.2.1))), (0, .ref B), (1, .int (nI q))], [.int (Int32.ofInt 1)], me_w M J2) _ := k
        have k := ly_revb 1 (c' := (if (Int32.ofInt 1) = 0 then 63 else 65, [(2, .int ((Int32.ofInt 3) * (nI u.2.2.1))), (0, .ref B), (1, .int (nI q))], [], me_w M J2)) rfl k
        rw [if_neg (show ¬ ((Int32.ofInt 1) = 0) from by decide)] at k
        have k := ly_revb 1 (c' := (66, [(2, .int ((Int32.ofInt 3) * (nI u.2.2.1))), (0, .ref B), (1, .int (nI q))], [.ref B], me_w M J2)) rfl k
        have k := lz_get (a := B) (g := 1113) (M := me_w M J2) (v := .ref R1) rfl (nt_gfR rfl hW.1.2.1) k
        have k := ly_revb 4 (c' := (73, [(2, .int ((Int32.ofInt 3) * (nI u.2.2.1))), (0, .ref B), (1, .int (nI q))], [.ref B, .int (((Int32.ofInt 3) * (nI u.2.2.1)) + (Int32.ofInt 1)), .ref R1], me_w M J2)) rfl k
        have k := lz_get (a := B) (g := 1117) (M := me_w M J2) (v := .int (x2)) rfl (congrArg Value.int (hw2)) k
        have k := me_iastx rfl k
        have hR3 := yr_row (j := (((Int32.ofInt 3) * (nI u.2.2.1)) + (Int32.ofInt 1)).toNatClampNeg) (x := x2) hT2 hW.2.2.1.1 hW.2.2.1.2.1 hW.2.2.1.2.2.1 hW.2.2.1.2.2.2 (fun c => yr_C11 (lb_ix3' (i := 1) (by omega) (by decide)) c)
        have k : nt_rn X _ 147 (77, [(2, .int ((Int32.ofInt 3) * (nI u.2.2.1))), (0, .ref B), (1, .int (nI q))], [], me_w M (nt_u J2 R1 (((Int32.ofInt 3) * (nI u.2.2.1)) + (Int32.ofInt 1)).toNatClampNeg (x2))) _ := k
        have k := ly_revb 3 (c' := (80, [(2, .int ((Int32.ofInt 3) * (nI u.2.2.1))), (0, .ref B), (1, .int (nI q))], [.ref B, .int (Int32.ofInt 0), .ref B], me_w M (nt_u J2 R1 (((Int32.ofInt 3) * (nI u.2.2.1)) + (Int32.ofInt 1)).toNatClampNeg (x2)))) rfl k
        have k := lz_get (a := B) (g := 1108) (M := me_w M (nt_u J2 R1 (((Int32.ofInt 3) * (nI u.2.2.1)) + (Int32.ofInt 1)).toNatClampNeg (x2))) (v := .int (nI u.2.1)) rfl (congrArg Value.int (hR3.2.2.1.2.1)) k
        have k := ly_revb 2 (c' := (85, [(2, .int ((Int32.ofInt 3) * (nI u.2.2.1))), (0, .ref B), (1, .int (nI q))], [.int ((nI u.2.1) - (Int32.ofInt 1)), .int (Int32.ofInt 0), .ref B], me_w M (nt_u J2 R1 (((Int32.ofInt 3) * (nI u.2.2.1)) + (Int32.ofInt 1)).toNatClampNeg (x2)))) rfl k
        obtain ⟨d1, o1, ed, kc, k⟩ := lz_c (g := 143) (q := 1) (vs := [.ref B, .int (Int32.ofInt 0), .int ((nI u.2.1) - (Int32.ofInt 1))]) (rest := []) rfl rfl (by decide) (Or.inr (Or.inl ⟨_, rfl, rfl⟩)) rfl k
        obtain ⟨r3, a3, J3, e1, hv3, hN3⟩ := yr_num hR3 hy2 kc
        subst e1
        rw [hz2] at hv3
        rcases r3 with c | ⟨q3, x3⟩
        · obtain ⟨hc, rfl, y3, hy3, hT3⟩ := hN3
          have k : nt_rn X _ 147 (88, [(2, .int ((Int32.ofInt 3) * (nI u.2.2.1))), (0, .ref B), (1, .int (nI q))], [.int (Int32.ofInt 0)], me_w M J3) _ := k
          have k := ly_revb 1 (c' := (if (Int32.ofInt 0) = 0 then 91 else 93, [(2, .int ((Int32.ofInt 3) * (nI u.2.2.1))), (0, .ref B), (1, .int (nI q))], [], me_w M J3)) rfl k
          rw [if_pos (show (Int32.ofInt 0) = 0 from by decide)] at k
          have k := ly_revb 1 (c' := (92, [(2, .int ((Int32.ofInt 3) * (nI u.2.2.1))), (0, .ref B), (1, .int (nI q))], [.int (Int32.ofInt 0)], me_w M J3)) rfl k
          have k := lz_ri rfl (by decide) k
          exact ⟨.inl c, _, _, k, Or.inr ⟨by omega, ⟨.inl c, ⟨_, hv1, Or.inr ⟨_, _, rfl, ⟨_, hv2, Or.inr ⟨_, _, rfl, ⟨_, hv3, Or.inl ⟨c, rfl, rfl⟩⟩⟩⟩⟩⟩, Or.inl ⟨c, rfl, rfl⟩⟩⟩, hc, rfl, _, _, _, _, hy3, hT3⟩
        · obtain ⟨rfl, y3, hz3, hy3, hT3, hw3⟩ := hN3
          dsimp only at hz3 hw3
          have hu3 := lb_nu_up hu2.1 hv3
          have k : nt_rn X _ 147 (88, [(2, .int ((Int32.ofInt 3) * (nI u.2.2.1))), (0, .ref B), (1, .int (nI q))], [.int (Int32.ofInt 1)], me_w M J3) _ := k
          have k := ly_revb 1 (c' := (if (Int32.ofInt 1) = 0 then 91 else 93, [(2, .int ((Int32.ofInt 3) * (nI u.2.2.1))), (0, .ref B), (1, .int (nI q))], [], me_w M J3)) rfl k
          rw [if_neg (show ¬ ((Int32.ofInt 1) = 0) from by decide)] at k
          have k := ly_revb 1 (c' := (94, [(2, .int ((Int32.ofInt 3) * (nI u.2.2.1))), (0, .ref B), (1, .int (nI q))], [.ref B], me_w M J3)) rfl k
          have k := lz_get (a := B) (g := 1113) (M := me_w M J3) (v := .ref R1) rfl (nt_gfR rfl hW.1.2.1) k
          have k := ly_revb 4 (c' := (101, [(2, .int ((Int32.ofInt 3) * (nI u.2.2.1))), (0, .ref B), (1, .int (nI q))], [.ref B, .int (((Int32.ofInt 3) * (nI u.2.2.1)) + (Int32.ofInt 2)), .ref R1], me_w M J3)) rfl k
          have k := lz_get (a := B) (g := 1117) (M := me_w M J3) (v := .int (x3)) rfl (congrArg Value.int (hw3)) k
          have k := me_iastx rfl k
          have hR4 := yr_row (j := (((Int32.ofInt 3) * (nI u.2.2.1)) + (Int32.ofInt 2)).toNatClampNeg) (x := x3) hT3 hW.2.2.1.1 hW.2.2.1.2.1 hW.2.2.1.2.2.1 hW.2.2.1.2.2.2 (fun c => yr_C12 (lb_ix3' (i := 2) (by omega) (by decide)) c)
          have k : nt_rn X _ 147 (105, [(2, .int ((Int32.ofInt 3) * (nI u.2.2.1))), (0, .ref B), (1, .int (nI q))], [], me_w M (nt_u J3 R1 (((Int32.ofInt 3) * (nI u.2.2.1)) + (Int32.ofInt 2)).toNatClampNeg (x3))) _ := k
          have k := ly_revb 2 (c' := (107, [(2, .int ((Int32.ofInt 3) * (nI u.2.2.1))), (0, .ref B), (1, .int (nI q))], [.ref B, .ref B], me_w M (nt_u J3 R1 (((Int32.ofInt 3) * (nI u.2.2.1)) + (Int32.ofInt 2)).toNatClampNeg (x3)))) rfl k
          have k := lz_get (a := B) (g := 1109) (M := me_w M (nt_u J3 R1 (((Int32.ofInt 3) * (nI u.2.2.1)) + (Int32.ofInt 2)).toNatClampNeg (x3))) (v := .int (nI u.2.2.1)) rfl (congrArg Value.int (hR4.2.2.1.2.2.1)) k
          have k := ly_revb 2 (c' := (112, [(2, .int ((Int32.ofInt 3) * (nI u.2.2.1))), (0, .ref B), (1, .int (nI q))], [.int ((nI u.2.2.1) + (Int32.ofInt 1)), .ref B], me_w M (nt_u J3 R1 (((Int32.ofInt 3) * (nI u.2.2.1)) + (Int32.ofInt 2)).toNatClampNeg (x3)))) rfl k
          rw [show ((nI u.2.2.1) + (Int32.ofInt 1) : Int32) = nI (u.2.2.1 + 1) from me_add (k := 1)] at k
          have k := me_put rfl (by decide) k
          have k : nt_rn X _ 147 (115, [(2, .int ((Int32.ofInt 3) * (nI u.2.2.1))), (0, .ref B), (1, .int (nI q))], [], me_w M (nt_u (nt_u J3 R1 (((Int32.ofInt 3) * (nI u.2.2.1)) + (Int32.ofInt 2)).toNatClampNeg (x3)) B 9 (nI (u.2.2.1 + 1)))) _ := k
          have hR5 := yr_u2 (y := u.2.2.1 + 1) hR4
          have k := ly_revb 1 (c' := (116, [(2, .int ((Int32.ofInt 3) * (nI u.2.2.1))), (0, .ref B), (1, .int (nI q))], [.int (Int32.ofInt 1)], me_w M (nt_u (nt_u J3 R1 (((Int32.ofInt 3) * (nI u.2.2.1)) + (Int32.ofInt 2)).toNatClampNeg (x3)) B 9 (nI (u.2.2.1 + 1))))) rfl k
          have k := lz_ri rfl (by decide) k
          obtain ⟨b1, b2, b3, b4, b5⟩ := hb
          exact ⟨.inr (q3, u.1, u.2.1, u.2.2.1 + 1, u.2.2.2.1, u.2.2.2.2), _, _, k, Or.inr ⟨by omega, ⟨.inr q3, ⟨_, hv1, Or.inr ⟨_, _, rfl, ⟨_, hv2, Or.inr ⟨_, _, rfl, ⟨_, hv3, Or.inr ⟨_, _, rfl, rfl⟩⟩⟩⟩⟩⟩, Or.inr ⟨_, rfl, rfl⟩⟩⟩, rfl, ⟨b1, b2, by dsimp only; omega, b4, b5⟩, hk0, y3, _, hz3, hy3, ⟨_, _, _, _, _, hv1, hv2, hv3, rfl⟩, hR5⟩
theorem yr_voyage {R0 R1 R2 : Nat} {C : lb_C} {X : nt_X} {d t B Tb Sg Ln q m li : Nat} {f : Nat → Int32} {M : nt_M} {e : Nat × (Nat → Int32)} {u : Nat × Nat × Nat × Nat × Nat} {J : Nat → Nat → Int32} {o : Option Value × nt_M} (hW : yr_W M B Tb Sg Ln R0 R1 R2) (hT : yr_T R0 R1 R2 C M f t B Tb Sg Ln q 0 m e u li J) (hp : q ≤ t) (hb : lb_ub u) (hk0 : u.1 ≠ 0) (hat : lb_yw f t q 3) (k : nt_ev X d 148 [.ref B, .int (nI q)] (me_w M J) o) : ∃ r a J', o = (some (.int a), me_w M J') ∧ (((8 ≤ u.2.2.2.1) ∧ r = .inl (lb_c q (Int32.ofInt 4))) ∨ (¬ (8 ≤ u.2.2.2.1) ∧ lb_pa f t (q, u) (lb_s f t (q + (lb_W (nt_sp + 1 + 3)).length)) 3 r)) ∧ yr_Q R0 R1 R2 (fun v D => lb_paC f t u (lb_s f t (q + (lb_W (nt_sp + 1 + 3)).length)) v.1 3 C D) M f t B Tb Sg Ln m e li r a J' := by
  have k : nt_rn X d 148 (0, [(0, .ref B), (1, .int (nI q))], [], me_w M J) o := k
  have t4 : t ≤ 400 := hT.1.2.2.2.2.2.1
  have hb0 := hb
  obtain ⟨d1, d2, d3, d4, d5⟩ := hb0
  have k := ly_revb 1 (c' := (1, [(0, .ref B), (1, .int (nI q))], [.ref B], me_w M J)) rfl k
  have k := lz_get (a := B) (g := 1110) (M := me_w M J) (v := .int (nI u.2.2.2.1)) rfl (congrArg Value.int (hT.2.2.1.2.2.2.1)) k
  have k := ly_revb 2 (c' := (if (nI u.2.2.2.1) = (Int32.ofInt 8) then 9 else 16, [(0, .ref B), (1, .int (nI q))], [], me_w M J)) rfl k
  by_cases h6 : u.2.2.2.1 = 8
  · rw [if_pos (show (nI u.2.2.2.1) = (Int32.ofInt 8) from show nI u.2.2.2.1 = nI 8 from congrArg nI h6)] at k
    have k := ly_revb 3 (c' := (12, [(0, .ref B), (1, .int (nI q))], [.int (nI q), .int (Int32.ofInt 4), .ref B], me_w M J)) rfl k
    obtain ⟨d1, o1, ed, kc, k⟩ := lz_c (g := 139) (q := 1) (vs := [.ref B, .int (Int32.ofInt 4), .int (nI q)]) (rest := []) rfl rfl (by decide) (Or.inr (Or.inl ⟨_, rfl, rfl⟩)) rfl k
    obtain ⟨hf, e1⟩ := (md_fails (a := q) hT.1 hT.2.1 hp kc).resolve_right (fun c => c.1 rfl)
    subst e1
    have hR1 := yr_up hT (md_Sw (y := lb_c q (Int32.ofInt 4)) hT.1 hT.2.1)
    have k : nt_rn X _ 148 (15, [(0, .ref B), (1, .int (nI q))], [.int (Int32.ofInt 0)], me_w M (nt_u J B 16 (lb_c q (Int32.ofInt 4)))) _ := k
    have k := lz_ri rfl (by decide) k
    exact ⟨.inl (lb_c q (Int32.ofInt 4)), _, _, k, Or.inl ⟨by omega, rfl⟩, (lb_c_ne (by omega) (by decide) (by decide)), rfl, _, _, _, _, hp, hR1⟩
  · rw [if_neg (show ¬ ((nI u.2.2.2.1) = (Int32.ofInt 8)) from show ¬ nI u.2.2.2.1 = nI 8 from me_ne h6 (by omega) (by omega))] at k
    have k := ly_revb 1 (c' := (17, [(0, .ref B), (1, .int (nI q))], [.ref B], me_w M J)) rfl k
    obtain ⟨d1, o1, ed, kc, k⟩ := lz_c (g := 142) (q := 1) (vs := [.ref B]) (rest := []) rfl rfl (by decide) (Or.inr (Or.inl ⟨_, rfl, rfl⟩)) rfl k
    have e1 := md_pass hT.1 hT.2.1 hp kc
    rw [lb_at_l hat] at e1
    subst e1
    have hR1 := yr_up hT (md_Sq (y := q + (lb_W (nt_sp + 1 + 3)).length) hT.1 hT.2.1)
    have hpw : q + (lb_W (nt_sp + 1 + 3)).length ≤ t := hat.1
    have k : nt_rn X _ 148 (20, [(0, .ref B), (1, .int (nI q))], [], me_w M (nt_u J B 15 (nI (q + (lb_W (nt_sp + 1 + 3)).length)))) _ := k
    have k := ly_revb 2 (c' := (22, [(0, .ref B), (1, .int (nI q))], [.ref B, .int (Int32.ofInt 4)], me_w M (nt_u J B 15 (nI (q + (lb_W (nt_sp + 1 + 3)).length))))) rfl k
    have k := lz_get (a := B) (g := 1110) (M := me_w M (nt_u J B 15 (nI (q + (lb_W (nt_sp + 1 + 3)).length)))) (v := .int (nI u.2.2.2.1)) rfl (congrArg Value.int (hR1.2.2.1.2.2.2.1)) k
    have k := ly_revb 5 (c' := (30, [(2, .int ((Int32.ofInt 4) * (nI u.2.2.2.1))), (0, .ref B), (1, .int (nI q))], [.ref B, .int (Int32.ofInt 0), .ref B], me_w M (nt_u J B 15 (nI (q + (lb_W (nt_sp + 1 + 3)).length))))) rfl k
    have k := lz_get (a := B) (g := 1108) (M := me_w M (nt_u J B 15 (nI (q + (lb_W (nt_sp + 1 + 3)).length)))) (v := .int (nI u.2.1)) rfl (congrArg Value.int (hR1.2.2.1.2.1)) k
    have k := ly_revb 2 (c' := (35, [(2, .int ((Int32.ofInt 4) * (nI u.2.2.2.1))), (0, .ref B), (1, .int (nI q))], [.int ((nI u.2.1) - (Int32.ofInt 1)), .int (Int32.ofInt 0), .ref B], me_w M (nt_u J B 15 (nI (q + (lb_W (nt_sp + 1 + 3)).length))))) rfl k
    obtain ⟨d1, o1, ed, kc, k⟩ := lz_c (g := 143) (q := 1) (vs := [.ref B, .int (Int32.ofInt 0), .int ((nI u.2.1) - (Int32.ofInt 1))]) (rest := []) rfl rfl (by decide) (Or.inr (Or.inl ⟨_, rfl, rfl⟩)) rfl k
    obtain ⟨r1, a1, J1, e1, hv1, hN1⟩ := yr_num hR1 hpw kc
    subst e1
    rcases r1 with c | ⟨q1, x1⟩
    · obtain ⟨hc, rfl, y1, hy1, hT1⟩ := hN1
      have k : nt_rn X _ 148 (38, [(2, .int ((Int32.ofInt 4) * (nI u.2.2.2.1))), (0, .ref B), (1, .int (nI q))], [.int (Int32.ofInt 0)], me_w M J1) _ := k
      have k := ly_revb 1 (c' := (if (Int32.ofInt 0) = 0 then 41 else 43, [(2, .int ((Int32.ofInt 4) * (nI u.2.2.2.1))), (0, .ref B), (1, .int (nI q))], [], me_w M J1)) rfl k
      rw [if_pos (show (Int32.ofInt 0) = 0 from by decide)] at k
      have k := ly_revb 1 (c' := (42, [(2, .int ((Int32.ofInt 4) * (nI u.2.2.2.1))), (0, .ref B), (1, .int (nI q))], [.int (Int32.ofInt 0)], me_w M J1)) rfl k
      have k := lz_ri rfl (by decide) k
      exact ⟨.inl c, _, _, k, Or.inr ⟨by omega, ⟨.inl c, ⟨_, hv1, Or.inl ⟨c, rfl, rfl⟩⟩, Or.inl ⟨c, rfl, rfl⟩⟩⟩, hc, rfl, _, _, _, _, hy1, hT1⟩
    · obtain ⟨rfl, y1, hz1, hy1, hT1, hw1⟩ := hN1
      dsimp only at hz1 hw1
      have hu1 := lb_nu_up (lb_s_le (t - (q + (lb_W (nt_sp + 1 + 3)).length)) (q + (lb_W (nt_sp + 1 + 3)).length) (by omega)).2 hv1
      have k : nt_rn X _ 148 (38, [(2, .int ((Int32.ofInt 4) * (nI u.2.2.2.1))), (0, .ref B), (1, .int (nI q))], [.int (Int32.ofInt 1)], me_w M J1) _ := k
      have k := ly_revb 1 (c' := (if (Int32.ofInt 1) = 0 then 41 else 43, [(2, .int ((Int32.ofInt 4) * (nI u.2.2.2.1))), (0, .ref B), (1, .int (nI q))], [], me_w M J1)) rfl k
      rw [if_neg (show ¬ ((Int32.ofInt 1) = 0) from by decide)] at k
      have k := ly_revb 1 (c' := (44, [(2, .int ((Int32.ofInt 4) * (nI u.2.2.2.1))), (0, .ref B), (1, .int (nI q))], [.ref B], me_w M J1)) rfl k
      have k := lz_get (a := B) (g := 1114) (M := me_w M J1) (v := .ref R2) rfl (nt_gfR rfl hW.1.2.2) k
      have k := ly_revb 2 (c' := (49, [(2, .int ((Int32.ofInt 4) * (nI u.2.2.2.1))), (0, .ref B), (1, .int (nI q))], [.ref B, .int ((Int32.ofInt 4) * (nI u.2.2.2.1)), .ref R2], me_w M J1)) rfl k
      have k := lz_get (a := B) (g := 1117) (M := me_w M J1) (v := .int (x1)) rfl (congrArg Value.int (hw1)) k
      have k := me_iastx rfl k
      have hR2 := yr_row (j := ((Int32.ofInt 4) * (nI u.2.2.2.1)).toNatClampNeg) (x := x1) hT1 hW.2.2.2.1 hW.2.2.2.2.1 hW.2.2.2.2.2.1 hW.2.2.2.2.2.2 (fun c => yr_C20 (lb_ix40 (by omega)) c)
      have k : nt_rn X _ 148 (53, [(2, .int ((Int32.ofInt 4) * (nI u.2.2.2.1))), (0, .ref B), (1, .int (nI q))], [], me_w M (nt_u J1 R2 ((Int32.ofInt 4) * (nI u.2.2.2.1)).toNatClampNeg (x1))) _ := k
      have k := ly_revb 3 (c' := (57, [(2, .int ((Int32.ofInt 4) * (nI u.2.2.2.1))), (0, .ref B), (1, .int (nI q))], [.int (Int32.ofInt 98), .int (Int32.ofInt 0), .ref B], me_w M (nt_u J1 R2 ((Int32.ofInt 4) * (nI u.2.2.2.1)).toNatClampNeg (x1)))) rfl k
      obtain ⟨d1, o1, ed, kc, k⟩ := lz_c (g := 143) (q := 1) (vs := [.ref B, .int (Int32.ofInt 0), .int (Int32.ofInt 98)]) (rest := []) rfl rfl (by decide) (Or.inr (Or.inl ⟨_, rfl, rfl⟩)) rfl k
      obtain ⟨r2, a2, J2, e1, hv2, hN2⟩ := yr_num hR2 hy1 kc
      subst e1
      rw [hz1] at hv2
      rcases r2 with c | ⟨q2, x2⟩
      · obtain ⟨hc, rfl, y2, hy2, hT2⟩ := hN2
        have k : nt_rn X _ 148 (60, [(2, .int ((Int32.ofInt 4) * (nI u.2.2.2.1))), (0, .ref B), (1, .int (nI q))], [.int (Int32.ofInt 0)], me_w M J2) _ := k
        have k := ly_revb 1 (c' := (if (Int32.ofInt 0) = 0 then 63 else 65, [(2, .int ((Int32.ofInt 4) * (nI u.2.2.2.1))), (0, .ref B), (1, .int (nI q))], [], me_w M J2)) rfl k
        rw [if_pos (show (Int32.ofInt 0) = 0 from by decide)] at k
        have k := ly_revb 1 (c' := (64, [(2, .int ((Int32.ofInt 4) * (nI u.2.2.2.1))), (0, .ref B), (1, .int (nI q))], [.int (Int32.ofInt 0)], me_w M J2)) rfl k
        have k := lz_ri rfl (by decide) k
        exact ⟨.inl c, _, _, k, Or.inr ⟨by omega, ⟨.inl c, ⟨_, hv1, Or.inr ⟨_, _, rfl, ⟨_, hv2, Or.inl ⟨c, rfl, rfl⟩⟩⟩⟩, Or.inl ⟨c, rfl, rfl⟩⟩⟩, hc, rfl, _, _, _, _, hy2, hT2⟩
      · obtain ⟨rfl, y2, hz2, hy2, hT2, hw2⟩ := hN2
        dsimp only at hz2 hw2
        have hu2 := lb_nu_up hu1.1 hv2
        have k : nt_rn X _ 148 (60, [(2, .int ((Int32.ofInt 4) * (nI u.2.2.2.1))), (0, .ref B), (1, .int (nI q))], [.int (Int32.ofInt 1)], me_w M J2) _ := k
        have k := ly_revb 1 (c' := (if (Int32.ofInt 1) = 0 then 63 else 65, [(2, .int ((Int32.ofInt 4) * (nI u.2.2.2.1))), (0, .ref B), (1, .int (nI q))], [], me_w M J2)) rfl k
        rw [if_neg (show ¬ ((Int32.ofInt 1) = 0) from by decide)] at k
        have k := ly_revb 1 (c' := (66, [(2, .int ((Int32.ofInt 4) * (nI u.2.2.2.1))), (0, .ref B), (1, .int (nI q))], [.ref B], me_w M J2)) rfl k
        have k := lz_get (a := B) (g := 1114) (M := me_w M J2) (v := .ref R2) rfl (nt_gfR rfl hW.1.2.2) k
        have k := ly_revb 4 (c' := (73, [(2, .int ((Int32.ofInt 4) * (nI u.2.2.2.1))), (0, .ref B), (1, .int (nI q))], [.ref B, .int (((Int32.ofInt 4) * (nI u.2.2.2.1)) + (Int32.ofInt 1)), .ref R2], me_w M J2)) rfl k
        have k := lz_get (a := B) (g := 1117) (M := me_w M J2) (v := .int (x2)) rfl (congrArg Value.int (hw2)) k
        have k := me_iastx rfl k
        have hR3 := yr_row (j := (((Int32.ofInt 4) * (nI u.2.2.2.1)) + (Int32.ofInt 1)).toNatClampNeg) (x := x2) hT2 hW.2.2.2.1 hW.2.2.2.2.1 hW.2.2.2.2.2.1 hW.2.2.2.2.2.2 (fun c => yr_C21 (lb_ix4' (i := 1) (by omega) (by decide)) c)
        have k : nt_rn X _ 148 (77, [(2, .int ((Int32.ofInt 4) * (nI u.2.2.2.1))), (0, .ref B), (1, .int (nI q))], [], me_w M (nt_u J2 R2 (((Int32.ofInt 4) * (nI u.2.2.2.1)) + (Int32.ofInt 1)).toNatClampNeg (x2))) _ := k
        have k := ly_revb 2 (c' := (79, [(2, .int ((Int32.ofInt 4) * (nI u.2.2.2.1))), (0, .ref B), (1, .int (nI q))], [.ref B, .ref B], me_w M (nt_u J2 R2 (((Int32.ofInt 4) * (nI u.2.2.2.1)) + (Int32.ofInt 1)).toNatClampNeg (x2)))) rfl k
        have k := lz_get (a := B) (g := 1117) (M := me_w M (nt_u J2 R2 (((Int32.ofInt 4) * (nI u.2.2.2.1)) + (Int32.ofInt 1)).toNatClampNeg (x2))) (v := .int (x2)) rfl (congrArg Value.int ((me_uj (Ne.symm hW.2.2.2.1)).trans (hw2))) k
        have k := ly_revb 3 (c' := (86, [(2, .int ((Int32.ofInt 4) * (nI u.2.2.2.1))), (0, .ref B), (1, .int (nI q))], [.int (Int32.ofInt 99), .int (x2 + (Int32.ofInt 1)), .ref B], me_w M (nt_u J2 R2 (((Int32.ofInt 4) * (nI u.2.2.2.1)) + (Int32.ofInt 1)).toNatClampNeg (x2)))) rfl k
        obtain ⟨d1, o1, ed, kc, k⟩ := lz_c (g := 143) (q := 1) (vs := [.ref B, .int (x2 + (Int32.ofInt 1)), .int (Int32.ofInt 99)]) (rest := []) rfl rfl (by decide) (Or.inr (Or.inl ⟨_, rfl, rfl⟩)) rfl k
        obtain ⟨r3, a3, J3, e1, hv3, hN3⟩ := yr_num hR3 hy2 kc
        subst e1
        rw [hz2] at hv3
        rcases r3 with c | ⟨q3, x3⟩
        · obtain ⟨hc, rfl, y3, hy3, hT3⟩ := hN3
          have k : nt_rn X _ 148 (89, [(2, .int ((Int32.ofInt 4) * (nI u.2.2.2.1))), (0, .ref B), (1, .int (nI q))], [.int (Int32.ofInt 0)], me_w M J3) _ := k
          have k := ly_revb 1 (c' := (if (Int32.ofInt 0) = 0 then 92 else 94, [(2, .int ((Int32.ofInt 4) * (nI u.2.2.2.1))), (0, .ref B), (1, .int (nI q))], [], me_w M J3)) rfl k
          rw [if_pos (show (Int32.ofInt 0) = 0 from by decide)] at k
          have k := ly_revb 1 (c' := (93, [(2, .int ((Int32.ofInt 4) * (nI u.2.2.2.1))), (0, .ref B), (1, .int (nI q))], [.int (Int32.ofInt 0)], me_w M J3)) rfl k
          have k := lz_ri rfl (by decide) k
          exact ⟨.inl c, _, _, k, Or.inr ⟨by omega, ⟨.inl c, ⟨_, hv1, Or.inr ⟨_, _, rfl, ⟨_, hv2, Or.inr ⟨_, _, rfl, ⟨_, hv3, Or.inl ⟨c, rfl, rfl⟩⟩⟩⟩⟩⟩, Or.inl ⟨c, rfl, rfl⟩⟩⟩, hc, rfl, _, _, _, _, hy3, hT3⟩
        · obtain ⟨rfl, y3, hz3, hy3, hT3, hw3⟩ := hN3
          dsimp only at hz3 hw3
          have hu3 := lb_nu_up hu2.1 hv3
          have k : nt_rn X _ 148 (89, [(2, .int ((Int32.ofInt 4) * (nI u.2.2.2.1))), (0, .ref B), (1, .int (nI q))], [.int (Int32.ofInt 1)], me_w M J3) _ := k
          have k := ly_revb 1 (c' := (if (Int32.ofInt 1) = 0 then 92 else 94, [(2, .int ((Int32.ofInt 4) * (nI u.2.2.2.1))), (0, .ref B), (1, .int (nI q))], [], me_w M J3)) rfl k
          rw [if_neg (show ¬ ((Int32.ofInt 1) = 0) from by decide)] at k
          have k := ly_revb 1 (c' := (95, [(2, .int ((Int32.ofInt 4) * (nI u.2.2.2.1))), (0, .ref B), (1, .int (nI q))], [.ref B], me_w M J3)) rfl k
          have k := lz_get (a := B) (g := 1114) (M := me_w M J3) (v := .ref R2) rfl (nt_gfR rfl hW.1.2.2) k
          have k := ly_revb 4 (c' := (102, [(2, .int ((Int32.ofInt 4) * (nI u.2.2.2.1))), (0, .ref B), (1, .int (nI q))], [.ref B, .int (((Int32.ofInt 4) * (nI u.2.2.2.1)) + (Int32.ofInt 2)), .ref R2], me_w M J3)) rfl k
          have k := lz_get (a := B) (g := 1117) (M := me_w M J3) (v := .int (x3)) rfl (congrArg Value.int (hw3)) k
          have k := me_iastx rfl k
          have hR4 := yr_row (j := (((Int32.ofInt 4) * (nI u.2.2.2.1)) + (Int32.ofInt 2)).toNatClampNeg) (x := x3) hT3 hW.2.2.2.1 hW.2.2.2.2.1 hW.2.2.2.2.2.1 hW.2.2.2.2.2.2 (fun c => yr_C22 (lb_ix4' (i := 2) (by omega) (by decide)) c)
          have k : nt_rn X _ 148 (106, [(2, .int ((Int32.ofInt 4) * (nI u.2.2.2.1))), (0, .ref B), (1, .int (nI q))], [], me_w M (nt_u J3 R2 (((Int32.ofInt 4) * (nI u.2.2.2.1)) + (Int32.ofInt 2)).toNatClampNeg (x3))) _ := k
          have k := ly_revb 3 (c' := (111, [(2, .int ((Int32.ofInt 4) * (nI u.2.2.2.1))), (0, .ref B), (1, .int (nI q))], [.int (Int32.ofInt 999), .int (Int32.ofInt 0), .ref B], me_w M (nt_u J3 R2 (((Int32.ofInt 4) * (nI u.2.2.2.1)) + (Int32.ofInt 2)).toNatClampNeg (x3)))) rfl k
          obtain ⟨d1, o1, ed, kc, k⟩ := lz_c (g := 143) (q := 1) (vs := [.ref B, .int (Int32.ofInt 0), .int (Int32.ofInt 999)]) (rest := []) rfl rfl (by decide) (Or.inr (Or.inl ⟨_, rfl, rfl⟩)) rfl k
          obtain ⟨r4, a4, J4, e1, hv4, hN4⟩ := yr_num hR4 hy3 kc
          subst e1
          rw [hz3] at hv4
          rcases r4 with c | ⟨q4, x4⟩
          · obtain ⟨hc, rfl, y4, hy4, hT4⟩ := hN4
            have k : nt_rn X _ 148 (114, [(2, .int ((Int32.ofInt 4) * (nI u.2.2.2.1))), (0, .ref B), (1, .int (nI q))], [.int (Int32.ofInt 0)], me_w M J4) _ := k
            have k := ly_revb 1 (c' := (if (Int32.ofInt 0) = 0 then 117 else 119, [(2, .int ((Int32.ofInt 4) * (nI u.2.2.2.1))), (0, .ref B), (1, .int (nI q))], [], me_w M J4)) rfl k
            rw [if_pos (show (Int32.ofInt 0) = 0 from by decide)] at k
            have k := ly_revb 1 (c' := (118, [(2, .int ((Int32.ofInt 4) * (nI u.2.2.2.1))), (0, .ref B), (1, .int (nI q))], [.int (Int32.ofInt 0)], me_w M J4)) rfl k
            have k := lz_ri rfl (by decide) k
            exact ⟨.inl c, _, _, k, Or.inr ⟨by omega, ⟨.inl c, ⟨_, hv1, Or.inr ⟨_, _, rfl, ⟨_, hv2, Or.inr ⟨_, _, rfl, ⟨_, hv3, Or.inr ⟨_, _, rfl, ⟨_, hv4, Or.inl ⟨c, rfl, rfl⟩⟩⟩⟩⟩⟩⟩⟩, Or.inl ⟨c, rfl, rfl⟩⟩⟩, hc, rfl, _, _, _, _, hy4, hT4⟩
          · obtain ⟨rfl, y4, hz4, hy4, hT4, hw4⟩ := hN4
            dsimp only at hz4 hw4
            have hu4 := lb_nu_up hu3.1 hv4
            have k : nt_rn X _ 148 (114, [(2, .int ((Int32.ofInt 4) * (nI u.2.2.2.1))), (0, .ref B), (1, .int (nI q))], [.int (Int32.ofInt 1)], me_w M J4) _ := k
            have k := ly_revb 1 (c' := (if (Int32.ofInt 1) = 0 then 117 else 119, [(2, .int ((Int32.ofInt 4) * (nI u.2.2.2.1))), (0, .ref B), (1, .int (nI q))], [], me_w M J4)) rfl k
            rw [if_neg (show ¬ ((Int32.ofInt 1) = 0) from by decide)] at k
            have k := ly_revb 1 (c' := (120, [(2, .int ((Int32.ofInt 4) * (nI u.2.2.2.1))), (0, .ref B), (1, .int (nI q))], [.ref B], me_w M J4)) rfl k
            have k := lz_get (a := B) (g := 1114) (M := me_w M J4) (v := .ref R2) rfl (nt_gfR rfl hW.1.2.2) k
            have k := ly_revb 4 (c' := (127, [(2, .int ((Int32.ofInt 4) * (nI u.2.2.2.1))), (0, .ref B), (1, .int (nI q))], [.ref B, .int (((Int32.ofInt 4) * (nI u.2.2.2.1)) + (Int32.ofInt 3)), .ref R2], me_w M J4)) rfl k
            have k := lz_get (a := B) (g := 1117) (M := me_w M J4) (v := .int (x4)) rfl (congrArg Value.int (hw4)) k
            have k := me_iastx rfl k
            have hR5 := yr_row (j := (((Int32.ofInt 4) * (nI u.2.2.2.1)) + (Int32.ofInt 3)).toNatClampNeg) (x := x4) hT4 hW.2.2.2.1 hW.2.2.2.2.1 hW.2.2.2.2.2.1 hW.2.2.2.2.2.2 (fun c => yr_C23 (lb_ix4' (i := 3) (by omega) (by decide)) c)
            have k : nt_rn X _ 148 (131, [(2, .int ((Int32.ofInt 4) * (nI u.2.2.2.1))), (0, .ref B), (1, .int (nI q))], [], me_w M (nt_u J4 R2 (((Int32.ofInt 4) * (nI u.2.2.2.1)) + (Int32.ofInt 3)).toNatClampNeg (x4))) _ := k
            have k := ly_revb 2 (c' := (133, [(2, .int ((Int32.ofInt 4) * (nI u.2.2.2.1))), (0, .ref B), (1, .int (nI q))], [.ref B, .ref B], me_w M (nt_u J4 R2 (((Int32.ofInt 4) * (nI u.2.2.2.1)) + (Int32.ofInt 3)).toNatClampNeg (x4)))) rfl k
            have k := lz_get (a := B) (g := 1110) (M := me_w M (nt_u J4 R2 (((Int32.ofInt 4) * (nI u.2.2.2.1)) + (Int32.ofInt 3)).toNatClampNeg (x4))) (v := .int (nI u.2.2.2.1)) rfl (congrArg Value.int (hR5.2.2.1.2.2.2.1)) k
            have k := ly_revb 2 (c' := (138, [(2, .int ((Int32.ofInt 4) * (nI u.2.2.2.1))), (0, .ref B), (1, .int (nI q))], [.int ((nI u.2.2.2.1) + (Int32.ofInt 1)), .ref B], me_w M (nt_u J4 R2 (((Int32.ofInt 4) * (nI u.2.2.2.1)) + (Int32.ofInt 3)).toNatClampNeg (x4)))) rfl k
            rw [show ((nI u.2.2.2.1) + (Int32.ofInt 1) : Int32) = nI (u.2.2.2.1 + 1) from me_add (k := 1)] at k
            have k := me_put rfl (by decide) k
            have k : nt_rn X _ 148 (141, [(2, .int ((Int32.ofInt 4) * (nI u.2.2.2.1))), (0, .ref B), (1, .int (nI q))], [], me_w M (nt_u (nt_u J4 R2 (((Int32.ofInt 4) * (nI u.2.2.2.1)) + (Int32.ofInt 3)).toNatClampNeg (x4)) B 10 (nI (u.2.2.2.1 + 1)))) _ := k
            have hR6 := yr_u3 (y := u.2.2.2.1 + 1) hR5
            have k := ly_revb 1 (c' := (142, [(2, .int ((Int32.ofInt 4) * (nI u.2.2.2.1))), (0, .ref B), (1, .int (nI q))], [.int (Int32.ofInt 1)], me_w M (nt_u (nt_u J4 R2 (((Int32.ofInt 4) * (nI u.2.2.2.1)) + (Int32.ofInt 3)).toNatClampNeg (x4)) B 10 (nI (u.2.2.2.1 + 1))))) rfl k
            have k := lz_ri rfl (by decide) k
            obtain ⟨b1, b2, b3, b4, b5⟩ := hb
            exact ⟨.inr (q4, u.1, u.2.1, u.2.2.1, u.2.2.2.1 + 1, u.2.2.2.2), _, _, k, Or.inr ⟨by omega, ⟨.inr q4, ⟨_, hv1, Or.inr ⟨_, _, rfl, ⟨_, hv2, Or.inr ⟨_, _, rfl, ⟨_, hv3, Or.inr ⟨_, _, rfl, ⟨_, hv4, Or.inr ⟨_, _, rfl, rfl⟩⟩⟩⟩⟩⟩⟩⟩, Or.inr ⟨_, rfl, rfl⟩⟩⟩, rfl, ⟨b1, b2, b3, by dsimp only; omega, b5⟩, hk0, y4, _, hz4, hy4, ⟨_, _, _, _, _, _, _, hv1, hv2, hv3, hv4, rfl⟩, hR6⟩
theorem yr_hands {R0 R1 R2 : Nat} {C : lb_C} {X : nt_X} {d t B Tb Sg Ln q m li : Nat} {f : Nat → Int32} {M : nt_M} {e : Nat × (Nat → Int32)} {u : Nat × Nat × Nat × Nat × Nat} {J : Nat → Nat → Int32} {o : Option Value × nt_M} (hW : yr_W M B Tb Sg Ln R0 R1 R2) (hT : yr_T R0 R1 R2 C M f t B Tb Sg Ln q 0 m e u li J) (hp : q ≤ t) (hb : lb_ub u) (hk0 : u.1 ≠ 0) (hat : lb_yw f t q 4) (k : nt_ev X d 149 [.ref B, .int (nI q)] (me_w M J) o) : ∃ r a J', o = (some (.int a), me_w M J') ∧ (((u.2.2.2.2 ≠ 0) ∧ r = .inl (lb_c q (Int32.ofInt 4))) ∨ (¬ (u.2.2.2.2 ≠ 0) ∧ lb_pa f t (q, u) (lb_s f t (q + (lb_W (nt_sp + 1 + 4)).length)) 4 r)) ∧ yr_Q R0 R1 R2 (fun v D => lb_paC f t u (lb_s f t (q + (lb_W (nt_sp + 1 + 4)).length)) v.1 4 C D) M f t B Tb Sg Ln m e li r a J' := by
  have k : nt_rn X d 149 (0, [(0, .ref B), (1, .int (nI q))], [], me_w M J) o := k
  have t4 : t ≤ 400 := hT.1.2.2.2.2.2.1
  have hb0 := hb
  obtain ⟨d1, d2, d3, d4, d5⟩ := hb0
  have k := ly_revb 1 (c' := (1, [(0, .ref B), (1, .int (nI q))], [.ref B], me_w M J)) rfl k
  have k := lz_get (a := B) (g := 1111) (M := me_w M J) (v := .int (lb_hh u.2.2.2.2)) rfl (congrArg Value.int (hT.2.2.1.2.2.2.2)) k
  have k := ly_revb 1 (c' := (if (lb_hh u.2.2.2.2) < 0 then 14 else 7, [(0, .ref B), (1, .int (nI q))], [], me_w M J)) rfl k
  by_cases h4 : u.2.2.2.2 = 0
  · rw [if_pos (show (lb_hh u.2.2.2.2) < 0 from by rw [h4]; decide)] at k
    have k := ly_revb 1 (c' := (15, [(0, .ref B), (1, .int (nI q))], [.ref B], me_w M J)) rfl k
    obtain ⟨d1, o1, ed, kc, k⟩ := lz_c (g := 142) (q := 1) (vs := [.ref B]) (rest := []) rfl rfl (by decide) (Or.inr (Or.inl ⟨_, rfl, rfl⟩)) rfl k
    have e1 := md_pass hT.1 hT.2.1 hp kc
    rw [lb_at_l hat] at e1
    subst e1
    have hR1 := yr_up hT (md_Sq (y := q + (lb_W (nt_sp + 1 + 4)).length) hT.1 hT.2.1)
    have hpw : q + (lb_W (nt_sp + 1 + 4)).length ≤ t := hat.1
    have k : nt_rn X _ 149 (18, [(0, .ref B), (1, .int (nI q))], [], me_w M (nt_u J B 15 (nI (q + (lb_W (nt_sp + 1 + 4)).length)))) _ := k
    have k := ly_revb 3 (c' := (22, [(0, .ref B), (1, .int (nI q))], [.int (Int32.ofInt 30), .int (Int32.ofInt 1), .ref B], me_w M (nt_u J B 15 (nI (q + (lb_W (nt_sp + 1 + 4)).length))))) rfl k
    obtain ⟨d1, o1, ed, kc, k⟩ := lz_c (g := 143) (q := 1) (vs := [.ref B, .int (Int32.ofInt 1), .int (Int32.ofInt 30)]) (rest := []) rfl rfl (by decide) (Or.inr (Or.inl ⟨_, rfl, rfl⟩)) rfl k
    obtain ⟨r1, a1, J1, e1, hv1, hN1⟩ := yr_num hR1 hpw kc
    subst e1
    rcases r1 with c | ⟨q1, x1⟩
    · obtain ⟨hc, rfl, y1, hy1, hT1⟩ := hN1
      have k : nt_rn X _ 149 (25, [(0, .ref B), (1, .int (nI q))], [.int (Int32.ofInt 0)], me_w M J1) _ := k
      have k := ly_revb 1 (c' := (if (Int32.ofInt 0) = 0 then 28 else 30, [(0, .ref B), (1, .int (nI q))], [], me_w M J1)) rfl k
      rw [if_pos (show (Int32.ofInt 0) = 0 from by decide)] at k
      have k := ly_revb 1 (c' := (29, [(0, .ref B), (1, .int (nI q))], [.int (Int32.ofInt 0)], me_w M J1)) rfl k
      have k := lz_ri rfl (by decide) k
      exact ⟨.inl c, _, _, k, Or.inr ⟨fun c => c h4, ⟨_, hv1, Or.inl ⟨c, rfl, rfl⟩⟩⟩, hc, rfl, _, _, _, _, hy1, hT1⟩
    · obtain ⟨rfl, y1, hz1, hy1, hT1, hw1⟩ := hN1
      dsimp only at hz1 hw1
      have hu1 := lb_nu_up (lb_s_le (t - (q + (lb_W (nt_sp + 1 + 4)).length)) (q + (lb_W (nt_sp + 1 + 4)).length) (by omega)).2 hv1
      have k : nt_rn X _ 149 (25, [(0, .ref B), (1, .int (nI q))], [.int (Int32.ofInt 1)], me_w M J1) _ := k
      have k := ly_revb 1 (c' := (if (Int32.ofInt 1) = 0 then 28 else 30, [(0, .ref B), (1, .int (nI q))], [], me_w M J1)) rfl k
      rw [if_neg (show ¬ ((Int32.ofInt 1) = 0) from by decide)] at k
      have k := ly_revb 2 (c' := (32, [(0, .ref B), (1, .int (nI q))], [.ref B, .ref B], me_w M J1)) rfl k
      have k := lz_get (a := B) (g := 1117) (M := me_w M J1) (v := .int (x1)) rfl (congrArg Value.int (hw1)) k
      have k := me_put rfl (by decide) k
      have k : nt_rn X _ 149 (38, [(0, .ref B), (1, .int (nI q))], [], me_w M (nt_u J1 B 11 (x1))) _ := k
      obtain ⟨ex, hx⟩ := yc_nn (b := 30) (by decide) hu1.2.1 hu1.2.2
      dsimp only at ex hx
      have hx1 : 1 ≤ x1.toInt.toNat := by have h1 : (1 : Int) ≤ x1.toInt := hu1.2.1; omega
      have eh : lb_hh x1.toInt.toNat = x1 := (if_neg (by omega)).trans ex.symm
      have hR2 := yr_u4 (y := x1.toInt.toNat) hT1
      rw [eh] at hR2
      have k := ly_revb 1 (c' := (39, [(0, .ref B), (1, .int (nI q))], [.int (Int32.ofInt 1)], me_w M (nt_u J1 B 11 (x1)))) rfl k
      have k := lz_ri rfl (by decide) k
      obtain ⟨b1, b2, b3, b4, b5⟩ := hb
      exact ⟨.inr (q1, u.1, u.2.1, u.2.2.1, u.2.2.2.1, x1.toInt.toNat), _, _, k, Or.inr ⟨fun c => c h4, ⟨_, hv1, Or.inr ⟨_, _, rfl, rfl⟩⟩⟩, rfl, ⟨b1, b2, b3, b4, hx⟩, hk0, y1, _, hz1, hy1, rfl, hR2⟩
  · rw [if_neg (show ¬ ((lb_hh u.2.2.2.2) < 0) from by unfold lb_hh; rw [if_neg h4]; exact nI_pos (by omega))] at k
    have k := ly_revb 3 (c' := (10, [(0, .ref B), (1, .int (nI q))], [.int (nI q), .int (Int32.ofInt 4), .ref B], me_w M J)) rfl k
    obtain ⟨d1, o1, ed, kc, k⟩ := lz_c (g := 139) (q := 1) (vs := [.ref B, .int (Int32.ofInt 4), .int (nI q)]) (rest := []) rfl rfl (by decide) (Or.inr (Or.inl ⟨_, rfl, rfl⟩)) rfl k
    obtain ⟨hf, e1⟩ := (md_fails (a := q) hT.1 hT.2.1 hp kc).resolve_right (fun c => c.1 rfl)
    subst e1
    have hR1 := yr_up hT (md_Sw (y := lb_c q (Int32.ofInt 4)) hT.1 hT.2.1)
    have k : nt_rn X _ 149 (13, [(0, .ref B), (1, .int (nI q))], [.int (Int32.ofInt 0)], me_w M (nt_u J B 16 (lb_c q (Int32.ofInt 4)))) _ := k
    have k := lz_ri rfl (by decide) k
    exact ⟨.inl (lb_c q (Int32.ofInt 4)), _, _, k, Or.inl ⟨h4, rfl⟩, (lb_c_ne (by omega) (by decide) (by decide)), rfl, _, _, _, _, hp, hR1⟩
theorem yr_shl {X : nt_X} {d t B Tb Sg Ln m li R0 R1 R2 : Nat} {f : Nat → Int32} {M : nt_M} {e : Nat × (Nat → Int32)} {u : Nat × Nat × Nat × Nat × Nat} {y0 : Int32} {o : Option Value × nt_M} (hW : yr_W M B Tb Sg Ln R0 R1 R2) (hb : lb_ub u) : ∀ (c i q : Nat) (C : lb_C) (J : Nat → Nat → Int32), i + c = u.1 → q ≤ t → yr_T R0 R1 R2 C M f t B Tb Sg Ln q 0 m e u li J → nt_rn X d 146 (22, [(2, .int (nI i)), (0, .ref B), (1, .int y0)], [], me_w M J) o → ∃ r a J', o = (some (.int a), me_w M J') ∧ lb_sh f t c (lb_s f t q) r ∧ ((∃ c1, r = .inl c1 ∧ c1 ≠ 0 ∧ a = Int32.ofInt 0 ∧ ∃ q' D, q' ≤ t ∧ yr_T R0 R1 R2 D M f t B Tb Sg Ln (q') c1 m e u li (J')) ∨ ∃ p, r = .inr p ∧ a = Int32.ofInt 1 ∧ ∃ q' D, lb_s f t q' = p ∧ q' ≤ t ∧ lb_shC f t u.2.1 c i (lb_s f t q) p C D ∧ yr_T R0 R1 R2 D M f t B Tb Sg Ln (q') 0 m e (u.1, u.2.1 + 1, u.2.2.1, u.2.2.2.1, u.2.2.2.2) li (J')) := by
  obtain ⟨d1, d2, d3, d4, d5⟩ := hb
  intro c
  induction c with
  | zero =>
    intro i q C J hc hp hT k
    have t4 : t ≤ 400 := hT.1.2.2.2.2.2.1
    have k := ly_revb 2 (c' := (24, [(2, .int (nI i)), (0, .ref B), (1, .int (y0))], [.ref B, .int (nI i)], me_w M J)) rfl k
    have k := lz_get (a := B) (g := 1107) (M := me_w M J) (v := .int (nI u.1)) rfl (congrArg Value.int (hT.2.2.1.1)) k
    have k := ly_revb 1 (c' := (if (nI u.1) ≤ (nI i) then 64 else 30, [(2, .int (nI i)), (0, .ref B), (1, .int (y0))], [], me_w M J)) rfl k
    rw [if_pos (show (nI u.1) ≤ (nI i) from nI_le (by omega) (by omega))] at k
    have k := ly_revb 2 (c' := (66, [(2, .int (nI i)), (0, .ref B), (1, .int (y0))], [.ref B, .ref B], me_w M J)) rfl k
    have k := lz_get (a := B) (g := 1108) (M := me_w M J) (v := .int (nI u.2.1)) rfl (congrArg Value.int (hT.2.2.1.2.1)) k
    have k := ly_revb 2 (c' := (71, [(2, .int (nI i)), (0, .ref B), (1, .int (y0))], [.int ((nI u.2.1) + (Int32.ofInt 1)), .ref B], me_w M J)) rfl k
    rw [show ((nI u.2.1) + (Int32.ofInt 1) : Int32) = nI (u.2.1 + 1) from me_add (k := 1)] at k
    have k := me_put rfl (by decide) k
    have k : nt_rn X _ 146 (74, [(2, .int (nI i)), (0, .ref B), (1, .int (y0))], [], me_w M (nt_u J B 8 (nI (u.2.1 + 1)))) _ := k
    have hR1 := yr_u1 (y := u.2.1 + 1) hT
    have k := ly_revb 1 (c' := (75, [(2, .int (nI i)), (0, .ref B), (1, .int (y0))], [.int (Int32.ofInt 1)], me_w M (nt_u J B 8 (nI (u.2.1 + 1))))) rfl k
    have k := lz_ri rfl (by decide) k
    exact ⟨.inr (lb_s f t q), _, _, k, rfl, Or.inr ⟨_, rfl, rfl, q, C, rfl, hp, ⟨rfl, rfl⟩, hR1⟩⟩
  | succ c ih =>
    intro i q C J hc hp hT k
    have t4 : t ≤ 400 := hT.1.2.2.2.2.2.1
    have k := ly_revb 2 (c' := (24, [(2, .int (nI i)), (0, .ref B), (1, .int (y0))], [.ref B, .int (nI i)], me_w M J)) rfl k
    have k := lz_get (a := B) (g := 1107) (M := me_w M J) (v := .int (nI u.1)) rfl (congrArg Value.int (hT.2.2.1.1)) k
    have k := ly_revb 1 (c' := (if (nI u.1) ≤ (nI i) then 64 else 30, [(2, .int (nI i)), (0, .ref B), (1, .int (y0))], [], me_w M J)) rfl k
    rw [if_neg (show ¬ ((nI u.1) ≤ (nI i)) from nI_ge (by omega) (by omega))] at k
    have k := ly_revb 3 (c' := (33, [(2, .int (nI i)), (0, .ref B), (1, .int (y0))], [.int (Int32.ofInt 5), .int (Int32.ofInt 0), .ref B], me_w M J)) rfl k
    obtain ⟨d1, o1, ed, kc, k⟩ := lz_c (g := 143) (q := 1) (vs := [.ref B, .int (Int32.ofInt 0), .int (Int32.ofInt 5)]) (rest := []) rfl rfl (by decide) (Or.inr (Or.inl ⟨_, rfl, rfl⟩)) rfl k
    obtain ⟨r1, a1, J1, e1, hv1, hN1⟩ := yr_num hT hp kc
    subst e1
    rcases r1 with c1 | ⟨q1, x1⟩
    · obtain ⟨hc1, rfl, y1, hy1, hT1⟩ := hN1
      have k : nt_rn X _ 146 (36, [(2, .int (nI i)), (0, .ref B), (1, .int (y0))], [.int (Int32.ofInt 0)], me_w M J1) _ := k
      have k := ly_revb 1 (c' := (if (Int32.ofInt 0) = 0 then 39 else 41, [(2, .int (nI i)), (0, .ref B), (1, .int (y0))], [], me_w M J1)) rfl k
      rw [if_pos (show (Int32.ofInt 0) = 0 from by decide)] at k
      have k := ly_revb 1 (c' := (40, [(2, .int (nI i)), (0, .ref B), (1, .int (y0))], [.int (Int32.ofInt 0)], me_w M J1)) rfl k
      have k := lz_ri rfl (by decide) k
      exact ⟨.inl c1, _, _, k, ⟨_, hv1, Or.inl ⟨c1, rfl, rfl⟩⟩, Or.inl ⟨c1, rfl, hc1, rfl, _, _, hy1, hT1⟩⟩
    · obtain ⟨rfl, y1, hz1, hy1, hT1, hw1⟩ := hN1
      dsimp only at hz1 hw1
      have hu1 := lb_nu_up (lb_s_le (t - (q)) (q) (by omega)).2 hv1
      have k : nt_rn X _ 146 (36, [(2, .int (nI i)), (0, .ref B), (1, .int (y0))], [.int (Int32.ofInt 1)], me_w M J1) _ := k
      have k := ly_revb 1 (c' := (if (Int32.ofInt 1) = 0 then 39 else 41, [(2, .int (nI i)), (0, .ref B), (1, .int (y0))], [], me_w M J1)) rfl k
      rw [if_neg (show ¬ ((Int32.ofInt 1) = 0) from by decide)] at k
      have k := ly_revb 1 (c' := (42, [(2, .int (nI i)), (0, .ref B), (1, .int (y0))], [.ref B], me_w M J1)) rfl k
      have k := lz_get (a := B) (g := 1112) (M := me_w M J1) (v := .ref R0) rfl (nt_gfR rfl hW.1.1) k
      have k := ly_revb 2 (c' := (47, [(2, .int (nI i)), (0, .ref B), (1, .int (y0))], [.ref B, .int (Int32.ofInt 4), .ref R0], me_w M J1)) rfl k
      have k := lz_get (a := B) (g := 1108) (M := me_w M J1) (v := .int (nI u.2.1)) rfl (congrArg Value.int (hT1.2.2.1.2.1)) k
      have k := ly_revb 4 (c' := (54, [(2, .int (nI i)), (0, .ref B), (1, .int (y0))], [.ref B, .int (((Int32.ofInt 4) * (nI u.2.1)) + (nI i)), .ref R0], me_w M J1)) rfl k
      have k := lz_get (a := B) (g := 1117) (M := me_w M J1) (v := .int (x1)) rfl (congrArg Value.int (hw1)) k
      have k := me_iastx rfl k
      have hR1 := yr_row (j := (((Int32.ofInt 4) * (nI u.2.1)) + (nI i)).toNatClampNeg) (x := x1) hT1 hW.2.1.1 hW.2.1.2.1 hW.2.1.2.2.1 hW.2.1.2.2.2 (fun c => yr_C0 (lb_ix4' (by omega) (by omega)) c)
      have k : nt_rn X _ 146 (58, [(2, .int (nI i)), (0, .ref B), (1, .int (y0))], [], me_w M (nt_u J1 R0 (((Int32.ofInt 4) * (nI u.2.1)) + (nI i)).toNatClampNeg (x1))) _ := k
      have k := ly_revb 1 (c' := (61, [(2, .int ((nI i) + Int32.ofInt 1)), (0, .ref B), (1, .int (y0))], [], me_w M (nt_u J1 R0 (((Int32.ofInt 4) * (nI u.2.1)) + (nI i)).toNatClampNeg (x1)))) rfl k
      rw [show ((nI i) + Int32.ofInt 1 : Int32) = nI (i + 1) from me_add (k := 1)] at k
      have k := ly_revb 1 (c' := (22, [(2, .int (nI (i + 1))), (0, .ref B), (1, .int (y0))], [], me_w M (nt_u J1 R0 (((Int32.ofInt 4) * (nI u.2.1)) + (nI i)).toNatClampNeg (x1)))) rfl k
      obtain ⟨r, a, J', e9, hs, hr⟩ := ih (i + 1) y1 _ _ (by omega) hy1 hR1 k
      rw [hz1] at hs hr
      refine ⟨r, a, J', e9, ⟨_, hv1, Or.inr ⟨_, _, rfl, hs⟩⟩, hr.imp_right (fun ⟨p, x1, x2, q', D, x3, x4, x5, x6⟩ => ⟨p, x1, x2, q', D, x3, x4, ⟨_, _, hv1, x5⟩, x6⟩)⟩
theorem yr_ship {R0 R1 R2 : Nat} {C : lb_C} {X : nt_X} {d t B Tb Sg Ln q m li : Nat} {f : Nat → Int32} {M : nt_M} {e : Nat × (Nat → Int32)} {u : Nat × Nat × Nat × Nat × Nat} {J : Nat → Nat → Int32} {o : Option Value × nt_M} (hW : yr_W M B Tb Sg Ln R0 R1 R2) (hT : yr_T R0 R1 R2 C M f t B Tb Sg Ln q 0 m e u li J) (hp : q ≤ t) (hb : lb_ub u) (hk0 : u.1 ≠ 0) (hat : lb_yw f t q 1) (k : nt_ev X d 146 [.ref B, .int (nI q)] (me_w M J) o) : ∃ r a J', o = (some (.int a), me_w M J') ∧ (((6 ≤ u.2.1) ∧ r = .inl (lb_c q (Int32.ofInt 4))) ∨ (¬ (6 ≤ u.2.1) ∧ lb_pa f t (q, u) (lb_s f t (q + (lb_W (nt_sp + 1 + 1)).length)) 1 r)) ∧ yr_Q R0 R1 R2 (fun v D => lb_paC f t u (lb_s f t (q + (lb_W (nt_sp + 1 + 1)).length)) v.1 1 C D) M f t B Tb Sg Ln m e li r a J' := by
  have k : nt_rn X d 146 (0, [(0, .ref B), (1, .int (nI q))], [], me_w M J) o := k
  have t4 : t ≤ 400 := hT.1.2.2.2.2.2.1
  have hb0 := hb
  obtain ⟨d1, d2, d3, d4, d5⟩ := hb0
  have k := ly_revb 1 (c' := (1, [(0, .ref B), (1, .int (nI q))], [.ref B], me_w M J)) rfl k
  have k := lz_get (a := B) (g := 1108) (M := me_w M J) (v := .int (nI u.2.1)) rfl (congrArg Value.int (hT.2.2.1.2.1)) k
  have k := ly_revb 2 (c' := (if (nI u.2.1) = (Int32.ofInt 6) then 9 else 16, [(0, .ref B), (1, .int (nI q))], [], me_w M J)) rfl k
  by_cases h6 : u.2.1 = 6
  · rw [if_pos (show (nI u.2.1) = (Int32.ofInt 6) from show nI u.2.1 = nI 6 from congrArg nI h6)] at k
    have k := ly_revb 3 (c' := (12, [(0, .ref B), (1, .int (nI q))], [.int (nI q), .int (Int32.ofInt 4), .ref B], me_w M J)) rfl k
    obtain ⟨d1, o1, ed, kc, k⟩ := lz_c (g := 139) (q := 1) (vs := [.ref B, .int (Int32.ofInt 4), .int (nI q)]) (rest := []) rfl rfl (by decide) (Or.inr (Or.inl ⟨_, rfl, rfl⟩)) rfl k
    obtain ⟨hf, e1⟩ := (md_fails (a := q) hT.1 hT.2.1 hp kc).resolve_right (fun c => c.1 rfl)
    subst e1
    have hR1 := yr_up hT (md_Sw (y := lb_c q (Int32.ofInt 4)) hT.1 hT.2.1)
    have k : nt_rn X _ 146 (15, [(0, .ref B), (1, .int (nI q))], [.int (Int32.ofInt 0)], me_w M (nt_u J B 16 (lb_c q (Int32.ofInt 4)))) _ := k
    have k := lz_ri rfl (by decide) k
    exact ⟨.inl (lb_c q (Int32.ofInt 4)), _, _, k, Or.inl ⟨by omega, rfl⟩, (lb_c_ne (by omega) (by decide) (by decide)), rfl, _, _, _, _, hp, hR1⟩
  · rw [if_neg (show ¬ ((nI u.2.1) = (Int32.ofInt 6)) from show ¬ nI u.2.1 = nI 6 from me_ne h6 (by omega) (by omega))] at k
    have k := ly_revb 1 (c' := (17, [(0, .ref B), (1, .int (nI q))], [.ref B], me_w M J)) rfl k
    obtain ⟨d1, o1, ed, kc, k⟩ := lz_c (g := 142) (q := 1) (vs := [.ref B]) (rest := []) rfl rfl (by decide) (Or.inr (Or.inl ⟨_, rfl, rfl⟩)) rfl k
    have e1 := md_pass hT.1 hT.2.1 hp kc
    rw [lb_at_l hat] at e1
    subst e1
    have hR1 := yr_up hT (md_Sq (y := q + (lb_W (nt_sp + 1 + 1)).length) hT.1 hT.2.1)
    have hpw : q + (lb_W (nt_sp + 1 + 1)).length ≤ t := hat.1
    have k : nt_rn X _ 146 (20, [(0, .ref B), (1, .int (nI q))], [], me_w M (nt_u J B 15 (nI (q + (lb_W (nt_sp + 1 + 1)).length)))) _ := k
    have k := ly_revb 2 (c' := (22, [(2, .int (Int32.ofInt 0)), (0, .ref B), (1, .int (nI q))], [], me_w M (nt_u J B 15 (nI (q + (lb_W (nt_sp + 1 + 1)).length))))) rfl k
    obtain ⟨r1, a, J9, e9, hs, hr⟩ := yr_shl hW hb u.1 0 _ _ _ (by omega) hpw hR1 k
    rcases hr with ⟨c, rfl, hc, rfl, y1, D9, hy1, h9⟩ | ⟨p, rfl, rfl, y1, D9, hz1, hy1, hC9, h9⟩
    · exact ⟨.inl c, _, J9, e9, Or.inr ⟨by omega, .inl c, hs, Or.inl ⟨c, rfl, rfl⟩⟩, hc, rfl, _, _, _, _, hy1, h9⟩
    · obtain ⟨b1, b2, b3, b4, b5⟩ := hb
      exact ⟨.inr (p, u.1, u.2.1 + 1, u.2.2.1, u.2.2.2.1, u.2.2.2.2), _, J9, e9, Or.inr ⟨by omega, .inr p, hs, Or.inr ⟨p, rfl, rfl⟩⟩, rfl, ⟨b1, by dsimp only; omega, b3, b4, b5⟩, hk0, y1, D9, hz1, hy1, hC9, h9⟩
end
section
/-! the other side's clauses of a yard -/
theorem yr_line0 {R0 R1 R2 : Nat} {C : lb_C} {X : nt_X} {d t B Tb Sg Ln q m li : Nat} {f : Nat → Int32} {M : nt_M} {e : Nat × (Nat → Int32)} {u : Nat × Nat × Nat × Nat × Nat} {J : Nat → Nat → Int32} {o : Option Value × nt_M} (hW : yr_W M B Tb Sg Ln R0 R1 R2) (hT : yr_T R0 R1 R2 C M f t B Tb Sg Ln q 0 m e u li J) (hp : q ≤ t) (hq : lb_s f t q = q) (hb : lb_ub u) (hat : lb_yw f t q 0) (hbe : ∀ v, v < 0 → ¬ lb_yw f t q v) (k : nt_ev X d 140 [.ref B, .int (nI q)] (me_w M J) o) : ∃ r a J', o = (some (.int a), me_w M J') ∧ (((u.1 ≠ 0) ∧ r = .inl (lb_c q (Int32.ofInt 4))) ∨ (¬ (u.1 ≠ 0) ∧ lb_pa f t (q, u) (lb_s f t (q + (lb_W (nt_sp + 1 + 0)).length)) 0 r)) ∧ yr_Q R0 R1 R2 (fun v D => lb_paC f t u (lb_s f t (q + (lb_W (nt_sp + 1 + 0)).length)) v.1 0 C D) M f t B Tb Sg Ln m e li r a J' := by
  have k : nt_rn X d 140 (0, [(0, .ref B), (1, .int (nI q))], [], me_w M J) o := k
  have t4 : t ≤ 400 := hT.1.2.2.2.2.2.1
  have hb0 := hb
  obtain ⟨d1, d2, d3, d4, d5⟩ := hb0
  have k := ly_revb 2 (c' := (4, [(0, .ref B), (1, .int (nI q))], [.long (461330343027), .ref B], me_w M J)) rfl k
  obtain ⟨d1, o1, ed, kc, k⟩ := lz_c (g := 137) (q := 1) (vs := [.ref B, .long (461330343027)]) (rest := []) rfl rfl (by decide) (Or.inr (Or.inl ⟨_, rfl, rfl⟩)) rfl k
  obtain ⟨r, e1, hr⟩ := md_isWord hT.1 hT.2.1 hp kc
  rw [hq, me_ui hT.2.1.1] at e1
  rw [hq, lb_w_kinds] at hr
  subst e1
  obtain ⟨rfl, _⟩ := hr.resolve_right (fun c => c.2 hat)
  have k : nt_rn X _ 140 (7, [(0, .ref B), (1, .int (nI q))], [.int (Int32.ofInt 1)], me_w M J) _ := k
  have k := ly_revb 1 (c' := (if (Int32.ofInt 1) = 0 then 16 else 10, [(0, .ref B), (1, .int (nI q))], [], me_w M J)) rfl k
  rw [if_neg (show ¬ ((Int32.ofInt 1) = 0) from by decide)] at k
  have k := ly_revb 2 (c' := (12, [(0, .ref B), (1, .int (nI q))], [.int (nI q), .ref B], me_w M J)) rfl k
  obtain ⟨d1, o1, ed, kc, k⟩ := lz_c (g := 141) (q := 1) (vs := [.ref B, .int (nI q)]) (rest := []) rfl rfl (by decide) (Or.inr (Or.inl ⟨_, rfl, rfl⟩)) rfl k
  obtain ⟨r, a, J', e1, hrel, hQ⟩ := yr_kinds hW hT hp hb hat kc
  subst e1
  have k : nt_rn X _ 140 (15, [(0, .ref B), (1, .int (nI q))], [.int (a)], me_w M (J')) _ := k
  have k := lz_ri rfl (by decide) k
  exact ⟨r, a, J', k, hrel, hQ⟩
theorem yr_line1 {R0 R1 R2 : Nat} {C : lb_C} {X : nt_X} {d t B Tb Sg Ln q m li : Nat} {f : Nat → Int32} {M : nt_M} {e : Nat × (Nat → Int32)} {u : Nat × Nat × Nat × Nat × Nat} {J : Nat → Nat → Int32} {o : Option Value × nt_M} (hW : yr_W M B Tb Sg Ln R0 R1 R2) (hT : yr_T R0 R1 R2 C M f t B Tb Sg Ln q 0 m e u li J) (hp : q ≤ t) (hq : lb_s f t q = q) (hb : lb_ub u) (hat : lb_yw f t q 1) (hbe : ∀ v, v < 1 → ¬ lb_yw f t q v) (k : nt_ev X d 140 [.ref B, .int (nI q)] (me_w M J) o) : ∃ r a J', o = (some (.int a), me_w M J') ∧ (((u.1 = 0 ∨ (6 ≤ u.2.1)) ∧ r = .inl (lb_c q (Int32.ofInt 4))) ∨ (¬ (u.1 = 0 ∨ (6 ≤ u.2.1)) ∧ lb_pa f t (q, u) (lb_s f t (q + (lb_W (nt_sp + 1 + 1)).length)) 1 r)) ∧ yr_Q R0 R1 R2 (fun v D => lb_paC f t u (lb_s f t (q + (lb_W (nt_sp + 1 + 1)).length)) v.1 1 C D) M f t B Tb Sg Ln m e li r a J' := by
  have k : nt_rn X d 140 (0, [(0, .ref B), (1, .int (nI q))], [], me_w M J) o := k
  have t4 : t ≤ 400 := hT.1.2.2.2.2.2.1
  have hb0 := hb
  obtain ⟨d1, d2, d3, d4, d5⟩ := hb0
  have k := ly_revb 2 (c' := (4, [(0, .ref B), (1, .int (nI q))], [.long (461330343027), .ref B], me_w M J)) rfl k
  obtain ⟨d1, o1, ed, kc, k⟩ := lz_c (g := 137) (q := 1) (vs := [.ref B, .long (461330343027)]) (rest := []) rfl rfl (by decide) (Or.inr (Or.inl ⟨_, rfl, rfl⟩)) rfl k
  obtain ⟨r, e1, hr⟩ := md_isWord hT.1 hT.2.1 hp kc
  rw [hq, me_ui hT.2.1.1] at e1
  rw [hq, lb_w_kinds] at hr
  subst e1
  obtain ⟨rfl, _⟩ := hr.resolve_left (fun c => hbe 0 (by decide) c.2)
  have k : nt_rn X _ 140 (7, [(0, .ref B), (1, .int (nI q))], [.int (Int32.ofInt 0)], me_w M J) _ := k
  have k := ly_revb 1 (c' := (if (Int32.ofInt 0) = 0 then 16 else 10, [(0, .ref B), (1, .int (nI q))], [], me_w M J)) rfl k
  rw [if_pos (show (Int32.ofInt 0) = 0 from by decide)] at k
  have k := ly_revb 1 (c' := (17, [(0, .ref B), (1, .int (nI q))], [.ref B], me_w M J)) rfl k
  have k := lz_get (a := B) (g := 1107) (M := me_w M J) (v := .int (nI u.1)) rfl (congrArg Value.int (hT.2.2.1.1)) k
  have k := ly_revb 1 (c' := (if (nI u.1) = 0 then 23 else 30, [(0, .ref B), (1, .int (nI q))], [], me_w M J)) rfl k
  by_cases h20 : u.1 = 0
  · rw [if_pos (show (nI u.1) = 0 from show nI u.1 = nI 0 from congrArg nI h20)] at k
    have k := ly_revb 3 (c' := (26, [(0, .ref B), (1, .int (nI q))], [.int (nI q), .int (Int32.ofInt 4), .ref B], me_w M J)) rfl k
    obtain ⟨d1, o1, ed, kc, k⟩ := lz_c (g := 139) (q := 1) (vs := [.ref B, .int (Int32.ofInt 4), .int (nI q)]) (rest := []) rfl rfl (by decide) (Or.inr (Or.inl ⟨_, rfl, rfl⟩)) rfl k
    obtain ⟨hf, e1⟩ := (md_fails (a := q) hT.1 hT.2.1 hp kc).resolve_right (fun c => c.1 rfl)
    subst e1
    have hR1 := yr_up hT (md_Sw (y := lb_c q (Int32.ofInt 4)) hT.1 hT.2.1)
    have k : nt_rn X _ 140 (29, [(0, .ref B), (1, .int (nI q))], [.int (Int32.ofInt 0)], me_w M (nt_u J B 16 (lb_c q (Int32.ofInt 4)))) _ := k
    have k := lz_ri rfl (by decide) k
    exact ⟨.inl (lb_c q (Int32.ofInt 4)), _, _, k, Or.inl ⟨Or.inl h20, rfl⟩, (lb_c_ne (by omega) (by decide) (by decide)), rfl, _, _, _, _, hp, hR1⟩
  · rw [if_neg (show ¬ ((nI u.1) = 0) from nI_ne0 (Nat.pos_of_ne_zero h20) (by omega))] at k
    have k := ly_revb 2 (c' := (34, [(0, .ref B), (1, .int (nI q))], [.long (1936222576), .ref B], me_w M J)) rfl k
    obtain ⟨d1, o1, ed, kc, k⟩ := lz_c (g := 137) (q := 1) (vs := [.ref B, .long (1936222576)]) (rest := []) rfl rfl (by decide) (Or.inr (Or.inl ⟨_, rfl, rfl⟩)) rfl k
    obtain ⟨r, e1, hr⟩ := md_isWord hT.1 hT.2.1 hp kc
    rw [hq, me_ui hT.2.1.1] at e1
    rw [hq, lb_w_ship] at hr
    subst e1
    obtain ⟨rfl, _⟩ := hr.resolve_right (fun c => c.2 hat)
    have k : nt_rn X _ 140 (37, [(0, .ref B), (1, .int (nI q))], [.int (Int32.ofInt 1)], me_w M J) _ := k
    have k := ly_revb 1 (c' := (if (Int32.ofInt 1) = 0 then 46 else 40, [(0, .ref B), (1, .int (nI q))], [], me_w M J)) rfl k
    rw [if_neg (show ¬ ((Int32.ofInt 1) = 0) from by decide)] at k
    have k := ly_revb 2 (c' := (42, [(0, .ref B), (1, .int (nI q))], [.int (nI q), .ref B], me_w M J)) rfl k
    obtain ⟨d1, o1, ed, kc, k⟩ := lz_c (g := 146) (q := 1) (vs := [.ref B, .int (nI q)]) (rest := []) rfl rfl (by decide) (Or.inr (Or.inl ⟨_, rfl, rfl⟩)) rfl k
    obtain ⟨r, a, J', e1, hrel, hQ⟩ := yr_ship hW hT hp hb h20 hat kc
    subst e1
    have k : nt_rn X _ 140 (45, [(0, .ref B), (1, .int (nI q))], [.int (a)], me_w M (J')) _ := k
    have k := lz_ri rfl (by decide) k
    exact ⟨r, a, J', k, hrel.imp (fun c => ⟨Or.inr c.1, c.2⟩) (fun c => ⟨fun h => h.elim h20 c.1, c.2⟩), hQ⟩
theorem yr_line2 {R0 R1 R2 : Nat} {C : lb_C} {X : nt_X} {d t B Tb Sg Ln q m li : Nat} {f : Nat → Int32} {M : nt_M} {e : Nat × (Nat → Int32)} {u : Nat × Nat × Nat × Nat × Nat} {J : Nat → Nat → Int32} {o : Option Value × nt_M} (hW : yr_W M B Tb Sg Ln R0 R1 R2) (hT : yr_T R0 R1 R2 C M f t B Tb Sg Ln q 0 m e u li J) (hp : q ≤ t) (hq : lb_s f t q = q) (hb : lb_ub u) (hat : lb_yw f t q 2) (hbe : ∀ v, v < 2 → ¬ lb_yw f t q v) (k : nt_ev X d 140 [.ref B, .int (nI q)] (me_w M J) o) : ∃ r a J', o = (some (.int a), me_w M J') ∧ (((u.1 = 0 ∨ (24 ≤ u.2.2.1)) ∧ r = .inl (lb_c q (Int32.ofInt 4))) ∨ (¬ (u.1 = 0 ∨ (24 ≤ u.2.2.1)) ∧ lb_pa f t (q, u) (lb_s f t (q + (lb_W (nt_sp + 1 + 2)).length)) 2 r)) ∧ yr_Q R0 R1 R2 (fun v D => lb_paC f t u (lb_s f t (q + (lb_W (nt_sp + 1 + 2)).length)) v.1 2 C D) M f t B Tb Sg Ln m e li r a J' := by
  have k : nt_rn X d 140 (0, [(0, .ref B), (1, .int (nI q))], [], me_w M J) o := k
  have t4 : t ≤ 400 := hT.1.2.2.2.2.2.1
  have hb0 := hb
  obtain ⟨d1, d2, d3, d4, d5⟩ := hb0
  have k := ly_revb 2 (c' := (4, [(0, .ref B), (1, .int (nI q))], [.long (461330343027), .ref B], me_w M J)) rfl k
  obtain ⟨d1, o1, ed, kc, k⟩ := lz_c (g := 137) (q := 1) (vs := [.ref B, .long (461330343027)]) (rest := []) rfl rfl (by decide) (Or.inr (Or.inl ⟨_, rfl, rfl⟩)) rfl k
  obtain ⟨r, e1, hr⟩ := md_isWord hT.1 hT.2.1 hp kc
  rw [hq, me_ui hT.2.1.1] at e1
  rw [hq, lb_w_kinds] at hr
  subst e1
  obtain ⟨rfl, _⟩ := hr.resolve_left (fun c => hbe 0 (by decide) c.2)
  have k : nt_rn X _ 140 (7, [(0, .ref B), (1, .int (nI q))], [.int (Int32.ofInt 0)], me_w M J) _ := k
  have k := ly_revb 1 (c' := (if (Int32.ofInt 0) = 0 then 16 else 10, [(0, .ref B), (1, .int (nI q))], [], me_w M J)) rfl k
  rw [if_pos (show (Int32.ofInt 0) = 0 from by decide)] at k
  have k := ly_revb 1 (c' := (17, [(0, .ref B), (1, .int (nI q))], [.ref B], me_w M J)) rfl k
  have k := lz_get (a := B) (g := 1107) (M := me_w M J) (v := .int (nI u.1)) rfl (congrArg Value.int (hT.2.2.1.1)) k
  have k := ly_revb 1 (c' := (if (nI u.1) = 0 then 23 else 30, [(0, .ref B), (1, .int (nI q))], [], me_w M J)) rfl k
  by_cases h20 : u.1 = 0
  · rw [if_pos (show (nI u.1) = 0 from show nI u.1 = nI 0 from congrArg nI h20)] at k
    have k := ly_revb 3 (c' := (26, [(0, .ref B), (1, .int (nI q))], [.int (nI q), .int (Int32.ofInt 4), .ref B], me_w M J)) rfl k
    obtain ⟨d1, o1, ed, kc, k⟩ := lz_c (g := 139) (q := 1) (vs := [.ref B, .int (Int32.ofInt 4), .int (nI q)]) (rest := []) rfl rfl (by decide) (Or.inr (Or.inl ⟨_, rfl, rfl⟩)) rfl k
    obtain ⟨hf, e1⟩ := (md_fails (a := q) hT.1 hT.2.1 hp kc).resolve_right (fun c => c.1 rfl)
    subst e1
    have hR1 := yr_up hT (md_Sw (y := lb_c q (Int32.ofInt 4)) hT.1 hT.2.1)
    have k : nt_rn X _ 140 (29, [(0, .ref B), (1, .int (nI q))], [.int (Int32.ofInt 0)], me_w M (nt_u J B 16 (lb_c q (Int32.ofInt 4)))) _ := k
    have k := lz_ri rfl (by decide) k
    exact ⟨.inl (lb_c q (Int32.ofInt 4)), _, _, k, Or.inl ⟨Or.inl h20, rfl⟩, (lb_c_ne (by omega) (by decide) (by decide)), rfl, _, _, _, _, hp, hR1⟩
  · rw [if_neg (show ¬ ((nI u.1) = 0) from nI_ne0 (Nat.pos_of_ne_zero h20) (by omega))] at k
    have k := ly_revb 2 (c' := (34, [(0, .ref B), (1, .int (nI q))], [.long (1936222576), .ref B], me_w M J)) rfl k
    obtain ⟨d1, o1, ed, kc, k⟩ := lz_c (g := 137) (q := 1) (vs := [.ref B, .long (1936222576)]) (rest := []) rfl rfl (by decide) (Or.inr (Or.inl ⟨_, rfl, rfl⟩)) rfl k
    obtain ⟨r, e1, hr⟩ := md_isWord hT.1 hT.2.1 hp kc
    rw [hq, me_ui hT.2.1.1] at e1
    rw [hq, lb_w_ship] at hr
    subst e1
    obtain ⟨rfl, _⟩ := hr.resolve_left (fun c => hbe 1 (by decide) c.2)
    have k : nt_rn X _ 140 (37, [(0, .ref B), (1, .int (nI q))], [.int (Int32.ofInt 0)], me_w M J) _ := k
    have k := ly_revb 1 (c' := (if (Int32.ofInt 0) = 0 then 46 else 40, [(0, .ref B), (1, .int (nI q))], [], me_w M J)) rfl k
    rw [if_pos (show (Int32.ofInt 0) = 0 from by decide)] at k
    have k := ly_revb 2 (c' := (50, [(0, .ref B), (1, .int (nI q))], [.long (482854661739), .ref B], me_w M J)) rfl k
    obtain ⟨d1, o1, ed, kc, k⟩ := lz_c (g := 137) (q := 1) (vs := [.ref B, .long (482854661739)]) (rest := []) rfl rfl (by decide) (Or.inr (Or.inl ⟨_, rfl, rfl⟩)) rfl k
    obtain ⟨r, e1, hr⟩ := md_isWord hT.1 hT.2.1 hp kc
    rw [hq, me_ui hT.2.1.1] at e1
    rw [hq, lb_w_plank] at hr
    subst e1
    obtain ⟨rfl, _⟩ := hr.resolve_right (fun c => c.2 hat)
    have k : nt_rn X _ 140 (53, [(0, .ref B), (1, .int (nI q))], [.int (Int32.ofInt 1)], me_w M J) _ := k
    have k := ly_revb 1 (c' := (if (Int32.ofInt 1) = 0 then 64 else 56, [(0, .ref B), (1, .int (nI q))], [], me_w M J)) rfl k
    rw [if_neg (show ¬ ((Int32.ofInt 1) = 0) from by decide)] at k
    have k := ly_revb 2 (c' := (58, [(0, .ref B), (1, .int (nI q))], [.int (nI q), .ref B], me_w M J)) rfl k
    obtain ⟨d1, o1, ed, kc, k⟩ := lz_c (g := 147) (q := 1) (vs := [.ref B, .int (nI q)]) (rest := []) rfl rfl (by decide) (Or.inr (Or.inl ⟨_, rfl, rfl⟩)) rfl k
    obtain ⟨r, a, J', e1, hrel, hQ⟩ := yr_plank hW hT hp hb h20 hat kc
    subst e1
    have k : nt_rn X _ 140 (61, [(0, .ref B), (1, .int (nI q))], [.int (a)], me_w M (J')) _ := k
    have k := ly_revb 1 (c' := (87, [(0, .ref B), (1, .int (nI q))], [.int (a)], me_w M (J'))) rfl k
    have k := lz_ri rfl (by decide) k
    exact ⟨r, a, J', k, hrel.imp (fun c => ⟨Or.inr c.1, c.2⟩) (fun c => ⟨fun h => h.elim h20 c.1, c.2⟩), hQ⟩
theorem yr_line3 {R0 R1 R2 : Nat} {C : lb_C} {X : nt_X} {d t B Tb Sg Ln q m li : Nat} {f : Nat → Int32} {M : nt_M} {e : Nat × (Nat → Int32)} {u : Nat × Nat × Nat × Nat × Nat} {J : Nat → Nat → Int32} {o : Option Value × nt_M} (hW : yr_W M B Tb Sg Ln R0 R1 R2) (hT : yr_T R0 R1 R2 C M f t B Tb Sg Ln q 0 m e u li J) (hp : q ≤ t) (hq : lb_s f t q = q) (hb : lb_ub u) (hat : lb_yw f t q 3) (hbe : ∀ v, v < 3 → ¬ lb_yw f t q v) (k : nt_ev X d 140 [.ref B, .int (nI q)] (me_w M J) o) : ∃ r a J', o = (some (.int a), me_w M J') ∧ (((u.1 = 0 ∨ (8 ≤ u.2.2.2.1)) ∧ r = .inl (lb_c q (Int32.ofInt 4))) ∨ (¬ (u.1 = 0 ∨ (8 ≤ u.2.2.2.1)) ∧ lb_pa f t (q, u) (lb_s f t (q + (lb_W (nt_sp + 1 + 3)).length)) 3 r)) ∧ yr_Q R0 R1 R2 (fun v D => lb_paC f t u (lb_s f t (q + (lb_W (nt_sp + 1 + 3)).length)) v.1 3 C D) M f t B Tb Sg Ln m e li r a J' := by
  have k : nt_rn X d 140 (0, [(0, .ref B), (1, .int (nI q))], [], me_w M J) o := k
  have t4 : t ≤ 400 := hT.1.2.2.2.2.2.1
  have hb0 := hb
  obtain ⟨d1, d2, d3, d4, d5⟩ := hb0
  have k := ly_revb 2 (c' := (4, [(0, .ref B), (1, .int (nI q))], [.long (461330343027), .ref B], me_w M J)) rfl k
  obtain ⟨d1, o1, ed, kc, k⟩ := lz_c (g := 137) (q := 1) (vs := [.ref B, .long (461330343027)]) (rest := []) rfl rfl (by decide) (Or.inr (Or.inl ⟨_, rfl, rfl⟩)) rfl k
  obtain ⟨r, e1, hr⟩ := md_isWord hT.1 hT.2.1 hp kc
  rw [hq, me_ui hT.2.1.1] at e1
  rw [hq, lb_w_kinds] at hr
  subst e1
  obtain ⟨rfl, _⟩ := hr.resolve_left (fun c => hbe 0 (by decide) c.2)
  have k : nt_rn X _ 140 (7, [(0, .ref B), (1, .int (nI q))], [.int (Int32.ofInt 0)], me_w M J) _ := k
  have k := ly_revb 1 (c' := (if (Int32.ofInt 0) = 0 then 16 else 10, [(0, .ref B), (1, .int (nI q))], [], me_w M J)) rfl k
  rw [if_pos (show (Int32.ofInt 0) = 0 from by decide)] at k
  have k := ly_revb 1 (c' := (17, [(0, .ref B), (1, .int (nI q))], [.ref B], me_w M J)) rfl k
  have k := lz_get (a := B) (g := 1107) (M := me_w M J) (v := .int (nI u.1)) rfl (congrArg Value.int (hT.2.2.1.1)) k
  have k := ly_revb 1 (c' := (if (nI u.1) = 0 then 23 else 30, [(0, .ref B), (1, .int (nI q))], [], me_w M J)) rfl k
  by_cases h20 : u.1 = 0
  · rw [if_pos (show (nI u.1) = 0 from show nI u.1 = nI 0 from congrArg nI h20)] at k
    have k := ly_revb 3 (c' := (26, [(0, .ref B), (1, .int (nI q))], [.int (nI q), .int (Int32.ofInt 4), .ref B], me_w M J)) rfl k
    obtain ⟨d1, o1, ed, kc, k⟩ := lz_c (g := 139) (q := 1) (vs := [.ref B, .int (Int32.ofInt 4), .int (nI q)]) (rest := []) rfl rfl (by decide) (Or.inr (Or.inl ⟨_, rfl, rfl⟩)) rfl k
    obtain ⟨hf, e1⟩ := (md_fails (a := q) hT.1 hT.2.1 hp kc).resolve_right (fun c => c.1 rfl)
    subst e1
    have hR1 := yr_up hT (md_Sw (y := lb_c q (Int32.ofInt 4)) hT.1 hT.2.1)
    have k : nt_rn X _ 140 (29, [(0, .ref B), (1, .int (nI q))], [.int (Int32.ofInt 0)], me_w M (nt_u J B 16 (lb_c q (Int32.ofInt 4)))) _ := k
    have k := lz_ri rfl (by decide) k
    exact ⟨.inl (lb_c q (Int32.ofInt 4)), _, _, k, Or.inl ⟨Or.inl h20, rfl⟩, (lb_c_ne (by omega) (by decide) (by decide)), rfl, _, _, _, _, hp, hR1⟩
  · rw [if_neg (show ¬ ((nI u.1) = 0) from nI_ne0 (Nat.pos_of_ne_zero h20) (by omega))] at k
    have k := ly_revb 2 (c' := (34, [(0, .ref B), (1, .int (nI q))], [.long (1936222576), .ref B], me_w M J)) rfl k
    obtain ⟨d1, o1, ed, kc, k⟩ := lz_c (g := 137) (q := 1) (vs := [.ref B, .long (1936222576)]) (rest := []) rfl rfl (by decide) (Or.inr (Or.inl ⟨_, rfl, rfl⟩)) rfl k
    obtain ⟨r, e1, hr⟩ := md_isWord hT.1 hT.2.1 hp kc
    rw [hq, me_ui hT.2.1.1] at e1
    rw [hq, lb_w_ship] at hr
    subst e1
    obtain ⟨rfl, _⟩ := hr.resolve_left (fun c => hbe 1 (by decide) c.2)
    have k : nt_rn X _ 140 (37, [(0, .ref B), (1, .int (nI q))], [.int (Int32.ofInt 0)], me_w M J) _ := k
    have k := ly_revb 1 (c' := (if (Int32.ofInt 0) = 0 then 46 else 40, [(0, .ref B), (1, .int (nI q))], [], me_w M J)) rfl k
    rw [if_pos (show (Int32.ofInt 0) = 0 from by decide)] at k
    have k := ly_revb 2 (c' := (50, [(0, .ref B), (1, .int (nI q))], [.long (482854661739), .ref B], me_w M J)) rfl k
    obtain ⟨d1, o1, ed, kc, k⟩ := lz_c (g := 137) (q := 1) (vs := [.ref B, .long (482854661739)]) (rest := []) rfl rfl (by decide) (Or.inr (Or.inl ⟨_, rfl, rfl⟩)) rfl k
    obtain ⟨r, e1, hr⟩ := md_isWord hT.1 hT.2.1 hp kc
    rw [hq, me_ui hT.2.1.1] at e1
    rw [hq, lb_w_plank] at hr
    subst e1
    obtain ⟨rfl, _⟩ := hr.resolve_left (fun c => hbe 2 (by decide) c.2)
    have k : nt_rn X _ 140 (53, [(0, .ref B), (1, .int (nI q))], [.int (Int32.ofInt 0)], me_w M J) _ := k
    have k := ly_revb 1 (c' := (if (Int32.ofInt 0) = 0 then 64 else 56, [(0, .ref B), (1, .int (nI q))], [], me_w M J)) rfl k
    rw [if_pos (show (Int32.ofInt 0) = 0 from by decide)] at k
    have k := ly_revb 2 (c' := (68, [(0, .ref B), (1, .int (nI q))], [.long (130221149874021), .ref B], me_w M J)) rfl k
    obtain ⟨d1, o1, ed, kc, k⟩ := lz_c (g := 137) (q := 1) (vs := [.ref B, .long (130221149874021)]) (rest := []) rfl rfl (by decide) (Or.inr (Or.inl ⟨_, rfl, rfl⟩)) rfl k
    obtain ⟨r, e1, hr⟩ := md_isWord hT.1 hT.2.1 hp kc
    rw [hq, me_ui hT.2.1.1] at e1
    rw [hq, lb_w_voyage] at hr
    subst e1
    obtain ⟨rfl, _⟩ := hr.resolve_right (fun c => c.2 hat)
    have k : nt_rn X _ 140 (71, [(0, .ref B), (1, .int (nI q))], [.int (Int32.ofInt 1)], me_w M J) _ := k
    have k := ly_revb 1 (c' := (if (Int32.ofInt 1) = 0 then 82 else 74, [(0, .ref B), (1, .int (nI q))], [], me_w M J)) rfl k
    rw [if_neg (show ¬ ((Int32.ofInt 1) = 0) from by decide)] at k
    have k := ly_revb 2 (c' := (76, [(0, .ref B), (1, .int (nI q))], [.int (nI q), .ref B], me_w M J)) rfl k
    obtain ⟨d1, o1, ed, kc, k⟩ := lz_c (g := 148) (q := 1) (vs := [.ref B, .int (nI q)]) (rest := []) rfl rfl (by decide) (Or.inr (Or.inl ⟨_, rfl, rfl⟩)) rfl k
    obtain ⟨r, a, J', e1, hrel, hQ⟩ := yr_voyage hW hT hp hb h20 hat kc
    subst e1
    have k : nt_rn X _ 140 (79, [(0, .ref B), (1, .int (nI q))], [.int (a)], me_w M (J')) _ := k
    have k := ly_revb 1 (c' := (87, [(0, .ref B), (1, .int (nI q))], [.int (a)], me_w M (J'))) rfl k
    have k := lz_ri rfl (by decide) k
    exact ⟨r, a, J', k, hrel.imp (fun c => ⟨Or.inr c.1, c.2⟩) (fun c => ⟨fun h => h.elim h20 c.1, c.2⟩), hQ⟩
theorem yr_line4 {R0 R1 R2 : Nat} {C : lb_C} {X : nt_X} {d t B Tb Sg Ln q m li : Nat} {f : Nat → Int32} {M : nt_M} {e : Nat × (Nat → Int32)} {u : Nat × Nat × Nat × Nat × Nat} {J : Nat → Nat → Int32} {o : Option Value × nt_M} (hW : yr_W M B Tb Sg Ln R0 R1 R2) (hT : yr_T R0 R1 R2 C M f t B Tb Sg Ln q 0 m e u li J) (hp : q ≤ t) (hq : lb_s f t q = q) (hb : lb_ub u) (hat : lb_yw f t q 4) (hbe : ∀ v, v < 4 → ¬ lb_yw f t q v) (k : nt_ev X d 140 [.ref B, .int (nI q)] (me_w M J) o) : ∃ r a J', o = (some (.int a), me_w M J') ∧ (((u.1 = 0 ∨ (u.2.2.2.2 ≠ 0)) ∧ r = .inl (lb_c q (Int32.ofInt 4))) ∨ (¬ (u.1 = 0 ∨ (u.2.2.2.2 ≠ 0)) ∧ lb_pa f t (q, u) (lb_s f t (q + (lb_W (nt_sp + 1 + 4)).length)) 4 r)) ∧ yr_Q R0 R1 R2 (fun v D => lb_paC f t u (lb_s f t (q + (lb_W (nt_sp + 1 + 4)).length)) v.1 4 C D) M f t B Tb Sg Ln m e li r a J' := by
  have k : nt_rn X d 140 (0, [(0, .ref B), (1, .int (nI q))], [], me_w M J) o := k
  have t4 : t ≤ 400 := hT.1.2.2.2.2.2.1
  have hb0 := hb
  obtain ⟨d1, d2, d3, d4, d5⟩ := hb0
  have k := ly_revb 2 (c' := (4, [(0, .ref B), (1, .int (nI q))], [.long (461330343027), .ref B], me_w M J)) rfl k
  obtain ⟨d1, o1, ed, kc, k⟩ := lz_c (g := 137) (q := 1) (vs := [.ref B, .long (461330343027)]) (rest := []) rfl rfl (by decide) (Or.inr (Or.inl ⟨_, rfl, rfl⟩)) rfl k
  obtain ⟨r, e1, hr⟩ := md_isWord hT.1 hT.2.1 hp kc
  rw [hq, me_ui hT.2.1.1] at e1
  rw [hq, lb_w_kinds] at hr
  subst e1
  obtain ⟨rfl, _⟩ := hr.resolve_left (fun c => hbe 0 (by decide) c.2)
  have k : nt_rn X _ 140 (7, [(0, .ref B), (1, .int (nI q))], [.int (Int32.ofInt 0)], me_w M J) _ := k
  have k := ly_revb 1 (c' := (if (Int32.ofInt 0) = 0 then 16 else 10, [(0, .ref B), (1, .int (nI q))], [], me_w M J)) rfl k
  rw [if_pos (show (Int32.ofInt 0) = 0 from by decide)] at k
  have k := ly_revb 1 (c' := (17, [(0, .ref B), (1, .int (nI q))], [.ref B], me_w M J)) rfl k
  have k := lz_get (a := B) (g := 1107) (M := me_w M J) (v := .int (nI u.1)) rfl (congrArg Value.int (hT.2.2.1.1)) k
  have k := ly_revb 1 (c' := (if (nI u.1) = 0 then 23 else 30, [(0, .ref B), (1, .int (nI q))], [], me_w M J)) rfl k
  by_cases h20 : u.1 = 0
  · rw [if_pos (show (nI u.1) = 0 from show nI u.1 = nI 0 from congrArg nI h20)] at k
    have k := ly_revb 3 (c' := (26, [(0, .ref B), (1, .int (nI q))], [.int (nI q), .int (Int32.ofInt 4), .ref B], me_w M J)) rfl k
    obtain ⟨d1, o1, ed, kc, k⟩ := lz_c (g := 139) (q := 1) (vs := [.ref B, .int (Int32.ofInt 4), .int (nI q)]) (rest := []) rfl rfl (by decide) (Or.inr (Or.inl ⟨_, rfl, rfl⟩)) rfl k
    obtain ⟨hf, e1⟩ := (md_fails (a := q) hT.1 hT.2.1 hp kc).resolve_right (fun c => c.1 rfl)
    subst e1
    have hR1 := yr_up hT (md_Sw (y := lb_c q (Int32.ofInt 4)) hT.1 hT.2.1)
    have k : nt_rn X _ 140 (29, [(0, .ref B), (1, .int (nI q))], [.int (Int32.ofInt 0)], me_w M (nt_u J B 16 (lb_c q (Int32.ofInt 4)))) _ := k
    have k := lz_ri rfl (by decide) k
    exact ⟨.inl (lb_c q (Int32.ofInt 4)), _, _, k, Or.inl ⟨Or.inl h20, rfl⟩, (lb_c_ne (by omega) (by decide) (by decide)), rfl, _, _, _, _, hp, hR1⟩
  · rw [if_neg (show ¬ ((nI u.1) = 0) from nI_ne0 (Nat.pos_of_ne_zero h20) (by omega))] at k
    have k := ly_revb 2 (c' := (34, [(0, .ref B), (1, .int (nI q))], [.long (1936222576), .ref B], me_w M J)) rfl k
    obtain ⟨d1, o1, ed, kc, k⟩ := lz_c (g := 137) (q := 1) (vs := [.ref B, .long (1936222576)]) (rest := []) rfl rfl (by decide) (Or.inr (Or.inl ⟨_, rfl, rfl⟩)) rfl k
    obtain ⟨r, e1, hr⟩ := md_isWord hT.1 hT.2.1 hp kc
    rw [hq, me_ui hT.2.1.1] at e1
    rw [hq, lb_w_ship] at hr
    subst e1
    obtain ⟨rfl, _⟩ := hr.resolve_left (fun c => hbe 1 (by decide) c.2)
    have k : nt_rn X _ 140 (37, [(0, .ref B), (1, .int (nI q))], [.int (Int32.ofInt 0)], me_w M J) _ := k
    have k := ly_revb 1 (c' := (if (Int32.ofInt 0) = 0 then 46 else 40, [(0, .ref B), (1, .int (nI q))], [], me_w M J)) rfl k
    rw [if_pos (show (Int32.ofInt 0) = 0 from by decide)] at k
    have k := ly_revb 2 (c' := (50, [(0, .ref B), (1, .int (nI q))], [.long (482854661739), .ref B], me_w M J)) rfl k
    obtain ⟨d1, o1, ed, kc, k⟩ := lz_c (g := 137) (q := 1) (vs := [.ref B, .long (482854661739)]) (rest := []) rfl rfl (by decide) (Or.inr (Or.inl ⟨_, rfl, rfl⟩)) rfl k
    obtain ⟨r, e1, hr⟩ := md_isWord hT.1 hT.2.1 hp kc
    rw [hq, me_ui hT.2.1.1] at e1
    rw [hq, lb_w_plank] at hr
    subst e1
    obtain ⟨rfl, _⟩ := hr.resolve_left (fun c => hbe 2 (by decide) c.2)
    have k : nt_rn X _ 140 (53, [(0, .ref B), (1, .int (nI q))], [.int (Int32.ofInt 0)], me_w M J) _ := k
    have k := ly_revb 1 (c' := (if (Int32.ofInt 0) = 0 then 64 else 56, [(0, .ref B), (1, .int (nI q))], [], me_w M J)) rfl k
    rw [if_pos (show (Int32.ofInt 0) = 0 from by decide)] at k
    have k := ly_revb 2 (c' := (68, [(0, .ref B), (1, .int (nI q))], [.long (130221149874021), .ref B], me_w M J)) rfl k
    obtain ⟨d1, o1, ed, kc, k⟩ := lz_c (g := 137) (q := 1) (vs := [.ref B, .long (130221149874021)]) (rest := []) rfl rfl (by decide) (Or.inr (Or.inl ⟨_, rfl, rfl⟩)) rfl k
    obtain ⟨r, e1, hr⟩ := md_isWord hT.1 hT.2.1 hp kc
    rw [hq, me_ui hT.2.1.1] at e1
    rw [hq, lb_w_voyage] at hr
    subst e1
    obtain ⟨rfl, _⟩ := hr.resolve_left (fun c => hbe 3 (by decide) c.2)
    have k : nt_rn X _ 140 (71, [(0, .ref B), (1, .int (nI q))], [.int (Int32.ofInt 0)], me_w M J) _ := k
    have k := ly_revb 1 (c' := (if (Int32.ofInt 0) = 0 then 82 else 74, [(0, .ref B), (1, .int (nI q))], [], me_w M J)) rfl k
    rw [if_pos (show (Int32.ofInt 0) = 0 from by decide)] at k
    have k := ly_revb 2 (c' := (84, [(0, .ref B), (1, .int (nI q))], [.int (nI q), .ref B], me_w M J)) rfl k
    obtain ⟨d1, o1, ed, kc, k⟩ := lz_c (g := 149) (q := 1) (vs := [.ref B, .int (nI q)]) (rest := []) rfl rfl (by decide) (Or.inr (Or.inl ⟨_, rfl, rfl⟩)) rfl k
    obtain ⟨r, a, J', e1, hrel, hQ⟩ := yr_hands hW hT hp hb h20 hat kc
    subst e1
    have k : nt_rn X _ 140 (87, [(0, .ref B), (1, .int (nI q))], [.int (a)], me_w M (J')) _ := k
    have k := lz_ri rfl (by decide) k
    exact ⟨r, a, J', k, hrel.imp (fun c => ⟨Or.inr c.1, c.2⟩) (fun c => ⟨fun h => h.elim h20 c.1, c.2⟩), hQ⟩
theorem yr_clause {R0 R1 R2 : Nat} {C : lb_C} {X : nt_X} {d t B Tb Sg Ln q m li : Nat} {f : Nat → Int32} {M : nt_M} {e : Nat × (Nat → Int32)} {u : Nat × Nat × Nat × Nat × Nat} {J : Nat → Nat → Int32} {o : Option Value × nt_M} (hW : yr_W M B Tb Sg Ln R0 R1 R2) (hT : yr_T R0 R1 R2 C M f t B Tb Sg Ln q 0 m e u li J) (hp : q ≤ t) (hb : lb_ub u) (hk : li = 0 ↔ u.1 = 0) (hl : li ≤ 40) (k : nt_ev X d 135 [.ref B] (me_w M J) o) : ∃ r a J', o = (some (.int a), me_w M J') ∧ lb_yc f t li (lb_s f t q, u) r ∧ yr_Q R0 R1 R2 (fun v D => lb_ycC f t (lb_s f t q, u) v C D) M f t B Tb Sg Ln m e (li + 1) r a J' := by
  have k : nt_rn X d 135 (0, [(0, .ref B)], [], me_w M J) o := k
  have t4 : t ≤ 400 := hT.1.2.2.2.2.2.1
  have k := ly_revb 1 (c' := (1, [(0, .ref B)], [.ref B], me_w M J)) rfl k
  obtain ⟨d1, o1, ed, kc, k⟩ := lz_c (g := 136) (q := 1) (vs := [.ref B]) (rest := []) rfl rfl (by decide) (Or.inr (Or.inl ⟨_, rfl, rfl⟩)) rfl k
  have e1 := md_see hT.1 hT.2.1 hp kc
  subst e1
  have hR1 := yr_up hT (md_Sq (y := lb_s f t q) hT.1 hT.2.1)
  have hp1 : lb_s f t q ≤ t := (lb_s_le (t - q) q (by omega)).2
  have hss : lb_s f t (lb_s f t q) = lb_s f t q := lb_ss hp
  have k : nt_rn X _ 135 (4, [(0, .ref B)], [.int (lb_g f t (lb_s f t q))], me_w M (nt_u J B 15 (nI (lb_s f t q)))) _ := k
  have k := ly_revb 2 (c' := (6, [(0, .ref B)], [.ref B], me_w M (nt_u J B 15 (nI (lb_s f t q))))) rfl k
  have k := lz_get (a := B) (g := 1115) (M := me_w M (nt_u J B 15 (nI (lb_s f t q)))) (v := .int (nI (lb_s f t q))) rfl (congrArg Value.int (hR1.2.1.1)) k
  have k := ly_revb 2 (c' := (11, [(1, .int (nI (lb_s f t q))), (0, .ref B)], [.ref B], me_w M (nt_u J B 15 (nI (lb_s f t q))))) rfl k
  have k := lz_get (a := B) (g := 1118) (M := me_w M (nt_u J B 15 (nI (lb_s f t q)))) (v := .int (nI 6)) rfl (congrArg Value.int (md_x hR1.1 hR1.2.1)) k
  have k := ly_revb 2 (c' := (if (nI 6) = (Int32.ofInt 6) then 19 else 23, [(1, .int (nI (lb_s f t q))), (0, .ref B)], [], me_w M (nt_u J B 15 (nI (lb_s f t q))))) rfl k
  rw [if_pos (show (nI 6) = (Int32.ofInt 6) from rfl)] at k
  have k := ly_revb 5 (c' := (if (Int32.ofInt 1) = 0 then 87 else 29, [(2, .int (Int32.ofInt 1)), (1, .int (nI (lb_s f t q))), (0, .ref B)], [], me_w M (nt_u J B 15 (nI (lb_s f t q))))) rfl k
  rw [if_neg (show ¬ ((Int32.ofInt 1) = 0) from by decide)] at k
  have k := ly_revb 2 (c' := (33, [(2, .int (Int32.ofInt 1)), (1, .int (nI (lb_s f t q))), (0, .ref B)], [.long (461330343027), .ref B], me_w M (nt_u J B 15 (nI (lb_s f t q))))) rfl k
  obtain ⟨d1, o1, ed, kc, k⟩ := lz_c (g := 137) (q := 1) (vs := [.ref B, .long (461330343027)]) (rest := []) rfl rfl (by decide) (Or.inr (Or.inl ⟨_, rfl, rfl⟩)) rfl k
  obtain ⟨r, e1, hr⟩ := md_isWord hR1.1 hR1.2.1 hp1 kc
  rw [hss, me_ui hR1.2.1.1] at e1
  rw [hss, lb_w_kinds] at hr
  subst e1
  rcases hr with ⟨rfl, g0⟩ | ⟨rfl, g0⟩
  · have k : nt_rn X _ 135 (36, [(2, .int (Int32.ofInt 1)), (1, .int (nI (lb_s f t q))), (0, .ref B)], [.int (Int32.ofInt 1)], me_w M (nt_u J B 15 (nI (lb_s f t q)))) _ := k
    have k := ly_revb 1 (c' := (if (Int32.ofInt 1) = 0 then 39 else 79, [(2, .int (Int32.ofInt 1)), (1, .int (nI (lb_s f t q))), (0, .ref B)], [], me_w M (nt_u J B 15 (nI (lb_s f t q))))) rfl k
    rw [if_neg (show ¬ ((Int32.ofInt 1) = 0) from by decide)] at k
    have k := ly_revb 5 (c' := (if (Int32.ofInt 1) = 0 then 99 else 106, [(3, .int (Int32.ofInt 1)), (2, .int (Int32.ofInt 1)), (1, .int (nI (lb_s f t q))), (0, .ref B)], [], me_w M (nt_u J B 15 (nI (lb_s f t q))))) rfl k
    rw [if_neg (show ¬ ((Int32.ofInt 1) = 0) from by decide)] at k
    have k := ly_revb 1 (c' := (107, [(3, .int (Int32.ofInt 1)), (2, .int (Int32.ofInt 1)), (1, .int (nI (lb_s f t q))), (0, .ref B)], [.ref B], me_w M (nt_u J B 15 (nI (lb_s f t q))))) rfl k
    have k := lz_get (a := B) (g := 1121) (M := me_w M (nt_u J B 15 (nI (lb_s f t q)))) (v := .int (nI li)) rfl (congrArg Value.int (hR1.2.2.2.1)) k
    have k := ly_revb 2 (c' := (if (Int32.ofInt 1) = 0 then 119 else 114, [(3, .int (Int32.ofInt 1)), (2, .int (Int32.ofInt 1)), (1, .int (nI (lb_s f t q))), (0, .ref B)], [.int (nI li)], me_w M (nt_u J B 15 (nI (lb_s f t q))))) rfl k
    rw [if_neg (show ¬ ((Int32.ofInt 1) = 0) from by decide)] at k
    have k := ly_revb 3 (c' := (if (nI li) = (Int32.ofInt 40) then 124 else 131, [(3, .int (Int32.ofInt 1)), (2, .int (Int32.ofInt 1)), (1, .int (nI (lb_s f t q))), (0, .ref B)], [], me_w M (nt_u J B 15 (nI (lb_s f t q))))) rfl k
    by_cases h121 : li = 40
    · rw [if_pos (show (nI li) = (Int32.ofInt 40) from show nI li = nI 40 from congrArg nI h121)] at k
      have k := ly_revb 3 (c' := (127, [(3, .int (Int32.ofInt 1)), (2, .int (Int32.ofInt 1)), (1, .int (nI (lb_s f t q))), (0, .ref B)], [.int (nI (lb_s f t q)), .int (Int32.ofInt 4), .ref B], me_w M (nt_u J B 15 (nI (lb_s f t q))))) rfl k
      obtain ⟨d1, o1, ed, kc, k⟩ := lz_c (g := 139) (q := 1) (vs := [.ref B, .int (Int32.ofInt 4), .int (nI (lb_s f t q))]) (rest := []) rfl rfl (by decide) (Or.inr (Or.inl ⟨_, rfl, rfl⟩)) rfl k
      obtain ⟨hf, e1⟩ := (md_fails (a := (lb_s f t q)) hR1.1 hR1.2.1 hp1 kc).resolve_right (fun c => c.1 rfl)
      subst e1
      have hR2 := yr_up hR1 (md_Sw (y := lb_c ((lb_s f t q)) (Int32.ofInt 4)) hR1.1 hR1.2.1)
      have k : nt_rn X _ 135 (130, [(3, .int (Int32.ofInt 1)), (2, .int (Int32.ofInt 1)), (1, .int (nI (lb_s f t q))), (0, .ref B)], [.int (Int32.ofInt 0)], me_w M (nt_u (nt_u J B 15 (nI (lb_s f t q))) B 16 (lb_c ((lb_s f t q)) (Int32.ofInt 4)))) _ := k
      have k := lz_ri rfl (by decide) k
      exact ⟨.inl (lb_c ((lb_s f t q)) (Int32.ofInt 4)), _, _, k, Or.inr ⟨0, by decide, g0, fun v hv => absurd hv (Nat.not_lt_zero _), Or.inl ⟨Or.inl h121, rfl⟩⟩, (lb_c_ne (by omega) (by decide) (by decide)), rfl, _, _, _, _, hp1, hR2⟩
    · rw [if_neg (show ¬ ((nI li) = (Int32.ofInt 40)) from show ¬ nI li = nI 40 from me_ne h121 (by omega) (by omega))] at k
      have k := ly_revb 2 (c' := (133, [(3, .int (Int32.ofInt 1)), (2, .int (Int32.ofInt 1)), (1, .int (nI (lb_s f t q))), (0, .ref B)], [.ref B, .ref B], me_w M (nt_u J B 15 (nI (lb_s f t q))))) rfl k
      have k := lz_get (a := B) (g := 1121) (M := me_w M (nt_u J B 15 (nI (lb_s f t q)))) (v := .int (nI li)) rfl (congrArg Value.int (hR1.2.2.2.1)) k
      have k := ly_revb 2 (c' := (138, [(3, .int (Int32.ofInt 1)), (2, .int (Int32.ofInt 1)), (1, .int (nI (lb_s f t q))), (0, .ref B)], [.int ((nI li) + (Int32.ofInt 1)), .ref B], me_w M (nt_u J B 15 (nI (lb_s f t q))))) rfl k
      rw [show ((nI li) + (Int32.ofInt 1) : Int32) = nI (li + 1) from me_add (k := 1)] at k
      have k := me_put rfl (by decide) k
      have k : nt_rn X _ 135 (141, [(3, .int (Int32.ofInt 1)), (2, .int (Int32.ofInt 1)), (1, .int (nI (lb_s f t q))), (0, .ref B)], [], me_w M (nt_u (nt_u J B 15 (nI (lb_s f t q))) B 21 (nI (li + 1)))) _ := k
      have hR2 := yr_li (y := li + 1) hR1
      have k := ly_revb 2 (c' := (if (Int32.ofInt 1) = 0 then 153 else 145, [(3, .int (Int32.ofInt 1)), (2, .int (Int32.ofInt 1)), (1, .int (nI (lb_s f t q))), (0, .ref B)], [], me_w M (nt_u (nt_u J B 15 (nI (lb_s f t q))) B 21 (nI (li + 1))))) rfl k
      rw [if_neg (show ¬ ((Int32.ofInt 1) = 0) from by decide)] at k
      have k := ly_revb 2 (c' := (147, [(3, .int (Int32.ofInt 1)), (2, .int (Int32.ofInt 1)), (1, .int (nI (lb_s f t q))), (0, .ref B)], [.int (nI (lb_s f t q)), .ref B], me_w M (nt_u (nt_u J B 15 (nI (lb_s f t q))) B 21 (nI (li + 1))))) rfl k
      obtain ⟨d1, o1, ed, kc, k⟩ := lz_c (g := 140) (q := 1) (vs := [.ref B, .int (nI (lb_s f t q))]) (rest := []) rfl rfl (by decide) (Or.inr (Or.inl ⟨_, rfl, rfl⟩)) rfl k
      have hbe : ∀ v, v < 0 → ¬ lb_yw f t (lb_s f t q) v := fun v hv => absurd hv (Nat.not_lt_zero _)
      obtain ⟨r, a, J', e1, hrel, hQ⟩ := yr_line0 hW hR2 hp1 hss hb g0 hbe kc
      subst e1
      have k : nt_rn X _ 135 (150, [(3, .int (Int32.ofInt 1)), (2, .int (Int32.ofInt 1)), (1, .int (nI (lb_s f t q))), (0, .ref B)], [.int (a)], me_w M (J')) _ := k
      have k := ly_revb 1 (c' := (157, [(3, .int (Int32.ofInt 1)), (2, .int (Int32.ofInt 1)), (1, .int (nI (lb_s f t q))), (0, .ref B)], [.int (a)], me_w M (J'))) rfl k
      have k := lz_ri rfl (by decide) k
      refine ⟨r, a, J', k, Or.inr ⟨0, by decide, g0, hbe, ?_⟩, yr_Qm (fun v D hh => ⟨0, by decide, g0, hbe, hh⟩) hQ⟩
      rcases hrel with ⟨hf, hrel⟩ | ⟨hf, hrel⟩
      · exact Or.inl ⟨Or.inr (Or.inl (fun c => hf (hk.mp (c.mpr rfl)))), hrel⟩
      · refine Or.inr ⟨fun c => ?_, hrel⟩
        rcases c with c | c | c
        · exact h121 c
        · exact c ⟨fun _ => rfl, fun _ => hk.mpr (Classical.byContradiction hf)⟩
        · exact c
  · have k : nt_rn X _ 135 (36, [(2, .int (Int32.ofInt 1)), (1, .int (nI (lb_s f t q))), (0, .ref B)], [.int (Int32.ofInt 0)], me_w M (nt_u J B 15 (nI (lb_s f t q)))) _ := k
    have k := ly_revb 1 (c' := (if (Int32.ofInt 0) = 0 then 39 else 79, [(2, .int (Int32.ofInt 1)), (1, .int (nI (lb_s f t q))), (0, .ref B)], [], me_w M (nt_u J B 15 (nI (lb_s f t q))))) rfl k
    rw [if_pos (show (Int32.ofInt 0) = 0 from by decide)] at k
    have k := ly_revb 2 (c' := (43, [(2, .int (Int32.ofInt 1)), (1, .int (nI (lb_s f t q))), (0, .ref B)], [.long (1936222576), .ref B], me_w M (nt_u J B 15 (nI (lb_s f t q))))) rfl k
    obtain ⟨d1, o1, ed, kc, k⟩ := lz_c (g := 137) (q := 1) (vs := [.ref B, .long (1936222576)]) (rest := []) rfl rfl (by decide) (Or.inr (Or.inl ⟨_, rfl, rfl⟩)) rfl k
    obtain ⟨r, e1, hr⟩ := md_isWord hR1.1 hR1.2.1 hp1 kc
    rw [hss, me_ui hR1.2.1.1] at e1
    rw [hss, lb_w_ship] at hr
    subst e1
    rcases hr with ⟨rfl, g1⟩ | ⟨rfl, g1⟩
    · have k : nt_rn X _ 135 (46, [(2, .int (Int32.ofInt 1)), (1, .int (nI (lb_s f t q))), (0, .ref B)], [.int (Int32.ofInt 1)], me_w M (nt_u J B 15 (nI (lb_s f t q)))) _ := k
      have k := ly_revb 1 (c' := (if (Int32.ofInt 1) = 0 then 49 else 79, [(2, .int (Int32.ofInt 1)), (1, .int (nI (lb_s f t q))), (0, .ref B)], [], me_w M (nt_u J B 15 (nI (lb_s f t q))))) rfl k
      rw [if_neg (show ¬ ((Int32.ofInt 1) = 0) from by decide)] at k
      have k := ly_revb 5 (c' := (if (Int32.ofInt 1) = 0 then 99 else 106, [(3, .int (Int32.ofInt 1)), (2, .int (Int32.ofInt 1)), (1, .int (nI (lb_s f t q))), (0, .ref B)], [], me_w M (nt_u J B 15 (nI (lb_s f t q))))) rfl k
      rw [if_neg (show ¬ ((Int32.ofInt 1) = 0) from by decide)] at k
      have k := ly_revb 1 (c' := (107, [(3, .int (Int32.ofInt 1)), (2, .int (Int32.ofInt 1)), (1, .int (nI (lb_s f t q))), (0, .ref B)], [.ref B], me_w M (nt_u J B 15 (nI (lb_s f t q))))) rfl k
      have k := lz_get (a := B) (g := 1121) (M := me_w M (nt_u J B 15 (nI (lb_s f t q)))) (v := .int (nI li)) rfl (congrArg Value.int (hR1.2.2.2.1)) k
      have k := ly_revb 2 (c' := (if (Int32.ofInt 1) = 0 then 119 else 114, [(3, .int (Int32.ofInt 1)), (2, .int (Int32.ofInt 1)), (1, .int (nI (lb_s f t q))), (0, .ref B)], [.int (nI li)], me_w M (nt_u J B 15 (nI (lb_s f t q))))) rfl k
      rw [if_neg (show ¬ ((Int32.ofInt 1) = 0) from by decide)] at k
      have k := ly_revb 3 (c' := (if (nI li) = (Int32.ofInt 40) then 124 else 131, [(3, .int (Int32.ofInt 1)), (2, .int (Int32.ofInt 1)), (1, .int (nI (lb_s f t q))), (0, .ref B)], [], me_w M (nt_u J B 15 (nI (lb_s f t q))))) rfl k
      by_cases h121 : li = 40
      · rw [if_pos (show (nI li) = (Int32.ofInt 40) from show nI li = nI 40 from congrArg nI h121)] at k
        have k := ly_revb 3 (c' := (127, [(3, .int (Int32.ofInt 1)), (2, .int (Int32.ofInt 1)), (1, .int (nI (lb_s f t q))), (0, .ref B)], [.int (nI (lb_s f t q)), .int (Int32.ofInt 4), .ref B], me_w M (nt_u J B 15 (nI (lb_s f t q))))) rfl k
        obtain ⟨d1, o1, ed, kc, k⟩ := lz_c (g := 139) (q := 1) (vs := [.ref B, .int (Int32.ofInt 4), .int (nI (lb_s f t q))]) (rest := []) rfl rfl (by decide) (Or.inr (Or.inl ⟨_, rfl, rfl⟩)) rfl k
        obtain ⟨hf, e1⟩ := (md_fails (a := (lb_s f t q)) hR1.1 hR1.2.1 hp1 kc).resolve_right (fun c => c.1 rfl)
        subst e1
        have hR2 := yr_up hR1 (md_Sw (y := lb_c ((lb_s f t q)) (Int32.ofInt 4)) hR1.1 hR1.2.1)
        have k : nt_rn X _ 135 (130, [(3, .int (Int32.ofInt 1)), (2, .int (Int32.ofInt 1)), (1, .int (nI (lb_s f t q))), (0, .ref B)], [.int (Int32.ofInt 0)], me_w M (nt_u (nt_u J B 15 (nI (lb_s f t q))) B 16 (lb_c ((lb_s f t q)) (Int32.ofInt 4)))) _ := k
        have k := lz_ri rfl (by decide) k
        exact ⟨.inl (lb_c ((lb_s f t q)) (Int32.ofInt 4)), _, _, k, Or.inr ⟨1, by decide, g1, fun v hv => by rcases (by omega : v = 0) with rfl <;> assumption, Or.inl ⟨Or.inl h121, rfl⟩⟩, (lb_c_ne (by omega) (by decide) (by decide)), rfl, _, _, _, _, hp1, hR2⟩
      · rw [if_neg (show ¬ ((nI li) = (Int32.ofInt 40)) from show ¬ nI li = nI 40 from me_ne h121 (by omega) (by omega))] at k
        have k := ly_revb 2 (c' := (133, [(3, .int (Int32.ofInt 1)), (2, .int (Int32.ofInt 1)), (1, .int (nI (lb_s f t q))), (0, .ref B)], [.ref B, .ref B], me_w M (nt_u J B 15 (nI (lb_s f t q))))) rfl k
        have k := lz_get (a := B) (g := 1121) (M := me_w M (nt_u J B 15 (nI (lb_s f t q)))) (v := .int (nI li)) rfl (congrArg Value.int (hR1.2.2.2.1)) k
        have k := ly_revb 2 (c' := (138, [(3, .int (Int32.ofInt 1)), (2, .int (Int32.ofInt 1)), (1, .int (nI (lb_s f t q))), (0, .ref B)], [.int ((nI li) + (Int32.ofInt 1)), .ref B], me_w M (nt_u J B 15 (nI (lb_s f t q))))) rfl k
        rw [show ((nI li) + (Int32.ofInt 1) : Int32) = nI (li + 1) from me_add (k := 1)] at k
        have k := me_put rfl (by decide) k
        have k : nt_rn X _ 135 (141, [(3, .int (Int32.ofInt 1)), (2, .int (Int32.ofInt 1)), (1, .int (nI (lb_s f t q))), (0, .ref B)], [], me_w M (nt_u (nt_u J B 15 (nI (lb_s f t q))) B 21 (nI (li + 1)))) _ := k
        have hR2 := yr_li (y := li + 1) hR1
        have k := ly_revb 2 (c' := (if (Int32.ofInt 1) = 0 then 153 else 145, [(3, .int (Int32.ofInt 1)), (2, .int (Int32.ofInt 1)), (1, .int (nI (lb_s f t q))), (0, .ref B)], [], me_w M (nt_u (nt_u J B 15 (nI (lb_s f t q))) B 21 (nI (li + 1))))) rfl k
        rw [if_neg (show ¬ ((Int32.ofInt 1) = 0) from by decide)] at k
        have k := ly_revb 2 (c' := (147, [(3, .int (Int32.ofInt 1)), (2, .int (Int32.ofInt 1)), (1, .int (nI (lb_s f t q))), (0, .ref B)], [.int (nI (lb_s f t q)), .ref B], me_w M (nt_u (nt_u J B 15 (nI (lb_s f t q))) B 21 (nI (li + 1))))) rfl k
        obtain ⟨d1, o1, ed, kc, k⟩ := lz_c (g := 140) (q := 1) (vs := [.ref B, .int (nI (lb_s f t q))]) (rest := []) rfl rfl (by decide) (Or.inr (Or.inl ⟨_, rfl, rfl⟩)) rfl k
        have hbe : ∀ v, v < 1 → ¬ lb_yw f t (lb_s f t q) v := fun v hv => by rcases (by omega : v = 0) with rfl <;> assumption
        obtain ⟨r, a, J', e1, hrel, hQ⟩ := yr_line1 hW hR2 hp1 hss hb g1 hbe kc
        subst e1
        have k : nt_rn X _ 135 (150, [(3, .int (Int32.ofInt 1)), (2, .int (Int32.ofInt 1)), (1, .int (nI (lb_s f t q))), (0, .ref B)], [.int (a)], me_w M (J')) _ := k
        have k := ly_revb 1 (c' := (157, [(3, .int (Int32.ofInt 1)), (2, .int (Int32.ofInt 1)), (1, .int (nI (lb_s f t q))), (0, .ref B)], [.int (a)], me_w M (J'))) rfl k
        have k := lz_ri rfl (by decide) k
        refine ⟨r, a, J', k, Or.inr ⟨1, by decide, g1, hbe, ?_⟩, yr_Qm (fun v D hh => ⟨1, by decide, g1, hbe, hh⟩) hQ⟩
        rcases hrel with ⟨hf, hrel⟩ | ⟨hf, hrel⟩
        · refine Or.inl ⟨?_, hrel⟩
          rcases hf with hf | hf
          · exact Or.inr (Or.inl (fun c => absurd (c.mp (hk.mpr hf)) (by decide)))
          · exact Or.inr (Or.inr hf)
        · refine Or.inr ⟨fun c => ?_, hrel⟩
          rcases c with c | c | c
          · exact h121 c
          · exact c ⟨fun h0 => absurd (Or.inl (hk.mp h0)) hf, fun h0 => absurd h0 (by decide)⟩
          · exact hf (Or.inr c)
    · have k : nt_rn X _ 135 (46, [(2, .int (Int32.ofInt 1)), (1, .int (nI (lb_s f t q))), (0, .ref B)], [.int (Int32.ofInt 0)], me_w M (nt_u J B 15 (nI (lb_s f t q)))) _ := k
      have k := ly_revb 1 (c' := (if (Int32.ofInt 0) = 0 then 49 else 79, [(2, .int (Int32.ofInt 1)), (1, .int (nI (lb_s f t q))), (0, .ref B)], [], me_w M (nt_u J B 15 (nI (lb_s f t q))))) rfl k
      rw [if_pos (show (Int32.ofInt 0) = 0 from by decide)] at k
      have k := ly_revb 2 (c' := (53, [(2, .int (Int32.ofInt 1)), (1, .int (nI (lb_s f t q))), (0, .ref B)], [.long (482854661739), .ref B], me_w M (nt_u J B 15 (nI (lb_s f t q))))) rfl k
      obtain ⟨d1, o1, ed, kc, k⟩ := lz_c (g := 137) (q := 1) (vs := [.ref B, .long (482854661739)]) (rest := []) rfl rfl (by decide) (Or.inr (Or.inl ⟨_, rfl, rfl⟩)) rfl k
      obtain ⟨r, e1, hr⟩ := md_isWord hR1.1 hR1.2.1 hp1 kc
      rw [hss, me_ui hR1.2.1.1] at e1
      rw [hss, lb_w_plank] at hr
      subst e1
      rcases hr with ⟨rfl, g2⟩ | ⟨rfl, g2⟩
      · have k : nt_rn X _ 135 (56, [(2, .int (Int32.ofInt 1)), (1, .int (nI (lb_s f t q))), (0, .ref B)], [.int (Int32.ofInt 1)], me_w M (nt_u J B 15 (nI (lb_s f t q)))) _ := k
        have k := ly_revb 1 (c' := (if (Int32.ofInt 1) = 0 then 59 else 79, [(2, .int (Int32.ofInt 1)), (1, .int (nI (lb_s f t q))), (0, .ref B)], [], me_w M (nt_u J B 15 (nI (lb_s f t q))))) rfl k
        rw [if_neg (show ¬ ((Int32.ofInt 1) = 0) from by decide)] at k
        have k := ly_revb 5 (c' := (if (Int32.ofInt 1) = 0 then 99 else 106, [(3, .int (Int32.ofInt 1)), (2, .int (Int32.ofInt 1)), (1, .int (nI (lb_s f t q))), (0, .ref B)], [], me_w M (nt_u J B 15 (nI (lb_s f t q))))) rfl k
        rw [if_neg (show ¬ ((Int32.ofInt 1) = 0) from by decide)] at k
        have k := ly_revb 1 (c' := (107, [(3, .int (Int32.ofInt 1)), (2, .int (Int32.ofInt 1)), (1, .int (nI (lb_s f t q))), (0, .ref B)], [.ref B], me_w M (nt_u J B 15 (nI (lb_s f t q))))) rfl k
        have k := lz_get (a := B) (g := 1121) (M := me_w M (nt_u J B 15 (nI (lb_s f t q)))) (v := .int (nI li)) rfl (congrArg Value.int (hR1.2.2.2.1)) k
        have k := ly_revb 2 (c' := (if (Int32.ofInt 1) = 0 then 119 else 114, [(3, .int (Int32.ofInt 1)), (2, .int (Int32.ofInt 1)), (1, .int (nI (lb_s f t q))), (0, .ref B)], [.int (nI li)], me_w M (nt_u J B 15 (nI (lb_s f t q))))) rfl k
        rw [if_neg (show ¬ ((Int32.ofInt 1) = 0) from by decide)] at k
        have k := ly_revb 3 (c' := (if (nI li) = (Int32.ofInt 40) then 124 else 131, [(3, .int (Int32.ofInt 1)), (2, .int (Int32.ofInt 1)), (1, .int (nI (lb_s f t q))), (0, .ref B)], [], me_w M (nt_u J B 15 (nI (lb_s f t q))))) rfl k
        by_cases h121 : li = 40
        · rw [if_pos (show (nI li) = (Int32.ofInt 40) from show nI li = nI 40 from congrArg nI h121)] at k
          have k := ly_revb 3 (c' := (127, [(3, .int (Int32.ofInt 1)), (2, .int (Int32.ofInt 1)), (1, .int (nI (lb_s f t q))), (0, .ref B)], [.int (nI (lb_s f t q)), .int (Int32.ofInt 4), .ref B], me_w M (nt_u J B 15 (nI (lb_s f t q))))) rfl k
          obtain ⟨d1, o1, ed, kc, k⟩ := lz_c (g := 139) (q := 1) (vs := [.ref B, .int (Int32.ofInt 4), .int (nI (lb_s f t q))]) (rest := []) rfl rfl (by decide) (Or.inr (Or.inl ⟨_, rfl, rfl⟩)) rfl k
          obtain ⟨hf, e1⟩ := (md_fails (a := (lb_s f t q)) hR1.1 hR1.2.1 hp1 kc).resolve_right (fun c => c.1 rfl)
          subst e1
          have hR2 := yr_up hR1 (md_Sw (y := lb_c ((lb_s f t q)) (Int32.ofInt 4)) hR1.1 hR1.2.1)
          have k : nt_rn X _ 135 (130, [(3, .int (Int32.ofInt 1)), (2, .int (Int32.ofInt 1)), (1, .int (nI (lb_s f t q))), (0, .ref B)], [.int (Int32.ofInt 0)], me_w M (nt_u (nt_u J B 15 (nI (lb_s f t q))) B 16 (lb_c ((lb_s f t q)) (Int32.ofInt 4)))) _ := k
          have k := lz_ri rfl (by decide) k
          exact ⟨.inl (lb_c ((lb_s f t q)) (Int32.ofInt 4)), _, _, k, Or.inr ⟨2, by decide, g2, fun v hv => by rcases (by omega : v = 0 ∨ v = 1) with rfl | rfl <;> assumption, Or.inl ⟨Or.inl h121, rfl⟩⟩, (lb_c_ne (by omega) (by decide) (by decide)), rfl, _, _, _, _, hp1, hR2⟩
        · rw [if_neg (show ¬ ((nI li) = (Int32.ofInt 40)) from show ¬ nI li = nI 40 from me_ne h121 (by omega) (by omega))] at k
          have k := ly_revb 2 (c' := (133, [(3, .int (Int32.ofInt 1)), (2, .int (Int32.ofInt 1)), (1, .int (nI (lb_s f t q))), (0, .ref B)], [.ref B, .ref B], me_w M (nt_u J B 15 (nI (lb_s f t q))))) rfl k
          have k := lz_get (a := B) (g := 1121) (M := me_w M (nt_u J B 15 (nI (lb_s f t q)))) (v := .int (nI li)) rfl (congrArg Value.int (hR1.2.2.2.1)) k
          have k := ly_revb 2 (c' := (138, [(3, .int (Int32.ofInt 1)), (2, .int (Int32.ofInt 1)), (1, .int (nI (lb_s f t q))), (0, .ref B)], [.int ((nI li) + (Int32.ofInt 1)), .ref B], me_w M (nt_u J B 15 (nI (lb_s f t q))))) rfl k
          rw [show ((nI li) + (Int32.ofInt 1) : Int32) = nI (li + 1) from me_add (k := 1)] at k
          have k := me_put rfl (by decide) k
          have k : nt_rn X _ 135 (141, [(3, .int (Int32.ofInt 1)), (2, .int (Int32.ofInt 1)), (1, .int (nI (lb_s f t q))), (0, .ref B)], [], me_w M (nt_u (nt_u J B 15 (nI (lb_s f t q))) B 21 (nI (li + 1)))) _ := k
          have hR2 := yr_li (y := li + 1) hR1
          have k := ly_revb 2 (c' := (if (Int32.ofInt 1) = 0 then 153 else 145, [(3, .int (Int32.ofInt 1)), (2, .int (Int32.ofInt 1)), (1, .int (nI (lb_s f t q))), (0, .ref B)], [], me_w M (nt_u (nt_u J B 15 (nI (lb_s f t q))) B 21 (nI (li + 1))))) rfl k
          rw [if_neg (show ¬ ((Int32.ofInt 1) = 0) from by decide)] at k
          have k := ly_revb 2 (c' := (147, [(3, .int (Int32.ofInt 1)), (2, .int (Int32.ofInt 1)), (1, .int (nI (lb_s f t q))), (0, .ref B)], [.int (nI (lb_s f t q)), .ref B], me_w M (nt_u (nt_u J B 15 (nI (lb_s f t q))) B 21 (nI (li + 1))))) rfl k
          obtain ⟨d1, o1, ed, kc, k⟩ := lz_c (g := 140) (q := 1) (vs := [.ref B, .int (nI (lb_s f t q))]) (rest := []) rfl rfl (by decide) (Or.inr (Or.inl ⟨_, rfl, rfl⟩)) rfl k
          have hbe : ∀ v, v < 2 → ¬ lb_yw f t (lb_s f t q) v := fun v hv => by rcases (by omega : v = 0 ∨ v = 1) with rfl | rfl <;> assumption
          obtain ⟨r, a, J', e1, hrel, hQ⟩ := yr_line2 hW hR2 hp1 hss hb g2 hbe kc
          subst e1
          have k : nt_rn X _ 135 (150, [(3, .int (Int32.ofInt 1)), (2, .int (Int32.ofInt 1)), (1, .int (nI (lb_s f t q))), (0, .ref B)], [.int (a)], me_w M (J')) _ := k
          have k := ly_revb 1 (c' := (157, [(3, .int (Int32.ofInt 1)), (2, .int (Int32.ofInt 1)), (1, .int (nI (lb_s f t q))), (0, .ref B)], [.int (a)], me_w M (J'))) rfl k
          have k := lz_ri rfl (by decide) k
          refine ⟨r, a, J', k, Or.inr ⟨2, by decide, g2, hbe, ?_⟩, yr_Qm (fun v D hh => ⟨2, by decide, g2, hbe, hh⟩) hQ⟩
          rcases hrel with ⟨hf, hrel⟩ | ⟨hf, hrel⟩
          · refine Or.inl ⟨?_, hrel⟩
            rcases hf with hf | hf
            · exact Or.inr (Or.inl (fun c => absurd (c.mp (hk.mpr hf)) (by decide)))
            · exact Or.inr (Or.inr hf)
          · refine Or.inr ⟨fun c => ?_, hrel⟩
            rcases c with c | c | c
            · exact h121 c
            · exact c ⟨fun h0 => absurd (Or.inl (hk.mp h0)) hf, fun h0 => absurd h0 (by decide)⟩
            · exact hf (Or.inr c)
      · have k : nt_rn X _ 135 (56, [(2, .int (Int32.ofInt 1)), (1, .int (nI (lb_s f t q))), (0, .ref B)], [.int (Int32.ofInt 0)], me_w M (nt_u J B 15 (nI (lb_s f t q)))) _ := k
        have k := ly_revb 1 (c' := (if (Int32.ofInt 0) = 0 then 59 else 79, [(2, .int (Int32.ofInt 1)), (1, .int (nI (lb_s f t q))), (0, .ref B)], [], me_w M (nt_u J B 15 (nI (lb_s f t q))))) rfl k
        rw [if_pos (show (Int32.ofInt 0) = 0 from by decide)] at k
        have k := ly_revb 2 (c' := (63, [(2, .int (Int32.ofInt 1)), (1, .int (nI (lb_s f t q))), (0, .ref B)], [.long (130221149874021), .ref B], me_w M (nt_u J B 15 (nI (lb_s f t q))))) rfl k
        obtain ⟨d1, o1, ed, kc, k⟩ := lz_c (g := 137) (q := 1) (vs := [.ref B, .long (130221149874021)]) (rest := []) rfl rfl (by decide) (Or.inr (Or.inl ⟨_, rfl, rfl⟩)) rfl k
        obtain ⟨r, e1, hr⟩ := md_isWord hR1.1 hR1.2.1 hp1 kc
        rw [hss, me_ui hR1.2.1.1] at e1
        rw [hss, lb_w_voyage] at hr
        subst e1
        rcases hr with ⟨rfl, g3⟩ | ⟨rfl, g3⟩
        · have k : nt_rn X _ 135 (66, [(2, .int (Int32.ofInt 1)), (1, .int (nI (lb_s f t q))), (0, .ref B)], [.int (Int32.ofInt 1)], me_w M (nt_u J B 15 (nI (lb_s f t q)))) _ := k
          have k := ly_revb 1 (c' := (if (Int32.ofInt 1) = 0 then 69 else 79, [(2, .int (Int32.ofInt 1)), (1, .int (nI (lb_s f t q))), (0, .ref B)], [], me_w M (nt_u J B 15 (nI (lb_s f t q))))) rfl k
          rw [if_neg (show ¬ ((Int32.ofInt 1) = 0) from by decide)] at k
          have k := ly_revb 5 (c' := (if (Int32.ofInt 1) = 0 then 99 else 106, [(3, .int (Int32.ofInt 1)), (2, .int (Int32.ofInt 1)), (1, .int (nI (lb_s f t q))), (0, .ref B)], [], me_w M (nt_u J B 15 (nI (lb_s f t q))))) rfl k
          rw [if_neg (show ¬ ((Int32.ofInt 1) = 0) from by decide)] at k
          have k := ly_revb 1 (c' := (107, [(3, .int (Int32.ofInt 1)), (2, .int (Int32.ofInt 1)), (1, .int (nI (lb_s f t q))), (0, .ref B)], [.ref B], me_w M (nt_u J B 15 (nI (lb_s f t q))))) rfl k
          have k := lz_get (a := B) (g := 1121) (M := me_w M (nt_u J B 15 (nI (lb_s f t q)))) (v := .int (nI li)) rfl (congrArg Value.int (hR1.2.2.2.1)) k
          have k := ly_revb 2 (c' := (if (Int32.ofInt 1) = 0 then 119 else 114, [(3, .int (Int32.ofInt 1)), (2, .int (Int32.ofInt 1)), (1, .int (nI (lb_s f t q))), (0, .ref B)], [.int (nI li)], me_w M (nt_u J B 15 (nI (lb_s f t q))))) rfl k
          rw [if_neg (show ¬ ((Int32.ofInt 1) = 0) from by decide)] at k
          have k := ly_revb 3 (c' := (if (nI li) = (Int32.ofInt 40) then 124 else 131, [(3, .int (Int32.ofInt 1)), (2, .int (Int32.ofInt 1)), (1, .int (nI (lb_s f t q))), (0, .ref B)], [], me_w M (nt_u J B 15 (nI (lb_s f t q))))) rfl k
          by_cases h121 : li = 40
          · rw [if_pos (show (nI li) = (Int32.ofInt 40) from show nI li = nI 40 from congrArg nI h121)] at k
            have k := ly_revb 3 (c' := (127, [(3, .int (Int32.ofInt 1)), (2, .int (Int32.ofInt 1)), (1, .int (nI (lb_s f t q))), (0, .ref B)], [.int (nI (lb_s f t q)), .int (Int32.ofInt 4), .ref B], me_w M (nt_u J B 15 (nI (lb_s f t q))))) rfl k
            obtain ⟨d1, o1, ed, kc, k⟩ := lz_c (g := 139) (q := 1) (vs := [.ref B, .int (Int32.ofInt 4), .int (nI (lb_s f t q))]) (rest := []) rfl rfl (by decide) (Or.inr (Or.inl ⟨_, rfl, rfl⟩)) rfl k
            obtain ⟨hf, e1⟩ := (md_fails (a := (lb_s f t q)) hR1.1 hR1.2.1 hp1 kc).resolve_right (fun c => c.1 rfl)
            subst e1
            have hR2 := yr_up hR1 (md_Sw (y := lb_c ((lb_s f t q)) (Int32.ofInt 4)) hR1.1 hR1.2.1)
            have k : nt_rn X _ 135 (130, [(3, .int (Int32.ofInt 1)), (2, .int (Int32.ofInt 1)), (1, .int (nI (lb_s f t q))), (0, .ref B)], [.int (Int32.ofInt 0)], me_w M (nt_u (nt_u J B 15 (nI (lb_s f t q))) B 16 (lb_c ((lb_s f t q)) (Int32.ofInt 4)))) _ := k
            have k := lz_ri rfl (by decide) k
            exact ⟨.inl (lb_c ((lb_s f t q)) (Int32.ofInt 4)), _, _, k, Or.inr ⟨3, by decide, g3, fun v hv => by rcases (by omega : v = 0 ∨ v = 1 ∨ v = 2) with rfl | rfl | rfl <;> assumption, Or.inl ⟨Or.inl h121, rfl⟩⟩, (lb_c_ne (by omega) (by decide) (by decide)), rfl, _, _, _, _, hp1, hR2⟩
          · rw [if_neg (show ¬ ((nI li) = (Int32.ofInt 40)) from show ¬ nI li = nI 40 from me_ne h121 (by omega) (by omega))] at k
            have k := ly_revb 2 (c' := (133, [(3, .int (Int32.ofInt 1)), (2, .int (Int32.ofInt 1)), (1, .int (nI (lb_s f t q))), (0, .ref B)], [.ref B, .ref B], me_w M (nt_u J B 15 (nI (lb_s f t q))))) rfl k
            have k := lz_get (a := B) (g := 1121) (M := me_w M (nt_u J B 15 (nI (lb_s f t q)))) (v := .int (nI li)) rfl (congrArg Value.int (hR1.2.2.2.1)) k
            have k := ly_revb 2 (c' := (138, [(3, .int (Int32.ofInt 1)), (2, .int (Int32.ofInt 1)), (1, .int (nI (lb_s f t q))), (0, .ref B)], [.int ((nI li) + (Int32.ofInt 1)), .ref B], me_w M (nt_u J B 15 (nI (lb_s f t q))))) rfl k
            rw [show ((nI li) + (Int32.ofInt 1) : Int32) = nI (li + 1) from me_add (k := 1)] at k
            have k := me_put rfl (by decide) k
            have k : nt_rn X _ 135 (141, [(3, .int (Int32.ofInt 1)), (2, .int (Int32.ofInt 1)), (1, .int (nI (lb_s f t q))), (0, .ref B)], [], me_w M (nt_u (nt_u J B 15 (nI (lb_s f t q))) B 21 (nI (li + 1)))) _ := k
            have hR2 := yr_li (y := li + 1) hR1
            have k := ly_revb 2 (c' := (if (Int32.ofInt 1) = 0 then 153 else 145, [(3, .int (Int32.ofInt 1)), (2, .int (Int32.ofInt 1)), (1, .int (nI (lb_s f t q))), (0, .ref B)], [], me_w M (nt_u (nt_u J B 15 (nI (lb_s f t q))) B 21 (nI (li + 1))))) rfl k
            rw [if_neg (show ¬ ((Int32.ofInt 1) = 0) from by decide)] at k
            have k := ly_revb 2 (c' := (147, [(3, .int (Int32.ofInt 1)), (2, .int (Int32.ofInt 1)), (1, .int (nI (lb_s f t q))), (0, .ref B)], [.int (nI (lb_s f t q)), .ref B], me_w M (nt_u (nt_u J B 15 (nI (lb_s f t q))) B 21 (nI (li + 1))))) rfl k
            obtain ⟨d1, o1, ed, kc, k⟩ := lz_c (g := 140) (q := 1) (vs := [.ref B, .int (nI (lb_s f t q))]) (rest := []) rfl rfl (by decide) (Or.inr (Or.inl ⟨_, rfl, rfl⟩)) rfl k
            have hbe : ∀ v, v < 3 → ¬ lb_yw f t (lb_s f t q) v := fun v hv => by rcases (by omega : v = 0 ∨ v = 1 ∨ v = 2) with rfl | rfl | rfl <;> assumption
            obtain ⟨r, a, J', e1, hrel, hQ⟩ := yr_line3 hW hR2 hp1 hss hb g3 hbe kc
            subst e1
            have k : nt_rn X _ 135 (150, [(3, .int (Int32.ofInt 1)), (2, .int (Int32.ofInt 1)), (1, .int (nI (lb_s f t q))), (0, .ref B)], [.int (a)], me_w M (J')) _ := k
            have k := ly_revb 1 (c' := (157, [(3, .int (Int32.ofInt 1)), (2, .int (Int32.ofInt 1)), (1, .int (nI (lb_s f t q))), (0, .ref B)], [.int (a)], me_w M (J'))) rfl k
            have k := lz_ri rfl (by decide) k
            refine ⟨r, a, J', k, Or.inr ⟨3, by decide, g3, hbe, ?_⟩, yr_Qm (fun v D hh => ⟨3, by decide, g3, hbe, hh⟩) hQ⟩
            rcases hrel with ⟨hf, hrel⟩ | ⟨hf, hrel⟩
            · refine Or.inl ⟨?_, hrel⟩
              rcases hf with hf | hf
              · exact Or.inr (Or.inl (fun c => absurd (c.mp (hk.mpr hf)) (by decide)))
              · exact Or.inr (Or.inr hf)
            · refine Or.inr ⟨fun c => ?_, hrel⟩
              rcases c with c | c | c
              · exact h121 c
              · exact c ⟨fun h0 => absurd (Or.inl (hk.mp h0)) hf, fun h0 => absurd h0 (by decide)⟩
              · exact hf (Or.inr c)
        · have k : nt_rn X _ 135 (66, [(2, .int (Int32.ofInt 1)), (1, .int (nI (lb_s f t q))), (0, .ref B)], [.int (Int32.ofInt 0)], me_w M (nt_u J B 15 (nI (lb_s f t q)))) _ := k
          have k := ly_revb 1 (c' := (if (Int32.ofInt 0) = 0 then 69 else 79, [(2, .int (Int32.ofInt 1)), (1, .int (nI (lb_s f t q))), (0, .ref B)], [], me_w M (nt_u J B 15 (nI (lb_s f t q))))) rfl k
          rw [if_pos (show (Int32.ofInt 0) = 0 from by decide)] at k
          have k := ly_revb 2 (c' := (73, [(2, .int (Int32.ofInt 1)), (1, .int (nI (lb_s f t q))), (0, .ref B)], [.long (448311223411), .ref B], me_w M (nt_u J B 15 (nI (lb_s f t q))))) rfl k
          obtain ⟨d1, o1, ed, kc, k⟩ := lz_c (g := 137) (q := 1) (vs := [.ref B, .long (448311223411)]) (rest := []) rfl rfl (by decide) (Or.inr (Or.inl ⟨_, rfl, rfl⟩)) rfl k
          obtain ⟨r, e1, hr⟩ := md_isWord hR1.1 hR1.2.1 hp1 kc
          rw [hss, me_ui hR1.2.1.1] at e1
          rw [hss, lb_w_hands] at hr
          subst e1
          rcases hr with ⟨rfl, g4⟩ | ⟨rfl, g4⟩
          · have k : nt_rn X _ 135 (76, [(2, .int (Int32.ofInt 1)), (1, .int (nI (lb_s f t q))), (0, .ref B)], [.int (Int32.ofInt 1)], me_w M (nt_u J B 15 (nI (lb_s f t q)))) _ := k
            have k := ly_revb 1 (c' := (if (Int32.ofInt 1) = 0 then 83 else 79, [(2, .int (Int32.ofInt 1)), (1, .int (nI (lb_s f t q))), (0, .ref B)], [], me_w M (nt_u J B 15 (nI (lb_s f t q))))) rfl k
            rw [if_neg (show ¬ ((Int32.ofInt 1) = 0) from by decide)] at k
            have k := ly_revb 5 (c' := (if (Int32.ofInt 1) = 0 then 99 else 106, [(3, .int (Int32.ofInt 1)), (2, .int (Int32.ofInt 1)), (1, .int (nI (lb_s f t q))), (0, .ref B)], [], me_w M (nt_u J B 15 (nI (lb_s f t q))))) rfl k
            rw [if_neg (show ¬ ((Int32.ofInt 1) = 0) from by decide)] at k
            have k := ly_revb 1 (c' := (107, [(3, .int (Int32.ofInt 1)), (2, .int (Int32.ofInt 1)), (1, .int (nI (lb_s f t q))), (0, .ref B)], [.ref B], me_w M (nt_u J B 15 (nI (lb_s f t q))))) rfl k
            have k := lz_get (a := B) (g := 1121) (M := me_w M (nt_u J B 15 (nI (lb_s f t q)))) (v := .int (nI li)) rfl (congrArg Value.int (hR1.2.2.2.1)) k
            have k := ly_revb 2 (c' := (if (Int32.ofInt 1) = 0 then 119 else 114, [(3, .int (Int32.ofInt 1)), (2, .int (Int32.ofInt 1)), (1, .int (nI (lb_s f t q))), (0, .ref B)], [.int (nI li)], me_w M (nt_u J B 15 (nI (lb_s f t q))))) rfl k
            rw [if_neg (show ¬ ((Int32.ofInt 1) = 0) from by decide)] at k
            have k := ly_revb 3 (c' := (if (nI li) = (Int32.ofInt 40) then 124 else 131, [(3, .int (Int32.ofInt 1)), (2, .int (Int32.ofInt 1)), (1, .int (nI (lb_s f t q))), (0, .ref B)], [], me_w M (nt_u J B 15 (nI (lb_s f t q))))) rfl k
            by_cases h121 : li = 40
            · rw [if_pos (show (nI li) = (Int32.ofInt 40) from show nI li = nI 40 from congrArg nI h121)] at k
              have k := ly_revb 3 (c' := (127, [(3, .int (Int32.ofInt 1)), (2, .int (Int32.ofInt 1)), (1, .int (nI (lb_s f t q))), (0, .ref B)], [.int (nI (lb_s f t q)), .int (Int32.ofInt 4), .ref B], me_w M (nt_u J B 15 (nI (lb_s f t q))))) rfl k
              obtain ⟨d1, o1, ed, kc, k⟩ := lz_c (g := 139) (q := 1) (vs := [.ref B, .int (Int32.ofInt 4), .int (nI (lb_s f t q))]) (rest := []) rfl rfl (by decide) (Or.inr (Or.inl ⟨_, rfl, rfl⟩)) rfl k
              obtain ⟨hf, e1⟩ := (md_fails (a := (lb_s f t q)) hR1.1 hR1.2.1 hp1 kc).resolve_right (fun c => c.1 rfl)
              subst e1
              have hR2 := yr_up hR1 (md_Sw (y := lb_c ((lb_s f t q)) (Int32.ofInt 4)) hR1.1 hR1.2.1)
              have k : nt_rn X _ 135 (130, [(3, .int (Int32.ofInt 1)), (2, .int (Int32.ofInt 1)), (1, .int (nI (lb_s f t q))), (0, .ref B)], [.int (Int32.ofInt 0)], me_w M (nt_u (nt_u J B 15 (nI (lb_s f t q))) B 16 (lb_c ((lb_s f t q)) (Int32.ofInt 4)))) _ := k
              have k := lz_ri rfl (by decide) k
              exact ⟨.inl (lb_c ((lb_s f t q)) (Int32.ofInt 4)), _, _, k, Or.inr ⟨4, by decide, g4, fun v hv => by rcases (by omega : v = 0 ∨ v = 1 ∨ v = 2 ∨ v = 3) with rfl | rfl | rfl | rfl <;> assumption, Or.inl ⟨Or.inl h121, rfl⟩⟩, (lb_c_ne (by omega) (by decide) (by decide)), rfl, _, _, _, _, hp1, hR2⟩
            · rw [if_neg (show ¬ ((nI li) = (Int32.ofInt 40)) from show ¬ nI li = nI 40 from me_ne h121 (by omega) (by omega))] at k
              have k := ly_revb 2 (c' := (133, [(3, .int (Int32.ofInt 1)), (2, .int (Int32.ofInt 1)), (1, .int (nI (lb_s f t q))), (0, .ref B)], [.ref B, .ref B], me_w M (nt_u J B 15 (nI (lb_s f t q))))) rfl k
              have k := lz_get (a := B) (g := 1121) (M := me_w M (nt_u J B 15 (nI (lb_s f t q)))) (v := .int (nI li)) rfl (congrArg Value.int (hR1.2.2.2.1)) k
              have k := ly_revb 2 (c' := (138, [(3, .int (Int32.ofInt 1)), (2, .int (Int32.ofInt 1)), (1, .int (nI (lb_s f t q))), (0, .ref B)], [.int ((nI li) + (Int32.ofInt 1)), .ref B], me_w M (nt_u J B 15 (nI (lb_s f t q))))) rfl k
              rw [show ((nI li) + (Int32.ofInt 1) : Int32) = nI (li + 1) from me_add (k := 1)] at k
              have k := me_put rfl (by decide) k
              have k : nt_rn X _ 135 (141, [(3, .int (Int32.ofInt 1)), (2, .int (Int32.ofInt 1)), (1, .int (nI (lb_s f t q))), (0, .ref B)], [], me_w M (nt_u (nt_u J B 15 (nI (lb_s f t q))) B 21 (nI (li + 1)))) _ := k
              have hR2 := yr_li (y := li + 1) hR1
              have k := ly_revb 2 (c' := (if (Int32.ofInt 1) = 0 then 153 else 145, [(3, .int (Int32.ofInt 1)), (2, .int (Int32.ofInt 1)), (1, .int (nI (lb_s f t q))), (0, .ref B)], [], me_w M (nt_u (nt_u J B 15 (nI (lb_s f t q))) B 21 (nI (li + 1))))) rfl k
              rw [if_neg (show ¬ ((Int32.ofInt 1) = 0) from by decide)] at k
              have k := ly_revb 2 (c' := (147, [(3, .int (Int32.ofInt 1)), (2, .int (Int32.ofInt 1)), (1, .int (nI (lb_s f t q))), (0, .ref B)], [.int (nI (lb_s f t q)), .ref B], me_w M (nt_u (nt_u J B 15 (nI (lb_s f t q))) B 21 (nI (li + 1))))) rfl k
              obtain ⟨d1, o1, ed, kc, k⟩ := lz_c (g := 140) (q := 1) (vs := [.ref B, .int (nI (lb_s f t q))]) (rest := []) rfl rfl (by decide) (Or.inr (Or.inl ⟨_, rfl, rfl⟩)) rfl k
              have hbe : ∀ v, v < 4 → ¬ lb_yw f t (lb_s f t q) v := fun v hv => by rcases (by omega : v = 0 ∨ v = 1 ∨ v = 2 ∨ v = 3) with rfl | rfl | rfl | rfl <;> assumption
              obtain ⟨r, a, J', e1, hrel, hQ⟩ := yr_line4 hW hR2 hp1 hss hb g4 hbe kc
              subst e1
              have k : nt_rn X _ 135 (150, [(3, .int (Int32.ofInt 1)), (2, .int (Int32.ofInt 1)), (1, .int (nI (lb_s f t q))), (0, .ref B)], [.int (a)], me_w M (J')) _ := k
              have k := ly_revb 1 (c' := (157, [(3, .int (Int32.ofInt 1)), (2, .int (Int32.ofInt 1)), (1, .int (nI (lb_s f t q))), (0, .ref B)], [.int (a)], me_w M (J'))) rfl k
              have k := lz_ri rfl (by decide) k
              refine ⟨r, a, J', k, Or.inr ⟨4, by decide, g4, hbe, ?_⟩, yr_Qm (fun v D hh => ⟨4, by decide, g4, hbe, hh⟩) hQ⟩
              rcases hrel with ⟨hf, hrel⟩ | ⟨hf, hrel⟩
              · refine Or.inl ⟨?_, hrel⟩
                rcases hf with hf | hf
                · exact Or.inr (Or.inl (fun c => absurd (c.mp (hk.mpr hf)) (by decide)))
                · exact Or.inr (Or.inr hf)
              · refine Or.inr ⟨fun c => ?_, hrel⟩
                rcases c with c | c | c
                · exact h121 c
                · exact c ⟨fun h0 => absurd (Or.inl (hk.mp h0)) hf, fun h0 => absurd h0 (by decide)⟩
                · exact hf (Or.inr c)
          · have k : nt_rn X _ 135 (76, [(2, .int (Int32.ofInt 1)), (1, .int (nI (lb_s f t q))), (0, .ref B)], [.int (Int32.ofInt 0)], me_w M (nt_u J B 15 (nI (lb_s f t q)))) _ := k
            have k := ly_revb 1 (c' := (if (Int32.ofInt 0) = 0 then 83 else 79, [(2, .int (Int32.ofInt 1)), (1, .int (nI (lb_s f t q))), (0, .ref B)], [], me_w M (nt_u J B 15 (nI (lb_s f t q))))) rfl k
            rw [if_pos (show (Int32.ofInt 0) = 0 from by decide)] at k
            have k := ly_revb 5 (c' := (if (Int32.ofInt 0) = 0 then 99 else 106, [(3, .int (Int32.ofInt 0)), (2, .int (Int32.ofInt 1)), (1, .int (nI (lb_s f t q))), (0, .ref B)], [], me_w M (nt_u J B 15 (nI (lb_s f t q))))) rfl k
            rw [if_pos (show (Int32.ofInt 0) = 0 from by decide)] at k
            have k := ly_revb 3 (c' := (102, [(3, .int (Int32.ofInt 0)), (2, .int (Int32.ofInt 1)), (1, .int (nI (lb_s f t q))), (0, .ref B)], [.int (nI (lb_s f t q)), .int (Int32.ofInt 0), .ref B], me_w M (nt_u J B 15 (nI (lb_s f t q))))) rfl k
            obtain ⟨d1, o1, ed, kc, k⟩ := lz_c (g := 139) (q := 1) (vs := [.ref B, .int (Int32.ofInt 0), .int (nI (lb_s f t q))]) (rest := []) rfl rfl (by decide) (Or.inr (Or.inl ⟨_, rfl, rfl⟩)) rfl k
            obtain ⟨hf, e1⟩ := (md_fails (a := (lb_s f t q)) hR1.1 hR1.2.1 hp1 kc).resolve_right (fun c => c.1 rfl)
            subst e1
            have hR2 := yr_up hR1 (md_Sw (y := lb_c ((lb_s f t q)) (Int32.ofInt 0)) hR1.1 hR1.2.1)
            have k : nt_rn X _ 135 (105, [(3, .int (Int32.ofInt 0)), (2, .int (Int32.ofInt 1)), (1, .int (nI (lb_s f t q))), (0, .ref B)], [.int (Int32.ofInt 0)], me_w M (nt_u (nt_u J B 15 (nI (lb_s f t q))) B 16 (lb_c ((lb_s f t q)) (Int32.ofInt 0)))) _ := k
            have k := lz_ri rfl (by decide) k
            refine ⟨.inl (lb_c ((lb_s f t q)) (Int32.ofInt 0)), _, _, k, Or.inl ⟨fun v hv => ?_, rfl⟩, (lb_c_ne (by omega) (by decide) (by decide)), rfl, _, _, _, _, hp1, hR2⟩
            rcases (by omega : v = 0 ∨ v = 1 ∨ v = 2 ∨ v = 3 ∨ v = 4) with rfl | rfl | rfl | rfl | rfl
            · exact g0
            · exact g1
            · exact g2
            · exact g3
            · exact g4
/-- what was read, as it lies -/
def yr_E (R0 R1 R2 B Sg Ln : Nat) (u : Nat × Nat × Nat × Nat × Nat) (D : lb_C) (J : Nat → Nat → Int32) : Prop := (J B 7 = nI u.1 ∧ J B 8 = nI u.2.1 ∧ J B 9 = nI u.2.2.1 ∧ J B 10 = nI u.2.2.2.1 ∧ J B 11 = lb_hh u.2.2.2.2) ∧ yr_C R0 R1 R2 B Sg Ln D J
theorem yr_E1 {R0 R1 R2 B Sg Ln : Nat} {u : Nat × Nat × Nat × Nat × Nat} {D : lb_C} {J : Nat → Nat → Int32} {x : Int32} (h1 : J B 7 = nI u.1 ∧ J B 8 = nI u.2.1 ∧ J B 9 = nI u.2.2.1 ∧ J B 10 = nI u.2.2.2.1 ∧ J B 11 = lb_hh u.2.2.2.2) (h2 : yr_C R0 R1 R2 B Sg Ln D J) : yr_E R0 R1 R2 B Sg Ln u D (nt_u J B 1 x) := ⟨⟨(me_uk (by decide)).trans h1.1, (me_uk (by decide)).trans h1.2.1, (me_uk (by decide)).trans h1.2.2.1, (me_uk (by decide)).trans h1.2.2.2.1, (me_uk (by decide)).trans h1.2.2.2.2⟩, yr_Cr h2 (fun a n1 _ _ => me_uo n1)⟩
theorem yr_rdl {X : nt_X} {d t B Tb Sg Ln m R0 R1 R2 : Nat} {f : Nat → Int32} {M : nt_M} {e : Nat × (Nat → Int32)} {o : Option Value × nt_M} (hW : yr_W M B Tb Sg Ln R0 R1 R2) : ∀ (c : Nat) (u : Nat × Nat × Nat × Nat × Nat) (q li : Nat) (C : lb_C) (J : Nat → Nat → Int32), 40 - li < c → li ≠ 0 → li ≤ 40 → lb_ub u → u.1 ≠ 0 → yr_T R0 R1 R2 C M f t B Tb Sg Ln q 0 m e u li J → q ≤ t → nt_rn X d 134 (35, [(1, .int (Int32.ofInt 1)), (0, .ref B)], [], me_w M J) o → ∃ r a J', o = (some (.int a), me_w M J') ∧ ((lb_g f t (lb_s f t q) = Int32.ofInt 59 ∧ ∃ k, lb_ya f t k li (lb_s f t (lb_s f t q + 1), u) r) ∨ (lb_g f t (lb_s f t q) = Int32.ofInt (-1) ∧ r = .inr (lb_s f t q, u)) ∨ (¬ lb_g f t (lb_s f t q) = Int32.ofInt 59 ∧ ¬ lb_g f t (lb_s f t q) = Int32.ofInt (-1) ∧ r = .inl (lb_c (lb_s f t q) (Int32.ofInt 0)))) ∧ ((∃ c, r = .inl c ∧ c ≠ 0 ∧ a = Int32.ofInt 0 ∧ J' B 16 = c) ∨ ∃ w D, r = .inr w ∧ a = Int32.ofInt 1 ∧ lb_ub w.2 ∧ ((lb_g f t (lb_s f t q) = Int32.ofInt 59 ∧ ∃ k, lb_yaC f t k li (lb_s f t (lb_s f t q + 1), u) w C D) ∨ (lb_g f t (lb_s f t q) = Int32.ofInt (-1) ∧ w = (lb_s f t q, u) ∧ D = C)) ∧ yr_E R0 R1 R2 B Sg Ln w.2 D J') := by
  intro cc
  induction cc with
  | zero => intro u q li C J hc; omega
  | succ cc ih =>
    intro u q li C J hcc hli hl hb hk1 hT hp k
    have t4 : t ≤ 400 := hT.1.2.2.2.2.2.1
    have hk : li = 0 ↔ u.1 = 0 := ⟨fun h => absurd h hli, fun h => absurd h hk1⟩
    have k := ly_revb 2 (c' := (if (Int32.ofInt 1) = 0 then 66 else 39, [(1, .int (Int32.ofInt 1)), (0, .ref B)], [], me_w M J)) rfl k
    rw [if_neg (show ¬ ((Int32.ofInt 1) = 0) from by decide)] at k
    have k := ly_revb 1 (c' := (40, [(1, .int (Int32.ofInt 1)), (0, .ref B)], [.ref B], me_w M J)) rfl k
    obtain ⟨d1, o1, ed, kc, k⟩ := lz_c (g := 136) (q := 1) (vs := [.ref B]) (rest := []) rfl rfl (by decide) (Or.inr (Or.inl ⟨_, rfl, rfl⟩)) rfl k
    have e1 := md_see hT.1 hT.2.1 hp kc
    subst e1
    have hR1 := yr_up hT (md_Sq (y := lb_s f t q) hT.1 hT.2.1)
    have hp1 : lb_s f t q ≤ t := (lb_s_le (t - q) q (by omega)).2
    have hss : lb_s f t (lb_s f t q) = lb_s f t q := lb_ss hp
    have k : nt_rn X _ 134 (43, [(1, .int (Int32.ofInt 1)), (0, .ref B)], [.int (lb_g f t (lb_s f t q))], me_w M (nt_u J B 15 (nI (lb_s f t q)))) _ := k
    have k : nt_rn X _ 134 (43, [(1, .int (Int32.ofInt 1)), (0, .ref B)], [.int (lb_g f t (lb_s f t q))], me_w M (nt_u J B 15 (nI (lb_s f t q)))) _ := k
    have k := ly_revb 2 (c' := (if (lb_g f t (lb_s f t q)) = (Int32.ofInt 59) then 48 else 66, [(1, .int (Int32.ofInt 1)), (0, .ref B)], [], me_w M (nt_u J B 15 (nI (lb_s f t q))))) rfl k
    by_cases h45 : lb_g f t (lb_s f t q) = Int32.ofInt 59
    · rw [if_pos (show (lb_g f t (lb_s f t q)) = (Int32.ofInt 59) from h45)] at k
      have k := ly_revb 2 (c' := (50, [(1, .int (Int32.ofInt 1)), (0, .ref B)], [.ref B, .ref B], me_w M (nt_u J B 15 (nI (lb_s f t q))))) rfl k
      have k := lz_get (a := B) (g := 1115) (M := me_w M (nt_u J B 15 (nI (lb_s f t q)))) (v := .int (nI (lb_s f t q))) rfl (congrArg Value.int (hR1.2.1.1)) k
      have k := ly_revb 2 (c' := (55, [(1, .int (Int32.ofInt 1)), (0, .ref B)], [.int ((nI (lb_s f t q)) + (Int32.ofInt 1)), .ref B], me_w M (nt_u J B 15 (nI (lb_s f t q))))) rfl k
      rw [show ((nI (lb_s f t q)) + (Int32.ofInt 1) : Int32) = nI ((lb_s f t q) + 1) from me_add (k := 1)] at k
      have k := me_put rfl (by decide) k
      have k : nt_rn X _ 134 (58, [(1, .int (Int32.ofInt 1)), (0, .ref B)], [], me_w M (nt_u (nt_u J B 15 (nI (lb_s f t q))) B 15 (nI ((lb_s f t q) + 1)))) _ := k
      have hlt : lb_s f t q < t := lb_g_lt (by rw [h45]; decide)
      have hR2 := yr_up hR1 (md_Sq (y := lb_s f t q + 1) hR1.1 hR1.2.1)
      have k := ly_revb 1 (c' := (59, [(1, .int (Int32.ofInt 1)), (0, .ref B)], [.ref B], me_w M (nt_u (nt_u J B 15 (nI (lb_s f t q))) B 15 (nI ((lb_s f t q) + 1))))) rfl k
      obtain ⟨d1, o1, ed, kc, k⟩ := lz_c (g := 135) (q := 1) (vs := [.ref B]) (rest := []) rfl rfl (by decide) (Or.inr (Or.inl ⟨_, rfl, rfl⟩)) rfl k
      obtain ⟨r3, a3, J3, e1, hyc, hQ⟩ := yr_clause hW hR2 (show lb_s f t q + 1 ≤ t from hlt) hb hk hl kc
      subst e1
      rcases r3 with c | w3
      · obtain ⟨hc, rfl, q3, u3, l3, D3, hq3, hT3⟩ := hQ
        have k : nt_rn X _ 134 (62, [(1, .int (Int32.ofInt 1)), (0, .ref B)], [.int (Int32.ofInt 0)], me_w M J3) _ := k
        have k := ly_revb 2 (c' := (35, [(1, .int (Int32.ofInt 0)), (0, .ref B)], [], me_w M J3)) rfl k
        have k := ly_revb 2 (c' := (if (Int32.ofInt 0) = 0 then 66 else 39, [(1, .int (Int32.ofInt 0)), (0, .ref B)], [], me_w M J3)) rfl k
        rw [if_pos (show (Int32.ofInt 0) = 0 from by decide)] at k
        have k := ly_revb 2 (c' := (if (Int32.ofInt 0) = 0 then 88 else 70, [(1, .int (Int32.ofInt 0)), (0, .ref B)], [], me_w M J3)) rfl k
        rw [if_pos (show (Int32.ofInt 0) = 0 from by decide)] at k
        have k := ly_revb 2 (c' := (90, [(1, .int (Int32.ofInt 0)), (0, .ref B)], [.int (Int32.ofInt 0), .ref B], me_w M J3)) rfl k
        have k := me_put rfl (by decide) k
        have k : nt_rn X _ 134 (93, [(1, .int (Int32.ofInt 0)), (0, .ref B)], [], me_w M (nt_u J3 B 1 (Int32.ofInt 0))) _ := k
        have k := ly_revb 1 (c' := (94, [(1, .int (Int32.ofInt 0)), (0, .ref B)], [.ref B], me_w M (nt_u J3 B 1 (Int32.ofInt 0)))) rfl k
        have k := lz_get (a := B) (g := 1116) (M := me_w M (nt_u J3 B 1 (Int32.ofInt 0))) (v := .int (c)) rfl (congrArg Value.int ((me_uk (by decide)).trans (hT3.2.1.2.1))) k
        have k := ly_revb 1 (c' := (if c = 0 then 100 else 104, [(1, .int (Int32.ofInt 0)), (0, .ref B)], [], me_w M (nt_u J3 B 1 (Int32.ofInt 0)))) rfl k
        rw [if_neg (show ¬ (c = 0) from hc)] at k
        have k := ly_revb 1 (c' := (105, [(1, .int (Int32.ofInt 0)), (0, .ref B)], [.int (Int32.ofInt 0)], me_w M (nt_u J3 B 1 (Int32.ofInt 0)))) rfl k
        have k := lz_ri rfl (by decide) k
        exact ⟨.inl (c), _, _, k, Or.inl ⟨h45, 1, _, hyc, Or.inl ⟨c, rfl, rfl⟩⟩, Or.inl ⟨_, rfl, hc, rfl, (me_uk (by decide)).trans hT3.2.1.2.1⟩⟩
      · obtain ⟨rfl, hb3, hk3, q3, D3, hz3, hq3, hC3, hT3⟩ := hQ
        have k : nt_rn X _ 134 (62, [(1, .int (Int32.ofInt 1)), (0, .ref B)], [.int (Int32.ofInt 1)], me_w M J3) _ := k
        have k := ly_revb 2 (c' := (35, [(1, .int (Int32.ofInt 1)), (0, .ref B)], [], me_w M J3)) rfl k
        have hl3 : li < 40 := by
          apply Classical.byContradiction
          intro hh
          obtain ⟨w, _, _, _, h9⟩ := hyc.resolve_left (fun h => by cases h.2)
          rcases h9 with ⟨_, h9⟩ | ⟨h9, _⟩
          · cases h9
          · exact h9 (Or.inl (by omega))
        obtain ⟨r, a, J', e9, htl, hf⟩ := ih w3.2 q3 (li + 1) D3 _ (by omega) (by omega) (by omega) hb3 hk3 hT3 hq3 k
        rw [hz3] at htl hf
        refine ⟨r, a, J', e9, Or.inl ⟨h45, ?_⟩, hf.imp_right (fun ⟨w, D, x1, x2, x3, x4, x5⟩ => ⟨w, D, x1, x2, x3, Or.inl ⟨h45, x4.elim (fun ⟨g1, k9, h9⟩ => ⟨k9 + 1, _, _, hyc, hC3, Or.inl ⟨g1, h9⟩⟩) (fun ⟨g1, g2, g3⟩ => ⟨1, _, _, hyc, hC3, Or.inr ⟨g1, g2, g3⟩⟩)⟩, x5⟩)⟩
        rcases htl with ⟨g1, k9, h9⟩ | h9 | h9
        · exact ⟨k9 + 1, _, hyc, Or.inr ⟨w3, rfl, Or.inl ⟨g1, h9⟩⟩⟩
        · exact ⟨1, _, hyc, Or.inr ⟨w3, rfl, Or.inr (Or.inl h9)⟩⟩
        · exact ⟨1, _, hyc, Or.inr ⟨w3, rfl, Or.inr (Or.inr h9)⟩⟩
    · rw [if_neg (show ¬ ((lb_g f t (lb_s f t q)) = (Int32.ofInt 59)) from h45)] at k
      have k := ly_revb 2 (c' := (if (Int32.ofInt 1) = 0 then 88 else 70, [(1, .int (Int32.ofInt 1)), (0, .ref B)], [], me_w M (nt_u J B 15 (nI (lb_s f t q))))) rfl k
      rw [if_neg (show ¬ ((Int32.ofInt 1) = 0) from by decide)] at k
      have k := ly_revb 1 (c' := (71, [(1, .int (Int32.ofInt 1)), (0, .ref B)], [.ref B], me_w M (nt_u J B 15 (nI (lb_s f t q))))) rfl k
      obtain ⟨d1, o1, ed, kc, k⟩ := lz_c (g := 136) (q := 1) (vs := [.ref B]) (rest := []) rfl rfl (by decide) (Or.inr (Or.inl ⟨_, rfl, rfl⟩)) rfl k
      have e1 := md_see hR1.1 hR1.2.1 hp1 kc
      rw [hss, me_ui hR1.2.1.1] at e1
      subst e1
      have k : nt_rn X _ 134 (74, [(1, .int (Int32.ofInt 1)), (0, .ref B)], [.int (lb_g f t (lb_s f t q))], me_w M (nt_u J B 15 (nI (lb_s f t q)))) _ := k
      have k := ly_revb 2 (c' := (if (lb_g f t (lb_s f t q)) = (Int32.ofInt (-1)) then 88 else 78, [(1, .int (Int32.ofInt 1)), (0, .ref B)], [], me_w M (nt_u J B 15 (nI (lb_s f t q))))) rfl k
      by_cases h75 : lb_g f t (lb_s f t q) = Int32.ofInt (-1)
      · rw [if_pos (show (lb_g f t (lb_s f t q)) = (Int32.ofInt (-1)) from h75)] at k
        have k := ly_revb 2 (c' := (90, [(1, .int (Int32.ofInt 1)), (0, .ref B)], [.int (Int32.ofInt 0), .ref B], me_w M (nt_u J B 15 (nI (lb_s f t q))))) rfl k
        have k := me_put rfl (by decide) k
        have k : nt_rn X _ 134 (93, [(1, .int (Int32.ofInt 1)), (0, .ref B)], [], me_w M (nt_u (nt_u J B 15 (nI (lb_s f t q))) B 1 (Int32.ofInt 0))) _ := k
        have k := ly_revb 1 (c' := (94, [(1, .int (Int32.ofInt 1)), (0, .ref B)], [.ref B], me_w M (nt_u (nt_u J B 15 (nI (lb_s f t q))) B 1 (Int32.ofInt 0)))) rfl k
        have k := lz_get (a := B) (g := 1116) (M := me_w M (nt_u (nt_u J B 15 (nI (lb_s f t q))) B 1 (Int32.ofInt 0))) (v := .int ((0 : Int32))) rfl (congrArg Value.int ((me_uk (by decide)).trans (hR1.2.1.2.1))) k
        have k := ly_revb 1 (c' := (if ((0 : Int32)) = 0 then 100 else 104, [(1, .int (Int32.ofInt 1)), (0, .ref B)], [], me_w M (nt_u (nt_u J B 15 (nI (lb_s f t q))) B 1 (Int32.ofInt 0)))) rfl k
        rw [if_pos (show ((0 : Int32)) = 0 from rfl)] at k
        have k := ly_revb 2 (c' := (105, [(1, .int (Int32.ofInt 1)), (0, .ref B)], [.int (Int32.ofInt 1)], me_w M (nt_u (nt_u J B 15 (nI (lb_s f t q))) B 1 (Int32.ofInt 0)))) rfl k
        have k := lz_ri rfl (by decide) k
        exact ⟨.inr (lb_s f t q, u), _, _, k, Or.inr (Or.inl ⟨h75, rfl⟩), Or.inr ⟨_, C, rfl, rfl, hb, Or.inr ⟨h75, rfl, rfl⟩, yr_E1 hR1.2.2.1 hR1.2.2.2.2⟩⟩
      · rw [if_neg (show ¬ ((lb_g f t (lb_s f t q)) = (Int32.ofInt (-1))) from h75)] at k
        have k := ly_revb 3 (c' := (81, [(1, .int (Int32.ofInt 1)), (0, .ref B)], [.ref B, .int (Int32.ofInt 0), .ref B], me_w M (nt_u J B 15 (nI (lb_s f t q))))) rfl k
        have k := lz_get (a := B) (g := 1115) (M := me_w M (nt_u J B 15 (nI (lb_s f t q)))) (v := .int (nI (lb_s f t q))) rfl (congrArg Value.int (hR1.2.1.1)) k
        obtain ⟨d1, o1, ed, kc, k⟩ := lz_c (g := 139) (q := 1) (vs := [.ref B, .int (Int32.ofInt 0), .int (nI (lb_s f t q))]) (rest := []) rfl rfl (by decide) (Or.inr (Or.inl ⟨_, rfl, rfl⟩)) rfl k
        obtain ⟨hf, e1⟩ := (md_fails (a := (lb_s f t q)) hR1.1 hR1.2.1 hp1 kc).resolve_right (fun c => c.1 rfl)
        subst e1
        have hR2 := yr_up hR1 (md_Sw (y := lb_c ((lb_s f t q)) (Int32.ofInt 0)) hR1.1 hR1.2.1)
        have k : nt_rn X _ 134 (87, [(1, .int (Int32.ofInt 1)), (0, .ref B)], [.int (Int32.ofInt 0)], me_w M (nt_u (nt_u J B 15 (nI (lb_s f t q))) B 16 (lb_c ((lb_s f t q)) (Int32.ofInt 0)))) _ := k
        have k := ly_revb 3 (c' := (90, [(1, .int (Int32.ofInt 1)), (0, .ref B)], [.int (Int32.ofInt 0), .ref B], me_w M (nt_u (nt_u J B 15 (nI (lb_s f t q))) B 16 (lb_c ((lb_s f t q)) (Int32.ofInt 0))))) rfl k
        have k := me_put rfl (by decide) k
        have k : nt_rn X _ 134 (93, [(1, .int (Int32.ofInt 1)), (0, .ref B)], [], me_w M (nt_u (nt_u (nt_u J B 15 (nI (lb_s f t q))) B 16 (lb_c ((lb_s f t q)) (Int32.ofInt 0))) B 1 (Int32.ofInt 0))) _ := k
        have k := ly_revb 1 (c' := (94, [(1, .int (Int32.ofInt 1)), (0, .ref B)], [.ref B], me_w M (nt_u (nt_u (nt_u J B 15 (nI (lb_s f t q))) B 16 (lb_c ((lb_s f t q)) (Int32.ofInt 0))) B 1 (Int32.ofInt 0)))) rfl k
        have k := lz_get (a := B) (g := 1116) (M := me_w M (nt_u (nt_u (nt_u J B 15 (nI (lb_s f t q))) B 16 (lb_c ((lb_s f t q)) (Int32.ofInt 0))) B 1 (Int32.ofInt 0))) (v := .int (lb_c ((lb_s f t q)) (Int32.ofInt 0))) rfl (congrArg Value.int ((me_uk (by decide)).trans (hR2.2.1.2.1))) k
        have k := ly_revb 1 (c' := (if (lb_c ((lb_s f t q)) (Int32.ofInt 0)) = 0 then 100 else 104, [(1, .int (Int32.ofInt 1)), (0, .ref B)], [], me_w M (nt_u (nt_u (nt_u J B 15 (nI (lb_s f t q))) B 16 (lb_c ((lb_s f t q)) (Int32.ofInt 0))) B 1 (Int32.ofInt 0)))) rfl k
        rw [if_neg (show ¬ ((lb_c ((lb_s f t q)) (Int32.ofInt 0)) = 0) from (lb_c_ne (by omega) (by decide) (by decide)))] at k
        have k := ly_revb 1 (c' := (105, [(1, .int (Int32.ofInt 1)), (0, .ref B)], [.int (Int32.ofInt 0)], me_w M (nt_u (nt_u (nt_u J B 15 (nI (lb_s f t q))) B 16 (lb_c ((lb_s f t q)) (Int32.ofInt 0))) B 1 (Int32.ofInt 0)))) rfl k
        have k := lz_ri rfl (by decide) k
        exact ⟨.inl (lb_c ((lb_s f t q)) (Int32.ofInt 0)), _, _, k, Or.inr (Or.inr ⟨h45, h75, rfl⟩), Or.inl ⟨_, rfl, (lb_c_ne (by omega) (by decide) (by decide)), rfl, (me_uk (by decide)).trans hR2.2.1.2.1⟩⟩
theorem yr_reads {C : lb_C} {X : nt_X} {d t B Tb Sg Ln R0 R1 R2 : Nat} {f : Nat → Int32} {M : nt_M} {J : Nat → Nat → Int32} {o : Option Value × nt_M} (hW : yr_W M B Tb Sg Ln R0 R1 R2) (hP : md_P M J f t 6 B Tb Sg Ln) (h0 : J B 7 = nI 0 ∧ J B 8 = nI 0 ∧ J B 9 = nI 0 ∧ J B 10 = nI 0 ∧ J B 11 = lb_hh 0) (hC : yr_C R0 R1 R2 B Sg Ln C J) (k : nt_ev X d 134 [.ref B] (me_w M J) o) : ∃ r a J', o = (some (.int a), me_w M J') ∧ (∃ n, lb_ya f t n 0 (lb_s f t 0, (0, 0, 0, 0, 0)) r) ∧ ((∃ c, r = .inl c ∧ c ≠ 0 ∧ a = Int32.ofInt 0 ∧ J' B 16 = c) ∨ ∃ w D, r = .inr w ∧ a = Int32.ofInt 1 ∧ lb_ub w.2 ∧ (∃ k, lb_yaC f t k 0 (lb_s f t 0, (0, 0, 0, 0, 0)) w C D) ∧ yr_E R0 R1 R2 B Sg Ln w.2 D J') := by
  have k : nt_rn X d 134 (0, [(0, .ref B)], [], me_w M J) o := k
  have t4 : t ≤ 400 := hP.2.2.2.2.2.1
  have k := ly_revb 1 (c' := (1, [(0, .ref B)], [.ref B], me_w M J)) rfl k
  have k := lz_get (a := B) (g := 1104) (M := me_w M J) (v := .ref Ln) rfl (nt_gfR rfl hP.1.2.2) k
  have k := ly_revb 1 (c' := (5, [(0, .ref B)], [.ref B, .ref Ln], me_w M J)) rfl k
  have k := lz_get (a := B) (g := 1118) (M := me_w M J) (v := .int (nI 6)) rfl (congrArg Value.int (hP.2.2.2.1)) k
  have k := ly_revb 1 (c' := (9, [(0, .ref B)], [.int (Int32.ofInt 0), .int (nI 6), .ref Ln], me_w M J)) rfl k
  have k := me_iast (q := 6) rfl (rfl) (by omega) k
  have k := ly_revb 2 (c' := (12, [(0, .ref B)], [.int (Int32.ofInt 0), .ref B], me_w M (nt_u J Ln 6 (Int32.ofInt 0)))) rfl k
  have k := me_put rfl (by decide) k
  have k : nt_rn X _ 134 (15, [(0, .ref B)], [], me_w M (nt_u (nt_u J Ln 6 (Int32.ofInt 0)) B 21 (Int32.ofInt 0))) _ := k
  have k := ly_revb 2 (c' := (17, [(0, .ref B)], [.int (Int32.ofInt 0), .ref B], me_w M (nt_u (nt_u J Ln 6 (Int32.ofInt 0)) B 21 (Int32.ofInt 0)))) rfl k
  have k := me_put rfl (by decide) k
  have k : nt_rn X _ 134 (20, [(0, .ref B)], [], me_w M (nt_u (nt_u (nt_u J Ln 6 (Int32.ofInt 0)) B 21 (Int32.ofInt 0)) B 15 (Int32.ofInt 0))) _ := k
  have k := ly_revb 2 (c' := (22, [(0, .ref B)], [.int (Int32.ofInt 0), .ref B], me_w M (nt_u (nt_u (nt_u J Ln 6 (Int32.ofInt 0)) B 21 (Int32.ofInt 0)) B 15 (Int32.ofInt 0)))) rfl k
  have k := me_put rfl (by decide) k
  have k : nt_rn X _ 134 (25, [(0, .ref B)], [], me_w M (nt_u (nt_u (nt_u (nt_u J Ln 6 (Int32.ofInt 0)) B 21 (Int32.ofInt 0)) B 15 (Int32.ofInt 0)) B 16 (Int32.ofInt 0))) _ := k
  have k := ly_revb 2 (c' := (27, [(0, .ref B)], [.int (Int32.ofInt 0), .ref B], me_w M (nt_u (nt_u (nt_u (nt_u J Ln 6 (Int32.ofInt 0)) B 21 (Int32.ofInt 0)) B 15 (Int32.ofInt 0)) B 16 (Int32.ofInt 0)))) rfl k
  have k := me_put rfl (by decide) k
  have k : nt_rn X _ 134 (30, [(0, .ref B)], [], me_w M (nt_u (nt_u (nt_u (nt_u (nt_u J Ln 6 (Int32.ofInt 0)) B 21 (Int32.ofInt 0)) B 15 (Int32.ofInt 0)) B 16 (Int32.ofInt 0)) B 19 (Int32.ofInt 0))) _ := k
  have n2 := hP.2.1.2.2.2.2.1
  have n3 := hP.2.1.2.2.1
  have hT : yr_T R0 R1 R2 C M f t B Tb Sg Ln 0 0 0 (0, fun _ => 0) (0, 0, 0, 0, 0) 0 (nt_u (nt_u (nt_u (nt_u (nt_u J Ln 6 (Int32.ofInt 0)) B 21 (Int32.ofInt 0)) B 15 (Int32.ofInt 0)) B 16 (Int32.ofInt 0)) B 19 (Int32.ofInt 0)) := by
    refine ⟨⟨hP.1, hP.2.1, (me_uk (by decide)).trans ((me_uk (by decide)).trans ((me_uk (by decide)).trans ((me_uk (by decide)).trans ((me_uj (hP.2.1.2.2.2.2.1)).trans (hP.2.2.1))))), (me_uk (by decide)).trans ((me_uk (by decide)).trans ((me_uk (by decide)).trans ((me_uk (by decide)).trans ((me_uj (hP.2.1.2.2.2.2.1)).trans (hP.2.2.2.1))))), fun j => ?_, hP.2.2.2.2.2⟩, ⟨(me_uk (by decide)).trans ((me_uk (by decide)).trans me_us), (me_uk (by decide)).trans me_us, me_us, ?_, fun j hj => absurd hj (Nat.not_lt_zero _), fun _ _ _ _ _ => rfl, fun _ _ _ _ => rfl, Nat.zero_le _, Nat.zero_le _⟩, ⟨(me_uk (by decide)).trans ((me_uk (by decide)).trans ((me_uk (by decide)).trans ((me_uk (by decide)).trans ((me_uj (hP.2.1.2.2.2.2.1)).trans (h0.1))))), (me_uk (by decide)).trans ((me_uk (by decide)).trans ((me_uk (by decide)).trans ((me_uk (by decide)).trans ((me_uj (hP.2.1.2.2.2.2.1)).trans (h0.2.1))))), (me_uk (by decide)).trans ((me_uk (by decide)).trans ((me_uk (by decide)).trans ((me_uk (by decide)).trans ((me_uj (hP.2.1.2.2.2.2.1)).trans (h0.2.2.1))))), (me_uk (by decide)).trans ((me_uk (by decide)).trans ((me_uk (by decide)).trans ((me_uk (by decide)).trans ((me_uj (hP.2.1.2.2.2.2.1)).trans (h0.2.2.2.1))))), (me_uk (by decide)).trans ((me_uk (by decide)).trans ((me_uk (by decide)).trans ((me_uk (by decide)).trans ((me_uj (hP.2.1.2.2.2.2.1)).trans (h0.2.2.2.2)))))⟩, (me_uk (by decide)).trans ((me_uk (by decide)).trans ((me_uk (by decide)).trans me_us)), yr_Cr hC (fun a z1 z2 z3 => (me_uo z1).trans ((me_uo z1).trans ((me_uo z1).trans ((me_uo z1).trans (me_uo z3)))))⟩
    · rw [me_uj hP.2.1.1, me_uj hP.2.1.1, me_uj hP.2.1.1, me_uj hP.2.1.1, me_uj n3]
      exact hP.2.2.2.2.1 j
    · rw [me_uj (Ne.symm n2), me_uj (Ne.symm n2), me_uj (Ne.symm n2), me_uj (Ne.symm n2), me_us]
      rfl
  have hb : lb_ub (0, 0, 0, 0, 0) := ⟨by decide, by decide, by decide, by decide, by decide⟩
  have hk : (0 : Nat) = 0 ↔ ((0, 0, 0, 0, 0) : Nat × Nat × Nat × Nat × Nat).1 = 0 := ⟨fun _ => rfl, fun _ => rfl⟩
  have hl : (0 : Nat) ≤ 40 := by decide
  have k := ly_revb 1 (c' := (31, [(0, .ref B)], [.ref B], me_w M (nt_u (nt_u (nt_u (nt_u (nt_u J Ln 6 (Int32.ofInt 0)) B 21 (Int32.ofInt 0)) B 15 (Int32.ofInt 0)) B 16 (Int32.ofInt 0)) B 19 (Int32.ofInt 0)))) rfl k
  obtain ⟨d1, o1, ed, kc, k⟩ := lz_c (g := 135) (q := 1) (vs := [.ref B]) (rest := []) rfl rfl (by decide) (Or.inr (Or.inl ⟨_, rfl, rfl⟩)) rfl k
  obtain ⟨r3, a3, J3, e1, hyc, hQ⟩ := yr_clause hW hT (Nat.zero_le _) hb hk hl kc
  subst e1
  rcases r3 with c | w3
  · obtain ⟨hc, rfl, q3, u3, l3, D3, hq3, hT3⟩ := hQ
    have k : nt_rn X _ 134 (34, [(0, .ref B)], [.int (Int32.ofInt 0)], me_w M J3) _ := k
    have k := ly_revb 1 (c' := (35, [(1, .int (Int32.ofInt 0)), (0, .ref B)], [], me_w M J3)) rfl k
    have k := ly_revb 2 (c' := (if (Int32.ofInt 0) = 0 then 66 else 39, [(1, .int (Int32.ofInt 0)), (0, .ref B)], [], me_w M J3)) rfl k
    rw [if_pos (show (Int32.ofInt 0) = 0 from by decide)] at k
    have k := ly_revb 2 (c' := (if (Int32.ofInt 0) = 0 then 88 else 70, [(1, .int (Int32.ofInt 0)), (0, .ref B)], [], me_w M J3)) rfl k
    rw [if_pos (show (Int32.ofInt 0) = 0 from by decide)] at k
    have k := ly_revb 2 (c' := (90, [(1, .int (Int32.ofInt 0)), (0, .ref B)], [.int (Int32.ofInt 0), .ref B], me_w M J3)) rfl k
    have k := me_put rfl (by decide) k
    have k : nt_rn X _ 134 (93, [(1, .int (Int32.ofInt 0)), (0, .ref B)], [], me_w M (nt_u J3 B 1 (Int32.ofInt 0))) _ := k
    have k := ly_revb 1 (c' := (94, [(1, .int (Int32.ofInt 0)), (0, .ref B)], [.ref B], me_w M (nt_u J3 B 1 (Int32.ofInt 0)))) rfl k
    have k := lz_get (a := B) (g := 1116) (M := me_w M (nt_u J3 B 1 (Int32.ofInt 0))) (v := .int (c)) rfl (congrArg Value.int ((me_uk (by decide)).trans (hT3.2.1.2.1))) k
    have k := ly_revb 1 (c' := (if c = 0 then 100 else 104, [(1, .int (Int32.ofInt 0)), (0, .ref B)], [], me_w M (nt_u J3 B 1 (Int32.ofInt 0)))) rfl k
    rw [if_neg (show ¬ (c = 0) from hc)] at k
    have k := ly_revb 1 (c' := (105, [(1, .int (Int32.ofInt 0)), (0, .ref B)], [.int (Int32.ofInt 0)], me_w M (nt_u J3 B 1 (Int32.ofInt 0)))) rfl k
    have k := lz_ri rfl (by decide) k
    exact ⟨.inl (c), _, _, k, ⟨1, _, hyc, Or.inl ⟨c, rfl, rfl⟩⟩, Or.inl ⟨_, rfl, hc, rfl, (me_uk (by decide)).trans hT3.2.1.2.1⟩⟩
  · obtain ⟨rfl, hb3, hk3, q3, D3, hz3, hq3, hC3, hT3⟩ := hQ
    have k : nt_rn X _ 134 (34, [(0, .ref B)], [.int (Int32.ofInt 1)], me_w M J3) _ := k
    have k := ly_revb 1 (c' := (35, [(1, .int (Int32.ofInt 1)), (0, .ref B)], [], me_w M J3)) rfl k
    obtain ⟨r, a, J', e9, htl, hf⟩ := yr_rdl hW 41 w3.2 q3 (0 + 1) D3 _ (by decide) (by decide) (by decide) hb3 hk3 hT3 hq3 k
    rw [hz3] at htl hf
    refine ⟨r, a, J', e9, ?_, hf.imp_right (fun ⟨w, D, x1, x2, x3, x4, x5⟩ => ⟨w, D, x1, x2, x3, x4.elim (fun ⟨g1, k9, h9⟩ => ⟨k9 + 1, _, _, hyc, hC3, Or.inl ⟨g1, h9⟩⟩) (fun ⟨g1, g2, g3⟩ => ⟨1, _, _, hyc, hC3, Or.inr ⟨g1, g2, g3⟩⟩), x5⟩)⟩
    rcases htl with ⟨g1, k9, h9⟩ | h9 | h9
    · exact ⟨k9 + 1, _, hyc, Or.inr ⟨w3, rfl, Or.inl ⟨g1, h9⟩⟩⟩
    · exact ⟨1, _, hyc, Or.inr ⟨w3, rfl, Or.inr (Or.inl h9)⟩⟩
    · exact ⟨1, _, hyc, Or.inr ⟨w3, rfl, Or.inr (Or.inr h9)⟩⟩
end
section
/-! a yard that was read begins: the other side's row -/
theorem yf_ix {a m s k : Nat} (h : a + m * s + k < 100000) : (nI a + nI m * nI s + nI k).toNatClampNeg = a + m * s + k := by
  have e : nI a + nI m * nI s + nI k = nI (a + m * s + k) := by
    rw [← me_addn, ← me_addn, show nI (m * s) = nI m * nI s from Int32.ofNat_mul m s]
  rw [e, nI_clamp (by omega)]
theorem yf_jx {m s k : Nat} (h : m * s + k < 100000) : (nI m * nI s + nI k).toNatClampNeg = m * s + k := by
  have e : nI m * nI s + nI k = nI (m * s + k) := by
    rw [← me_addn, show nI (m * s) = nI m * nI s from Int32.ofNat_mul m s]
  rw [e, nI_clamp (by omega)]
theorem yf_56 {p : Nat → Nat} {v : Int32} : ∀ (c n : Nat) (J : Nat → Nat → Int32) (j : Nat), n ≤ 212 → 212 ≤ n + c → x166F_56 p v c (nI n) J (p 4) j = if n ≤ j ∧ j < 212 then 0 else J (p 4) j := by
  intro c
  induction c with
  | zero =>
    intro n J j h1 h2
    rw [if_neg (by omega)]
    rfl
  | succ c ih =>
    intro n J j h1 h2
    rw [x166F_56]
    by_cases e : n = 212
    · subst e
      rw [if_pos (show Int32.ofInt 212 ≤ nI 212 from nI_le (Nat.le_refl 212) (by decide)), if_neg (by omega)]
    · rw [if_neg (show ¬ Int32.ofInt 212 ≤ nI n from nI_ge (b := 212) (by omega) (by decide)), show nI n + Int32.ofInt 1 = nI (n + 1) from me_addn (a := n) (b := 1), ih (n + 1) _ j (by omega) (by omega), nI_clamp (by omega)]
      by_cases g : j = n
      · subst g
        rw [if_neg (by omega), if_pos (by omega), me_us]
        rfl
      · rw [me_uk g]
        by_cases g2 : n + 1 ≤ j ∧ j < 212
        · rw [if_pos g2, if_pos (by omega)]
        · rw [if_neg g2, if_neg (by omega)]
theorem yf_158 {p : Nat → Nat} {s K : Nat} (n04 : p 0 ≠ p 4) (nr4 : p 11 ≠ p 4) (hs : s ≤ 6) (hK : K ≤ 4) : ∀ (c n : Nat) (J : Nat → Nat → Int32) (j : Nat), J (p 0) 7 = nI K → n ≤ K → K ≤ n + c → x166F_158 p (nI s) c (nI n) J (p 4) j = if 10 + 7 * s + n ≤ j ∧ j < 10 + 7 * s + K then J (p 11) (4 * s + (j - (10 + 7 * s))) else J (p 4) j := by
  intro c
  induction c with
  | zero =>
    intro n J j h7 h1 h2
    rw [if_neg (by omega)]
    rfl
  | succ c ih =>
    intro n J j h7 h1 h2
    rw [x166F_158]
    by_cases e : n = K
    · rw [h7, if_pos (show nI K ≤ nI n from nI_le (a := K) (by omega) (by omega)), if_neg (by omega)]
    · rw [h7, if_neg (show ¬ nI K ≤ nI n from nI_ge (b := K) (by omega) (by omega)), show nI n + Int32.ofInt 1 = nI (n + 1) from me_addn (a := n) (b := 1), show (Int32.ofInt 10 + Int32.ofInt 7 * nI s + nI n).toNatClampNeg = 10 + 7 * s + n from yf_ix (a := 10) (m := 7) (by omega), show (Int32.ofInt 4 * nI s + nI n).toNatClampNeg = 4 * s + n from yf_jx (m := 4) (by omega), ih (n + 1) _ j ((me_uj n04).trans h7) (by omega) (by omega), me_uo nr4]
      by_cases g : j = 10 + 7 * s + n
      · subst g
        rw [if_neg (by omega), if_pos (by omega), me_us, show 10 + 7 * s + n - (10 + 7 * s) = n from by omega]
      · rw [me_uk g]
        by_cases g2 : 10 + 7 * s + (n + 1) ≤ j ∧ j < 10 + 7 * s + K
        · rw [if_pos g2, if_pos (by omega)]
        · rw [if_neg g2, if_neg (by omega)]
theorem yf_229 {p : Nat → Nat} {s : Nat} (n04 : p 0 ≠ p 4) (nr4 : p 12 ≠ p 4) (hs : s ≤ 24) : ∀ (c n : Nat) (J : Nat → Nat → Int32) (j : Nat), n ≤ 3 → 3 ≤ n + c → x166F_229 p (nI s) c (nI n) J (p 4) j = if 52 + 5 * s + n ≤ j ∧ j < 52 + 5 * s + 3 then J (p 12) (3 * s + (j - (52 + 5 * s))) else J (p 4) j := by
  intro c
  induction c with
  | zero =>
    intro n J j h1 h2
    rw [if_neg (by omega)]
    rfl
  | succ c ih =>
    intro n J j h1 h2
    rw [x166F_229]
    by_cases e : n = 3
    · rw [if_pos (show Int32.ofInt 3 ≤ nI n from nI_le (a := 3) (by omega) (by omega)), if_neg (by omega)]
    · rw [if_neg (show ¬ Int32.ofInt 3 ≤ nI n from nI_ge (b := 3) (by omega) (by omega)), show nI n + Int32.ofInt 1 = nI (n + 1) from me_addn (a := n) (b := 1), show (Int32.ofInt 52 + Int32.ofInt 5 * nI s + nI n).toNatClampNeg = 52 + 5 * s + n from yf_ix (a := 52) (m := 5) (by omega), show (Int32.ofInt 3 * nI s + nI n).toNatClampNeg = 3 * s + n from yf_jx (m := 3) (by omega), ih (n + 1) _ j (by omega) (by omega), me_uo nr4]
      by_cases g : j = 52 + 5 * s + n
      · subst g
        rw [if_neg (by omega), if_pos (by omega), me_us, show 52 + 5 * s + n - (52 + 5 * s) = n from by omega]
      · rw [me_uk g]
        by_cases g2 : 52 + 5 * s + (n + 1) ≤ j ∧ j < 52 + 5 * s + 3
        · rw [if_pos g2, if_pos (by omega)]
        · rw [if_neg g2, if_neg (by omega)]
theorem yf_295 {p : Nat → Nat} {s : Nat} (n04 : p 0 ≠ p 4) (nr4 : p 13 ≠ p 4) (hs : s ≤ 8) : ∀ (c n : Nat) (J : Nat → Nat → Int32) (j : Nat), n ≤ 4 → 4 ≤ n + c → x166F_295 p (nI s) c (nI n) J (p 4) j = if 172 + 5 * s + n ≤ j ∧ j < 172 + 5 * s + 4 then J (p 13) (4 * s + (j - (172 + 5 * s))) else J (p 4) j := by
  intro c
  induction c with
  | zero =>
    intro n J j h1 h2
    rw [if_neg (by omega)]
    rfl
  | succ c ih =>
    intro n J j h1 h2
    rw [x166F_295]
    by_cases e : n = 4
    · rw [if_pos (show Int32.ofInt 4 ≤ nI n from nI_le (a := 4) (by omega) (by omega)), if_neg (by omega)]
    · rw [if_neg (show ¬ Int32.ofInt 4 ≤ nI n from nI_ge (b := 4) (by omega) (by omega)), show nI n + Int32.ofInt 1 = nI (n + 1) from me_addn (a := n) (b := 1), show (Int32.ofInt 172 + Int32.ofInt 5 * nI s + nI n).toNatClampNeg = 172 + 5 * s + n from yf_ix (a := 172) (m := 5) (by omega), show (Int32.ofInt 4 * nI s + nI n).toNatClampNeg = 4 * s + n from yf_jx (m := 4) (by omega), ih (n + 1) _ j (by omega) (by omega), me_uo nr4]
      by_cases g : j = 172 + 5 * s + n
      · subst g
        rw [if_neg (by omega), if_pos (by omega), me_us, show 172 + 5 * s + n - (172 + 5 * s) = n from by omega]
      · rw [me_uk g]
        by_cases g2 : 172 + 5 * s + (n + 1) ≤ j ∧ j < 172 + 5 * s + 4
        · rw [if_pos g2, if_pos (by omega)]
        · rw [if_neg g2, if_neg (by omega)]
theorem yf_148 {p : Nat → Nat} {S K : Nat} (n04 : p 0 ≠ p 4) (nr4 : p 11 ≠ p 4) (hN : S ≤ 6) (hK : K ≤ 4) : ∀ (c n : Nat) (J : Nat → Nat → Int32) (j : Nat), J (p 0) 8 = nI S → J (p 0) 7 = nI K → n ≤ S → S ≤ n + c → x166F_148 p c (nI n) J (p 4) j = if 10 ≤ j ∧ n ≤ (j - 10) / 7 ∧ (j - 10) / 7 < S ∧ ((j - 10) % 7 < K ∨ (j - 10) % 7 = 5) then (if (j - 10) % 7 = 5 then Int32.ofInt (-1) else J (p 11) (4 * ((j - 10) / 7) + (j - 10) % 7)) else J (p 4) j := by
  intro c
  induction c with
  | zero =>
    intro n J j hc h7 h1 h2
    rw [if_neg (by omega)]
    rfl
  | succ c ih =>
    intro n J j hc h7 h1 h2
    rw [x166F_148]
    by_cases e : n = S
    · rw [hc, if_pos (nI_le (a := S) (by omega) (by omega)), if_neg (by omega)]
    · rw [hc, if_neg (nI_ge (b := S) (by omega) (by omega)), show nI n + Int32.ofInt 1 = nI (n + 1) from me_addn (a := n) (b := 1), show (Int32.ofInt 10 + Int32.ofInt 7 * nI n + Int32.ofInt 5).toNatClampNeg = 10 + 7 * n + 5 from yf_ix (a := 10) (m := 7) (k := 5) (by omega)]
      have fr : ∀ b, b ≠ p 4 → (nt_u (x166F_158 p (nI n) ((J (p 0) 7).toNatClampNeg) (Int32.ofInt 0) J) (p 4) (10 + 7 * n + 5) (Int32.ofInt (-1))) b = J b := fun b hb => (me_uo hb).trans (x166F_158_frJ _ _ _ hb)
      have i0 := yf_158 n04 nr4 (s := n) (show n ≤ 6 by omega) hK ((J (p 0) 7).toNatClampNeg) 0 J j h7 (by omega) (by rw [h7, nI_clamp (by omega)]; omega)
      have i0 : x166F_158 p (nI n) ((J (p 0) 7).toNatClampNeg) (Int32.ofInt 0) J (p 4) j = _ := i0
      obtain ⟨J', hJ⟩ : ∃ J', J' = nt_u (x166F_158 p (nI n) ((J (p 0) 7).toNatClampNeg) (Int32.ofInt 0) J) (p 4) (10 + 7 * n + 5) (Int32.ofInt (-1)) := ⟨_, rfl⟩
      rw [← hJ] at fr ⊢
      rw [ih (n + 1) J' j ((congrFun (fr _ n04) _).trans hc) ((congrFun (fr _ n04) _).trans h7) (by omega) (by omega), fr _ nr4]
      by_cases A : 10 ≤ j ∧ (j - 10) / 7 = n
      · rw [if_neg (by omega), hJ]
        by_cases g5 : (j - 10) % 7 = 5
        · rw [show j = 10 + 7 * n + 5 from by omega, me_us, if_pos (by omega), if_pos (by omega)]
        · rw [me_uk (by omega), i0]
          by_cases gk : 10 + 7 * n + 0 ≤ j ∧ j < 10 + 7 * n + K
          · rw [if_pos gk, if_pos (by omega), if_neg g5]
            exact congrArg (J (p 11)) (by omega)
          · rw [if_neg gk, if_neg (by omega)]
      · have ej : J' (p 4) j = J (p 4) j := by rw [hJ, me_uk (by omega), i0, if_neg (by omega)]
        rw [ej]
        by_cases g : 10 ≤ j ∧ (n + 1) ≤ (j - 10) / 7 ∧ (j - 10) / 7 < S ∧ ((j - 10) % 7 < K ∨ (j - 10) % 7 = 5)
        · rw [if_pos g, if_pos (show 10 ≤ j ∧ n ≤ (j - 10) / 7 ∧ (j - 10) / 7 < S ∧ ((j - 10) % 7 < K ∨ (j - 10) % 7 = 5) from by omega)]
        · rw [if_neg g, if_neg (show ¬ (10 ≤ j ∧ n ≤ (j - 10) / 7 ∧ (j - 10) / 7 < S ∧ ((j - 10) % 7 < K ∨ (j - 10) % 7 = 5)) from by omega)]
theorem yf_219 {p : Nat → Nat} {P : Nat} (n04 : p 0 ≠ p 4) (nr4 : p 12 ≠ p 4) (hN : P ≤ 24) : ∀ (c n : Nat) (J : Nat → Nat → Int32) (j : Nat), J (p 0) 9 = nI P → n ≤ P → P ≤ n + c → x166F_219 p c (nI n) J (p 4) j = if 52 ≤ j ∧ n ≤ (j - 52) / 5 ∧ (j - 52) / 5 < P ∧ ((j - 52) % 5 < 3 ∨ (j - 52) % 5 = 3) then (if (j - 52) % 5 = 3 then Int32.ofInt (-1) else J (p 12) (3 * ((j - 52) / 5) + (j - 52) % 5)) else J (p 4) j := by
  intro c
  induction c with
  | zero =>
    intro n J j hc h1 h2
    rw [if_neg (by omega)]
    rfl
  | succ c ih =>
    intro n J j hc h1 h2
    rw [x166F_219]
    by_cases e : n = P
    · rw [hc, if_pos (nI_le (a := P) (by omega) (by omega)), if_neg (by omega)]
    · rw [hc, if_neg (nI_ge (b := P) (by omega) (by omega)), show nI n + Int32.ofInt 1 = nI (n + 1) from me_addn (a := n) (b := 1), show (Int32.ofInt 52 + Int32.ofInt 5 * nI n + Int32.ofInt 3).toNatClampNeg = 52 + 5 * n + 3 from yf_ix (a := 52) (m := 5) (k := 3) (by omega)]
      have fr : ∀ b, b ≠ p 4 → (nt_u (x166F_229 p (nI n) ((Int32.ofInt 3).toNatClampNeg) (Int32.ofInt 0) J) (p 4) (52 + 5 * n + 3) (Int32.ofInt (-1))) b = J b := fun b hb => (me_uo hb).trans (x166F_229_frJ _ _ _ hb)
      have i0 := yf_229 n04 nr4 (s := n) (show n ≤ 24 by omega) ((Int32.ofInt 3).toNatClampNeg) 0 J j (by omega) (by decide)
      have i0 : x166F_229 p (nI n) ((Int32.ofInt 3).toNatClampNeg) (Int32.ofInt 0) J (p 4) j = _ := i0
      obtain ⟨J', hJ⟩ : ∃ J', J' = nt_u (x166F_229 p (nI n) ((Int32.ofInt 3).toNatClampNeg) (Int32.ofInt 0) J) (p 4) (52 + 5 * n + 3) (Int32.ofInt (-1)) := ⟨_, rfl⟩
      rw [← hJ] at fr ⊢
      rw [ih (n + 1) J' j ((congrFun (fr _ n04) _).trans hc) (by omega) (by omega), fr _ nr4]
      by_cases A : 52 ≤ j ∧ (j - 52) / 5 = n
      · rw [if_neg (by omega), hJ]
        by_cases g5 : (j - 52) % 5 = 3
        · rw [show j = 52 + 5 * n + 3 from by omega, me_us, if_pos (by omega), if_pos (by omega)]
        · rw [me_uk (by omega), i0]
          by_cases gk : 52 + 5 * n + 0 ≤ j ∧ j < 52 + 5 * n + 3
          · rw [if_pos gk, if_pos (by omega), if_neg g5]
            exact congrArg (J (p 12)) (by omega)
          · rw [if_neg gk, if_neg (by omega)]
      · have ej : J' (p 4) j = J (p 4) j := by rw [hJ, me_uk (by omega), i0, if_neg (by omega)]
        rw [ej]
        by_cases g : 52 ≤ j ∧ (n + 1) ≤ (j - 52) / 5 ∧ (j - 52) / 5 < P ∧ ((j - 52) % 5 < 3 ∨ (j - 52) % 5 = 3)
        · rw [if_pos g, if_pos (show 52 ≤ j ∧ n ≤ (j - 52) / 5 ∧ (j - 52) / 5 < P ∧ ((j - 52) % 5 < 3 ∨ (j - 52) % 5 = 3) from by omega)]
        · rw [if_neg g, if_neg (show ¬ (52 ≤ j ∧ n ≤ (j - 52) / 5 ∧ (j - 52) / 5 < P ∧ ((j - 52) % 5 < 3 ∨ (j - 52) % 5 = 3)) from by omega)]
theorem yf_285 {p : Nat → Nat} {V : Nat} (n04 : p 0 ≠ p 4) (nr4 : p 13 ≠ p 4) (hN : V ≤ 8) : ∀ (c n : Nat) (J : Nat → Nat → Int32) (j : Nat), J (p 0) 10 = nI V → n ≤ V → V ≤ n + c → x166F_285 p c (nI n) J (p 4) j = if 172 ≤ j ∧ n ≤ (j - 172) / 5 ∧ (j - 172) / 5 < V ∧ ((j - 172) % 5 < 4) then J (p 13) (4 * ((j - 172) / 5) + (j - 172) % 5) else J (p 4) j := by
  intro c
  induction c with
  | zero =>
    intro n J j hc h1 h2
    rw [if_neg (by omega)]
    rfl
  | succ c ih =>
    intro n J j hc h1 h2
    rw [x166F_285]
    by_cases e : n = V
    · rw [hc, if_pos (nI_le (a := V) (by omega) (by omega)), if_neg (by omega)]
    · rw [hc, if_neg (nI_ge (b := V) (by omega) (by omega)), show nI n + Int32.ofInt 1 = nI (n + 1) from me_addn (a := n) (b := 1)]
      have fr : ∀ b, b ≠ p 4 → (x166F_295 p (nI n) ((Int32.ofInt 4).toNatClampNeg) (Int32.ofInt 0) J) b = J b := fun b hb => x166F_295_frJ _ _ _ hb
      have i0 := yf_295 n04 nr4 (s := n) (show n ≤ 8 by omega) ((Int32.ofInt 4).toNatClampNeg) 0 J j (by omega) (by decide)
      have i0 : x166F_295 p (nI n) ((Int32.ofInt 4).toNatClampNeg) (Int32.ofInt 0) J (p 4) j = _ := i0
      obtain ⟨J', hJ⟩ : ∃ J', J' = x166F_295 p (nI n) ((Int32.ofInt 4).toNatClampNeg) (Int32.ofInt 0) J := ⟨_, rfl⟩
      rw [← hJ] at fr ⊢
      rw [ih (n + 1) J' j ((congrFun (fr _ n04) _).trans hc) (by omega) (by omega), fr _ nr4]
      by_cases A : 172 ≤ j ∧ (j - 172) / 5 = n
      · rw [if_neg (by omega), hJ]
        rw [i0]
        by_cases gk : 172 + 5 * n + 0 ≤ j ∧ j < 172 + 5 * n + 4
        · rw [if_pos gk, if_pos (by omega)]
          exact congrArg (J (p 13)) (by omega)
        · rw [if_neg gk, if_neg (by omega)]
      · have ej : J' (p 4) j = J (p 4) j := by rw [hJ, i0, if_neg (by omega)]
        rw [ej]
        by_cases g : 172 ≤ j ∧ (n + 1) ≤ (j - 172) / 5 ∧ (j - 172) / 5 < V ∧ ((j - 172) % 5 < 4)
        · rw [if_pos g, if_pos (show 172 ≤ j ∧ n ≤ (j - 172) / 5 ∧ (j - 172) / 5 < V ∧ ((j - 172) % 5 < 4) from by omega)]
        · rw [if_neg g, if_neg (show ¬ (172 ≤ j ∧ n ≤ (j - 172) / 5 ∧ (j - 172) / 5 < V ∧ ((j - 172) % 5 < 4)) from by omega)]
def yfJ (p : Nat → Nat) (J : Nat → Nat → Int32) (h : Int32) : Nat → Nat → Int32 := nt_u (nt_u (nt_u (nt_u (nt_u (nt_u (x166F_56 p (J (p 4) 9) ((Int32.ofInt 212).toNatClampNeg) (Int32.ofInt 0) J) (p 4) 0 (J (p 0) 7)) (p 4) 1 (J (p 0) 8)) (p 4) 2 (J (p 0) 9)) (p 4) 3 (J (p 0) 10)) (p 4) 5 h) (p 4) 9 (J (p 4) 9)
def yfB (p : Nat → Nat) (J : Nat → Nat → Int32) : Nat → Nat → Int32 := x166F_148 p ((J (p 0) 8).toNatClampNeg) (Int32.ofInt 0) J
def yfD (p : Nat → Nat) (J : Nat → Nat → Int32) : Nat → Nat → Int32 := x166F_219 p ((J (p 0) 9).toNatClampNeg) (Int32.ofInt 0) J
def yfE (p : Nat → Nat) (J : Nat → Nat → Int32) : Nat → Nat → Int32 := x166F_285 p ((J (p 0) 10).toNatClampNeg) (Int32.ofInt 0) J
theorem yf_eq {p : Nat → Nat} {J : Nat → Nat → Int32} : x166F p J = (J (p 0) 8, yfE p (yfD p (yfB p (yfJ p J (if 0 ≤ J (p 0) 11 then J (p 0) 11 else Int32.ofInt 30))))) := by
  unfold x166F
  by_cases h : 0 ≤ J (p 0) 11
  · rw [if_pos h, if_pos h]
    rfl
  · rw [if_neg h, if_neg h]
    rfl
/-- the row, as it is then -/
def yf_R (e : Nat → Int32) (u : Nat × Nat × Nat × Nat × Nat) (D : lb_C) (x : Int32) : Prop := (e 0 = nI u.1 ∧ e 1 = nI u.2.1 ∧ e 2 = nI u.2.2.1 ∧ e 3 = nI u.2.2.2.1) ∧ (e 4 = 0 ∧ e 5 = nI (lb_hd u.2.2.2.2) ∧ e 6 = 0 ∧ e 7 = 0 ∧ e 8 = 0 ∧ e 9 = x) ∧ (∀ s, s < u.2.1 → (∀ k, k < u.1 → e (10 + 7 * s + k) = D 5 (4 * s + k)) ∧ e (10 + 7 * s + 4) = 0 ∧ e (10 + 7 * s + 5) = Int32.ofInt (-1) ∧ e (10 + 7 * s + 6) = 0) ∧ (∀ n, n < u.2.2.1 → e (52 + 5 * n + 0) = D 6 n ∧ e (52 + 5 * n + 1) = D 7 n ∧ e (52 + 5 * n + 2) = D 8 n ∧ e (52 + 5 * n + 3) = Int32.ofInt (-1) ∧ e (52 + 5 * n + 4) = 0) ∧ (∀ n, n < u.2.2.2.1 → e (172 + 5 * n + 0) = D 9 n ∧ e (172 + 5 * n + 1) = D 10 n ∧ e (172 + 5 * n + 2) = D 11 n ∧ e (172 + 5 * n + 3) = D 12 n ∧ e (172 + 5 * n + 4) = 0)
theorem yf_hh {h : Nat} (hh : h ≤ 30) : (if 0 ≤ lb_hh h then lb_hh h else Int32.ofInt 30) = nI (lb_hd h) := by
  unfold lb_hh lb_hd
  by_cases e : h = 0
  · rw [if_pos e, if_pos e]
    rfl
  · rw [if_neg e, if_neg e, if_pos (nI_pos' (by omega))]
theorem yf_row {p : Nat → Nat} {J : Nat → Nat → Int32} {u : Nat × Nat × Nat × Nat × Nat} {D : lb_C} {Sg Ln : Nat} (hp : zpd p) (hb : lb_ub u) (hE : yr_E (p 11) (p 12) (p 13) (p 0) Sg Ln u D J) : (x166F p J).1 = nI u.2.1 ∧ yf_R ((x166F p J).2 (p 4)) u D (J (p 4) 9) := by
  obtain ⟨⟨c1, c2, c3, c4, c5⟩, hC⟩ := hE
  obtain ⟨b1, b2, b3, b4, b5⟩ := hb
  have hC := hC.2.2
  obtain ⟨r0, r1, r2⟩ := hC
  have n04 : p 0 ≠ p 4 := hp 0 4 (by omega) (by omega) (by omega)
  have n11 : p 11 ≠ p 4 := hp 11 4 (by omega) (by omega) (by omega)
  have n12 : p 12 ≠ p 4 := hp 12 4 (by omega) (by omega) (by omega)
  have n13 : p 13 ≠ p 4 := hp 13 4 (by omega) (by omega) (by omega)
  rw [yf_eq, c5, yf_hh b5]
  refine ⟨c2, ?_⟩
  obtain ⟨K, S, P, V, h⟩ := u
  dsimp only at c1 c2 c3 c4 c5 b1 b2 b3 b4 b5 ⊢
  obtain ⟨JA, hA⟩ : ∃ JA, JA = yfJ p J (nI (lb_hd h)) := ⟨_, rfl⟩
  have fA : ∀ b, b ≠ p 4 → JA b = J b := fun b hb => by
    rw [hA]
    unfold yfJ
    rw [me_uo hb, me_uo hb, me_uo hb, me_uo hb, me_uo hb, me_uo hb, x166F_56_frJ _ _ _ hb]
  have vA : ∀ j, JA (p 4) j = if j = 0 then nI K else if j = 1 then nI S else if j = 2 then nI P else if j = 3 then nI V else if j = 5 then nI (lb_hd h) else if j = 9 then J (p 4) 9 else if j < 212 then 0 else J (p 4) j := by
    intro j
    have z := yf_56 (p := p) (v := J (p 4) 9) 212 0 J j (by omega) (by omega)
    have z : x166F_56 p (J (p 4) 9) ((Int32.ofInt 212).toNatClampNeg) (Int32.ofInt 0) J (p 4) j = _ := z
    rw [hA]
    unfold yfJ
    rw [me_ur, me_ur, me_ur, me_ur, me_ur, me_ur, z, c1, c2, c3, c4]
    by_cases e0 : j = 0
    · subst e0; rfl
    by_cases e1 : j = 1
    · subst e1; rfl
    by_cases e2 : j = 2
    · subst e2; rfl
    by_cases e3 : j = 3
    · subst e3; rfl
    by_cases e5 : j = 5
    · subst e5; rfl
    by_cases e9 : j = 9
    · subst e9; rfl
    rw [if_neg e0, if_neg e1, if_neg e2, if_neg e3, if_neg e5, if_neg e9, if_neg e0, if_neg e1, if_neg e2, if_neg e3, if_neg e5, if_neg e9]
    by_cases g : j < 212
    · rw [if_pos g, if_pos (by omega)]
    · rw [if_neg g, if_neg (by omega)]
  rw [← hA]
  obtain ⟨JB, hB⟩ : ∃ JB, JB = yfB p JA := ⟨_, rfl⟩
  have fB : ∀ b, b ≠ p 4 → JB b = J b := fun b hb => by
    rw [hB]
    unfold yfB
    rw [x166F_148_frJ _ _ _ hb, fA b hb]
  have vB := fun j => yf_148 (p := p) (S := S) (K := K) n04 n11 b2 b1 ((JA (p 0) 8).toNatClampNeg) 0 JA j ((congrFun (fA _ n04) _).trans c2) ((congrFun (fA _ n04) _).trans c1) (by omega) (by rw [fA _ n04, c2, nI_clamp (by omega)]; omega)
  have vB : ∀ j, JB (p 4) j = _ := fun j => (congrFun (congrFun hB _) _).trans (vB j)
  rw [← hB]
  obtain ⟨JC, hC⟩ : ∃ JC, JC = yfD p JB := ⟨_, rfl⟩
  have fC : ∀ b, b ≠ p 4 → JC b = J b := fun b hb => by
    rw [hC]
    unfold yfD
    rw [x166F_219_frJ _ _ _ hb, fB b hb]
  have vC := fun j => yf_219 (p := p) (P := P) n04 n12 b3 ((JB (p 0) 9).toNatClampNeg) 0 JB j ((congrFun (fB _ n04) _).trans c3) (by omega) (by rw [fB _ n04, c3, nI_clamp (by omega)]; omega)
  have vC : ∀ j, JC (p 4) j = _ := fun j => (congrFun (congrFun hC _) _).trans (vC j)
  rw [← hC]
  have vD := fun j => yf_285 (p := p) (V := V) n04 n13 b4 ((JC (p 0) 10).toNatClampNeg) 0 JC j ((congrFun (fC _ n04) _).trans c4) (by omega) (by rw [fC _ n04, c4, nI_clamp (by omega)]; omega)
  have vD : ∀ j, yfE p JC (p 4) j = _ := vD
  have lo : ∀ j, j < 10 → yfE p JC (p 4) j = JA (p 4) j := fun j hj => by rw [vD j, if_neg (by omega), vC j, if_neg (by omega), vB j, if_neg (by omega)]
  have zz : ∀ j, 10 ≤ j → j < 212 → JA (p 4) j = 0 := fun j h1 h2 => by rw [vA j, if_neg (by omega), if_neg (by omega), if_neg (by omega), if_neg (by omega), if_neg (by omega), if_neg (by omega), if_pos h2]
  refine ⟨⟨?_, ?_, ?_, ?_⟩, ⟨?_, ?_, ?_, ?_, ?_, ?_⟩, fun s hs => ⟨fun k hk => ?_, ?_, ?_, ?_⟩, fun n hn => ⟨?_, ?_, ?_, ?_, ?_⟩, fun n hn => ⟨?_, ?_, ?_, ?_, ?_⟩⟩
  · rw [lo 0 (by omega), vA]; rfl
  · rw [lo 1 (by omega), vA]; rfl
  · rw [lo 2 (by omega), vA]; rfl
  · rw [lo 3 (by omega), vA]; rfl
  · rw [lo 4 (by omega), vA]; rfl
  · rw [lo 5 (by omega), vA]; rfl
  · rw [lo 6 (by omega), vA]; rfl
  · rw [lo 7 (by omega), vA]; rfl
  · rw [lo 8 (by omega), vA]; rfl
  · rw [lo 9 (by omega), vA]; rfl
  · dsimp only at hs hk
    rw [vD, if_neg (by omega), vC, if_neg (by omega), vB, if_pos (by omega), if_neg (by omega), fA _ n11, r0, show (10 + 7 * s + k - 10) / 7 = s from by omega, show (10 + 7 * s + k - 10) % 7 = k from by omega]
  · dsimp only at hs
    rw [vD, if_neg (by omega), vC, if_neg (by omega), vB, if_neg (by omega), zz _ (by omega) (by omega)]
  · dsimp only at hs
    rw [vD, if_neg (by omega), vC, if_neg (by omega), vB, if_pos (by omega), if_pos (by omega)]
  · dsimp only at hs
    rw [vD, if_neg (by omega), vC, if_neg (by omega), vB, if_neg (by omega), zz _ (by omega) (by omega)]
  · dsimp only at hn
    rw [vD, if_neg (by omega), vC, if_pos (by omega), if_neg (by omega), fB _ n12, show (52 + 5 * n + 0 - 52) / 5 = n from by omega, show (52 + 5 * n + 0 - 52) % 5 = 0 from by omega]
    exact (r1 n).1
  · dsimp only at hn
    rw [vD, if_neg (by omega), vC, if_pos (by omega), if_neg (by omega), fB _ n12, show (52 + 5 * n + 1 - 52) / 5 = n from by omega, show (52 + 5 * n + 1 - 52) % 5 = 1 from by omega]
    exact (r1 n).2.1
  · dsimp only at hn
    rw [vD, if_neg (by omega), vC, if_pos (by omega), if_neg (by omega), fB _ n12, show (52 + 5 * n + 2 - 52) / 5 = n from by omega, show (52 + 5 * n + 2 - 52) % 5 = 2 from by omega]
    exact (r1 n).2.2
  · dsimp only at hn
    rw [vD, if_neg (by omega), vC, if_pos (by omega), if_pos (by omega)]
  · dsimp only at hn
    rw [vD, if_neg (by omega), vC, if_neg (by omega), vB, if_neg (by omega), zz _ (by omega) (by omega)]
  · dsimp only at hn
    rw [vD, if_pos (by omega), fC _ n13, show (172 + 5 * n + 0 - 172) / 5 = n from by omega, show (172 + 5 * n + 0 - 172) % 5 = 0 from by omega]
    exact (r2 n).1
  · dsimp only at hn
    rw [vD, if_pos (by omega), fC _ n13, show (172 + 5 * n + 1 - 172) / 5 = n from by omega, show (172 + 5 * n + 1 - 172) % 5 = 1 from by omega]
    exact (r2 n).2.1
  · dsimp only at hn
    rw [vD, if_pos (by omega), fC _ n13, show (172 + 5 * n + 2 - 172) / 5 = n from by omega, show (172 + 5 * n + 2 - 172) % 5 = 2 from by omega]
    exact (r2 n).2.2.1
  · dsimp only at hn
    rw [vD, if_pos (by omega), fC _ n13, show (172 + 5 * n + 3 - 172) / 5 = n from by omega, show (172 + 5 * n + 3 - 172) % 5 = 3 from by omega]
    exact (r2 n).2.2.2
  · dsimp only at hn
    rw [vD, if_neg (by omega), vC, if_neg (by omega), vB, if_neg (by omega), zz _ (by omega) (by omega)]
/-! the class begins -/
theorem yg_32 {q : Nat → Nat} (hq : zq q) : ∀ (c n : Nat) (J : Nat → Nat → Int32), n ≤ 6 → 6 ≤ n + c → (∀ j, x64_32 q c (nI n) J (q 10) j = if n ≤ j ∧ j < 6 then Int32.ofInt 0 else J (q 10) j) ∧ (∀ j, x64_32 q c (nI n) J (q 11) j = if n ≤ j ∧ j < 6 then Int32.ofInt 0 else J (q 11) j) ∧ (∀ j, x64_32 q c (nI n) J (q 12) j = if n ≤ j ∧ j < 6 then Int32.ofInt (-1) else J (q 12) j) := by
  intro c
  induction c with
  | zero =>
    intro n J h1 h2
    refine ⟨fun j => ?_, fun j => ?_, fun j => ?_⟩
    all_goals (rw [if_neg (by omega)]; rfl)
  | succ c ih =>
    intro n J h1 h2
    by_cases e : n = 6
    · subst e
      have ee : x64_32 q (c + 1) (nI 6) J = J := by
        rw [x64_32]
        exact if_pos (show Int32.ofInt 6 ≤ nI 6 from nI_le (Nat.le_refl 6) (by decide))
      rw [ee]
      refine ⟨fun j => ?_, fun j => ?_, fun j => ?_⟩
      all_goals rw [if_neg (by omega)]
    · have ee : x64_32 q (c + 1) (nI n) J = x64_32 q c (nI (n + 1)) (nt_u (nt_u (nt_u J (q 10) n (Int32.ofInt 0)) (q 11) n (Int32.ofInt 0)) (q 12) n (Int32.ofInt (-1))) := by
        rw [x64_32, if_neg (show ¬ Int32.ofInt 6 ≤ nI n from nI_ge (b := 6) (by omega) (by decide)), show nI n + Int32.ofInt 1 = nI (n + 1) from me_addn (a := n) (b := 1), nI_clamp (by omega)]
      rw [ee]
      have z := ih (n + 1) (nt_u (nt_u (nt_u J (q 10) n (Int32.ofInt 0)) (q 11) n (Int32.ofInt 0)) (q 12) n (Int32.ofInt (-1))) (by omega) (by omega)
      obtain ⟨z10, z11, z12⟩ := z
      refine ⟨fun j => ?_, fun j => ?_, fun j => ?_⟩
      · rw [z10]
        by_cases g : j = n
        · subst g
          rw [if_neg (by omega), if_pos (by omega), me_uo (hq 10 12 (by omega) (by omega) (by omega)), me_uo (hq 10 11 (by omega) (by omega) (by omega)), me_us]
        · have ej : (nt_u (nt_u (nt_u J (q 10) n (Int32.ofInt 0)) (q 11) n (Int32.ofInt 0)) (q 12) n (Int32.ofInt (-1))) (q 10) j = J (q 10) j := by rw [me_uo (hq 10 12 (by omega) (by omega) (by omega)), me_uo (hq 10 11 (by omega) (by omega) (by omega)), me_uk g]
          rw [ej]
          by_cases g2 : n + 1 ≤ j ∧ j < 6
          · rw [if_pos g2, if_pos (by omega)]
          · rw [if_neg g2, if_neg (by omega)]
      · rw [z11]
        by_cases g : j = n
        · subst g
          rw [if_neg (by omega), if_pos (by omega), me_uo (hq 11 12 (by omega) (by omega) (by omega)), me_us]
        · have ej : (nt_u (nt_u (nt_u J (q 10) n (Int32.ofInt 0)) (q 11) n (Int32.ofInt 0)) (q 12) n (Int32.ofInt (-1))) (q 11) j = J (q 11) j := by rw [me_uo (hq 11 12 (by omega) (by omega) (by omega)), me_uk g, me_uo (hq 11 10 (by omega) (by omega) (by omega))]
          rw [ej]
          by_cases g2 : n + 1 ≤ j ∧ j < 6
          · rw [if_pos g2, if_pos (by omega)]
          · rw [if_neg g2, if_neg (by omega)]
      · rw [z12]
        by_cases g : j = n
        · subst g
          rw [if_neg (by omega), if_pos (by omega), me_us]
        · have ej : (nt_u (nt_u (nt_u J (q 10) n (Int32.ofInt 0)) (q 11) n (Int32.ofInt 0)) (q 12) n (Int32.ofInt (-1))) (q 12) j = J (q 12) j := by rw [me_uk g, me_uo (hq 12 11 (by omega) (by omega) (by omega)), me_uo (hq 12 10 (by omega) (by omega) (by omega))]
          rw [ej]
          by_cases g2 : n + 1 ≤ j ∧ j < 6
          · rw [if_pos g2, if_pos (by omega)]
          · rw [if_neg g2, if_neg (by omega)]
theorem yg_67 {q : Nat → Nat} (hq : zq q) : ∀ (c n : Nat) (J : Nat → Nat → Int32), n ≤ 24 → 24 ≤ n + c → (∀ j, x64_67 q c (nI n) J (q 13) j = if n ≤ j ∧ j < 24 then J (q 4) j else J (q 13) j) ∧ (∀ j, x64_67 q c (nI n) J (q 14) j = if n ≤ j ∧ j < 24 then Int32.ofInt (-1) else J (q 14) j) ∧ (∀ j, x64_67 q c (nI n) J (q 15) j = if n ≤ j ∧ j < 24 then vp_nar .boolean (Int32.ofInt 0) else J (q 15) j) := by
  intro c
  induction c with
  | zero =>
    intro n J h1 h2
    refine ⟨fun j => ?_, fun j => ?_, fun j => ?_⟩
    all_goals (rw [if_neg (by omega)]; rfl)
  | succ c ih =>
    intro n J h1 h2
    by_cases e : n = 24
    · subst e
      have ee : x64_67 q (c + 1) (nI 24) J = J := by
        rw [x64_67]
        exact if_pos (show Int32.ofInt 24 ≤ nI 24 from nI_le (Nat.le_refl 24) (by decide))
      rw [ee]
      refine ⟨fun j => ?_, fun j => ?_, fun j => ?_⟩
      all_goals rw [if_neg (by omega)]
    · have ee : x64_67 q (c + 1) (nI n) J = x64_67 q c (nI (n + 1)) (nt_u (nt_u (nt_u J (q 13) n (J (q 4) n)) (q 14) n (Int32.ofInt (-1))) (q 15) n (vp_nar .boolean (Int32.ofInt 0))) := by
        rw [x64_67, if_neg (show ¬ Int32.ofInt 24 ≤ nI n from nI_ge (b := 24) (by omega) (by decide)), show nI n + Int32.ofInt 1 = nI (n + 1) from me_addn (a := n) (b := 1), nI_clamp (by omega)]
      rw [ee]
      have z := ih (n + 1) (nt_u (nt_u (nt_u J (q 13) n (J (q 4) n)) (q 14) n (Int32.ofInt (-1))) (q 15) n (vp_nar .boolean (Int32.ofInt 0))) (by omega) (by omega)
      obtain ⟨z13, z14, z15⟩ := z
      refine ⟨fun j => ?_, fun j => ?_, fun j => ?_⟩
      · rw [z13]
        by_cases g : j = n
        · subst g
          rw [if_neg (by omega), if_pos (by omega), me_uo (hq 13 15 (by omega) (by omega) (by omega)), me_uo (hq 13 14 (by omega) (by omega) (by omega)), me_us]
        · have ej : (nt_u (nt_u (nt_u J (q 13) n (J (q 4) n)) (q 14) n (Int32.ofInt (-1))) (q 15) n (vp_nar .boolean (Int32.ofInt 0))) (q 13) j = J (q 13) j := by rw [me_uo (hq 13 15 (by omega) (by omega) (by omega)), me_uo (hq 13 14 (by omega) (by omega) (by omega)), me_uk g]
          rw [ej]
          have e4 : (nt_u (nt_u (nt_u J (q 13) n (J (q 4) n)) (q 14) n (Int32.ofInt (-1))) (q 15) n (vp_nar .boolean (Int32.ofInt 0))) (q 4) = J (q 4) := by rw [me_uo (hq 4 15 (by omega) (by omega) (by omega)), me_uo (hq 4 14 (by omega) (by omega) (by omega)), me_uo (hq 4 13 (by omega) (by omega) (by omega))]
          rw [e4]
          by_cases g2 : n + 1 ≤ j ∧ j < 24
          · rw [if_pos g2, if_pos (by omega)]
          · rw [if_neg g2, if_neg (by omega)]
      · rw [z14]
        by_cases g : j = n
        · subst g
          rw [if_neg (by omega), if_pos (by omega), me_uo (hq 14 15 (by omega) (by omega) (by omega)), me_us]
        · have ej : (nt_u (nt_u (nt_u J (q 13) n (J (q 4) n)) (q 14) n (Int32.ofInt (-1))) (q 15) n (vp_nar .boolean (Int32.ofInt 0))) (q 14) j = J (q 14) j := by rw [me_uo (hq 14 15 (by omega) (by omega) (by omega)), me_uk g, me_uo (hq 14 13 (by omega) (by omega) (by omega))]
          rw [ej]
          by_cases g2 : n + 1 ≤ j ∧ j < 24
          · rw [if_pos g2, if_pos (by omega)]
          · rw [if_neg g2, if_neg (by omega)]
      · rw [z15]
        by_cases g : j = n
        · subst g
          rw [if_neg (by omega), if_pos (by omega), me_us]
        · have ej : (nt_u (nt_u (nt_u J (q 13) n (J (q 4) n)) (q 14) n (Int32.ofInt (-1))) (q 15) n (vp_nar .boolean (Int32.ofInt 0))) (q 15) j = J (q 15) j := by rw [me_uk g, me_uo (hq 15 14 (by omega) (by omega) (by omega)), me_uo (hq 15 13 (by omega) (by omega) (by omega))]
          rw [ej]
          by_cases g2 : n + 1 ≤ j ∧ j < 24
          · rw [if_pos g2, if_pos (by omega)]
          · rw [if_neg g2, if_neg (by omega)]
theorem yg_110 {q : Nat → Nat} (hq : zq q) : ∀ (c n : Nat) (J : Nat → Nat → Int32), n ≤ 8 → 8 ≤ n + c → (∀ j, x64_110 q c (nI n) J (q 16) j = if n ≤ j ∧ j < 8 then Int32.ofInt 0 else J (q 16) j) := by
  intro c
  induction c with
  | zero =>
    intro n J h1 h2
    intro j
    rw [if_neg (by omega)]
    rfl
  | succ c ih =>
    intro n J h1 h2
    by_cases e : n = 8
    · subst e
      have ee : x64_110 q (c + 1) (nI 8) J = J := by
        rw [x64_110]
        exact if_pos (show Int32.ofInt 8 ≤ nI 8 from nI_le (Nat.le_refl 8) (by decide))
      rw [ee]
      intro j
      rw [if_neg (by omega)]
    · have ee : x64_110 q (c + 1) (nI n) J = x64_110 q c (nI (n + 1)) (nt_u J (q 16) n (Int32.ofInt 0)) := by
        rw [x64_110, if_neg (show ¬ Int32.ofInt 8 ≤ nI n from nI_ge (b := 8) (by omega) (by decide)), show nI n + Int32.ofInt 1 = nI (n + 1) from me_addn (a := n) (b := 1), nI_clamp (by omega)]
      rw [ee]
      have z := ih (n + 1) (nt_u J (q 16) n (Int32.ofInt 0)) (by omega) (by omega)
      have z16 := z
      intro j
      rw [z16]
      by_cases g : j = n
      · subst g
        rw [if_neg (by omega), if_pos (by omega), me_us]
      · have ej : (nt_u J (q 16) n (Int32.ofInt 0)) (q 16) j = J (q 16) j := by rw [me_uk g]
        rw [ej]
        by_cases g2 : n + 1 ≤ j ∧ j < 8
        · rw [if_pos g2, if_pos (by omega)]
        · rw [if_neg g2, if_neg (by omega)]
end
section
/-! the state of both sides: where it lies -/
theorem zz_ref {pl : Nat → Nat} {v : Nat → Int} {M : nt_M} (hB : ly_B pl v M) {g j k : Nat} (h : ly_R.any (fun q => Nat.beq q.1.1 g && (sx_leq q.1.2 ((j : Int), []) && Nat.beq q.2 (k + 1))) = true) : nt_R M (pl g) j = some (pl k) := by
  obtain ⟨q, hq, e⟩ := List.any_eq_true.mp h
  rw [Bool.and_eq_true, Bool.and_eq_true] at e
  obtain ⟨e1, e2, e3⟩ := e
  have e4 : q = ((g, ((j : Int), [])), k + 1) := Prod.ext (Prod.ext (Nat.eq_of_beq_eq_true e1) (sx_leq_ok e2)) (Nat.eq_of_beq_eq_true e3)
  rw [e4] at hq
  exact ly_ref hB hq
theorem zz_lt {pl : Nat → Nat} {v : Nat → Int} {M : nt_M} (hB : ly_B pl v M) {g : Nat} (hg : g < 66) : pl g < nt_n M := by
  have hq : ly_E.2.1[g]? = some (ly_E.2.1[g]'hg) := List.getElem?_eq_getElem hg
  exact (hB.2.1.2 g _ hq).1
theorem zz_sp {pl : Nat → Nat} {v : Nat → Int} {M : nt_M} (hB : ly_B pl v M) {g : Nat} (hg : g < 66) : pl g ≠ nt_sp := by
  have a := zz_lt hB hg
  have b : nt_n M ≤ nt_sp := hB.2.1.1
  omega
theorem zz_ne {pl : Nat → Nat} {v : Nat → Int} {M : nt_M} (hB : ly_B pl v M) (g h : Nat) (hg : g < 66) (hh : h < 66) (e : g ≠ h) : pl g ≠ pl h := fun c => e (hB.1 g h hg hh c)
theorem zz_P {pl : Nat → Nat} {v : Nat → Int} {M : nt_M} (hB : ly_B pl v M) : xs_P M pl := by
  refine ⟨fun t ht => ?_, zz_ne hB, fun i hi => zz_sp hB hi, ?_⟩
  · exact zz_ref hB (List.all_eq_true.mp (show xs_U.all (fun t => ly_R.any (fun q => Nat.beq q.1.1 t.1 && (sx_leq q.1.2 ((t.2.1 : Int), []) && Nat.beq q.2 (t.2.2 + 1)))) = true from by decide +kernel) t ht)
  · have := (hB.2.1.2 27 _ (show ly_E.2.1[27]? = some (14, 60, 60, 0) from rfl)).2.2.1
    dsimp only at this
    omega
theorem zz_Qn {pl : Nat → Nat} {v : Nat → Int} {M : nt_M} (hB : ly_B pl v M) : xs_Q M (fun i => pl (31 + i)) := by
  refine ⟨fun t ht => ?_, fun i j hi hj e => zz_ne hB _ _ (by omega) (by omega) (by omega), fun i hi => zz_sp hB (by omega), (hB.2.1.2 46 _ (show ly_E.2.1[46]? = some (15, 24, 24, 0) from rfl)).2.1⟩
  exact zz_ref hB (List.all_eq_true.mp (show xs_T.all (fun t => ly_R.any (fun q => Nat.beq q.1.1 (31 + t.1) && (sx_leq q.1.2 ((t.2.1 : Int), []) && Nat.beq q.2 (31 + t.2.2 + 1)))) = true from by decide +kernel) t ht)
theorem zz_Qm {pl : Nat → Nat} {v : Nat → Int} {M : nt_M} (hB : ly_B pl v M) : xs_Q M (fun i => pl (48 + i)) := by
  refine ⟨fun t ht => ?_, fun i j hi hj e => zz_ne hB _ _ (by omega) (by omega) (by omega), fun i hi => zz_sp hB (by omega), (hB.2.1.2 63 _ (show ly_E.2.1[63]? = some (15, 24, 24, 0) from rfl)).2.1⟩
  exact zz_ref hB (List.all_eq_true.mp (show xs_T.all (fun t => ly_R.any (fun q => Nat.beq q.1.1 (48 + t.1) && (sx_leq q.1.2 ((t.2.1 : Int), []) && Nat.beq q.2 (48 + t.2.2 + 1)))) = true from by decide +kernel) t ht)
def zz_lc (b : Nat) (D : sx_D) (t : Nat × Nat) : Bool := match D[b + t.1]? with
  | some q => decide ((t.2 : Int) ≤ q.2.1) && decide (q.2.2.1 ≤ (t.2 : Int))
  | none => false
theorem zz_N {pl : Nat → Nat} {v : Nat → Int} {M : nt_M} (hB : ly_B pl v M) {b : Nat} (h : xs_NL.all (zz_lc b ly_E.2.1) = true) : xs_N M (fun i => pl (b + i)) := by
  intro t ht
  have l := List.all_eq_true.mp h t ht
  unfold zz_lc at l
  cases hq : ly_E.2.1[b + t.1]? with
  | none => rw [hq] at l; cases l
  | some q =>
    rw [hq] at l
    dsimp only at l
    rw [Bool.and_eq_true, decide_eq_true_eq, decide_eq_true_eq] at l
    have := (hB.2.1.2 _ q hq).2.2.1
    dsimp only
    omega
theorem zz_Nn {pl : Nat → Nat} {v : Nat → Int} {M : nt_M} (hB : ly_B pl v M) : xs_N M (fun i => pl (31 + i)) := zz_N hB (by decide +kernel)
theorem zz_Nm {pl : Nat → Nat} {v : Nat → Int} {M : nt_M} (hB : ly_B pl v M) : xs_N M (fun i => pl (48 + i)) := zz_N hB (by decide +kernel)
theorem zz_Qi {a : Nat} {x : Int} {M : nt_M} (hs : nt_n M ≤ nt_sp) (h : ly_im a x M) : xs_Q M (fun i => a + i) := by
  have k15 := (h.1 15 _ (show ly_ED[15]? = some (15, 24, 24, 0) from rfl))
  have k16 := (h.1 16 _ (show ly_ED[16]? = some (13, 8, 8, 0) from rfl)).1
  refine ⟨fun t ht => ?_, fun i j hi hj e => by dsimp only; omega, fun i hi => by dsimp only; omega, k15.2.1⟩
  have l := List.all_eq_true.mp (show xs_T.all (fun t => ly_RI.any (fun q => Nat.beq (q.1.1 - 66) t.1 && (Nat.beq q.1.2.1.toNat t.2.1 && Nat.beq (q.2 - 67) t.2.2))) = true from by decide +kernel) t ht
  obtain ⟨q, hq, e⟩ := List.any_eq_true.mp l
  rw [Bool.and_eq_true, Bool.and_eq_true] at e
  have z := h.2.1 q hq
  rw [Nat.eq_of_beq_eq_true e.1, Nat.eq_of_beq_eq_true e.2.1, Nat.eq_of_beq_eq_true e.2.2] at z
  exact z
theorem zz_Ni {a : Nat} {x : Int} {M : nt_M} (h : ly_im a x M) : xs_N M (fun i => a + i) := by
  intro t ht
  have l := List.all_eq_true.mp (show xs_NL.all (zz_lc 0 ly_ED) = true from by decide +kernel) t ht
  unfold zz_lc at l
  rw [Nat.zero_add] at l
  cases hq : ly_ED[t.1]? with
  | none => rw [hq] at l; cases l
  | some q =>
    rw [hq] at l
    dsimp only at l
    rw [Bool.and_eq_true, decide_eq_true_eq, decide_eq_true_eq] at l
    have := (h.1 _ q hq).2.2.1
    dsimp only
    omega
theorem zz_W {pl : Nat → Nat} {v : Nat → Int} {M : nt_M} (hB : ly_B pl v M) : xr_W (nt_I M (pl 4)) := by
  intro j
  have g := (hB.2.1.2 4 _ (show ly_E.2.1[4]? = some (13, 212, 212, 10) from rfl)).2.2.2.2 j
  have g : (sx_iv (sx_tbs.getD 10 []) j).1 ≤ (nt_I M (pl 4) j).toInt ∧ (nt_I M (pl 4) j).toInt ≤ (sx_iv (sx_tbs.getD 10 []) j).2 := g
  by_cases hj : j < 212
  · have l := List.all_eq_true.mp (show (List.range 212).all (fun j => decide ((xr_b j).1 ≤ (sx_iv (sx_tbs.getD 10 []) j).1) && decide ((sx_iv (sx_tbs.getD 10 []) j).2 ≤ (xr_b j).2)) = true from by decide +kernel) j (List.mem_range.mpr hj)
    rw [Bool.and_eq_true, decide_eq_true_eq, decide_eq_true_eq] at l
    omega
  · refine xr_any ?_
    unfold xr_b
    rw [if_neg (by omega), if_neg (by omega), if_neg (by omega), if_neg (by omega), if_neg (by omega), if_neg (by omega), if_neg (by omega), if_neg (by omega)]
theorem zz_X {pl : Nat → Nat} {v : Nat → Int} {M : nt_M} (hB : ly_B pl v M) : zX pl (fun i => pl (31 + i)) := ⟨zz_ne hB, fun i j hi hj e => zz_ne hB _ _ (by omega) (by omega) (by omega), fun i j hi hj => zz_ne hB _ _ (by omega) (by omega) (by omega)⟩
/-! what is the same -/
def zim (J : Nat → Nat → Int32) (P k : Nat) : Nat → Int32 := fun j => if j < 212 then J P (212 * k + j) else 0
def zz_R (q : Nat → Nat) (J : Nat → Nat → Int32) (e : Nat → Int32) : Prop := zR q J e ∧ zW e (e 4).toInt ∧ (e 4).toInt ≤ 200 ∧ (e 0 = 0 → e 5 = e 6)
def zz_I (pl : Nat → Nat) (M : nt_M) : Prop := (∀ k, k < 4 → ∀ a, nt_R M (pl 65) k = some a → (66 ≤ a ∧ a + 17 ≤ nt_n M) ∧ zz_R (fun i => a + i) (nt_I M) (zim (nt_I M) (pl 14) k)) ∧ (∀ u b, u < 6 → nt_R M (pl 23) u = some b → (66 ≤ b ∧ b + 2 ≤ nt_n M ∧ (u : Int) < (nt_I M (pl 16) 4).toInt) ∧ zRQ pl (b + 1) (nt_l M (b + 1)) u (nt_I M) (nt_I M))
def zz_E (pl : Nat → Nat) (M : nt_M) : Prop := zz_R (fun i => pl (31 + i)) (nt_I M) (nt_I M (pl 4)) ∧ zz_I pl M
theorem zR_aj {q : Nat → Nat} {J J' : Nat → Nat → Int32} {e : Nat → Int32} (h : ∀ i, i < 17 → J' (q i) = J (q i)) (hR : zR q J e) : zR q J' e := by
  refine ⟨fun j hj => ?_, ?_⟩
  · rw [h _ (zc_17 j (zv_lt hj))]
    exact hR.1 j hj
  · rw [h 0 (by omega)]
    exact hR.2
theorem zv_ae {e f : Nat → Int32} (h : ∀ j, j < 212 → f j = e j) {j : Nat} (hj : zv f j) : zv e j := by
  unfold zv zn at hj ⊢
  rw [h 0 (by omega), h 1 (by omega), h 2 (by omega), h 3 (by omega)] at hj
  exact hj
theorem zR_ae {q : Nat → Nat} {J : Nat → Nat → Int32} {e f : Nat → Int32} (h : ∀ j, j < 212 → f j = e j) (hR : zR q J e) : zR q J f := by
  refine ⟨fun j hj => ?_, ?_⟩
  · rw [h j (zv_lt hj)]
    exact hR.1 j (zv_ae h hj)
  · rw [h 0 (by omega)]
    exact hR.2
theorem xr_ae {e f : Nat → Int32} (h : ∀ j, j < 212 → f j = e j) (hW : xr_W e) : xr_W f := by
  intro j
  by_cases hj : j < 212
  · rw [h j hj]
    exact hW j
  · refine xr_any ?_
    unfold xr_b
    rw [if_neg (by omega), if_neg (by omega), if_neg (by omega), if_neg (by omega), if_neg (by omega), if_neg (by omega), if_neg (by omega), if_neg (by omega)]
theorem zW_ae {e f : Nat → Int32} {g : Int} (h : ∀ j, j < 212 → f j = e j) (hW : zW e g) : zW f g := ⟨xr_ae h hW.w, zA_ag hW.a hW.w (fun i hi _ => h i (by omega)) (fun s hs k hk => h _ (by omega)) (fun p hp => ⟨h _ (by omega), h _ (by omega)⟩) (fun v hv k hk => h _ (by omega)), zB_ag hW.b hW.w (h 1 (by omega)) (h 2 (by omega)) (fun s hs => h _ (by omega)) (fun p hp => ⟨h _ (by omega), h _ (by omega)⟩), zC_ag hW.c hW.w (h 1 (by omega)) (h 3 (by omega)) (fun s hs => ⟨h _ (by omega), h _ (by omega)⟩) (fun v hv => ⟨h _ (by omega), h _ (by omega), h _ (by omega)⟩), zD_ag hW.d hW.w (h 2 (by omega)) (h 4 (by omega)) (h 5 (by omega)) (h 6 (by omega)) (fun p hp => h _ (by omega))⟩
theorem zz_Rae {q : Nat → Nat} {J : Nat → Nat → Int32} {e f : Nat → Int32} (h : ∀ j, j < 212 → f j = e j) (hR : zz_R q J e) : zz_R q J f := by
  obtain ⟨a, b, c, d⟩ := hR
  refine ⟨zR_ae h a, ?_, ?_, ?_⟩
  · rw [h 4 (by omega)]
    exact zW_ae h b
  · rw [h 4 (by omega)]
    exact c
  · rw [h 0 (by omega), h 5 (by omega), h 6 (by omega)]
    exact d
theorem zz_Rag {q : Nat → Nat} {J J' : Nat → Nat → Int32} {e : Nat → Int32} (h : ∀ i, i < 17 → J' (q i) = J (q i)) (hR : zz_R q J e) : zz_R q J' e := ⟨zR_aj h hR.1, hR.2⟩
theorem zz_Ik {pl : Nat → Nat} {M M' : nt_M} (hn : nt_n M' = nt_n M) (hl : nt_l M' = nt_l M) (h65 : ∀ k, nt_R M' (pl 65) k = nt_R M (pl 65) k) (h23 : ∀ k, nt_R M' (pl 23) k = nt_R M (pl 23) k) (hg : ∀ g, g = 14 ∨ g = 1 ∨ g = 2 ∨ g = 3 ∨ g = 16 → nt_I M' (pl g) = nt_I M (pl g)) (ho : ∀ a, 66 ≤ a → nt_I M' a = nt_I M a) (h : zz_I pl M) : zz_I pl M' := by
  refine ⟨fun k hk a ha => ?_, fun u b hu hb => ?_⟩
  · rw [h65] at ha
    obtain ⟨h1, h2⟩ := h.1 k hk a ha
    rw [hn]
    refine ⟨h1, zz_Rag (fun i hi => ho _ (by omega)) ?_⟩
    unfold zim
    rw [hg 14 (Or.inl rfl)]
    exact h2
  · rw [h23] at hb
    obtain ⟨h1, h2⟩ := h.2 u b hu hb
    rw [hn, hg 16 (Or.inr (Or.inr (Or.inr (Or.inr rfl))))]
    refine ⟨h1, ?_⟩
    rw [hl]
    exact zRQ_ag h2 (ho _ (by omega)) (hg 1 (Or.inr (Or.inl rfl))) (hg 2 (Or.inr (Or.inr (Or.inl rfl)))) (hg 3 (Or.inr (Or.inr (Or.inr (Or.inl rfl)))))
theorem zz_out {pl : Nat → Nat} {mk xi : Nat → Int} {rc : Int} {M : nt_M} (hS : ly_S pl mk xi rc M) {a : Nat} (ha : 66 ≤ a) : ∀ g, g < 66 → a ≠ pl g := fun g hg e => by
  have := hS.1.1 g hg
  omega
theorem zz_Ifr {pl : Nat → Nat} {mk xi : Nat → Int} {rc : Int} {M M' : nt_M} (hS : ly_S pl mk xi rc M) (hf : ly_fr 66 pl M M') (hg : ∀ g, g = 14 ∨ g = 1 ∨ g = 2 ∨ g = 3 ∨ g = 16 → nt_I M' (pl g) = nt_I M (pl g)) (h : zz_I pl M) : zz_I pl M' := zz_Ik hf.1.1 hf.1.2.2.2 (fun k => hf.2.2 65 k (Or.inr rfl)) (fun k => hf.2.2 23 k (Or.inl rfl)) hg (fun a ha => funext (hf.2.1 a (zz_out hS ha)).1) h
def zz_T (ok : Nat → Bool) (pl : Nat → Nat) (M M' : nt_M) : Prop := ∀ g, g < 66 → ok g = true → nt_I M' (pl g) = nt_I M (pl g)
def zz_ok (g : Nat) : Bool := (Nat.ble 31 g && Nat.blt g 48) || (Nat.beq g 4 || (Nat.beq g 14 || (Nat.beq g 1 || (Nat.beq g 2 || (Nat.beq g 3 || Nat.beq g 16)))))
theorem zz_keep {pl : Nat → Nat} {mk xi : Nat → Int} {rc : Int} {M M' : nt_M} (hS : ly_S pl mk xi rc M) (hf : ly_fr 66 pl M M') (hT : zz_T zz_ok pl M M') (h : zz_E pl M) : zz_E pl M' := by
  refine ⟨?_, zz_Ifr hS hf (fun g hg => hT g (by omega) (by rcases hg with rfl | rfl | rfl | rfl | rfl <;> rfl)) h.2⟩
  rw [hT 4 (by omega) rfl]
  refine zz_Rag (fun i hi => hT _ (by omega) ?_) h.1
  rcases (by omega : i = 0 ∨ i = 1 ∨ i = 2 ∨ i = 3 ∨ i = 4 ∨ i = 5 ∨ i = 6 ∨ i = 7 ∨ i = 8 ∨ i = 9 ∨ i = 10 ∨ i = 11 ∨ i = 12 ∨ i = 13 ∨ i = 14 ∨ i = 15 ∨ i = 16) with rfl | rfl | rfl | rfl | rfl | rfl | rfl | rfl | rfl | rfl | rfl | rfl | rfl | rfl | rfl | rfl | rfl <;> rfl
theorem zz_Tm {K : sx_K} {ok : Nat → Bool} {pl : Nat → Nat} {M M' : nt_M} (hn : 66 ≤ K.2.2.1.length) (hij : sx_ij (sx_KE (sx_tbs, sx_gps) K) pl) (hmo : K.2.2.2.1.1.all (fun q => !ok q.1) = true) (h : sx_fm (sx_KE (sx_tbs, sx_gps) K) pl M M') : zz_T ok pl M M' := by
  intro g hg hc
  funext j
  refine h.2.1 _ j fun q hq hl hz => ?_
  have e := hij g q.1 (by show g < K.2.2.1.length; omega) hl hz.1
  have l := List.all_eq_true.mp hmo q hq
  rw [← e, hc] at l
  cases l
theorem zz_gen {X : nt_X} {K : sx_K} {ok : Nat → Bool} {pl : Nat → Nat} {v r : Nat → Int} {M : nt_M} {d g dl n : Nat} {mo : List (Nat × Int × Int)} {rm : List (Nat × Nat)} {args : List sx_V} {ec : sx_I} {bd : sx_B} {cs : List sx_L} {ps : List (Option sx_V × sx_N)} {vs : List Value} {o : Option Value × nt_M} (hK : sx_KOK X (sx_tbs, sx_gps) K) (hKe : K = (g, dl, ly_D ++ [], (mo, rm), args, (ly_C ++ ec, ly_R ++ [], (bd, cs), n), ps)) (hmo : mo.all (fun q => !ok q.1) = true) (hd : dl ≤ d) (hB : ly_B pl v M) (hr : ∀ s, s < 11 → r s = v s) (hargs : sx_os pl r args vs) (hec : sx_oi (sx_KE (sx_tbs, sx_gps) K) (pl, M, r, nt_ghost) r ec M) (hob : sx_ob r bd) (hoc : sx_oc r cs) (k : nt_ev X d g vs M o) : zz_T ok pl M o.2 := by
  have hij : sx_ij (sx_KE (sx_tbs, sx_gps) K) pl := by
    intro a b ha hb e
    rw [hKe] at ha hb
    have ha : a < (ly_D ++ []).length := ha
    have hb : b < (ly_D ++ []).length := hb
    rw [List.append_nil] at ha hb
    exact hB.1 a b ha hb e
  have hon := ly_app hKe hB (fun _ _ => rfl) hr hij (fun h q hq => by rw [List.getElem?_nil] at hq; cases hq) hec (fun q hq => by cases hq) hob hoc
  subst hKe
  obtain ⟨o', h1, p, hp, r', h2, h3⟩ := hK (pl, M, r, nt_ghost) r vs M d hd rfl rfl rfl hargs hon
  have e : o = o' := lz_det k h1
  subst e
  exact zz_Tm (Nat.le_of_eq rfl) hij hmo h3.2.2.2.2.2.2
end
section
/-! calls with so many numbers: what they leave -/
theorem zz_g0 {X : nt_X} {K : sx_K} {ok : Nat → Bool} {pl : Nat → Nat} {v : Nat → Int} {M : nt_M} {o : Option Value × nt_M} {d g dl rv : Nat} {mo : List (Nat × Int × Int)} {rm : List (Nat × Nat)} (hK : sx_KOK X (sx_tbs, sx_gps) K) (hKe : K = (g, dl, ly_D ++ [], (mo, rm), [(2, rv, (0, []))], (ly_C ++ [], ly_R ++ [], (ly_b, []), 11), [(some (0, 0, (0, [(11, 1)])), (ly_C, ly_R, ([(11, -2147483648, 2147483647)], []), 11 + 1))])) (hmo : mo.all (fun q => !ok q.1) = true) (hrm : rm.all (fun q => Nat.blt q.1 66 && (!Nat.beq q.1 23 && !Nat.beq q.1 65)) = true) (hd : dl ≤ d) (hB : ly_B pl v M) (k : nt_ev X d g [.ref (pl rv)] M o) : zz_T ok pl M o.2 := by
  exact zz_gen (vs := [.ref (pl rv)]) (ec := []) (r := v) hK hKe hmo hd hB (fun _ _ => rfl) ⟨rfl, trivial⟩ (fun q hq => by cases hq) (ly_ob hB) ly_oc0 k
theorem zz_g1 {X : nt_X} {K : sx_K} {ok : Nat → Bool} {pl : Nat → Nat} {v : Nat → Int} {M : nt_M} {o : Option Value × nt_M} {d g dl rv : Nat} {mo : List (Nat × Int × Int)} {rm : List (Nat × Nat)} (a0 : Int32) (hK : sx_KOK X (sx_tbs, sx_gps) K) (hKe : K = (g, dl, ly_D ++ [], (mo, rm), [(2, rv, (0, [])), (0, 0, (0, [(11, 1)]))], (ly_C ++ [], ly_R ++ [], (ly_b ++ [(11, -2147483648, 2147483647)], []), 12), [(some (0, 0, (0, [(12, 1)])), (ly_C, ly_R, ([(12, -2147483648, 2147483647)], []), 12 + 1))])) (hmo : mo.all (fun q => !ok q.1) = true) (hrm : rm.all (fun q => Nat.blt q.1 66 && (!Nat.beq q.1 23 && !Nat.beq q.1 65)) = true) (hd : dl ≤ d) (hB : ly_B pl v M) (k : nt_ev X d g [.ref (pl rv), .int a0] M o) : zz_T ok pl M o.2 := by
  obtain ⟨r, hr, h11⟩ : ∃ r : Nat → Int, (∀ s, s < 11 → r s = v s) ∧ r 11 = a0.toInt := ⟨fun s => if s = 11 then a0.toInt else v s, fun s hs => by dsimp only; rw [if_neg (by omega)], rfl⟩
  exact zz_gen (vs := [.ref (pl rv), .int a0]) (ec := []) (r := r) hK hKe hmo hd hB hr ⟨rfl, ⟨a0, rfl, (ly_e1 h11).symm⟩, trivial⟩ (fun q hq => by cases hq) (ly_oba (ly_obr hr (ly_ob hB)) (ly_obI h11)) ly_oc0 k
theorem zz_g2 {X : nt_X} {K : sx_K} {ok : Nat → Bool} {pl : Nat → Nat} {v : Nat → Int} {M : nt_M} {o : Option Value × nt_M} {d g dl rv : Nat} {mo : List (Nat × Int × Int)} {rm : List (Nat × Nat)} (a0 a1 : Int32) (hK : sx_KOK X (sx_tbs, sx_gps) K) (hKe : K = (g, dl, ly_D ++ [], (mo, rm), [(2, rv, (0, [])), (0, 0, (0, [(11, 1)])), (0, 0, (0, [(12, 1)]))], (ly_C ++ [], ly_R ++ [], (ly_b ++ [(11, -2147483648, 2147483647), (12, -2147483648, 2147483647)], []), 13), [(some (0, 0, (0, [(13, 1)])), (ly_C, ly_R, ([(13, -2147483648, 2147483647)], []), 13 + 1))])) (hmo : mo.all (fun q => !ok q.1) = true) (hrm : rm.all (fun q => Nat.blt q.1 66 && (!Nat.beq q.1 23 && !Nat.beq q.1 65)) = true) (hd : dl ≤ d) (hB : ly_B pl v M) (k : nt_ev X d g [.ref (pl rv), .int a0, .int a1] M o) : zz_T ok pl M o.2 := by
  obtain ⟨r, hr, h11, h12⟩ : ∃ r : Nat → Int, (∀ s, s < 11 → r s = v s) ∧ r 11 = a0.toInt ∧ r 12 = a1.toInt := ⟨fun s => if s = 11 then a0.toInt else if s = 12 then a1.toInt else v s, fun s hs => by dsimp only; rw [if_neg (by omega), if_neg (by omega)], rfl, rfl⟩
  exact zz_gen (vs := [.ref (pl rv), .int a0, .int a1]) (ec := []) (r := r) hK hKe hmo hd hB hr ⟨rfl, ⟨a0, rfl, (ly_e1 h11).symm⟩, ⟨a1, rfl, (ly_e1 h12).symm⟩, trivial⟩ (fun q hq => by cases hq) (ly_oba (ly_obr hr (ly_ob hB)) (ly_oba (ly_obI h11) (ly_obI h12))) ly_oc0 k
theorem zz_g5 {X : nt_X} {K : sx_K} {ok : Nat → Bool} {pl : Nat → Nat} {v : Nat → Int} {M : nt_M} {o : Option Value × nt_M} {d g dl rv : Nat} {mo : List (Nat × Int × Int)} {rm : List (Nat × Nat)} (a0 a1 a2 a3 a4 : Int32) (hK : sx_KOK X (sx_tbs, sx_gps) K) (hKe : K = (g, dl, ly_D ++ [], (mo, rm), [(2, rv, (0, [])), (0, 0, (0, [(11, 1)])), (0, 0, (0, [(12, 1)])), (0, 0, (0, [(13, 1)])), (0, 0, (0, [(14, 1)])), (0, 0, (0, [(15, 1)]))], (ly_C ++ [], ly_R ++ [], (ly_b ++ [(11, -2147483648, 2147483647), (12, -2147483648, 2147483647), (13, -2147483648, 2147483647), (14, -2147483648, 2147483647), (15, -2147483648, 2147483647)], []), 16), [(some (0, 0, (0, [(16, 1)])), (ly_C, ly_R, ([(16, -2147483648, 2147483647)], []), 16 + 1))])) (hmo : mo.all (fun q => !ok q.1) = true) (hrm : rm.all (fun q => Nat.blt q.1 66 && (!Nat.beq q.1 23 && !Nat.beq q.1 65)) = true) (hd : dl ≤ d) (hB : ly_B pl v M) (k : nt_ev X d g [.ref (pl rv), .int a0, .int a1, .int a2, .int a3, .int a4] M o) : zz_T ok pl M o.2 := by
  obtain ⟨r, hr, h11, h12, h13, h14, h15⟩ : ∃ r : Nat → Int, (∀ s, s < 11 → r s = v s) ∧ r 11 = a0.toInt ∧ r 12 = a1.toInt ∧ r 13 = a2.toInt ∧ r 14 = a3.toInt ∧ r 15 = a4.toInt := ⟨fun s => if s = 11 then a0.toInt else if s = 12 then a1.toInt else if s = 13 then a2.toInt else if s = 14 then a3.toInt else if s = 15 then a4.toInt else v s, fun s hs => by dsimp only; rw [if_neg (by omega), if_neg (by omega), if_neg (by omega), if_neg (by omega), if_neg (by omega)], rfl, rfl, rfl, rfl, rfl⟩
  exact zz_gen (vs := [.ref (pl rv), .int a0, .int a1, .int a2, .int a3, .int a4]) (ec := []) (r := r) hK hKe hmo hd hB hr ⟨rfl, ⟨a0, rfl, (ly_e1 h11).symm⟩, ⟨a1, rfl, (ly_e1 h12).symm⟩, ⟨a2, rfl, (ly_e1 h13).symm⟩, ⟨a3, rfl, (ly_e1 h14).symm⟩, ⟨a4, rfl, (ly_e1 h15).symm⟩, trivial⟩ (fun q hq => by cases hq) (ly_oba (ly_obr hr (ly_ob hB)) (ly_oba (ly_obI h11) (ly_oba (ly_obI h12) (ly_oba (ly_obI h13) (ly_oba (ly_obI h14) (ly_obI h15)))))) ly_oc0 k
end
section
/-! the class's yard, whole -/
theorem lz_putr {X : nt_X} {d mi pc a b g t i : Nat} {ls : nt_V} {st : List Value} {M : nt_M} {o : Option Value × nt_M} (hat : nt_at mi pc = some (pc, .putfield i, g, t)) (ht : nt_tg (g / 100) (g % 100) = 2) (k : nt_rn X d mi (pc, ls, .ref b :: .ref a :: st, M) o) : nt_rn X d mi (pc + 3, ls, st, nt_sR M a (g % 100) (some b)) o := by
  obtain ⟨c', hs, k⟩ := lz_s hat rfl k
  have hs : (if a < nt_n M ∧ nt_k M a = g / 100 ∧ g / 100 < 12 ∧ g % 100 < nt_N (g / 100) ∧ ((nt_T (g / 100) (g % 100)).2.2.2 = false ∨ (nt_m mi).2.2.2.2.2.2.1 = 2 ∧ (nt_m mi).2.2.2.2.1 = g / 100) then nt_pf M a (g / 100) (g % 100) (.ref b) (fun M' => some (pc + 3, ls, st, M')) else none) = some c' := hs
  obtain ⟨_, e⟩ := nt_if_some hs
  unfold nt_pf at e
  rw [ht] at e
  have e : some (pc + 3, ls, st, nt_sR M a (g % 100) (some b)) = some c' := e
  cases e
  exact k
theorem me_R {M : nt_M} {a k b j : Nat} {v : Option Nat} : nt_R (nt_sR M a k v) b j = if b = a then (if j = k then v else nt_R M b j) else nt_R M b j := rfl
theorem me_Ro {M : nt_M} {a k b j : Nat} {v : Option Nat} (h : b ≠ a) : nt_R (nt_sR M a k v) b j = nt_R M b j := if_neg h
theorem me_Rk {M : nt_M} {a k j : Nat} {v : Option Nat} (h : j ≠ k) : nt_R (nt_sR M a k v) a j = nt_R M a j := (if_pos rfl).trans (if_neg h)
theorem me_Rs {M : nt_M} {a k : Nat} {v : Option Nat} : nt_R (nt_sR M a k v) a k = v := (if_pos rfl).trans (if_pos rfl)
theorem yc_open {X : nt_X} {d t Rd Tp By RR Sp Yr Y m0 s0 : Nat} {Rw : Nat → Nat} {f : Nat → Int32} {M : nt_M} {o : Option Value × nt_M} {C : lb_C} {J : Nat → Nat → Int32} (hP : yc_P M t Rd Tp By RR Sp Yr Y Rw) (hA : J Tp 1 = nI t ∧ (∀ j, J By j = f j) ∧ J RR 2 = nI s0 ∧ J RR 3 = nI m0) (hY : J Y 0 = nI 0 ∧ J Y 1 = nI 0 ∧ J Y 2 = nI 0 ∧ J Y 3 = nI 0 ∧ J Y 4 = nI 0) (hs : s0 ≤ 400 ∧ m0 ≤ 60) (hCC : ∀ i, 5 ≤ i → i ≤ 12 → ∀ j, J (Rw i) j = C i j) (k : nt_ev X d 28 [.ref Rd] (me_w M J) o) : ∃ J', o = (none, me_w M J') ∧ yc_S Rw C f t Rd Tp By RR Y m0 s0 (lb_s f t 0) 0 (0, 0, 0, 0, 0) (J') := by
  have k : nt_rn X d 28 (0, [(0, .ref Rd)], [], me_w M J) o := k
  have t4 : t ≤ 400 := hP.2.2.2.2.2.1
  have k := ly_revb 2 (c' := (2, [(0, .ref Rd)], [.int (Int32.ofInt 0), .ref Rd], me_w M J)) rfl k
  have k := me_put rfl (by decide) k
  have k : nt_rn X _ 28 (5, [(0, .ref Rd)], [], me_w M (nt_u J Rd 1 (Int32.ofInt 0))) _ := k
  have k := ly_revb 2 (c' := (7, [(0, .ref Rd)], [.int (Int32.ofInt 0), .ref Rd], me_w M (nt_u J Rd 1 (Int32.ofInt 0)))) rfl k
  have k := me_put rfl (by decide) k
  have k : nt_rn X _ 28 (10, [(0, .ref Rd)], [], me_w M (nt_u (nt_u J Rd 1 (Int32.ofInt 0)) Rd 2 (Int32.ofInt 0))) _ := k
  have k := ly_revb 2 (c' := (12, [(0, .ref Rd)], [.int (Int32.ofInt 0), .ref Rd], me_w M (nt_u (nt_u J Rd 1 (Int32.ofInt 0)) Rd 2 (Int32.ofInt 0)))) rfl k
  obtain ⟨d1, o1, ed, kc, k⟩ := lz_c (g := 29) (q := 1) (vs := [.ref Rd, .int (Int32.ofInt 0)]) (rest := []) rfl rfl (by decide) (Or.inr (Or.inl ⟨_, rfl, rfl⟩)) rfl k
  have n1 := hP.2.1.1
  have n2 := hP.2.1.2.2.2.1
  have n3 := hP.2.1.2.2.2.2.2.2.1
  have n4 := hP.2.2.2.1.1
  have hS0 : yc_S Rw C f t Rd Tp By RR Y m0 s0 0 0 (0, 0, 0, 0, 0) (nt_u (nt_u J Rd 1 (Int32.ofInt 0)) Rd 2 (Int32.ofInt 0)) := ⟨⟨(me_uk (by decide)).trans me_us, me_us⟩, ⟨(me_uj n1).trans ((me_uj n1).trans hA.1), fun j => (me_uj n2).trans ((me_uj n2).trans (hA.2.1 j)), (me_uj (Ne.symm n3)).trans ((me_uj (Ne.symm n3)).trans hA.2.2.1), (me_uj (Ne.symm n3)).trans ((me_uj (Ne.symm n3)).trans hA.2.2.2)⟩, ⟨(me_uj n4).trans ((me_uj n4).trans hY.1), (me_uj n4).trans ((me_uj n4).trans hY.2.1), (me_uj n4).trans ((me_uj n4).trans hY.2.2.1), (me_uj n4).trans ((me_uj n4).trans hY.2.2.2.1), (me_uj n4).trans ((me_uj n4).trans hY.2.2.2.2)⟩, hs, fun i h5 h12 j => (me_uj (hP.2.2.2.2.1 i h5 h12).2.1).trans ((me_uj (hP.2.2.2.2.1 i h5 h12).2.1).trans (hCC i h5 h12 j))⟩
  have e1 := lc_skip (b := 0) (yc_lP hP hS0) (yc_lS hP hS0) (Nat.zero_le t) (by omega) kc
  rw [show min (0 + 0) t = 0 from by omega] at e1
  subst e1
  have k : nt_rn X _ 28 (15, [(0, .ref Rd)], [], me_w M (nt_u (nt_u (nt_u J Rd 1 (Int32.ofInt 0)) Rd 2 (Int32.ofInt 0)) Rd 1 (nI (lb_s f t 0)))) _ := k
  have k := lz_rv rfl rfl k
  exact ⟨_, k, yc_Sp hP hS0⟩
theorem yc_read {X : nt_X} {d t Rd Tp By RR Sp Yr Y m0 s0 : Nat} {Rw : Nat → Nat} {f : Nat → Int32} {M : nt_M} {o : Option Value × nt_M} {C : lb_C} {M0 : nt_M} {J : Nat → Nat → Int32} (hP : yc_P M t Rd Tp By RR Sp Yr Y Rw) (hM : M = nt_sR M0 Yr 1 (some Y)) (hA : J Tp 1 = nI t ∧ (∀ j, J By j = f j) ∧ J RR 2 = nI s0 ∧ J RR 3 = nI m0) (hs : s0 ≤ 400 ∧ m0 ≤ 60) (hCC : ∀ i, 5 ≤ i → i ≤ 12 → ∀ j, J (Rw i) j = C i j) (k : nt_ev X d 92 [.ref Yr, .ref Y] (me_w M0 J) o) : ∃ k r J', o = (some (.int (lb_ry r)), me_w M J') ∧ lb_ya f t k 0 (lb_s f t 0, (0, 0, 0, 0, 0)) r ∧ (∀ u1, r = .inr u1 → lb_ub u1.2 ∧ ∃ k D, lb_yaC f t k 0 (lb_s f t 0, (0, 0, 0, 0, 0)) u1 C D ∧ yc_R Rw Y u1.2 D J') ∧ (∀ c, r = .inl c → c ≠ 0) := by
  have k : nt_rn X d 92 (0, [(0, .ref Yr), (1, .ref Y)], [], me_w M0 J) o := k
  have t4 : t ≤ 400 := hP.2.2.2.2.2.1
  have k := ly_revb 2 (c' := (2, [(0, .ref Yr), (1, .ref Y)], [.ref Y, .ref Yr], me_w M0 J)) rfl k
  have k := lz_putr rfl (by decide) k
  have k : nt_rn X d 92 (5, [(0, .ref Yr), (1, .ref Y)], [], me_w (nt_sR M0 Yr 1 (some Y)) J) o := k
  rw [← hM] at k
  have k := ly_revb 1 (c' := (6, [(0, .ref Yr), (1, .ref Y)], [.ref Yr], me_w M J)) rfl k
  have k := lz_get (a := Yr) (g := 901) (M := me_w M J) (v := .ref Y) rfl (nt_gfR rfl hP.2.2.1.2) k
  obtain ⟨d1, o1, ed, kc, k⟩ := lz_c (g := 86) (q := 1) (vs := [.ref Y]) (rest := []) rfl rfl (by decide) (Or.inr (Or.inl ⟨_, rfl, rfl⟩)) rfl k
  have e1 := yc_clear kc
  subst e1
  have k : nt_rn X _ 92 (12, [(0, .ref Yr), (1, .ref Y)], [], me_w M (nt_u (nt_u (nt_u (nt_u (nt_u J Y 0 (Int32.ofInt 0)) Y 1 (Int32.ofInt 0)) Y 2 (Int32.ofInt 0)) Y 3 (Int32.ofInt 0)) Y 4 (Int32.ofInt 0))) _ := k
  have k := ly_revb 1 (c' := (13, [(0, .ref Yr), (1, .ref Y)], [.ref Yr], me_w M (nt_u (nt_u (nt_u (nt_u (nt_u J Y 0 (Int32.ofInt 0)) Y 1 (Int32.ofInt 0)) Y 2 (Int32.ofInt 0)) Y 3 (Int32.ofInt 0)) Y 4 (Int32.ofInt 0)))) rfl k
  have k := lz_get (a := Yr) (g := 900) (M := me_w M (nt_u (nt_u (nt_u (nt_u (nt_u J Y 0 (Int32.ofInt 0)) Y 1 (Int32.ofInt 0)) Y 2 (Int32.ofInt 0)) Y 3 (Int32.ofInt 0)) Y 4 (Int32.ofInt 0))) (v := .ref Rd) rfl (nt_gfR rfl hP.2.2.1.1) k
  obtain ⟨d1, o1, ed, kc, k⟩ := lz_c (g := 28) (q := 1) (vs := [.ref Rd]) (rest := []) rfl rfl (by decide) (Or.inr (Or.inl ⟨_, rfl, rfl⟩)) rfl k
  obtain ⟨n1, n2, n3, n4⟩ := hP.2.2.2.1
  obtain ⟨J1, e1, hS⟩ := yc_open (J := nt_u (nt_u (nt_u (nt_u (nt_u J Y 0 (Int32.ofInt 0)) Y 1 (Int32.ofInt 0)) Y 2 (Int32.ofInt 0)) Y 3 (Int32.ofInt 0)) Y 4 (Int32.ofInt 0)) hP ⟨(me_uj (Ne.symm n2)).trans ((me_uj (Ne.symm n2)).trans ((me_uj (Ne.symm n2)).trans ((me_uj (Ne.symm n2)).trans ((me_uj (Ne.symm n2)).trans (hA.1))))), fun j => (me_uj (Ne.symm n3)).trans ((me_uj (Ne.symm n3)).trans ((me_uj (Ne.symm n3)).trans ((me_uj (Ne.symm n3)).trans ((me_uj (Ne.symm n3)).trans (hA.2.1 j))))), (me_uj (Ne.symm n4)).trans ((me_uj (Ne.symm n4)).trans ((me_uj (Ne.symm n4)).trans ((me_uj (Ne.symm n4)).trans ((me_uj (Ne.symm n4)).trans (hA.2.2.1))))), (me_uj (Ne.symm n4)).trans ((me_uj (Ne.symm n4)).trans ((me_uj (Ne.symm n4)).trans ((me_uj (Ne.symm n4)).trans ((me_uj (Ne.symm n4)).trans (hA.2.2.2)))))⟩ ⟨(me_uk (by decide)).trans ((me_uk (by decide)).trans ((me_uk (by decide)).trans ((me_uk (by decide)).trans (me_us)))), (me_uk (by decide)).trans ((me_uk (by decide)).trans ((me_uk (by decide)).trans (me_us))), (me_uk (by decide)).trans ((me_uk (by decide)).trans (me_us)), (me_uk (by decide)).trans (me_us), me_us⟩ hs (fun i h5 h12 j => (me_uj (hP.2.2.2.2.1 i h5 h12).2.2.2.2.2.1).trans ((me_uj (hP.2.2.2.2.1 i h5 h12).2.2.2.2.2.1).trans ((me_uj (hP.2.2.2.2.1 i h5 h12).2.2.2.2.2.1).trans ((me_uj (hP.2.2.2.2.1 i h5 h12).2.2.2.2.2.1).trans ((me_uj (hP.2.2.2.2.1 i h5 h12).2.2.2.2.2.1).trans (hCC i h5 h12 j)))))) kc
  subst e1
  have k : nt_rn X _ 92 (19, [(0, .ref Yr), (1, .ref Y)], [], me_w M J1) _ := k
  have k := ly_revb 4 (c' := (23, [(3, .int (Int32.ofInt 0)), (2, .int (Int32.ofInt 1)), (0, .ref Yr), (1, .ref Y)], [], me_w M J1)) rfl k
  exact yc_rdl hP 40 0 _ (0, 0, 0, 0, 0) C J1 rfl (lb_s_le t 0 (by omega)).2 ⟨by decide, by decide, by decide, by decide, by decide⟩ hS k
def kk_w_yread : sx_K := (92, 8, ly_D, ([(19, 1, 2), (49, 0, 4), (50, 0, 2147483647), (51, 0, 2147483647), (52, 0, 2147483647), (53, 0, 2147483647), (54, 0, 2147483647), (55, 0, 2147483647), (56, 0, 2147483647), (57, 0, 2147483647)], [(20, 1)]), [(2, 20, (0, [])), (2, 49, (0, []))], (ly_C, ly_R, (ly_b, []), 11), [(some (0, 0, (0, [(11, 1)])), (ly_C, ly_R, ([(11, (-2147483648), 2147483647)], []), 12))])
theorem kc_w_yread : sx_wkc (sx_tbs, sx_gps) kk_yread kk_w_yread = true := by decide +kernel
theorem ko_w_yread (X : nt_X) : sx_KOK X (sx_tbs, sx_gps) kk_w_yread := sx_wk (sx_lift (by decide +kernel) (ko_yread X)) kc_w_yread
theorem lq_yreadB {X : nt_X} {pl : Nat → Nat} {v : Nat → Int} {M : nt_M} {d : Nat} {o : Option Value × nt_M} (hd : 8 ≤ d) (hB : ly_B pl v M) (k : nt_ev X d 92 [.ref (pl 20), .ref (pl 49)] M o) : ly_B pl v o.2 := by
  have hij := ly_ij (K := kk_w_yread) rfl hB
  have hon := ly_app (K := kk_w_yread) (r := v) (ed := []) (ec := []) (er := []) rfl hB (fun _ _ => rfl) (fun _ _ => rfl) hij ly_nil (fun q hq => by cases hq) (fun q hq => by cases hq) (ly_ob hB) ly_oc0
  obtain ⟨o', h1, p, hp, r', h2, h3⟩ := ly_run (ko_w_yread X) hd (vs := [.ref (pl 20), .ref (pl 49)]) ⟨rfl, rfl, trivial⟩ hon
  have e : o = o' := lz_det k h1
  subst e
  rw [List.mem_singleton.mp hp] at h3
  have hr' : ∀ s, s < 11 → r' s = v s := fun s hs => h3.2.2.2.2.2.1 s hs
  exact ly_bk (ed := []) rfl rfl (fun _ _ => rfl) h3 (ly_oiC (more := []) (fun _ _ => rfl) rfl h3.2.2.1 hr') (ly_or2 (more := []) (fun _ _ => rfl) h3.2.2.2.1)
theorem lq_yP {pl : Nat → Nat} {v : Nat → Int} {M : nt_M} {t : Nat} (hB : ly_B pl v M) (ht : t ≤ 400) : yc_P (nt_sR M (pl 20) 1 (some (pl 49))) t (pl 19) (pl 17) (pl 18) (pl 21) (pl 22) (pl 20) (pl 49) (fun i => pl (45 + i)) := by
  have ne : ∀ g h, g < 66 → h < 66 → g ≠ h → pl g ≠ pl h := fun g h hg hh e c => e (hB.1 g h hg hh c)
  refine ⟨⟨(me_Ro (ne 19 20 (by omega) (by omega) (by decide))).trans (ly_ref (g := 19) (j := 0) (k := 17) hB (List.mem_of_getElem? (i := 12) rfl)), (me_Ro (ne 17 20 (by omega) (by omega) (by decide))).trans (ly_ref (g := 17) (j := 0) (k := 18) hB (List.mem_of_getElem? (i := 28) rfl)), (me_Ro (ne 21 20 (by omega) (by omega) (by decide))).trans (ly_ref (g := 21) (j := 0) (k := 19) hB (List.mem_of_getElem? (i := 10) rfl)), (me_Ro (ne 21 20 (by omega) (by omega) (by decide))).trans (ly_ref (g := 21) (j := 1) (k := 22) hB (List.mem_of_getElem? (i := 11) rfl))⟩, ⟨ne 17 19 (by omega) (by omega) (by decide), ne 17 21 (by omega) (by omega) (by decide), ne 17 22 (by omega) (by omega) (by decide), ne 18 19 (by omega) (by omega) (by decide), ne 18 21 (by omega) (by omega) (by decide), ne 18 22 (by omega) (by omega) (by decide), ne 19 21 (by omega) (by omega) (by decide), ne 19 22 (by omega) (by omega) (by decide), ne 21 22 (by omega) (by omega) (by decide)⟩, ⟨(me_Rk (by decide)).trans (ly_ref (g := 20) (j := 0) (k := 19) hB (List.mem_of_getElem? (i := 9) rfl)), me_Rs⟩, ⟨ne 49 19 (by omega) (by omega) (by decide), ne 49 17 (by omega) (by omega) (by decide), ne 49 18 (by omega) (by omega) (by decide), ne 49 21 (by omega) (by omega) (by decide)⟩, fun i h5 h12 => ?_, ht, ?_, ?_⟩
  · refine ⟨(me_Ro (ne 49 20 (by omega) (by omega) (by decide))).trans ?_, ne _ 19 (by omega) (by omega) (by omega), ne _ 17 (by omega) (by omega) (by omega), ne _ 18 (by omega) (by omega) (by omega), ne _ 21 (by omega) (by omega) (by omega), ne _ 49 (by omega) (by omega) (by omega), fun i' h5' h12' e => ne _ _ (by omega) (by omega) (by omega)⟩
    rcases (by omega : i = 5 ∨ i = 6 ∨ i = 7 ∨ i = 8 ∨ i = 9 ∨ i = 10 ∨ i = 11 ∨ i = 12) with rfl | rfl | rfl | rfl | rfl | rfl | rfl | rfl
    · exact ly_ref (g := 49) (j := 5) (k := 50) hB (List.mem_of_getElem? (i := 51) rfl)
    · exact ly_ref (g := 49) (j := 6) (k := 51) hB (List.mem_of_getElem? (i := 52) rfl)
    · exact ly_ref (g := 49) (j := 7) (k := 52) hB (List.mem_of_getElem? (i := 53) rfl)
    · exact ly_ref (g := 49) (j := 8) (k := 53) hB (List.mem_of_getElem? (i := 54) rfl)
    · exact ly_ref (g := 49) (j := 9) (k := 54) hB (List.mem_of_getElem? (i := 55) rfl)
    · exact ly_ref (g := 49) (j := 10) (k := 55) hB (List.mem_of_getElem? (i := 56) rfl)
    · exact ly_ref (g := 49) (j := 11) (k := 56) hB (List.mem_of_getElem? (i := 57) rfl)
    · exact ly_ref (g := 49) (j := 12) (k := 57) hB (List.mem_of_getElem? (i := 58) rfl)
  · show nt_l M (pl 22) = 400
    have := (hB.2.1.2 22 _ (show ly_E.2.1[22]? = some (13, 400, 400, 0) from rfl)).2.2.1
    dsimp only at this
    omega
  · have a := (hB.2.1.2 22 _ (show ly_E.2.1[22]? = some (13, 400, 400, 0) from rfl)).1
    have b : nt_n M ≤ nt_sp := hB.2.1.1
    omega
theorem lq_out {x y : Int32} {M M' : nt_M} (h : ((some (Value.int x), M) : Option Value × nt_M) = (some (Value.int y), M')) : x = y ∧ M = M' := by
  cases h
  exact ⟨rfl, rfl⟩
theorem lq_yardA {X : nt_X} {pl : Nat → Nat} {v : Nat → Int} {M M1 : nt_M} {y1 : Int32} {t : Nat} (hB : ly_B pl v M) (ht : t ≤ 400) (h17 : nt_I M (pl 17) 1 = nI t) (k : nt_ev X 99 104 [.ref (pl 16)] M (some (.int y1), M1)) : ∃ n r, lb_ya (nt_I M (pl 18)) t n 0 (lb_s (nt_I M (pl 18)) t 0, (0, 0, 0, 0, 0)) r ∧ ((∃ c, r = .inl c ∧ c ≠ 0 ∧ y1 = Int32.ofInt (-2) - c ∧ nt_R M1 (pl 16) 7 = some (pl 31)) ∨ ∃ u, r = .inr u ∧ y1 = nI u.2.2.1 ∧ nt_R M1 (pl 16) 7 = some (pl 48) ∧ lb_ub u.2 ∧ ∃ k D, lb_yaC (nt_I M (pl 18)) t k 0 (lb_s (nt_I M (pl 18)) t 0, (0, 0, 0, 0, 0)) u (fun i j => nt_I M (pl (45 + i)) j) D ∧ ∃ JY, yc_R (fun i => pl (45 + i)) (pl 49) u.2 D JY ∧ nt_I M1 = x64 (fun i => pl (48 + i)) (JY (pl 31) 6) JY) := by
  have ne : ∀ g h, g < 66 → h < 66 → g ≠ h → pl g ≠ pl h := fun g h hg hh e c => e (hB.1 g h hg hh c)
  have k : nt_rn X 99 104 (0, [(0, .ref (pl 16))], [], M) (some (.int y1), M1) := k
  have k := ly_revb 1 (c' := (1, [(0, .ref (pl 16))], [.ref (pl 16)], M)) rfl k
  have k := lz_get (a := pl 16) (g := 1001) (v := .ref (pl 20)) rfl (nt_gfR rfl (ly_ref (g := 16) (j := 1) (k := 20) hB (List.mem_of_getElem? (i := 1) rfl))) k
  have k := ly_revb 1 (c' := (5, [(0, .ref (pl 16))], [.ref (pl 16), .ref (pl 20)], M)) rfl k
  have k := lz_get (a := pl 16) (g := 1008) (v := .ref (pl 48)) rfl (nt_gfR rfl (ly_ref (g := 16) (j := 8) (k := 48) hB (List.mem_of_getElem? (i := 7) rfl))) k
  have k := lz_get (a := pl 48) (g := 600) (v := .ref (pl 49)) rfl (nt_gfR rfl (ly_ref (g := 48) (j := 0) (k := 49) hB (List.mem_of_getElem? (i := 50) rfl))) k
  obtain ⟨d1, o1, ed, kc, k⟩ := lz_c (g := 92) (q := 1) (vs := [.ref (pl 20), .ref (pl 49)]) (rest := []) rfl rfl (by decide) (Or.inr (Or.inl ⟨_, rfl, rfl⟩)) rfl k
  have ed : d1 = 98 := by omega
  subst ed
  have hB1 := lq_yreadB (by decide) hB kc
  have g21 := hB.2.1.2 21 _ (show ly_E.2.1[21]? = some (5, 0, 0, 6) from rfl)
  have b2 : 0 ≤ (nt_I M (pl 21) 2).toInt ∧ (nt_I M (pl 21) 2).toInt ≤ 400 := g21.2.2.2.2 2
  have b3 : 0 ≤ (nt_I M (pl 21) 3).toInt ∧ (nt_I M (pl 21) 3).toInt ≤ 60 := g21.2.2.2.2 3
  obtain ⟨n, r, J', e1, hya, hsh, hne⟩ := yc_read (f := nt_I M (pl 18)) (s0 := (nt_I M (pl 21) 2).toInt.toNat) (m0 := (nt_I M (pl 21) 3).toInt.toNat) (J := nt_I M) (lq_yP hB ht) rfl ⟨h17, fun _ => rfl, Int32.toInt_inj.mp (by rw [nI_toInt (by omega)]; omega), Int32.toInt_inj.mp (by rw [nI_toInt (by omega)]; omega)⟩ ⟨by omega, by omega⟩ (C := fun i j => nt_I M (pl (45 + i)) j) (fun i h5 h12 j => rfl) kc
  subst e1
  generalize hMR : me_w (nt_sR M (pl 20) 1 (some (pl 49))) J' = MR at k hB1
  have hB1 : ly_B pl v MR := hB1
  have iMR : nt_I MR = J' := by rw [← hMR]; rfl
  have k : nt_rn X 99 104 (14, [(0, .ref (pl 16))], [.int (lb_ry r)], MR) (some (.int y1), M1) := k
  have k := ly_revb 2 (c' := (16, [(1, .int (lb_ry r)), (0, .ref (pl 16))], [.ref (pl 16)], MR)) rfl k
  have k := lz_get (a := pl 16) (g := 1000) (v := .ref (pl 17)) rfl (nt_gfR rfl (ly_ref (g := 16) (j := 0) (k := 17) hB1 (List.mem_of_getElem? (i := 0) rfl))) k
  have k := ly_revb 1 (c' := (20, [(1, .int (lb_ry r)), (0, .ref (pl 16))], [.int (Int32.ofInt 0), .ref (pl 17)], MR)) rfl k
  have k := lz_put rfl (by decide) k
  obtain ⟨M2, hM2⟩ : ∃ M2, M2 = nt_sI MR (pl 17) 1 (Int32.ofInt 0) := ⟨_, rfl⟩
  have k : nt_rn X 99 104 (23, [(1, .int (lb_ry r)), (0, .ref (pl 16))], [], nt_sI MR (pl 17) 1 (Int32.ofInt 0)) (some (.int y1), M1) := k
  rw [← hM2] at k
  have hB2 : ly_B pl v M2 := by
    rw [hM2]
    refine ly_B_wI (q := (7, 0, 0, 4)) hB1 rfl (by decide) (by show (0 : Int) ≤ 0 ∧ (0 : Int) ≤ 400; decide) (fun c hc => ⟨fun z => ?_, fun _ => rfl⟩)
    have l := List.all_eq_true.mp (show ly_C.all (fun c => !Nat.beq c.1.1 17) = true from by decide +kernel) c hc
    rw [z.1] at l
    cases l
  have k := ly_revb 2 (c' := (if lb_ry r = 0 then 32 else 27, [(1, .int (lb_ry r)), (0, .ref (pl 16))], [], M2)) rfl k
  rcases r with c | u
  · have hc := hne c rfl
    rw [if_neg (show ¬ lb_ry (.inl c) = 0 from hc)] at k
    have k := ly_revb 3 (c' := (31, [(1, .int (lb_ry (.inl c))), (0, .ref (pl 16))], [.int (Int32.ofInt (-2) - lb_ry (.inl c))], M2)) rfl k
    have k := lz_ri rfl (by decide) k
    exact ⟨n, _, hya, Or.inl ⟨c, rfl, hc, (lq_out k).1, by rw [(lq_out k).2]; exact ly_ref (g := 16) (j := 7) (k := 31) hB2 (List.mem_of_getElem? (i := 6) rfl)⟩⟩
  · rw [if_pos (show lb_ry (.inr u) = 0 from rfl)] at k
    obtain ⟨hub, k0, D0, hyC, hyR⟩ := hsh u rfl
    have k := ly_revb 1 (c' := (33, [(1, .int (lb_ry (.inr u))), (0, .ref (pl 16))], [.ref (pl 16)], M2)) rfl k
    have k := lz_get (a := pl 16) (g := 1008) (v := .ref (pl 48)) rfl (nt_gfR rfl (ly_ref (g := 16) (j := 8) (k := 48) hB2 (List.mem_of_getElem? (i := 7) rfl))) k
    have k := ly_revb 1 (c' := (37, [(1, .int (lb_ry (.inr u))), (0, .ref (pl 16))], [.ref (pl 16), .ref (pl 48)], M2)) rfl k
    have k := lz_get (a := pl 16) (g := 1007) (v := .ref (pl 31)) rfl (nt_gfR rfl (ly_ref (g := 16) (j := 7) (k := 31) hB2 (List.mem_of_getElem? (i := 6) rfl))) k
    have k := lz_get (a := pl 31) (g := 606) (v := .int (nt_I M2 (pl 31) 6)) rfl rfl k
    obtain ⟨d1, o1, ed, kc2, k⟩ := lz_c (g := 64) (q := 1) (vs := [.ref (pl 48), .int (nt_I M2 (pl 31) 6)]) (rest := []) rfl rfl (by decide) (Or.inr (Or.inl ⟨_, rfl, rfl⟩)) rfl k
    obtain ⟨ov, M3⟩ := o1
    have e64 := xt64 (q := fun i => pl (48 + i)) (J := nt_I M2) (zz_Qm hB2) kc2
    have en : ov = none := congrArg Prod.fst e64
    have eM3 : M3 = me_w M2 (x64 (fun i => pl (48 + i)) (nt_I M2 (pl 31) 6) (nt_I M2)) := congrArg Prod.snd e64
    subst en
    have eR : ∀ a j, nt_R M3 a j = nt_R M2 a j := fun a j => by rw [eM3]; rfl
    have hJY : yc_R (fun i => pl (45 + i)) (pl 49) u.2 D0 (nt_I M2) := by
      have q : nt_I M2 = nt_u J' (pl 17) 1 (Int32.ofInt 0) := by rw [hM2, ← iMR]; rfl
      rw [q]
      have n4 := ne 49 17 (by omega) (by omega) (by decide)
      exact ⟨⟨(me_uj n4).trans hyR.1.1, (me_uj n4).trans hyR.1.2.1, (me_uj n4).trans hyR.1.2.2.1, (me_uj n4).trans hyR.1.2.2.2.1, (me_uj n4).trans hyR.1.2.2.2.2⟩, fun i h5 h12 j => (me_uj (ne _ 17 (by omega) (by omega) (by omega))).trans (hyR.2 i h5 h12 j)⟩
    have k : nt_rn X 99 104 (46, [(1, .int (lb_ry (.inr u))), (0, .ref (pl 16))], [], M3) (some (.int y1), M1) := k
    have k := ly_revb 1 (c' := (47, [(1, .int (lb_ry (.inr u))), (0, .ref (pl 16))], [.ref (pl 16)], M3)) rfl k
    have k := lz_get (a := pl 16) (g := 1007) (v := .ref (pl 31)) rfl (nt_gfR rfl ((eR _ _).trans (ly_ref (g := 16) (j := 7) (k := 31) hB2 (List.mem_of_getElem? (i := 6) rfl)))) k
    have k := ly_revb 3 (c' := (53, [(2, .ref (pl 31)), (1, .int (lb_ry (.inr u))), (0, .ref (pl 16))], [.ref (pl 16), .ref (pl 16)], M3)) rfl k
    have k := lz_get (a := pl 16) (g := 1008) (v := .ref (pl 48)) rfl (nt_gfR rfl ((eR _ _).trans (ly_ref (g := 16) (j := 8) (k := 48) hB2 (List.mem_of_getElem? (i := 7) rfl)))) k
    have k := lz_putr rfl (by decide) k
    obtain ⟨M4, hM4⟩ : ∃ M4, M4 = nt_sR M3 (pl 16) 7 (some (pl 48)) := ⟨_, rfl⟩
    have k : nt_rn X 99 104 (59, [(2, .ref (pl 31)), (1, .int (lb_ry (.inr u))), (0, .ref (pl 16))], [], nt_sR M3 (pl 16) 7 (some (pl 48))) (some (.int y1), M1) := k
    rw [← hM4] at k
    have k := ly_revb 2 (c' := (61, [(2, .ref (pl 31)), (1, .int (lb_ry (.inr u))), (0, .ref (pl 16))], [.ref (pl 31), .ref (pl 16)], M4)) rfl k
    have k := lz_putr rfl (by decide) k
    obtain ⟨M5, hM5⟩ : ∃ M5, M5 = nt_sR M4 (pl 16) 8 (some (pl 31)) := ⟨_, rfl⟩
    have k : nt_rn X 99 104 (64, [(2, .ref (pl 31)), (1, .int (lb_ry (.inr u))), (0, .ref (pl 16))], [], nt_sR M4 (pl 16) 8 (some (pl 31))) (some (.int y1), M1) := k
    rw [← hM5] at k
    have k := ly_revb 1 (c' := (65, [(2, .ref (pl 31)), (1, .int (lb_ry (.inr u))), (0, .ref (pl 16))], [.ref (pl 16)], M5)) rfl k
    have r7 : nt_R M5 (pl 16) 7 = some (pl 48) := by rw [hM5, me_Rk (by decide), hM4, me_Rs]
    have r0 : nt_R M5 (pl 48) 0 = some (pl 49) := by
      rw [hM5, me_Ro (ne 48 16 (by omega) (by omega) (by decide)), hM4, me_Ro (ne 48 16 (by omega) (by omega) (by decide)), eR]
      exact ly_ref (g := 48) (j := 0) (k := 49) hB2 (List.mem_of_getElem? (i := 50) rfl)
    have i1 : nt_I M5 (pl 49) 1 = nI u.2.2.1 := by
      have q : nt_I M5 (pl 49) 1 = nt_I M3 (pl 49) 1 := by rw [hM5, hM4]; rfl
      rw [q, eM3]
      show x64 (fun i => pl (48 + i)) (nt_I M2 (pl 31) 6) (nt_I M2) (pl 49) 1 = _
      rw [x64_frJ (ne 49 48 (by omega) (by omega) (by decide)) (ne 49 58 (by omega) (by omega) (by decide)) (ne 49 59 (by omega) (by omega) (by decide)) (ne 49 60 (by omega) (by omega) (by decide)) (ne 49 61 (by omega) (by omega) (by decide)) (ne 49 62 (by omega) (by omega) (by decide)) (ne 49 63 (by omega) (by omega) (by decide)) (ne 49 64 (by omega) (by omega) (by decide))]
      exact hJY.1.2.1
    have k := lz_get (a := pl 16) (g := 1007) (v := .ref (pl 48)) rfl (nt_gfR rfl r7) k
    have k := lz_get (a := pl 48) (g := 600) (v := .ref (pl 49)) rfl (nt_gfR rfl r0) k
    have k := lz_get (a := pl 49) (g := 801) (v := .int (nI u.2.2.1)) rfl (congrArg Value.int i1) k
    have k := lz_ri rfl (by decide) k
    have eI : nt_I M5 = nt_I M3 := by rw [hM5, hM4]; rfl
    exact ⟨n, _, hya, Or.inr ⟨u, rfl, (lq_out k).1, by rw [(lq_out k).2]; exact r7, hub, k0, D0, hyC, nt_I M2, hJY, by rw [(lq_out k).2, eI, eM3]; rfl⟩⟩
end
