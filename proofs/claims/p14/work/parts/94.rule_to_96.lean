section
/-! clauses and rules, the other side -/
def lb_i2 (f : Nat → Int32) (t : Nat) (z : lb_Z) (r : lb_Y) : Prop := (lb_at f t (lb_W (nt_sp + 1 + 14)) z.1 ∧ ∃ k r2, lb_ma f t k 0 (Int32.ofInt 0) [] (lb_s f t (z.1 + (lb_W (nt_sp + 1 + 14)).length), z.2.1, z.2.2) r2 ∧ lb_th r2 r (fun z2 => r = .inr (z2.1, z2.2.1, (lb_e z2.2.2.1 (Int32.ofInt 23), z2.2.2.2)))) ∨ (¬ lb_at f t (lb_W (nt_sp + 1 + 14)) z.1 ∧ r = .inr (z.1, z.2.1, (lb_e z.2.2.1 (Int32.ofInt 22), z.2.2.2)))
def lb_tk (f : Nat → Int32) (t : Nat) (z : lb_Z) (r : lb_Y) : Prop := ∃ r1, lb_sum f t (lb_s f t (z.1 + (lb_W (nt_sp + 1 + 5)).length), z.2.1, z.2.2) r1 ∧ lb_th r1 r (fun z1 => lb_i2 f t z1 r)
def lb_c1 (f : Nat → Int32) (t i : Nat) (z : lb_Z) (r : lb_Y) : Prop :=
  (¬ lb_at f t (lb_W (nt_sp + 1 + 5)) z.1 ∧ r = .inl (lb_c z.1 (Int32.ofInt 0))) ∨
  (lb_at f t (lb_W (nt_sp + 1 + 5)) z.1 ∧ i = 12 ∧ r = .inl (lb_c z.1 (Int32.ofInt 4))) ∨
  (lb_at f t (lb_W (nt_sp + 1 + 5)) z.1 ∧ i < 12 ∧ lb_tk f t z r)
/-- behind a clause -/
def lb_c2 (f : Nat → Int32) (t : Nat) : Nat → Nat → lb_Z → lb_Y → Prop
  | 0, _, _, _ => False
  | k + 1, i, z, r => (lb_g f t z.1 = Int32.ofInt 59 ∧ ∃ r1, lb_c1 f t i (lb_s f t (z.1 + 1), z.2.1, z.2.2) r1 ∧ lb_th r1 r (fun z1 => lb_c2 f t k (i + 1) z1 r)) ∨ (lb_g f t z.1 = Int32.ofInt (-1) ∧ r = .inr z) ∨ (¬ lb_g f t z.1 = Int32.ofInt 59 ∧ ¬ lb_g f t z.1 = Int32.ofInt (-1) ∧ r = .inl (lb_c z.1 (Int32.ofInt 0)))
def lb_c3 (f : Nat → Int32) (t : Nat) (z : lb_Z) (r : lb_Y) : Prop := ∃ r1, lb_c1 f t 0 z r1 ∧ lb_th r1 r (fun z1 => ∃ k, lb_c2 f t k 1 z1 r)
theorem lb_if_det {f : Nat → Int32} {t : Nat} {z : lb_Z} {r r' : lb_Y} (h : lb_if f t z r) (h' : lb_i2 f t z r') : r = r' := by
  rcases h with ⟨a, k, r1, r2, h1, h2, h⟩ | ⟨a, h⟩ <;> rcases h' with ⟨a', k', r2', hm, h'⟩ | ⟨a', h'⟩
  · have e := lb_test_ma h1 h2 hm
    subst e
    rcases h with ⟨c, e1, e2⟩ | ⟨z1, e1, h⟩ <;> rcases h' with ⟨c', e1', e2'⟩ | ⟨z1', e1', h'⟩ <;> rw [e1] at e1' <;> cases e1'
    · rw [e2, e2']
    · rw [h, h']
  · exact absurd a a'
  · exact absurd a' a
  · rw [h, h']
theorem lb_cs_det {f : Nat → Int32} {t : Nat} : ∀ (k i : Nat) (z : lb_Z) (r r' r1 : lb_Y), lb_cs f t k i z r → lb_c1 f t i z r1 → lb_th r1 r' (fun z1 => ∃ k, lb_c2 f t k (i + 1) z1 r') → r = r' := by
  intro k
  induction k with
  | zero => intro i z r r' r1 h; exact h.elim
  | succ k ih =>
    intro i z r r' r1 h h1 h2
    rcases h with ⟨a, h⟩ | ⟨a, b, h⟩ | ⟨a, b, ra, hs, h⟩ <;> rcases h1 with ⟨a', h1⟩ | ⟨a', b', h1⟩ | ⟨a', b', ra', hs', h1⟩
    · subst h1
      rcases h2 with ⟨c, e1, e2⟩ | ⟨z1, e1, _⟩ <;> cases e1
      rw [h, e2]
    · exact absurd a' a
    · exact absurd a' a
    · exact absurd a a'
    · subst h1
      rcases h2 with ⟨c, e1, e2⟩ | ⟨z1, e1, _⟩ <;> cases e1
      rw [h, e2]
    · omega
    · exact absurd a a'
    · omega
    · have e := lb_sum_det hs hs'
      subst e
      rcases h with ⟨c, e1, e2⟩ | ⟨z1, e1, rb, hi, h⟩ <;> rcases h1 with ⟨c', e1', e2'⟩ | ⟨z1', e1', h1⟩ <;> rw [e1] at e1' <;> cases e1'
      · subst e2'
        rcases h2 with ⟨c2, e3, e4⟩ | ⟨z1, e3, _⟩ <;> cases e3
        rw [e2, e4]
      · have e := lb_if_det hi h1
        subst e
        rcases h with ⟨c, e2, e3⟩ | ⟨z2, e2, h⟩ <;> rcases h2 with ⟨c', e2', e3'⟩ | ⟨z2', e2', k2, h2⟩ <;> rw [e2] at e2' <;> cases e2'
        · rw [e3, e3']
        · cases k2 with
          | zero => exact h2.elim
          | succ k2 =>
            rcases h with ⟨g, h⟩ | ⟨g, h⟩ | ⟨g, g2, h⟩ <;> rcases h2 with ⟨g', rc, h3, h2⟩ | ⟨g', h2⟩ | ⟨g', g2', h2⟩
            · exact ih _ _ _ _ _ h h3 (lb_th_up (fun z1 q => ⟨k2, q⟩) h2)
            · rw [g] at g'; exact absurd g' (by decide)
            · exact absurd g g'
            · rw [g] at g'; exact absurd g' (by decide)
            · rw [h, h2]
            · exact absurd g g2'
            · exact absurd g' g
            · exact absurd g' g2
            · rw [h, h2]
def md_K (M : nt_M) (B Tb Sg Ln Cl Cs : Nat) : Prop := nt_R M B 5 = some Cl ∧ nt_R M B 6 = some Cs ∧ (Cl ≠ B ∧ Cl ≠ Tb ∧ Cl ≠ Sg ∧ Cl ≠ Ln) ∧ (Cs ≠ B ∧ Cs ≠ Tb ∧ Cs ≠ Sg ∧ Cs ≠ Ln) ∧ Cl ≠ nt_sp ∧ Cs ≠ nt_sp
def md_V (J0 : Nat → Nat → Int32) (B Sg Ln Op Cl Cs x q : Nat) (wr : Int32) (m : Nat) (e : Nat × (Nat → Int32)) (li : Nat) (J : Nat → Nat → Int32) : Prop := md_S J B Sg Ln x q wr m e J ∧ ((∀ i, i ≠ 15 → i ≠ 16 → i ≠ 17 → i ≠ 19 → i ≠ 20 → i ≠ 21 → i ≠ 23 → J B i = J0 B i) ∧ (∀ a, a ≠ B → a ≠ Sg → a ≠ Ln → a ≠ Op → a ≠ Cl → a ≠ Cs → J a = J0 a)) ∧ J B 21 = nI li ∧ li ≤ 12
theorem md_VP {M : nt_M} {J0 J : Nat → Nat → Int32} {f : Nat → Int32} {t x B Tb Sg Ln Op Cl Cs q m li : Nat} {wr : Int32} {e : Nat × (Nat → Int32)} (hP : md_P M J0 f t x B Tb Sg Ln) (hO : md_O M B Tb Sg Ln Op) (hK : md_K M B Tb Sg Ln Cl Cs) (hV : md_V J0 B Sg Ln Op Cl Cs x q wr m e li J) : md_P M J f t x B Tb Sg Ln := by
  obtain ⟨p1, p2, p3, p4, p5, p6⟩ := hP
  obtain ⟨_, ⟨fB, fA⟩, _⟩ := hV
  refine ⟨p1, p2, (fB 1 (by decide) (by decide) (by decide) (by decide) (by decide) (by decide) (by decide)).trans p3, (fB 18 (by decide) (by decide) (by decide) (by decide) (by decide) (by decide) (by decide)).trans p4, fun j => ?_, p6⟩
  rw [fA Tb p2.1 p2.2.1 p2.2.2.1 (Ne.symm hO.2.1.2.1) (Ne.symm hK.2.2.1.2.1) (Ne.symm hK.2.2.2.1.2.1)]
  exact p5 j
theorem md_Vup {M : nt_M} {J0 J : Nat → Nat → Int32} {f : Nat → Int32} {t x B Tb Sg Ln Op Cl Cs q m li : Nat} {wr : Int32} {e : Nat × (Nat → Int32)} (hP : md_P M J0 f t x B Tb Sg Ln) (hO : md_O M B Tb Sg Ln Op) (hK : md_K M B Tb Sg Ln Cl Cs) (hV : md_V J0 B Sg Ln Op Cl Cs x q wr m e li J) {J' : Nat → Nat → Int32} {q' m' : Nat} {wr' : Int32} {e' : Nat × (Nat → Int32)} (hS : md_S J B Sg Ln x q' wr' m' e' J') : md_V J0 B Sg Ln Op Cl Cs x q' wr' m' e' li J' := by
  obtain ⟨h1, ⟨fB, fA⟩, t1, t2⟩ := hV
  have b1 := hS.2.2.2.2.2.1
  have b2 := hS.2.2.2.2.2.2.1
  exact ⟨md_Sself hS, ⟨fun i q1 q2 q3 q4 q5 q6 q7 => (b1 i q1 q2 q3 q4).trans (fB i q1 q2 q3 q4 q5 q6 q7), fun a q1 q2 q3 q4 q5 q6 => (b2 a q1 q2 q3).trans (fA a q1 q2 q3 q4 q5 q6)⟩, (b1 21 (by decide) (by decide) (by decide) (by decide)).trans t1, t2⟩
theorem md_Vte {M : nt_M} {J0 J : Nat → Nat → Int32} {f : Nat → Int32} {t x B Tb Sg Ln Op Cl Cs q m li : Nat} {wr : Int32} {e : Nat × (Nat → Int32)} (hP : md_P M J0 f t x B Tb Sg Ln) (hO : md_O M B Tb Sg Ln Op) (hK : md_K M B Tb Sg Ln Cl Cs) (hV : md_V J0 B Sg Ln Op Cl Cs x q wr m e li J) {J' : Nat → Nat → Int32} {q' m' : Nat} {wr' dd : Int32} {S : List Int32} {e' : Nat × (Nat → Int32)} (hT : md_T J B Sg Ln Op x q' wr' m' e' dd S J') : md_V J0 B Sg Ln Op Cl Cs x q' wr' m' e' li J' := by
  obtain ⟨h1, ⟨fB, fA⟩, t1, t2⟩ := hV
  obtain ⟨s1, ⟨b1, b2⟩, _⟩ := hT
  exact ⟨s1, ⟨fun i q1 q2 q3 q4 q5 q6 q7 => (b1 i q1 q2 q3 q4 q5 q7).trans (fB i q1 q2 q3 q4 q5 q6 q7), fun a q1 q2 q3 q4 q5 q6 => (b2 a q1 q2 q3 q4).trans (fA a q1 q2 q3 q4 q5 q6)⟩, (b1 21 (by decide) (by decide) (by decide) (by decide) (by decide) (by decide)).trans t1, t2⟩
theorem md_Vcl {M : nt_M} {J0 J : Nat → Nat → Int32} {f : Nat → Int32} {t x B Tb Sg Ln Op Cl Cs q m li : Nat} {wr : Int32} {e : Nat × (Nat → Int32)} {i : Nat} {v : Int32} (hP : md_P M J0 f t x B Tb Sg Ln) (hO : md_O M B Tb Sg Ln Op) (hK : md_K M B Tb Sg Ln Cl Cs) (hV : md_V J0 B Sg Ln Op Cl Cs x q wr m e li J) : md_V J0 B Sg Ln Op Cl Cs x q wr m e li (nt_u J Cl i v) := by
  obtain ⟨⟨a1, a2, a3, a4, a5, a6, a7, a8⟩, ⟨fB, fA⟩, t1, t2⟩ := hV
  have c1 := hK.2.2.1.1
  have c3 := hK.2.2.1.2.2.1
  have c4 := hK.2.2.1.2.2.2
  exact ⟨⟨(me_uj (Ne.symm c1)).trans a1, (me_uj (Ne.symm c1)).trans a2, (me_uj (Ne.symm c1)).trans a3, (me_uj (Ne.symm c4)).trans a4, fun j hj => (me_uj (Ne.symm c3)).trans (a5 j hj), fun _ _ _ _ _ => rfl, fun _ _ _ _ => rfl, a8⟩, ⟨fun i q1 q2 q3 q4 q5 q6 q7 => (me_uj (Ne.symm c1)).trans (fB i q1 q2 q3 q4 q5 q6 q7), fun a q1 q2 q3 q4 q5 q6 => (me_uo q5).trans (fA a q1 q2 q3 q4 q5 q6)⟩, (me_uj (Ne.symm c1)).trans t1, t2⟩
theorem md_Vcs {M : nt_M} {J0 J : Nat → Nat → Int32} {f : Nat → Int32} {t x B Tb Sg Ln Op Cl Cs q m li : Nat} {wr : Int32} {e : Nat × (Nat → Int32)} {i : Nat} {v : Int32} (hP : md_P M J0 f t x B Tb Sg Ln) (hO : md_O M B Tb Sg Ln Op) (hK : md_K M B Tb Sg Ln Cl Cs) (hV : md_V J0 B Sg Ln Op Cl Cs x q wr m e li J) : md_V J0 B Sg Ln Op Cl Cs x q wr m e li (nt_u J Cs i v) := by
  obtain ⟨⟨a1, a2, a3, a4, a5, a6, a7, a8⟩, ⟨fB, fA⟩, t1, t2⟩ := hV
  have c1 := hK.2.2.2.1.1
  have c3 := hK.2.2.2.1.2.2.1
  have c4 := hK.2.2.2.1.2.2.2
  exact ⟨⟨(me_uj (Ne.symm c1)).trans a1, (me_uj (Ne.symm c1)).trans a2, (me_uj (Ne.symm c1)).trans a3, (me_uj (Ne.symm c4)).trans a4, fun j hj => (me_uj (Ne.symm c3)).trans (a5 j hj), fun _ _ _ _ _ => rfl, fun _ _ _ _ => rfl, a8⟩, ⟨fun i q1 q2 q3 q4 q5 q6 q7 => (me_uj (Ne.symm c1)).trans (fB i q1 q2 q3 q4 q5 q6 q7), fun a q1 q2 q3 q4 q5 q6 => (me_uo q6).trans (fA a q1 q2 q3 q4 q5 q6)⟩, (me_uj (Ne.symm c1)).trans t1, t2⟩
theorem md_Vli {M : nt_M} {J0 J : Nat → Nat → Int32} {f : Nat → Int32} {t x B Tb Sg Ln Op Cl Cs q m li : Nat} {wr : Int32} {e : Nat × (Nat → Int32)} {y : Nat} (hP : md_P M J0 f t x B Tb Sg Ln) (hO : md_O M B Tb Sg Ln Op) (hK : md_K M B Tb Sg Ln Cl Cs) (hV : md_V J0 B Sg Ln Op Cl Cs x q wr m e li J) (hy : y ≤ 12) : md_V J0 B Sg Ln Op Cl Cs x q wr m e y (nt_u J B 21 (nI y)) := by
  obtain ⟨⟨a1, a2, a3, a4, a5, a6, a7, a8⟩, ⟨fB, fA⟩, t1, t2⟩ := hV
  have n1 := hP.2.1.2.2.2.1
  have n2 := hP.2.1.2.2.2.2.1
  exact ⟨⟨(me_uk (by decide)).trans a1, (me_uk (by decide)).trans a2, (me_uk (by decide)).trans a3, (me_uj (Ne.symm n2)).trans a4, fun j hj => (me_uj (Ne.symm n1)).trans (a5 j hj), fun _ _ _ _ _ => rfl, fun _ _ _ _ => rfl, a8⟩, ⟨fun i q1 q2 q3 q4 q5 q6 q7 => (me_uk q6).trans (fB i q1 q2 q3 q4 q5 q6 q7), fun a q1 q2 q3 q4 q5 q6 => (me_uo q1).trans (fA a q1 q2 q3 q4 q5 q6)⟩, me_us, hy⟩
theorem me_iastx {X : nt_X} {d mi pc a g t : Nat} {ls : nt_V} {st : List Value} {M : nt_M} {J : Nat → Nat → Int32} {o : Option Value × nt_M} {i x : Int32} (hat : nt_at mi pc = some (pc, .iastore, g, t)) (k : nt_rn X d mi (pc, ls, .int x :: .int i :: .ref a :: st, me_w M J) o) : nt_rn X d mi (pc + 1, ls, st, me_w M (nt_u J a i.toNatClampNeg x)) o := lz_iast hat k
def md_QV (J0 : Nat → Nat → Int32) (B Sg Ln Op Cl Cs x t li li' : Nat) (f : Nat → Int32) (r : lb_Y) (a : Int32) (J : Nat → Nat → Int32) : Prop := match r with
  | .inl c => c ≠ 0 ∧ a = Int32.ofInt 0 ∧ ∃ q m e l, md_V J0 B Sg Ln Op Cl Cs x q c m e l J ∧ q ≤ t
  | .inr z => a = Int32.ofInt 1 ∧ ∃ q, lb_s f t q = z.1 ∧ q ≤ t ∧ md_V J0 B Sg Ln Op Cl Cs x q 0 z.2.1 z.2.2.2 li' J
theorem md_takes {X : nt_X} {d t x B Tb Sg Ln q m : Nat} {f : Nat → Int32} {M : nt_M} {J0 J : Nat → Nat → Int32} {o : Option Value × nt_M} {wr : Int32} {e : Nat × (Nat → Int32)} {w : Int64} (hP : md_P M J0 f t x B Tb Sg Ln) (hS : md_S J0 B Sg Ln x q wr m e J) (hp : q ≤ t) (k : nt_ev X d 157 [.ref B, .long w] (me_w M J) o) : (lb_iw f t (lb_s f t q) w ∧ o = (some (.int (Int32.ofInt 1)), me_w M (nt_u J B 15 (nI (lb_s f t q + lb_l f t (lb_s f t q)))))) ∨ (¬ lb_iw f t (lb_s f t q) w ∧ o = (some (.int (Int32.ofInt 0)), me_w M (nt_u J B 15 (nI (lb_s f t q))))) := by
  have k : nt_rn X d 157 (0, [(0, .ref B), (1, .long (w))], [], me_w M J) o := k
  have t4 : t ≤ 400 := hP.2.2.2.2.2.1
  have k := ly_revb 2 (c' := (2, [(0, .ref B), (1, .long (w))], [.long (w), .ref B], me_w M J)) rfl k
  obtain ⟨d1, o1, ed, kc, k⟩ := lz_c (g := 137) (q := 1) (vs := [.ref B, .long (w)]) (rest := []) rfl rfl (by decide) (Or.inr (Or.inl ⟨_, rfl, rfl⟩)) rfl k
  obtain ⟨r, e1, hr⟩ := md_isWord hP hS hp kc
  subst e1
  rcases hr with ⟨rfl, hr⟩ | ⟨rfl, hr⟩
  · have hS1 := md_Sq (y := lb_s f t q) hP hS
    have hp1 : lb_s f t q ≤ t := (lb_s_le (t - q) q (by omega)).2
    have k : nt_rn X _ 157 (5, [(0, .ref B), (1, .long (w))], [.int (Int32.ofInt 1)], me_w M (nt_u J B 15 (nI (lb_s f t q)))) _ := k
    have k := ly_revb 1 (c' := (if (Int32.ofInt 1) = 0 then 8 else 10, [(0, .ref B), (1, .long (w))], [], me_w M (nt_u J B 15 (nI (lb_s f t q))))) rfl k
    rw [if_neg (show ¬ ((Int32.ofInt 1) = 0) from by decide)] at k
    have k := ly_revb 1 (c' := (11, [(0, .ref B), (1, .long (w))], [.ref B], me_w M (nt_u J B 15 (nI (lb_s f t q))))) rfl k
    obtain ⟨d1, o1, ed, kc, k⟩ := lz_c (g := 142) (q := 1) (vs := [.ref B]) (rest := []) rfl rfl (by decide) (Or.inr (Or.inl ⟨_, rfl, rfl⟩)) rfl k
    have e1 := md_pass hP hS1 hp1 kc
    rw [me_uu] at e1
    subst e1
    have k : nt_rn X _ 157 (14, [(0, .ref B), (1, .long (w))], [], me_w M (nt_u J B 15 (nI (lb_s f t q + lb_l f t (lb_s f t q))))) _ := k
    have k := ly_revb 1 (c' := (15, [(0, .ref B), (1, .long (w))], [.int (Int32.ofInt 1)], me_w M (nt_u J B 15 (nI (lb_s f t q + lb_l f t (lb_s f t q)))))) rfl k
    have k := lz_ri rfl (by decide) k
    exact Or.inl ⟨hr, k⟩
  · have hS1 := md_Sq (y := lb_s f t q) hP hS
    have hp1 : lb_s f t q ≤ t := (lb_s_le (t - q) q (by omega)).2
    have k : nt_rn X _ 157 (5, [(0, .ref B), (1, .long (w))], [.int (Int32.ofInt 0)], me_w M (nt_u J B 15 (nI (lb_s f t q)))) _ := k
    have k := ly_revb 1 (c' := (if (Int32.ofInt 0) = 0 then 8 else 10, [(0, .ref B), (1, .long (w))], [], me_w M (nt_u J B 15 (nI (lb_s f t q))))) rfl k
    rw [if_pos (show (Int32.ofInt 0) = 0 from by decide)] at k
    have k := ly_revb 1 (c' := (9, [(0, .ref B), (1, .long (w))], [.int (Int32.ofInt 0)], me_w M (nt_u J B 15 (nI (lb_s f t q))))) rfl k
    have k := lz_ri rfl (by decide) k
    exact Or.inr ⟨hr, k⟩
theorem md_take {X : nt_X} {d t x B Tb Sg Ln Op Cl Cs q m li : Nat} {f : Nat → Int32} {M : nt_M} {J0 J : Nat → Nat → Int32} {o : Option Value × nt_M} {e : lb_E} (hP : md_P M J0 f t x B Tb Sg Ln) (hO : md_O M B Tb Sg Ln Op) (hK : md_K M B Tb Sg Ln Cl Cs) (hB : lb_by f t) (hV : md_V J0 B Sg Ln Op Cl Cs x q 0 m e.2 li J) (hp : q ≤ t) (hat : lb_at f t (lb_W (nt_sp + 1 + 5)) q) (k : nt_ev X d 150 [.ref B] (me_w M J) o) : ∃ r a J', o = (some (.int a), me_w M J') ∧ lb_tk f t (q, m, e) r ∧ md_QV J0 B Sg Ln Op Cl Cs x t 0 li f r a J' := by
  have k : nt_rn X d 150 (0, [(0, .ref B)], [], me_w M J) o := k
  have t4 : t ≤ 400 := hP.2.2.2.2.2.1
  have x6 : x ≤ 6 := hP.2.2.2.2.2.2.1
  have k := ly_revb 1 (c' := (1, [(0, .ref B)], [.ref B], me_w M J)) rfl k
  obtain ⟨d1, o1, ed, kc, k⟩ := lz_c (g := 142) (q := 1) (vs := [.ref B]) (rest := []) rfl rfl (by decide) (Or.inr (Or.inl ⟨_, rfl, rfl⟩)) rfl k
  have e1 := md_pass (md_VP hP hO hK hV) hV.1 hp kc
  rw [lb_at_l hat] at e1
  subst e1
  have hV1 := md_Vup hP hO hK hV (md_Sq (y := q + (lb_W (nt_sp + 1 + 5)).length) (md_VP hP hO hK hV) hV.1)
  have hp1 : q + (lb_W (nt_sp + 1 + 5)).length ≤ t := hat.1
  have k : nt_rn X _ 150 (4, [(0, .ref B)], [], me_w M (nt_u J B 15 (nI (q + (lb_W (nt_sp + 1 + 5)).length)))) _ := k
  have k := ly_revb 2 (c' := (7, [(0, .ref B)], [.ref B, .int (Int32.ofInt 48)], me_w M (nt_u J B 15 (nI (q + (lb_W (nt_sp + 1 + 5)).length))))) rfl k
  have k := lz_get (a := B) (g := 1118) (M := me_w M (nt_u J B 15 (nI (q + (lb_W (nt_sp + 1 + 5)).length)))) (v := .int (nI x)) rfl (congrArg Value.int (md_x (md_VP hP hO hK hV1) hV1.1)) k
  have k := ly_revb 3 (c' := (13, [(0, .ref B)], [.ref B, .int (Int32.ofInt 4), .int ((Int32.ofInt 48) * (nI x))], me_w M (nt_u J B 15 (nI (q + (lb_W (nt_sp + 1 + 5)).length))))) rfl k
  have k := lz_get (a := B) (g := 1106) (M := me_w M (nt_u J B 15 (nI (q + (lb_W (nt_sp + 1 + 5)).length)))) (v := .ref Cs) rfl (nt_gfR rfl hK.2.1) k
  have k := ly_revb 1 (c' := (17, [(0, .ref B)], [.ref B, .ref Cs, .int (Int32.ofInt 4), .int ((Int32.ofInt 48) * (nI x))], me_w M (nt_u J B 15 (nI (q + (lb_W (nt_sp + 1 + 5)).length))))) rfl k
  have k := lz_get (a := B) (g := 1118) (M := me_w M (nt_u J B 15 (nI (q + (lb_W (nt_sp + 1 + 5)).length)))) (v := .int (nI x)) rfl (congrArg Value.int (md_x (md_VP hP hO hK hV1) hV1.1)) k
  have k := me_iald (q := x) (v := (nt_u J B 15 (nI (q + (lb_W (nt_sp + 1 + 5)).length))) Cs x) rfl (hK.2.2.2.2.2) (rfl) (by omega) (rfl) k
  have k := ly_revb 4 (c' := (25, [(1, .int (((Int32.ofInt 48) * (nI x)) + ((Int32.ofInt 4) * ((nt_u J B 15 (nI (q + (lb_W (nt_sp + 1 + 5)).length))) Cs x)))), (0, .ref B)], [.ref B], me_w M (nt_u J B 15 (nI (q + (lb_W (nt_sp + 1 + 5)).length))))) rfl k
  have k := lz_get (a := B) (g := 1105) (M := me_w M (nt_u J B 15 (nI (q + (lb_W (nt_sp + 1 + 5)).length)))) (v := .ref Cl) rfl (nt_gfR rfl hK.1) k
  have k := ly_revb 2 (c' := (30, [(1, .int (((Int32.ofInt 48) * (nI x)) + ((Int32.ofInt 4) * ((nt_u J B 15 (nI (q + (lb_W (nt_sp + 1 + 5)).length))) Cs x)))), (0, .ref B)], [.ref B, .int (((Int32.ofInt 48) * (nI x)) + ((Int32.ofInt 4) * ((nt_u J B 15 (nI (q + (lb_W (nt_sp + 1 + 5)).length))) Cs x))), .ref Cl], me_w M (nt_u J B 15 (nI (q + (lb_W (nt_sp + 1 + 5)).length))))) rfl k
  have k := lz_get (a := B) (g := 1104) (M := me_w M (nt_u J B 15 (nI (q + (lb_W (nt_sp + 1 + 5)).length)))) (v := .ref Ln) rfl (nt_gfR rfl hP.1.2.2) k
  have k := ly_revb 1 (c' := (34, [(1, .int (((Int32.ofInt 48) * (nI x)) + ((Int32.ofInt 4) * ((nt_u J B 15 (nI (q + (lb_W (nt_sp + 1 + 5)).length))) Cs x)))), (0, .ref B)], [.ref B, .ref Ln, .int (((Int32.ofInt 48) * (nI x)) + ((Int32.ofInt 4) * ((nt_u J B 15 (nI (q + (lb_W (nt_sp + 1 + 5)).length))) Cs x))), .ref Cl], me_w M (nt_u J B 15 (nI (q + (lb_W (nt_sp + 1 + 5)).length))))) rfl k
  have k := lz_get (a := B) (g := 1118) (M := me_w M (nt_u J B 15 (nI (q + (lb_W (nt_sp + 1 + 5)).length)))) (v := .int (nI x)) rfl (congrArg Value.int (md_x (md_VP hP hO hK hV1) hV1.1)) k
  have k := me_iald (q := x) (v := nI e.2.1) rfl (hP.2.2.2.2.2.2.2.2.2) (rfl) (by omega) (hV1.1.2.2.2.1) k
  have k := me_iastx rfl k
  have hV2 := md_Vcl (i := (((Int32.ofInt 48) * (nI x)) + ((Int32.ofInt 4) * ((nt_u J B 15 (nI (q + (lb_W (nt_sp + 1 + 5)).length))) Cs x))).toNatClampNeg) (v := nI e.2.1) hP hO hK hV1
  have k : nt_rn X _ 150 (39, [(1, .int (((Int32.ofInt 48) * (nI x)) + ((Int32.ofInt 4) * ((nt_u J B 15 (nI (q + (lb_W (nt_sp + 1 + 5)).length))) Cs x)))), (0, .ref B)], [], me_w M (nt_u (nt_u J B 15 (nI (q + (lb_W (nt_sp + 1 + 5)).length))) Cl (((Int32.ofInt 48) * (nI x)) + ((Int32.ofInt 4) * ((nt_u J B 15 (nI (q + (lb_W (nt_sp + 1 + 5)).length))) Cs x))).toNatClampNeg (nI e.2.1))) _ := k
  have k := ly_revb 1 (c' := (40, [(1, .int (((Int32.ofInt 48) * (nI x)) + ((Int32.ofInt 4) * ((nt_u J B 15 (nI (q + (lb_W (nt_sp + 1 + 5)).length))) Cs x)))), (0, .ref B)], [.ref B], me_w M (nt_u (nt_u J B 15 (nI (q + (lb_W (nt_sp + 1 + 5)).length))) Cl (((Int32.ofInt 48) * (nI x)) + ((Int32.ofInt 4) * ((nt_u J B 15 (nI (q + (lb_W (nt_sp + 1 + 5)).length))) Cs x))).toNatClampNeg (nI e.2.1)))) rfl k
  obtain ⟨d1, o1, ed, kc, k⟩ := lz_c (g := 151) (q := 1) (vs := [.ref B]) (rest := []) rfl rfl (by decide) (Or.inr (Or.inl ⟨_, rfl, rfl⟩)) rfl k
  obtain ⟨r1, a1, J4, e1, hv1, hQ⟩ := md_sum (s0 := e.1) (md_VP hP hO hK hV2) hB hV2.1 hp1 kc
  subst e1
  rcases r1 with c | z1
  · obtain ⟨hc, rfl, q4, m4, e4, hS4, hq4⟩ := hQ
    have hV9 := md_Vup hP hO hK hV2 hS4
    have k : nt_rn X _ 150 (43, [(1, .int (((Int32.ofInt 48) * (nI x)) + ((Int32.ofInt 4) * ((nt_u J B 15 (nI (q + (lb_W (nt_sp + 1 + 5)).length))) Cs x)))), (0, .ref B)], [.int (Int32.ofInt 0)], me_w M J4) _ := k
    have k := ly_revb 1 (c' := (if (Int32.ofInt 0) = 0 then 46 else 48, [(1, .int (((Int32.ofInt 48) * (nI x)) + ((Int32.ofInt 4) * ((nt_u J B 15 (nI (q + (lb_W (nt_sp + 1 + 5)).length))) Cs x)))), (0, .ref B)], [], me_w M J4)) rfl k
    rw [if_pos (show (Int32.ofInt 0) = 0 from by decide)] at k
    have k := ly_revb 1 (c' := (47, [(1, .int (((Int32.ofInt 48) * (nI x)) + ((Int32.ofInt 4) * ((nt_u J B 15 (nI (q + (lb_W (nt_sp + 1 + 5)).length))) Cs x)))), (0, .ref B)], [.int (Int32.ofInt 0)], me_w M J4)) rfl k
    have k := lz_ri rfl (by decide) k
    exact ⟨.inl c, _, _, k, ⟨_, hv1, Or.inl ⟨c, rfl, rfl⟩⟩, hc, rfl, _, _, _, _, hV9, hq4⟩
  · obtain ⟨rfl, q4, hz4, hq4, hS4⟩ := hQ
    have hV20 := md_Vup hP hO hK hV2 hS4
    have k : nt_rn X _ 150 (43, [(1, .int (((Int32.ofInt 48) * (nI x)) + ((Int32.ofInt 4) * ((nt_u J B 15 (nI (q + (lb_W (nt_sp + 1 + 5)).length))) Cs x)))), (0, .ref B)], [.int (Int32.ofInt 1)], me_w M J4) _ := k
    have k := ly_revb 1 (c' := (if (Int32.ofInt 1) = 0 then 46 else 48, [(1, .int (((Int32.ofInt 48) * (nI x)) + ((Int32.ofInt 4) * ((nt_u J B 15 (nI (q + (lb_W (nt_sp + 1 + 5)).length))) Cs x)))), (0, .ref B)], [], me_w M J4)) rfl k
    rw [if_neg (show ¬ ((Int32.ofInt 1) = 0) from by decide)] at k
    have k := ly_revb 1 (c' := (49, [(1, .int (((Int32.ofInt 48) * (nI x)) + ((Int32.ofInt 4) * ((nt_u J B 15 (nI (q + (lb_W (nt_sp + 1 + 5)).length))) Cs x)))), (0, .ref B)], [.ref B], me_w M J4)) rfl k
    have k := lz_get (a := B) (g := 1105) (M := me_w M J4) (v := .ref Cl) rfl (nt_gfR rfl hK.1) k
    have k := ly_revb 4 (c' := (56, [(1, .int (((Int32.ofInt 48) * (nI x)) + ((Int32.ofInt 4) * ((nt_u J B 15 (nI (q + (lb_W (nt_sp + 1 + 5)).length))) Cs x)))), (0, .ref B)], [.ref B, .int ((((Int32.ofInt 48) * (nI x)) + ((Int32.ofInt 4) * ((nt_u J B 15 (nI (q + (lb_W (nt_sp + 1 + 5)).length))) Cs x))) + (Int32.ofInt 1)), .ref Cl], me_w M J4)) rfl k
    have k := lz_get (a := B) (g := 1104) (M := me_w M J4) (v := .ref Ln) rfl (nt_gfR rfl hP.1.2.2) k
    have k := ly_revb 1 (c' := (60, [(1, .int (((Int32.ofInt 48) * (nI x)) + ((Int32.ofInt 4) * ((nt_u J B 15 (nI (q + (lb_W (nt_sp + 1 + 5)).length))) Cs x)))), (0, .ref B)], [.ref B, .ref Ln, .int ((((Int32.ofInt 48) * (nI x)) + ((Int32.ofInt 4) * ((nt_u J B 15 (nI (q + (lb_W (nt_sp + 1 + 5)).length))) Cs x))) + (Int32.ofInt 1)), .ref Cl], me_w M J4)) rfl k
    have k := lz_get (a := B) (g := 1118) (M := me_w M J4) (v := .int (nI x)) rfl (congrArg Value.int (md_x (md_VP hP hO hK hV20) hV20.1)) k
    have k := me_iald (q := x) (v := nI z1.2.2.2.1) rfl (hP.2.2.2.2.2.2.2.2.2) (rfl) (by omega) (hV20.1.2.2.2.1) k
    have k := me_iastx rfl k
    have hV21 := md_Vcl (i := ((((Int32.ofInt 48) * (nI x)) + ((Int32.ofInt 4) * ((nt_u J B 15 (nI (q + (lb_W (nt_sp + 1 + 5)).length))) Cs x))) + (Int32.ofInt 1)).toNatClampNeg) (v := nI z1.2.2.2.1) hP hO hK hV20
    have k : nt_rn X _ 150 (65, [(1, .int (((Int32.ofInt 48) * (nI x)) + ((Int32.ofInt 4) * ((nt_u J B 15 (nI (q + (lb_W (nt_sp + 1 + 5)).length))) Cs x)))), (0, .ref B)], [], me_w M (nt_u J4 Cl ((((Int32.ofInt 48) * (nI x)) + ((Int32.ofInt 4) * ((nt_u J B 15 (nI (q + (lb_W (nt_sp + 1 + 5)).length))) Cs x))) + (Int32.ofInt 1)).toNatClampNeg (nI z1.2.2.2.1))) _ := k
    have k := ly_revb 1 (c' := (66, [(1, .int (((Int32.ofInt 48) * (nI x)) + ((Int32.ofInt 4) * ((nt_u J B 15 (nI (q + (lb_W (nt_sp + 1 + 5)).length))) Cs x)))), (0, .ref B)], [.ref B], me_w M (nt_u J4 Cl ((((Int32.ofInt 48) * (nI x)) + ((Int32.ofInt 4) * ((nt_u J B 15 (nI (q + (lb_W (nt_sp + 1 + 5)).length))) Cs x))) + (Int32.ofInt 1)).toNatClampNeg (nI z1.2.2.2.1)))) rfl k
    have k := lz_get (a := B) (g := 1105) (M := me_w M (nt_u J4 Cl ((((Int32.ofInt 48) * (nI x)) + ((Int32.ofInt 4) * ((nt_u J B 15 (nI (q + (lb_W (nt_sp + 1 + 5)).length))) Cs x))) + (Int32.ofInt 1)).toNatClampNeg (nI z1.2.2.2.1))) (v := .ref Cl) rfl (nt_gfR rfl hK.1) k
    have k := ly_revb 4 (c' := (73, [(1, .int (((Int32.ofInt 48) * (nI x)) + ((Int32.ofInt 4) * ((nt_u J B 15 (nI (q + (lb_W (nt_sp + 1 + 5)).length))) Cs x)))), (0, .ref B)], [.int (Int32.ofInt (-1)), .int ((((Int32.ofInt 48) * (nI x)) + ((Int32.ofInt 4) * ((nt_u J B 15 (nI (q + (lb_W (nt_sp + 1 + 5)).length))) Cs x))) + (Int32.ofInt 2)), .ref Cl], me_w M (nt_u J4 Cl ((((Int32.ofInt 48) * (nI x)) + ((Int32.ofInt 4) * ((nt_u J B 15 (nI (q + (lb_W (nt_sp + 1 + 5)).length))) Cs x))) + (Int32.ofInt 1)).toNatClampNeg (nI z1.2.2.2.1)))) rfl k
    have k := me_iastx rfl k
    have hV22 := md_Vcl (i := ((((Int32.ofInt 48) * (nI x)) + ((Int32.ofInt 4) * ((nt_u J B 15 (nI (q + (lb_W (nt_sp + 1 + 5)).length))) Cs x))) + (Int32.ofInt 2)).toNatClampNeg) (v := Int32.ofInt (-1)) hP hO hK hV21
    have k : nt_rn X _ 150 (74, [(1, .int (((Int32.ofInt 48) * (nI x)) + ((Int32.ofInt 4) * ((nt_u J B 15 (nI (q + (lb_W (nt_sp + 1 + 5)).length))) Cs x)))), (0, .ref B)], [], me_w M (nt_u (nt_u J4 Cl ((((Int32.ofInt 48) * (nI x)) + ((Int32.ofInt 4) * ((nt_u J B 15 (nI (q + (lb_W (nt_sp + 1 + 5)).length))) Cs x))) + (Int32.ofInt 1)).toNatClampNeg (nI z1.2.2.2.1)) Cl ((((Int32.ofInt 48) * (nI x)) + ((Int32.ofInt 4) * ((nt_u J B 15 (nI (q + (lb_W (nt_sp + 1 + 5)).length))) Cs x))) + (Int32.ofInt 2)).toNatClampNeg (Int32.ofInt (-1)))) _ := k
    have k := ly_revb 2 (c' := (78, [(1, .int (((Int32.ofInt 48) * (nI x)) + ((Int32.ofInt 4) * ((nt_u J B 15 (nI (q + (lb_W (nt_sp + 1 + 5)).length))) Cs x)))), (0, .ref B)], [.long (26982), .ref B], me_w M (nt_u (nt_u J4 Cl ((((Int32.ofInt 48) * (nI x)) + ((Int32.ofInt 4) * ((nt_u J B 15 (nI (q + (lb_W (nt_sp + 1 + 5)).length))) Cs x))) + (Int32.ofInt 1)).toNatClampNeg (nI z1.2.2.2.1)) Cl ((((Int32.ofInt 48) * (nI x)) + ((Int32.ofInt 4) * ((nt_u J B 15 (nI (q + (lb_W (nt_sp + 1 + 5)).length))) Cs x))) + (Int32.ofInt 2)).toNatClampNeg (Int32.ofInt (-1))))) rfl k
    obtain ⟨d1, o1, ed, kc, k⟩ := lz_c (g := 157) (q := 1) (vs := [.ref B, .long (26982)]) (rest := []) rfl rfl (by decide) (Or.inr (Or.inl ⟨_, rfl, rfl⟩)) rfl k
    have ht := md_takes (md_VP hP hO hK hV22) hV22.1 hq4 kc
    rw [hz4, lb_w_if] at ht
    have hz1t : z1.1 ≤ t := by rw [← hz4]; exact (lb_s_le (t - q4) q4 (by omega)).2
    rcases ht with ⟨hi, e1⟩ | ⟨hi, e1⟩
    · rw [lb_at_l hi] at e1
      subst e1
      have hV30 := md_Vup hP hO hK hV22 (md_Sq (y := z1.1 + (lb_W (nt_sp + 1 + 14)).length) (md_VP hP hO hK hV22) hV22.1)
      have hp30 : z1.1 + (lb_W (nt_sp + 1 + 14)).length ≤ t := hi.1
      have k : nt_rn X _ 150 (81, [(1, .int (((Int32.ofInt 48) * (nI x)) + ((Int32.ofInt 4) * ((nt_u J B 15 (nI (q + (lb_W (nt_sp + 1 + 5)).length))) Cs x)))), (0, .ref B)], [.int (Int32.ofInt 1)], me_w M (nt_u (nt_u (nt_u J4 Cl ((((Int32.ofInt 48) * (nI x)) + ((Int32.ofInt 4) * ((nt_u J B 15 (nI (q + (lb_W (nt_sp + 1 + 5)).length))) Cs x))) + (Int32.ofInt 1)).toNatClampNeg (nI z1.2.2.2.1)) Cl ((((Int32.ofInt 48) * (nI x)) + ((Int32.ofInt 4) * ((nt_u J B 15 (nI (q + (lb_W (nt_sp + 1 + 5)).length))) Cs x))) + (Int32.ofInt 2)).toNatClampNeg (Int32.ofInt (-1))) B 15 (nI (z1.1 + (lb_W (nt_sp + 1 + 14)).length)))) _ := k
      have k := ly_revb 1 (c' := (if (Int32.ofInt 1) = 0 then 110 else 84, [(1, .int (((Int32.ofInt 48) * (nI x)) + ((Int32.ofInt 4) * ((nt_u J B 15 (nI (q + (lb_W (nt_sp + 1 + 5)).length))) Cs x)))), (0, .ref B)], [], me_w M (nt_u (nt_u (nt_u J4 Cl ((((Int32.ofInt 48) * (nI x)) + ((Int32.ofInt 4) * ((nt_u J B 15 (nI (q + (lb_W (nt_sp + 1 + 5)).length))) Cs x))) + (Int32.ofInt 1)).toNatClampNeg (nI z1.2.2.2.1)) Cl ((((Int32.ofInt 48) * (nI x)) + ((Int32.ofInt 4) * ((nt_u J B 15 (nI (q + (lb_W (nt_sp + 1 + 5)).length))) Cs x))) + (Int32.ofInt 2)).toNatClampNeg (Int32.ofInt (-1))) B 15 (nI (z1.1 + (lb_W (nt_sp + 1 + 14)).length))))) rfl k
      rw [if_neg (show ¬ ((Int32.ofInt 1) = 0) from by decide)] at k
      have k := ly_revb 1 (c' := (85, [(1, .int (((Int32.ofInt 48) * (nI x)) + ((Int32.ofInt 4) * ((nt_u J B 15 (nI (q + (lb_W (nt_sp + 1 + 5)).length))) Cs x)))), (0, .ref B)], [.ref B], me_w M (nt_u (nt_u (nt_u J4 Cl ((((Int32.ofInt 48) * (nI x)) + ((Int32.ofInt 4) * ((nt_u J B 15 (nI (q + (lb_W (nt_sp + 1 + 5)).length))) Cs x))) + (Int32.ofInt 1)).toNatClampNeg (nI z1.2.2.2.1)) Cl ((((Int32.ofInt 48) * (nI x)) + ((Int32.ofInt 4) * ((nt_u J B 15 (nI (q + (lb_W (nt_sp + 1 + 5)).length))) Cs x))) + (Int32.ofInt 2)).toNatClampNeg (Int32.ofInt (-1))) B 15 (nI (z1.1 + (lb_W (nt_sp + 1 + 14)).length))))) rfl k
      have k := lz_get (a := B) (g := 1105) (M := me_w M (nt_u (nt_u (nt_u J4 Cl ((((Int32.ofInt 48) * (nI x)) + ((Int32.ofInt 4) * ((nt_u J B 15 (nI (q + (lb_W (nt_sp + 1 + 5)).length))) Cs x))) + (Int32.ofInt 1)).toNatClampNeg (nI z1.2.2.2.1)) Cl ((((Int32.ofInt 48) * (nI x)) + ((Int32.ofInt 4) * ((nt_u J B 15 (nI (q + (lb_W (nt_sp + 1 + 5)).length))) Cs x))) + (Int32.ofInt 2)).toNatClampNeg (Int32.ofInt (-1))) B 15 (nI (z1.1 + (lb_W (nt_sp + 1 + 14)).length)))) (v := .ref Cl) rfl (nt_gfR rfl hK.1) k
      have k := ly_revb 4 (c' := (92, [(1, .int (((Int32.ofInt 48) * (nI x)) + ((Int32.ofInt 4) * ((nt_u J B 15 (nI (q + (lb_W (nt_sp + 1 + 5)).length))) Cs x)))), (0, .ref B)], [.ref B, .int ((((Int32.ofInt 48) * (nI x)) + ((Int32.ofInt 4) * ((nt_u J B 15 (nI (q + (lb_W (nt_sp + 1 + 5)).length))) Cs x))) + (Int32.ofInt 2)), .ref Cl], me_w M (nt_u (nt_u (nt_u J4 Cl ((((Int32.ofInt 48) * (nI x)) + ((Int32.ofInt 4) * ((nt_u J B 15 (nI (q + (lb_W (nt_sp + 1 + 5)).length))) Cs x))) + (Int32.ofInt 1)).toNatClampNeg (nI z1.2.2.2.1)) Cl ((((Int32.ofInt 48) * (nI x)) + ((Int32.ofInt 4) * ((nt_u J B 15 (nI (q + (lb_W (nt_sp + 1 + 5)).length))) Cs x))) + (Int32.ofInt 2)).toNatClampNeg (Int32.ofInt (-1))) B 15 (nI (z1.1 + (lb_W (nt_sp + 1 + 14)).length))))) rfl k
      have k := lz_get (a := B) (g := 1104) (M := me_w M (nt_u (nt_u (nt_u J4 Cl ((((Int32.ofInt 48) * (nI x)) + ((Int32.ofInt 4) * ((nt_u J B 15 (nI (q + (lb_W (nt_sp + 1 + 5)).length))) Cs x))) + (Int32.ofInt 1)).toNatClampNeg (nI z1.2.2.2.1)) Cl ((((Int32.ofInt 48) * (nI x)) + ((Int32.ofInt 4) * ((nt_u J B 15 (nI (q + (lb_W (nt_sp + 1 + 5)).length))) Cs x))) + (Int32.ofInt 2)).toNatClampNeg (Int32.ofInt (-1))) B 15 (nI (z1.1 + (lb_W (nt_sp + 1 + 14)).length)))) (v := .ref Ln) rfl (nt_gfR rfl hP.1.2.2) k
      have k := ly_revb 1 (c' := (96, [(1, .int (((Int32.ofInt 48) * (nI x)) + ((Int32.ofInt 4) * ((nt_u J B 15 (nI (q + (lb_W (nt_sp + 1 + 5)).length))) Cs x)))), (0, .ref B)], [.ref B, .ref Ln, .int ((((Int32.ofInt 48) * (nI x)) + ((Int32.ofInt 4) * ((nt_u J B 15 (nI (q + (lb_W (nt_sp + 1 + 5)).length))) Cs x))) + (Int32.ofInt 2)), .ref Cl], me_w M (nt_u (nt_u (nt_u J4 Cl ((((Int32.ofInt 48) * (nI x)) + ((Int32.ofInt 4) * ((nt_u J B 15 (nI (q + (lb_W (nt_sp + 1 + 5)).length))) Cs x))) + (Int32.ofInt 1)).toNatClampNeg (nI z1.2.2.2.1)) Cl ((((Int32.ofInt 48) * (nI x)) + ((Int32.ofInt 4) * ((nt_u J B 15 (nI (q + (lb_W (nt_sp + 1 + 5)).length))) Cs x))) + (Int32.ofInt 2)).toNatClampNeg (Int32.ofInt (-1))) B 15 (nI (z1.1 + (lb_W (nt_sp + 1 + 14)).length))))) rfl k
      have k := lz_get (a := B) (g := 1118) (M := me_w M (nt_u (nt_u (nt_u J4 Cl ((((Int32.ofInt 48) * (nI x)) + ((Int32.ofInt 4) * ((nt_u J B 15 (nI (q + (lb_W (nt_sp + 1 + 5)).length))) Cs x))) + (Int32.ofInt 1)).toNatClampNeg (nI z1.2.2.2.1)) Cl ((((Int32.ofInt 48) * (nI x)) + ((Int32.ofInt 4) * ((nt_u J B 15 (nI (q + (lb_W (nt_sp + 1 + 5)).length))) Cs x))) + (Int32.ofInt 2)).toNatClampNeg (Int32.ofInt (-1))) B 15 (nI (z1.1 + (lb_W (nt_sp + 1 + 14)).length)))) (v := .int (nI x)) rfl (congrArg Value.int (md_x (md_VP hP hO hK hV30) hV30.1)) k
      have k := me_iald (q := x) (v := nI z1.2.2.2.1) rfl (hP.2.2.2.2.2.2.2.2.2) (rfl) (by omega) (hV30.1.2.2.2.1) k
      have k := me_iastx rfl k
      have hV31 := md_Vcl (i := ((((Int32.ofInt 48) * (nI x)) + ((Int32.ofInt 4) * ((nt_u J B 15 (nI (q + (lb_W (nt_sp + 1 + 5)).length))) Cs x))) + (Int32.ofInt 2)).toNatClampNeg) (v := nI z1.2.2.2.1) hP hO hK hV30
      have k : nt_rn X _ 150 (101, [(1, .int (((Int32.ofInt 48) * (nI x)) + ((Int32.ofInt 4) * ((nt_u J B 15 (nI (q + (lb_W (nt_sp + 1 + 5)).length))) Cs x)))), (0, .ref B)], [], me_w M (nt_u (nt_u (nt_u (nt_u J4 Cl ((((Int32.ofInt 48) * (nI x)) + ((Int32.ofInt 4) * ((nt_u J B 15 (nI (q + (lb_W (nt_sp + 1 + 5)).length))) Cs x))) + (Int32.ofInt 1)).toNatClampNeg (nI z1.2.2.2.1)) Cl ((((Int32.ofInt 48) * (nI x)) + ((Int32.ofInt 4) * ((nt_u J B 15 (nI (q + (lb_W (nt_sp + 1 + 5)).length))) Cs x))) + (Int32.ofInt 2)).toNatClampNeg (Int32.ofInt (-1))) B 15 (nI (z1.1 + (lb_W (nt_sp + 1 + 14)).length))) Cl ((((Int32.ofInt 48) * (nI x)) + ((Int32.ofInt 4) * ((nt_u J B 15 (nI (q + (lb_W (nt_sp + 1 + 5)).length))) Cs x))) + (Int32.ofInt 2)).toNatClampNeg (nI z1.2.2.2.1))) _ := k
      have k := ly_revb 1 (c' := (102, [(1, .int (((Int32.ofInt 48) * (nI x)) + ((Int32.ofInt 4) * ((nt_u J B 15 (nI (q + (lb_W (nt_sp + 1 + 5)).length))) Cs x)))), (0, .ref B)], [.ref B], me_w M (nt_u (nt_u (nt_u (nt_u J4 Cl ((((Int32.ofInt 48) * (nI x)) + ((Int32.ofInt 4) * ((nt_u J B 15 (nI (q + (lb_W (nt_sp + 1 + 5)).length))) Cs x))) + (Int32.ofInt 1)).toNatClampNeg (nI z1.2.2.2.1)) Cl ((((Int32.ofInt 48) * (nI x)) + ((Int32.ofInt 4) * ((nt_u J B 15 (nI (q + (lb_W (nt_sp + 1 + 5)).length))) Cs x))) + (Int32.ofInt 2)).toNatClampNeg (Int32.ofInt (-1))) B 15 (nI (z1.1 + (lb_W (nt_sp + 1 + 14)).length))) Cl ((((Int32.ofInt 48) * (nI x)) + ((Int32.ofInt 4) * ((nt_u J B 15 (nI (q + (lb_W (nt_sp + 1 + 5)).length))) Cs x))) + (Int32.ofInt 2)).toNatClampNeg (nI z1.2.2.2.1)))) rfl k
      obtain ⟨d1, o1, ed, kc, k⟩ := lz_c (g := 158) (q := 1) (vs := [.ref B]) (rest := []) rfl rfl (by decide) (Or.inr (Or.inl ⟨_, rfl, rfl⟩)) rfl k
      obtain ⟨r2, a2, J5, e1, ⟨k5, hk5⟩, hQ⟩ := md_tested (e := z1.2.2) (md_VP hP hO hK hV31) hO hB hV31.1 hp30 kc
      subst e1
      rcases r2 with c | z2
      · obtain ⟨hc, rfl, q5, m5, e5, d5, S5, hT5, hq5⟩ := hQ
        have hV9 := md_Vte hP hO hK hV31 hT5
        have k : nt_rn X _ 150 (105, [(1, .int (((Int32.ofInt 48) * (nI x)) + ((Int32.ofInt 4) * ((nt_u J B 15 (nI (q + (lb_W (nt_sp + 1 + 5)).length))) Cs x)))), (0, .ref B)], [.int (Int32.ofInt 0)], me_w M J5) _ := k
        have k := ly_revb 1 (c' := (if (Int32.ofInt 0) = 0 then 108 else 110, [(1, .int (((Int32.ofInt 48) * (nI x)) + ((Int32.ofInt 4) * ((nt_u J B 15 (nI (q + (lb_W (nt_sp + 1 + 5)).length))) Cs x)))), (0, .ref B)], [], me_w M J5)) rfl k
        rw [if_pos (show (Int32.ofInt 0) = 0 from by decide)] at k
        have k := ly_revb 1 (c' := (109, [(1, .int (((Int32.ofInt 48) * (nI x)) + ((Int32.ofInt 4) * ((nt_u J B 15 (nI (q + (lb_W (nt_sp + 1 + 5)).length))) Cs x)))), (0, .ref B)], [.int (Int32.ofInt 0)], me_w M J5)) rfl k
        have k := lz_ri rfl (by decide) k
        exact ⟨.inl c, _, _, k, ⟨_, hv1, Or.inr ⟨z1, rfl, Or.inl ⟨hi, k5, _, hk5, Or.inl ⟨c, rfl, rfl⟩⟩⟩⟩, hc, rfl, _, _, _, _, hV9, hq5⟩
      · obtain ⟨rfl, q5, d5, S5, hz5, hq5, hT5⟩ := hQ
        have hV40 := md_Vte hP hO hK hV31 hT5
        have k : nt_rn X _ 150 (105, [(1, .int (((Int32.ofInt 48) * (nI x)) + ((Int32.ofInt 4) * ((nt_u J B 15 (nI (q + (lb_W (nt_sp + 1 + 5)).length))) Cs x)))), (0, .ref B)], [.int (Int32.ofInt 1)], me_w M J5) _ := k
        have k := ly_revb 1 (c' := (if (Int32.ofInt 1) = 0 then 108 else 110, [(1, .int (((Int32.ofInt 48) * (nI x)) + ((Int32.ofInt 4) * ((nt_u J B 15 (nI (q + (lb_W (nt_sp + 1 + 5)).length))) Cs x)))), (0, .ref B)], [], me_w M J5)) rfl k
        rw [if_neg (show ¬ ((Int32.ofInt 1) = 0) from by decide)] at k
        have k := ly_revb 1 (c' := (111, [(1, .int (((Int32.ofInt 48) * (nI x)) + ((Int32.ofInt 4) * ((nt_u J B 15 (nI (q + (lb_W (nt_sp + 1 + 5)).length))) Cs x)))), (0, .ref B)], [.ref B], me_w M J5)) rfl k
        have k := lz_get (a := B) (g := 1105) (M := me_w M J5) (v := .ref Cl) rfl (nt_gfR rfl hK.1) k
        have k := ly_revb 4 (c' := (118, [(1, .int (((Int32.ofInt 48) * (nI x)) + ((Int32.ofInt 4) * ((nt_u J B 15 (nI (q + (lb_W (nt_sp + 1 + 5)).length))) Cs x)))), (0, .ref B)], [.ref B, .int ((((Int32.ofInt 48) * (nI x)) + ((Int32.ofInt 4) * ((nt_u J B 15 (nI (q + (lb_W (nt_sp + 1 + 5)).length))) Cs x))) + (Int32.ofInt 3)), .ref Cl], me_w M J5)) rfl k
        have k := lz_get (a := B) (g := 1104) (M := me_w M J5) (v := .ref Ln) rfl (nt_gfR rfl hP.1.2.2) k
        have k := ly_revb 1 (c' := (122, [(1, .int (((Int32.ofInt 48) * (nI x)) + ((Int32.ofInt 4) * ((nt_u J B 15 (nI (q + (lb_W (nt_sp + 1 + 5)).length))) Cs x)))), (0, .ref B)], [.ref B, .ref Ln, .int ((((Int32.ofInt 48) * (nI x)) + ((Int32.ofInt 4) * ((nt_u J B 15 (nI (q + (lb_W (nt_sp + 1 + 5)).length))) Cs x))) + (Int32.ofInt 3)), .ref Cl], me_w M J5)) rfl k
        have k := lz_get (a := B) (g := 1118) (M := me_w M J5) (v := .int (nI x)) rfl (congrArg Value.int (md_x (md_VP hP hO hK hV40) hV40.1)) k
        have k := me_iald (q := x) (v := nI z2.2.2.2.1) rfl (hP.2.2.2.2.2.2.2.2.2) (rfl) (by omega) (hV40.1.2.2.2.1) k
        have k := me_iastx rfl k
        have hV41 := md_Vcl (i := ((((Int32.ofInt 48) * (nI x)) + ((Int32.ofInt 4) * ((nt_u J B 15 (nI (q + (lb_W (nt_sp + 1 + 5)).length))) Cs x))) + (Int32.ofInt 3)).toNatClampNeg) (v := nI z2.2.2.2.1) hP hO hK hV40
        have k : nt_rn X _ 150 (127, [(1, .int (((Int32.ofInt 48) * (nI x)) + ((Int32.ofInt 4) * ((nt_u J B 15 (nI (q + (lb_W (nt_sp + 1 + 5)).length))) Cs x)))), (0, .ref B)], [], me_w M (nt_u J5 Cl ((((Int32.ofInt 48) * (nI x)) + ((Int32.ofInt 4) * ((nt_u J B 15 (nI (q + (lb_W (nt_sp + 1 + 5)).length))) Cs x))) + (Int32.ofInt 3)).toNatClampNeg (nI z2.2.2.2.1))) _ := k
        have k := ly_revb 1 (c' := (128, [(1, .int (((Int32.ofInt 48) * (nI x)) + ((Int32.ofInt 4) * ((nt_u J B 15 (nI (q + (lb_W (nt_sp + 1 + 5)).length))) Cs x)))), (0, .ref B)], [.ref B], me_w M (nt_u J5 Cl ((((Int32.ofInt 48) * (nI x)) + ((Int32.ofInt 4) * ((nt_u J B 15 (nI (q + (lb_W (nt_sp + 1 + 5)).length))) Cs x))) + (Int32.ofInt 3)).toNatClampNeg (nI z2.2.2.2.1)))) rfl k
        have k := lz_get (a := B) (g := 1106) (M := me_w M (nt_u J5 Cl ((((Int32.ofInt 48) * (nI x)) + ((Int32.ofInt 4) * ((nt_u J B 15 (nI (q + (lb_W (nt_sp + 1 + 5)).length))) Cs x))) + (Int32.ofInt 3)).toNatClampNeg (nI z2.2.2.2.1))) (v := .ref Cs) rfl (nt_gfR rfl hK.2.1) k
        have k := ly_revb 1 (c' := (132, [(1, .int (((Int32.ofInt 48) * (nI x)) + ((Int32.ofInt 4) * ((nt_u J B 15 (nI (q + (lb_W (nt_sp + 1 + 5)).length))) Cs x)))), (0, .ref B)], [.ref B, .ref Cs], me_w M (nt_u J5 Cl ((((Int32.ofInt 48) * (nI x)) + ((Int32.ofInt 4) * ((nt_u J B 15 (nI (q + (lb_W (nt_sp + 1 + 5)).length))) Cs x))) + (Int32.ofInt 3)).toNatClampNeg (nI z2.2.2.2.1)))) rfl k
        have k := lz_get (a := B) (g := 1118) (M := me_w M (nt_u J5 Cl ((((Int32.ofInt 48) * (nI x)) + ((Int32.ofInt 4) * ((nt_u J B 15 (nI (q + (lb_W (nt_sp + 1 + 5)).length))) Cs x))) + (Int32.ofInt 3)).toNatClampNeg (nI z2.2.2.2.1))) (v := .int (nI x)) rfl (congrArg Value.int (md_x (md_VP hP hO hK hV41) hV41.1)) k
        have k := ly_revb 1 (c' := (136, [(1, .int (((Int32.ofInt 48) * (nI x)) + ((Int32.ofInt 4) * ((nt_u J B 15 (nI (q + (lb_W (nt_sp + 1 + 5)).length))) Cs x)))), (0, .ref B)], [.int (nI x), .ref Cs, .int (nI x), .ref Cs], me_w M (nt_u J5 Cl ((((Int32.ofInt 48) * (nI x)) + ((Int32.ofInt 4) * ((nt_u J B 15 (nI (q + (lb_W (nt_sp + 1 + 5)).length))) Cs x))) + (Int32.ofInt 3)).toNatClampNeg (nI z2.2.2.2.1)))) rfl k
        have k := me_iald (q := x) (v := (nt_u J5 Cl ((((Int32.ofInt 48) * (nI x)) + ((Int32.ofInt 4) * ((nt_u J B 15 (nI (q + (lb_W (nt_sp + 1 + 5)).length))) Cs x))) + (Int32.ofInt 3)).toNatClampNeg (nI z2.2.2.2.1)) Cs x) rfl (hK.2.2.2.2.2) (rfl) (by omega) (rfl) k
        have k := ly_revb 2 (c' := (139, [(1, .int (((Int32.ofInt 48) * (nI x)) + ((Int32.ofInt 4) * ((nt_u J B 15 (nI (q + (lb_W (nt_sp + 1 + 5)).length))) Cs x)))), (0, .ref B)], [.int (((nt_u J5 Cl ((((Int32.ofInt 48) * (nI x)) + ((Int32.ofInt 4) * ((nt_u J B 15 (nI (q + (lb_W (nt_sp + 1 + 5)).length))) Cs x))) + (Int32.ofInt 3)).toNatClampNeg (nI z2.2.2.2.1)) Cs x) + (Int32.ofInt 1)), .int (nI x), .ref Cs], me_w M (nt_u J5 Cl ((((Int32.ofInt 48) * (nI x)) + ((Int32.ofInt 4) * ((nt_u J B 15 (nI (q + (lb_W (nt_sp + 1 + 5)).length))) Cs x))) + (Int32.ofInt 3)).toNatClampNeg (nI z2.2.2.2.1)))) rfl k
        have k := me_iastx rfl k
        have hV42 := md_Vcs (i := (nI x).toNatClampNeg) (v := ((nt_u J5 Cl ((((Int32.ofInt 48) * (nI x)) + ((Int32.ofInt 4) * ((nt_u J B 15 (nI (q + (lb_W (nt_sp + 1 + 5)).length))) Cs x))) + (Int32.ofInt 3)).toNatClampNeg (nI z2.2.2.2.1)) Cs x) + (Int32.ofInt 1)) hP hO hK hV41
        have k : nt_rn X _ 150 (140, [(1, .int (((Int32.ofInt 48) * (nI x)) + ((Int32.ofInt 4) * ((nt_u J B 15 (nI (q + (lb_W (nt_sp + 1 + 5)).length))) Cs x)))), (0, .ref B)], [], me_w M (nt_u (nt_u J5 Cl ((((Int32.ofInt 48) * (nI x)) + ((Int32.ofInt 4) * ((nt_u J B 15 (nI (q + (lb_W (nt_sp + 1 + 5)).length))) Cs x))) + (Int32.ofInt 3)).toNatClampNeg (nI z2.2.2.2.1)) Cs (nI x).toNatClampNeg (((nt_u J5 Cl ((((Int32.ofInt 48) * (nI x)) + ((Int32.ofInt 4) * ((nt_u J B 15 (nI (q + (lb_W (nt_sp + 1 + 5)).length))) Cs x))) + (Int32.ofInt 3)).toNatClampNeg (nI z2.2.2.2.1)) Cs x) + (Int32.ofInt 1)))) _ := k
        have k := ly_revb 1 (c' := (141, [(1, .int (((Int32.ofInt 48) * (nI x)) + ((Int32.ofInt 4) * ((nt_u J B 15 (nI (q + (lb_W (nt_sp + 1 + 5)).length))) Cs x)))), (0, .ref B)], [.int (Int32.ofInt 1)], me_w M (nt_u (nt_u J5 Cl ((((Int32.ofInt 48) * (nI x)) + ((Int32.ofInt 4) * ((nt_u J B 15 (nI (q + (lb_W (nt_sp + 1 + 5)).length))) Cs x))) + (Int32.ofInt 3)).toNatClampNeg (nI z2.2.2.2.1)) Cs (nI x).toNatClampNeg (((nt_u J5 Cl ((((Int32.ofInt 48) * (nI x)) + ((Int32.ofInt 4) * ((nt_u J B 15 (nI (q + (lb_W (nt_sp + 1 + 5)).length))) Cs x))) + (Int32.ofInt 3)).toNatClampNeg (nI z2.2.2.2.1)) Cs x) + (Int32.ofInt 1))))) rfl k
        have k := lz_ri rfl (by decide) k
        exact ⟨.inr (z2.1, z2.2.1, (lb_e z2.2.2.1 (Int32.ofInt 23), z2.2.2.2)), _, _, k, ⟨_, hv1, Or.inr ⟨z1, rfl, Or.inl ⟨hi, k5, _, hk5, Or.inr ⟨z2, rfl, rfl⟩⟩⟩⟩, rfl, q5, hz5, hq5, hV42⟩
    · subst e1
      have hV30 := md_Vup hP hO hK hV22 (md_Sq (y := z1.1) (md_VP hP hO hK hV22) hV22.1)
      have k : nt_rn X _ 150 (81, [(1, .int (((Int32.ofInt 48) * (nI x)) + ((Int32.ofInt 4) * ((nt_u J B 15 (nI (q + (lb_W (nt_sp + 1 + 5)).length))) Cs x)))), (0, .ref B)], [.int (Int32.ofInt 0)], me_w M (nt_u (nt_u (nt_u J4 Cl ((((Int32.ofInt 48) * (nI x)) + ((Int32.ofInt 4) * ((nt_u J B 15 (nI (q + (lb_W (nt_sp + 1 + 5)).length))) Cs x))) + (Int32.ofInt 1)).toNatClampNeg (nI z1.2.2.2.1)) Cl ((((Int32.ofInt 48) * (nI x)) + ((Int32.ofInt 4) * ((nt_u J B 15 (nI (q + (lb_W (nt_sp + 1 + 5)).length))) Cs x))) + (Int32.ofInt 2)).toNatClampNeg (Int32.ofInt (-1))) B 15 (nI z1.1))) _ := k
      have k := ly_revb 1 (c' := (if (Int32.ofInt 0) = 0 then 110 else 84, [(1, .int (((Int32.ofInt 48) * (nI x)) + ((Int32.ofInt 4) * ((nt_u J B 15 (nI (q + (lb_W (nt_sp + 1 + 5)).length))) Cs x)))), (0, .ref B)], [], me_w M (nt_u (nt_u (nt_u J4 Cl ((((Int32.ofInt 48) * (nI x)) + ((Int32.ofInt 4) * ((nt_u J B 15 (nI (q + (lb_W (nt_sp + 1 + 5)).length))) Cs x))) + (Int32.ofInt 1)).toNatClampNeg (nI z1.2.2.2.1)) Cl ((((Int32.ofInt 48) * (nI x)) + ((Int32.ofInt 4) * ((nt_u J B 15 (nI (q + (lb_W (nt_sp + 1 + 5)).length))) Cs x))) + (Int32.ofInt 2)).toNatClampNeg (Int32.ofInt (-1))) B 15 (nI z1.1)))) rfl k
      rw [if_pos (show (Int32.ofInt 0) = 0 from by decide)] at k
      have k := ly_revb 1 (c' := (111, [(1, .int (((Int32.ofInt 48) * (nI x)) + ((Int32.ofInt 4) * ((nt_u J B 15 (nI (q + (lb_W (nt_sp + 1 + 5)).length))) Cs x)))), (0, .ref B)], [.ref B], me_w M (nt_u (nt_u (nt_u J4 Cl ((((Int32.ofInt 48) * (nI x)) + ((Int32.ofInt 4) * ((nt_u J B 15 (nI (q + (lb_W (nt_sp + 1 + 5)).length))) Cs x))) + (Int32.ofInt 1)).toNatClampNeg (nI z1.2.2.2.1)) Cl ((((Int32.ofInt 48) * (nI x)) + ((Int32.ofInt 4) * ((nt_u J B 15 (nI (q + (lb_W (nt_sp + 1 + 5)).length))) Cs x))) + (Int32.ofInt 2)).toNatClampNeg (Int32.ofInt (-1))) B 15 (nI z1.1)))) rfl k
      have k := lz_get (a := B) (g := 1105) (M := me_w M (nt_u (nt_u (nt_u J4 Cl ((((Int32.ofInt 48) * (nI x)) + ((Int32.ofInt 4) * ((nt_u J B 15 (nI (q + (lb_W (nt_sp + 1 + 5)).length))) Cs x))) + (Int32.ofInt 1)).toNatClampNeg (nI z1.2.2.2.1)) Cl ((((Int32.ofInt 48) * (nI x)) + ((Int32.ofInt 4) * ((nt_u J B 15 (nI (q + (lb_W (nt_sp + 1 + 5)).length))) Cs x))) + (Int32.ofInt 2)).toNatClampNeg (Int32.ofInt (-1))) B 15 (nI z1.1))) (v := .ref Cl) rfl (nt_gfR rfl hK.1) k
      have k := ly_revb 4 (c' := (118, [(1, .int (((Int32.ofInt 48) * (nI x)) + ((Int32.ofInt 4) * ((nt_u J B 15 (nI (q + (lb_W (nt_sp + 1 + 5)).length))) Cs x)))), (0, .ref B)], [.ref B, .int ((((Int32.ofInt 48) * (nI x)) + ((Int32.ofInt 4) * ((nt_u J B 15 (nI (q + (lb_W (nt_sp + 1 + 5)).length))) Cs x))) + (Int32.ofInt 3)), .ref Cl], me_w M (nt_u (nt_u (nt_u J4 Cl ((((Int32.ofInt 48) * (nI x)) + ((Int32.ofInt 4) * ((nt_u J B 15 (nI (q + (lb_W (nt_sp + 1 + 5)).length))) Cs x))) + (Int32.ofInt 1)).toNatClampNeg (nI z1.2.2.2.1)) Cl ((((Int32.ofInt 48) * (nI x)) + ((Int32.ofInt 4) * ((nt_u J B 15 (nI (q + (lb_W (nt_sp + 1 + 5)).length))) Cs x))) + (Int32.ofInt 2)).toNatClampNeg (Int32.ofInt (-1))) B 15 (nI z1.1)))) rfl k
      have k := lz_get (a := B) (g := 1104) (M := me_w M (nt_u (nt_u (nt_u J4 Cl ((((Int32.ofInt 48) * (nI x)) + ((Int32.ofInt 4) * ((nt_u J B 15 (nI (q + (lb_W (nt_sp + 1 + 5)).length))) Cs x))) + (Int32.ofInt 1)).toNatClampNeg (nI z1.2.2.2.1)) Cl ((((Int32.ofInt 48) * (nI x)) + ((Int32.ofInt 4) * ((nt_u J B 15 (nI (q + (lb_W (nt_sp + 1 + 5)).length))) Cs x))) + (Int32.ofInt 2)).toNatClampNeg (Int32.ofInt (-1))) B 15 (nI z1.1))) (v := .ref Ln) rfl (nt_gfR rfl hP.1.2.2) k
      have k := ly_revb 1 (c' := (122, [(1, .int (((Int32.ofInt 48) * (nI x)) + ((Int32.ofInt 4) * ((nt_u J B 15 (nI (q + (lb_W (nt_sp + 1 + 5)).length))) Cs x)))), (0, .ref B)], [.ref B, .ref Ln, .int ((((Int32.ofInt 48) * (nI x)) + ((Int32.ofInt 4) * ((nt_u J B 15 (nI (q + (lb_W (nt_sp + 1 + 5)).length))) Cs x))) + (Int32.ofInt 3)), .ref Cl], me_w M (nt_u (nt_u (nt_u J4 Cl ((((Int32.ofInt 48) * (nI x)) + ((Int32.ofInt 4) * ((nt_u J B 15 (nI (q + (lb_W (nt_sp + 1 + 5)).length))) Cs x))) + (Int32.ofInt 1)).toNatClampNeg (nI z1.2.2.2.1)) Cl ((((Int32.ofInt 48) * (nI x)) + ((Int32.ofInt 4) * ((nt_u J B 15 (nI (q + (lb_W (nt_sp + 1 + 5)).length))) Cs x))) + (Int32.ofInt 2)).toNatClampNeg (Int32.ofInt (-1))) B 15 (nI z1.1)))) rfl k
      have k := lz_get (a := B) (g := 1118) (M := me_w M (nt_u (nt_u (nt_u J4 Cl ((((Int32.ofInt 48) * (nI x)) + ((Int32.ofInt 4) * ((nt_u J B 15 (nI (q + (lb_W (nt_sp + 1 + 5)).length))) Cs x))) + (Int32.ofInt 1)).toNatClampNeg (nI z1.2.2.2.1)) Cl ((((Int32.ofInt 48) * (nI x)) + ((Int32.ofInt 4) * ((nt_u J B 15 (nI (q + (lb_W (nt_sp + 1 + 5)).length))) Cs x))) + (Int32.ofInt 2)).toNatClampNeg (Int32.ofInt (-1))) B 15 (nI z1.1))) (v := .int (nI x)) rfl (congrArg Value.int (md_x (md_VP hP hO hK hV30) hV30.1)) k
      have k := me_iald (q := x) (v := nI z1.2.2.2.1) rfl (hP.2.2.2.2.2.2.2.2.2) (rfl) (by omega) (hV30.1.2.2.2.1) k
      have k := me_iastx rfl k
      have hV31 := md_Vcl (i := ((((Int32.ofInt 48) * (nI x)) + ((Int32.ofInt 4) * ((nt_u J B 15 (nI (q + (lb_W (nt_sp + 1 + 5)).length))) Cs x))) + (Int32.ofInt 3)).toNatClampNeg) (v := nI z1.2.2.2.1) hP hO hK hV30
      have k : nt_rn X _ 150 (127, [(1, .int (((Int32.ofInt 48) * (nI x)) + ((Int32.ofInt 4) * ((nt_u J B 15 (nI (q + (lb_W (nt_sp + 1 + 5)).length))) Cs x)))), (0, .ref B)], [], me_w M (nt_u (nt_u (nt_u (nt_u J4 Cl ((((Int32.ofInt 48) * (nI x)) + ((Int32.ofInt 4) * ((nt_u J B 15 (nI (q + (lb_W (nt_sp + 1 + 5)).length))) Cs x))) + (Int32.ofInt 1)).toNatClampNeg (nI z1.2.2.2.1)) Cl ((((Int32.ofInt 48) * (nI x)) + ((Int32.ofInt 4) * ((nt_u J B 15 (nI (q + (lb_W (nt_sp + 1 + 5)).length))) Cs x))) + (Int32.ofInt 2)).toNatClampNeg (Int32.ofInt (-1))) B 15 (nI z1.1)) Cl ((((Int32.ofInt 48) * (nI x)) + ((Int32.ofInt 4) * ((nt_u J B 15 (nI (q + (lb_W (nt_sp + 1 + 5)).length))) Cs x))) + (Int32.ofInt 3)).toNatClampNeg (nI z1.2.2.2.1))) _ := k
      have k := ly_revb 1 (c' := (128, [(1, .int (((Int32.ofInt 48) * (nI x)) + ((Int32.ofInt 4) * ((nt_u J B 15 (nI (q + (lb_W (nt_sp + 1 + 5)).length))) Cs x)))), (0, .ref B)], [.ref B], me_w M (nt_u (nt_u (nt_u (nt_u J4 Cl ((((Int32.ofInt 48) * (nI x)) + ((Int32.ofInt 4) * ((nt_u J B 15 (nI (q + (lb_W (nt_sp + 1 + 5)).length))) Cs x))) + (Int32.ofInt 1)).toNatClampNeg (nI z1.2.2.2.1)) Cl ((((Int32.ofInt 48) * (nI x)) + ((Int32.ofInt 4) * ((nt_u J B 15 (nI (q + (lb_W (nt_sp + 1 + 5)).length))) Cs x))) + (Int32.ofInt 2)).toNatClampNeg (Int32.ofInt (-1))) B 15 (nI z1.1)) Cl ((((Int32.ofInt 48) * (nI x)) + ((Int32.ofInt 4) * ((nt_u J B 15 (nI (q + (lb_W (nt_sp + 1 + 5)).length))) Cs x))) + (Int32.ofInt 3)).toNatClampNeg (nI z1.2.2.2.1)))) rfl k
      have k := lz_get (a := B) (g := 1106) (M := me_w M (nt_u (nt_u (nt_u (nt_u J4 Cl ((((Int32.ofInt 48) * (nI x)) + ((Int32.ofInt 4) * ((nt_u J B 15 (nI (q + (lb_W (nt_sp + 1 + 5)).length))) Cs x))) + (Int32.ofInt 1)).toNatClampNeg (nI z1.2.2.2.1)) Cl ((((Int32.ofInt 48) * (nI x)) + ((Int32.ofInt 4) * ((nt_u J B 15 (nI (q + (lb_W (nt_sp + 1 + 5)).length))) Cs x))) + (Int32.ofInt 2)).toNatClampNeg (Int32.ofInt (-1))) B 15 (nI z1.1)) Cl ((((Int32.ofInt 48) * (nI x)) + ((Int32.ofInt 4) * ((nt_u J B 15 (nI (q + (lb_W (nt_sp + 1 + 5)).length))) Cs x))) + (Int32.ofInt 3)).toNatClampNeg (nI z1.2.2.2.1))) (v := .ref Cs) rfl (nt_gfR rfl hK.2.1) k
      have k := ly_revb 1 (c' := (132, [(1, .int (((Int32.ofInt 48) * (nI x)) + ((Int32.ofInt 4) * ((nt_u J B 15 (nI (q + (lb_W (nt_sp + 1 + 5)).length))) Cs x)))), (0, .ref B)], [.ref B, .ref Cs], me_w M (nt_u (nt_u (nt_u (nt_u J4 Cl ((((Int32.ofInt 48) * (nI x)) + ((Int32.ofInt 4) * ((nt_u J B 15 (nI (q + (lb_W (nt_sp + 1 + 5)).length))) Cs x))) + (Int32.ofInt 1)).toNatClampNeg (nI z1.2.2.2.1)) Cl ((((Int32.ofInt 48) * (nI x)) + ((Int32.ofInt 4) * ((nt_u J B 15 (nI (q + (lb_W (nt_sp + 1 + 5)).length))) Cs x))) + (Int32.ofInt 2)).toNatClampNeg (Int32.ofInt (-1))) B 15 (nI z1.1)) Cl ((((Int32.ofInt 48) * (nI x)) + ((Int32.ofInt 4) * ((nt_u J B 15 (nI (q + (lb_W (nt_sp + 1 + 5)).length))) Cs x))) + (Int32.ofInt 3)).toNatClampNeg (nI z1.2.2.2.1)))) rfl k
      have k := lz_get (a := B) (g := 1118) (M := me_w M (nt_u (nt_u (nt_u (nt_u J4 Cl ((((Int32.ofInt 48) * (nI x)) + ((Int32.ofInt 4) * ((nt_u J B 15 (nI (q + (lb_W (nt_sp + 1 + 5)).length))) Cs x))) + (Int32.ofInt 1)).toNatClampNeg (nI z1.2.2.2.1)) Cl ((((Int32.ofInt 48) * (nI x)) + ((Int32.ofInt 4) * ((nt_u J B 15 (nI (q + (lb_W (nt_sp + 1 + 5)).length))) Cs x))) + (Int32.ofInt 2)).toNatClampNeg (Int32.ofInt (-1))) B 15 (nI z1.1)) Cl ((((Int32.ofInt 48) * (nI x)) + ((Int32.ofInt 4) * ((nt_u J B 15 (nI (q + (lb_W (nt_sp + 1 + 5)).length))) Cs x))) + (Int32.ofInt 3)).toNatClampNeg (nI z1.2.2.2.1))) (v := .int (nI x)) rfl (congrArg Value.int (md_x (md_VP hP hO hK hV31) hV31.1)) k
      have k := ly_revb 1 (c' := (136, [(1, .int (((Int32.ofInt 48) * (nI x)) + ((Int32.ofInt 4) * ((nt_u J B 15 (nI (q + (lb_W (nt_sp + 1 + 5)).length))) Cs x)))), (0, .ref B)], [.int (nI x), .ref Cs, .int (nI x), .ref Cs], me_w M (nt_u (nt_u (nt_u (nt_u J4 Cl ((((Int32.ofInt 48) * (nI x)) + ((Int32.ofInt 4) * ((nt_u J B 15 (nI (q + (lb_W (nt_sp + 1 + 5)).length))) Cs x))) + (Int32.ofInt 1)).toNatClampNeg (nI z1.2.2.2.1)) Cl ((((Int32.ofInt 48) * (nI x)) + ((Int32.ofInt 4) * ((nt_u J B 15 (nI (q + (lb_W (nt_sp + 1 + 5)).length))) Cs x))) + (Int32.ofInt 2)).toNatClampNeg (Int32.ofInt (-1))) B 15 (nI z1.1)) Cl ((((Int32.ofInt 48) * (nI x)) + ((Int32.ofInt 4) * ((nt_u J B 15 (nI (q + (lb_W (nt_sp + 1 + 5)).length))) Cs x))) + (Int32.ofInt 3)).toNatClampNeg (nI z1.2.2.2.1)))) rfl k
      have k := me_iald (q := x) (v := (nt_u (nt_u (nt_u (nt_u J4 Cl ((((Int32.ofInt 48) * (nI x)) + ((Int32.ofInt 4) * ((nt_u J B 15 (nI (q + (lb_W (nt_sp + 1 + 5)).length))) Cs x))) + (Int32.ofInt 1)).toNatClampNeg (nI z1.2.2.2.1)) Cl ((((Int32.ofInt 48) * (nI x)) + ((Int32.ofInt 4) * ((nt_u J B 15 (nI (q + (lb_W (nt_sp + 1 + 5)).length))) Cs x))) + (Int32.ofInt 2)).toNatClampNeg (Int32.ofInt (-1))) B 15 (nI z1.1)) Cl ((((Int32.ofInt 48) * (nI x)) + ((Int32.ofInt 4) * ((nt_u J B 15 (nI (q + (lb_W (nt_sp + 1 + 5)).length))) Cs x))) + (Int32.ofInt 3)).toNatClampNeg (nI z1.2.2.2.1)) Cs x) rfl (hK.2.2.2.2.2) (rfl) (by omega) (rfl) k
      have k := ly_revb 2 (c' := (139, [(1, .int (((Int32.ofInt 48) * (nI x)) + ((Int32.ofInt 4) * ((nt_u J B 15 (nI (q + (lb_W (nt_sp + 1 + 5)).length))) Cs x)))), (0, .ref B)], [.int (((nt_u (nt_u (nt_u (nt_u J4 Cl ((((Int32.ofInt 48) * (nI x)) + ((Int32.ofInt 4) * ((nt_u J B 15 (nI (q + (lb_W (nt_sp + 1 + 5)).length))) Cs x))) + (Int32.ofInt 1)).toNatClampNeg (nI z1.2.2.2.1)) Cl ((((Int32.ofInt 48) * (nI x)) + ((Int32.ofInt 4) * ((nt_u J B 15 (nI (q + (lb_W (nt_sp + 1 + 5)).length))) Cs x))) + (Int32.ofInt 2)).toNatClampNeg (Int32.ofInt (-1))) B 15 (nI z1.1)) Cl ((((Int32.ofInt 48) * (nI x)) + ((Int32.ofInt 4) * ((nt_u J B 15 (nI (q + (lb_W (nt_sp + 1 + 5)).length))) Cs x))) + (Int32.ofInt 3)).toNatClampNeg (nI z1.2.2.2.1)) Cs x) + (Int32.ofInt 1)), .int (nI x), .ref Cs], me_w M (nt_u (nt_u (nt_u (nt_u J4 Cl ((((Int32.ofInt 48) * (nI x)) + ((Int32.ofInt 4) * ((nt_u J B 15 (nI (q + (lb_W (nt_sp + 1 + 5)).length))) Cs x))) + (Int32.ofInt 1)).toNatClampNeg (nI z1.2.2.2.1)) Cl ((((Int32.ofInt 48) * (nI x)) + ((Int32.ofInt 4) * ((nt_u J B 15 (nI (q + (lb_W (nt_sp + 1 + 5)).length))) Cs x))) + (Int32.ofInt 2)).toNatClampNeg (Int32.ofInt (-1))) B 15 (nI z1.1)) Cl ((((Int32.ofInt 48) * (nI x)) + ((Int32.ofInt 4) * ((nt_u J B 15 (nI (q + (lb_W (nt_sp + 1 + 5)).length))) Cs x))) + (Int32.ofInt 3)).toNatClampNeg (nI z1.2.2.2.1)))) rfl k
      have k := me_iastx rfl k
      have hV32 := md_Vcs (i := (nI x).toNatClampNeg) (v := ((nt_u (nt_u (nt_u (nt_u J4 Cl ((((Int32.ofInt 48) * (nI x)) + ((Int32.ofInt 4) * ((nt_u J B 15 (nI (q + (lb_W (nt_sp + 1 + 5)).length))) Cs x))) + (Int32.ofInt 1)).toNatClampNeg (nI z1.2.2.2.1)) Cl ((((Int32.ofInt 48) * (nI x)) + ((Int32.ofInt 4) * ((nt_u J B 15 (nI (q + (lb_W (nt_sp + 1 + 5)).length))) Cs x))) + (Int32.ofInt 2)).toNatClampNeg (Int32.ofInt (-1))) B 15 (nI z1.1)) Cl ((((Int32.ofInt 48) * (nI x)) + ((Int32.ofInt 4) * ((nt_u J B 15 (nI (q + (lb_W (nt_sp + 1 + 5)).length))) Cs x))) + (Int32.ofInt 3)).toNatClampNeg (nI z1.2.2.2.1)) Cs x) + (Int32.ofInt 1)) hP hO hK hV31
      have k : nt_rn X _ 150 (140, [(1, .int (((Int32.ofInt 48) * (nI x)) + ((Int32.ofInt 4) * ((nt_u J B 15 (nI (q + (lb_W (nt_sp + 1 + 5)).length))) Cs x)))), (0, .ref B)], [], me_w M (nt_u (nt_u (nt_u (nt_u (nt_u J4 Cl ((((Int32.ofInt 48) * (nI x)) + ((Int32.ofInt 4) * ((nt_u J B 15 (nI (q + (lb_W (nt_sp + 1 + 5)).length))) Cs x))) + (Int32.ofInt 1)).toNatClampNeg (nI z1.2.2.2.1)) Cl ((((Int32.ofInt 48) * (nI x)) + ((Int32.ofInt 4) * ((nt_u J B 15 (nI (q + (lb_W (nt_sp + 1 + 5)).length))) Cs x))) + (Int32.ofInt 2)).toNatClampNeg (Int32.ofInt (-1))) B 15 (nI z1.1)) Cl ((((Int32.ofInt 48) * (nI x)) + ((Int32.ofInt 4) * ((nt_u J B 15 (nI (q + (lb_W (nt_sp + 1 + 5)).length))) Cs x))) + (Int32.ofInt 3)).toNatClampNeg (nI z1.2.2.2.1)) Cs (nI x).toNatClampNeg (((nt_u (nt_u (nt_u (nt_u J4 Cl ((((Int32.ofInt 48) * (nI x)) + ((Int32.ofInt 4) * ((nt_u J B 15 (nI (q + (lb_W (nt_sp + 1 + 5)).length))) Cs x))) + (Int32.ofInt 1)).toNatClampNeg (nI z1.2.2.2.1)) Cl ((((Int32.ofInt 48) * (nI x)) + ((Int32.ofInt 4) * ((nt_u J B 15 (nI (q + (lb_W (nt_sp + 1 + 5)).length))) Cs x))) + (Int32.ofInt 2)).toNatClampNeg (Int32.ofInt (-1))) B 15 (nI z1.1)) Cl ((((Int32.ofInt 48) * (nI x)) + ((Int32.ofInt 4) * ((nt_u J B 15 (nI (q + (lb_W (nt_sp + 1 + 5)).length))) Cs x))) + (Int32.ofInt 3)).toNatClampNeg (nI z1.2.2.2.1)) Cs x) + (Int32.ofInt 1)))) _ := k
      have k := ly_revb 1 (c' := (141, [(1, .int (((Int32.ofInt 48) * (nI x)) + ((Int32.ofInt 4) * ((nt_u J B 15 (nI (q + (lb_W (nt_sp + 1 + 5)).length))) Cs x)))), (0, .ref B)], [.int (Int32.ofInt 1)], me_w M (nt_u (nt_u (nt_u (nt_u (nt_u J4 Cl ((((Int32.ofInt 48) * (nI x)) + ((Int32.ofInt 4) * ((nt_u J B 15 (nI (q + (lb_W (nt_sp + 1 + 5)).length))) Cs x))) + (Int32.ofInt 1)).toNatClampNeg (nI z1.2.2.2.1)) Cl ((((Int32.ofInt 48) * (nI x)) + ((Int32.ofInt 4) * ((nt_u J B 15 (nI (q + (lb_W (nt_sp + 1 + 5)).length))) Cs x))) + (Int32.ofInt 2)).toNatClampNeg (Int32.ofInt (-1))) B 15 (nI z1.1)) Cl ((((Int32.ofInt 48) * (nI x)) + ((Int32.ofInt 4) * ((nt_u J B 15 (nI (q + (lb_W (nt_sp + 1 + 5)).length))) Cs x))) + (Int32.ofInt 3)).toNatClampNeg (nI z1.2.2.2.1)) Cs (nI x).toNatClampNeg (((nt_u (nt_u (nt_u (nt_u J4 Cl ((((Int32.ofInt 48) * (nI x)) + ((Int32.ofInt 4) * ((nt_u J B 15 (nI (q + (lb_W (nt_sp + 1 + 5)).length))) Cs x))) + (Int32.ofInt 1)).toNatClampNeg (nI z1.2.2.2.1)) Cl ((((Int32.ofInt 48) * (nI x)) + ((Int32.ofInt 4) * ((nt_u J B 15 (nI (q + (lb_W (nt_sp + 1 + 5)).length))) Cs x))) + (Int32.ofInt 2)).toNatClampNeg (Int32.ofInt (-1))) B 15 (nI z1.1)) Cl ((((Int32.ofInt 48) * (nI x)) + ((Int32.ofInt 4) * ((nt_u J B 15 (nI (q + (lb_W (nt_sp + 1 + 5)).length))) Cs x))) + (Int32.ofInt 3)).toNatClampNeg (nI z1.2.2.2.1)) Cs x) + (Int32.ofInt 1))))) rfl k
      have k := lz_ri rfl (by decide) k
      exact ⟨.inr (z1.1, z1.2.1, (lb_e z1.2.2.1 (Int32.ofInt 22), z1.2.2.2)), _, _, k, ⟨_, hv1, Or.inr ⟨z1, rfl, Or.inr ⟨hi, rfl⟩⟩⟩, rfl, z1.1, by rw [← hz4]; exact lb_ss hq4, hz1t, hV32⟩
theorem md_clause {X : nt_X} {d t x B Tb Sg Ln Op Cl Cs q m li : Nat} {f : Nat → Int32} {M : nt_M} {J0 J : Nat → Nat → Int32} {o : Option Value × nt_M} {e : lb_E} (hP : md_P M J0 f t x B Tb Sg Ln) (hO : md_O M B Tb Sg Ln Op) (hK : md_K M B Tb Sg Ln Cl Cs) (hB : lb_by f t) (hV : md_V J0 B Sg Ln Op Cl Cs x q 0 m e.2 li J) (hx : x < 6) (hp : q ≤ t) (k : nt_ev X d 135 [.ref B] (me_w M J) o) : ∃ r a J', o = (some (.int a), me_w M J') ∧ lb_c1 f t li (lb_s f t q, m, e) r ∧ md_QV J0 B Sg Ln Op Cl Cs x t 0 (li + 1) f r a J' := by
  have k : nt_rn X d 135 (0, [(0, .ref B)], [], me_w M J) o := k
  have t4 : t ≤ 400 := hP.2.2.2.2.2.1
  have l12 : li ≤ 12 := hV.2.2.2
  have k := ly_revb 1 (c' := (1, [(0, .ref B)], [.ref B], me_w M J)) rfl k
  obtain ⟨d1, o1, ed, kc, k⟩ := lz_c (g := 136) (q := 1) (vs := [.ref B]) (rest := []) rfl rfl (by decide) (Or.inr (Or.inl ⟨_, rfl, rfl⟩)) rfl k
  have e1 := md_see (md_VP hP hO hK hV) hV.1 hp kc
  subst e1
  have hV1 := md_Vup hP hO hK hV (md_Sq (y := lb_s f t q) (md_VP hP hO hK hV) hV.1)
  have hp1 : lb_s f t q ≤ t := (lb_s_le (t - q) q (by omega)).2
  have hss : lb_s f t (lb_s f t q) = lb_s f t q := lb_ss hp
  have k : nt_rn X _ 135 (4, [(0, .ref B)], [.int (lb_g f t (lb_s f t q))], me_w M (nt_u J B 15 (nI (lb_s f t q)))) _ := k
  have k := ly_revb 2 (c' := (6, [(0, .ref B)], [.ref B], me_w M (nt_u J B 15 (nI (lb_s f t q))))) rfl k
  have k := lz_get (a := B) (g := 1115) (M := me_w M (nt_u J B 15 (nI (lb_s f t q)))) (v := .int (nI (lb_s f t q))) rfl (congrArg Value.int (hV1.1.1)) k
  have k := ly_revb 2 (c' := (11, [(1, .int (nI (lb_s f t q))), (0, .ref B)], [.ref B], me_w M (nt_u J B 15 (nI (lb_s f t q))))) rfl k
  have k := lz_get (a := B) (g := 1118) (M := me_w M (nt_u J B 15 (nI (lb_s f t q)))) (v := .int (nI x)) rfl (congrArg Value.int (md_x (md_VP hP hO hK hV1) hV1.1)) k
  have k := ly_revb 2 (c' := (if (nI x) = (Int32.ofInt 6) then 19 else 23, [(1, .int (nI (lb_s f t q))), (0, .ref B)], [], me_w M (nt_u J B 15 (nI (lb_s f t q))))) rfl k
  rw [if_neg (show ¬ ((nI x) = (Int32.ofInt 6)) from me_ne (a := x) (b := 6) (by omega) (by omega) (by omega))] at k
  have k := ly_revb 4 (c' := (if (Int32.ofInt 0) = 0 then 87 else 29, [(2, .int (Int32.ofInt 0)), (1, .int (nI (lb_s f t q))), (0, .ref B)], [], me_w M (nt_u J B 15 (nI (lb_s f t q))))) rfl k
  rw [if_pos (show (Int32.ofInt 0) = 0 from by decide)] at k
  have k := ly_revb 2 (c' := (91, [(2, .int (Int32.ofInt 0)), (1, .int (nI (lb_s f t q))), (0, .ref B)], [.long (1952541541), .ref B], me_w M (nt_u J B 15 (nI (lb_s f t q))))) rfl k
  obtain ⟨d1, o1, ed, kc, k⟩ := lz_c (g := 137) (q := 1) (vs := [.ref B, .long (1952541541)]) (rest := []) rfl rfl (by decide) (Or.inr (Or.inl ⟨_, rfl, rfl⟩)) rfl k
  obtain ⟨r, e1, hr⟩ := md_isWord (md_VP hP hO hK hV1) hV1.1 hp1 kc
  rw [hss, me_uu] at e1
  rw [hss, lb_w_take] at hr
  subst e1
  rcases hr with ⟨rfl, hr⟩ | ⟨rfl, hr⟩
  · have k : nt_rn X _ 135 (94, [(2, .int (Int32.ofInt 0)), (1, .int (nI (lb_s f t q))), (0, .ref B)], [.int (Int32.ofInt 1)], me_w M (nt_u J B 15 (nI (lb_s f t q)))) _ := k
    have k := ly_revb 3 (c' := (if (Int32.ofInt 1) = 0 then 99 else 106, [(3, .int (Int32.ofInt 1)), (2, .int (Int32.ofInt 0)), (1, .int (nI (lb_s f t q))), (0, .ref B)], [], me_w M (nt_u J B 15 (nI (lb_s f t q))))) rfl k
    rw [if_neg (show ¬ ((Int32.ofInt 1) = 0) from by decide)] at k
    have k := ly_revb 1 (c' := (107, [(3, .int (Int32.ofInt 1)), (2, .int (Int32.ofInt 0)), (1, .int (nI (lb_s f t q))), (0, .ref B)], [.ref B], me_w M (nt_u J B 15 (nI (lb_s f t q))))) rfl k
    have k := lz_get (a := B) (g := 1121) (M := me_w M (nt_u J B 15 (nI (lb_s f t q)))) (v := .int (nI li)) rfl (congrArg Value.int (hV1.2.2.1)) k
    have k := ly_revb 2 (c' := (if (Int32.ofInt 0) = 0 then 119 else 114, [(3, .int (Int32.ofInt 1)), (2, .int (Int32.ofInt 0)), (1, .int (nI (lb_s f t q))), (0, .ref B)], [.int (nI li)], me_w M (nt_u J B 15 (nI (lb_s f t q))))) rfl k
    rw [if_pos (show (Int32.ofInt 0) = 0 from by decide)] at k
    have k := ly_revb 2 (c' := (if (nI li) = (Int32.ofInt 12) then 124 else 131, [(3, .int (Int32.ofInt 1)), (2, .int (Int32.ofInt 0)), (1, .int (nI (lb_s f t q))), (0, .ref B)], [], me_w M (nt_u J B 15 (nI (lb_s f t q))))) rfl k
    by_cases h121 : li = 12
    · rw [if_pos (show (nI li) = (Int32.ofInt 12) from show nI li = nI 12 from congrArg nI h121)] at k
      have k := ly_revb 3 (c' := (127, [(3, .int (Int32.ofInt 1)), (2, .int (Int32.ofInt 0)), (1, .int (nI (lb_s f t q))), (0, .ref B)], [.int (nI (lb_s f t q)), .int (Int32.ofInt 4), .ref B], me_w M (nt_u J B 15 (nI (lb_s f t q))))) rfl k
      obtain ⟨d1, o1, ed, kc, k⟩ := lz_c (g := 139) (q := 1) (vs := [.ref B, .int (Int32.ofInt 4), .int (nI (lb_s f t q))]) (rest := []) rfl rfl (by decide) (Or.inr (Or.inl ⟨_, rfl, rfl⟩)) rfl k
      obtain ⟨hf, e1⟩ := (md_fails (a := lb_s f t q) (md_VP hP hO hK hV1) hV1.1 hp1 kc).resolve_right (fun c => c.1 rfl)
      subst e1
      have hV9 := md_Vup hP hO hK hV1 (md_Sw (y := lb_c (lb_s f t q) (Int32.ofInt 4)) (md_VP hP hO hK hV1) hV1.1)
      have k : nt_rn X _ 135 (130, [(3, .int (Int32.ofInt 1)), (2, .int (Int32.ofInt 0)), (1, .int (nI (lb_s f t q))), (0, .ref B)], [.int (Int32.ofInt 0)], me_w M (nt_u (nt_u J B 15 (nI (lb_s f t q))) B 16 (lb_c (lb_s f t q) (Int32.ofInt 4)))) _ := k
      have k := lz_ri rfl (by decide) k
      exact ⟨.inl (lb_c (lb_s f t q) (Int32.ofInt 4)), _, _, k, Or.inr (Or.inl ⟨hr, h121, rfl⟩), (lb_c_ne (by omega) (by decide) (by decide)), rfl, _, _, _, _, hV9, hp1⟩
    · rw [if_neg (show ¬ ((nI li) = (Int32.ofInt 12)) from show ¬ nI li = nI 12 from me_ne h121 (by omega) (by omega))] at k
      have k := ly_revb 2 (c' := (133, [(3, .int (Int32.ofInt 1)), (2, .int (Int32.ofInt 0)), (1, .int (nI (lb_s f t q))), (0, .ref B)], [.ref B, .ref B], me_w M (nt_u J B 15 (nI (lb_s f t q))))) rfl k
      have k := lz_get (a := B) (g := 1121) (M := me_w M (nt_u J B 15 (nI (lb_s f t q)))) (v := .int (nI li)) rfl (congrArg Value.int (hV1.2.2.1)) k
      have k := ly_revb 2 (c' := (138, [(3, .int (Int32.ofInt 1)), (2, .int (Int32.ofInt 0)), (1, .int (nI (lb_s f t q))), (0, .ref B)], [.int ((nI li) + (Int32.ofInt 1)), .ref B], me_w M (nt_u J B 15 (nI (lb_s f t q))))) rfl k
      rw [show ((nI li) + (Int32.ofInt 1) : Int32) = nI (li + 1) from me_add (k := 1)] at k
      have k := me_put rfl (by decide) k
      have k : nt_rn X _ 135 (141, [(3, .int (Int32.ofInt 1)), (2, .int (Int32.ofInt 0)), (1, .int (nI (lb_s f t q))), (0, .ref B)], [], me_w M (nt_u (nt_u J B 15 (nI (lb_s f t q))) B 21 (nI (li + 1)))) _ := k
      have hV2 := md_Vli (y := li + 1) hP hO hK hV1 (by omega)
      have k := ly_revb 2 (c' := (if (Int32.ofInt 0) = 0 then 153 else 145, [(3, .int (Int32.ofInt 1)), (2, .int (Int32.ofInt 0)), (1, .int (nI (lb_s f t q))), (0, .ref B)], [], me_w M (nt_u (nt_u J B 15 (nI (lb_s f t q))) B 21 (nI (li + 1))))) rfl k
      rw [if_pos (show (Int32.ofInt 0) = 0 from by decide)] at k
      have k := ly_revb 1 (c' := (154, [(3, .int (Int32.ofInt 1)), (2, .int (Int32.ofInt 0)), (1, .int (nI (lb_s f t q))), (0, .ref B)], [.ref B], me_w M (nt_u (nt_u J B 15 (nI (lb_s f t q))) B 21 (nI (li + 1))))) rfl k
      obtain ⟨d1, o1, ed, kc, k⟩ := lz_c (g := 150) (q := 1) (vs := [.ref B]) (rest := []) rfl rfl (by decide) (Or.inr (Or.inl ⟨_, rfl, rfl⟩)) rfl k
      obtain ⟨r3, a3, J3, e1, htk, hQ⟩ := md_take (e := e) hP hO hK hB hV2 hp1 hr kc
      subst e1
      have k : nt_rn X _ 135 (157, [(3, .int (Int32.ofInt 1)), (2, .int (Int32.ofInt 0)), (1, .int (nI (lb_s f t q))), (0, .ref B)], [.int (a3)], me_w M J3) _ := k
      have k := lz_ri rfl (by decide) k
      exact ⟨r3, _, _, k, Or.inr (Or.inr ⟨hr, by omega, htk⟩), hQ⟩
  · have k : nt_rn X _ 135 (94, [(2, .int (Int32.ofInt 0)), (1, .int (nI (lb_s f t q))), (0, .ref B)], [.int (Int32.ofInt 0)], me_w M (nt_u J B 15 (nI (lb_s f t q)))) _ := k
    have k := ly_revb 3 (c' := (if (Int32.ofInt 0) = 0 then 99 else 106, [(3, .int (Int32.ofInt 0)), (2, .int (Int32.ofInt 0)), (1, .int (nI (lb_s f t q))), (0, .ref B)], [], me_w M (nt_u J B 15 (nI (lb_s f t q))))) rfl k
    rw [if_pos (show (Int32.ofInt 0) = 0 from by decide)] at k
    have k := ly_revb 3 (c' := (102, [(3, .int (Int32.ofInt 0)), (2, .int (Int32.ofInt 0)), (1, .int (nI (lb_s f t q))), (0, .ref B)], [.int (nI (lb_s f t q)), .int (Int32.ofInt 0), .ref B], me_w M (nt_u J B 15 (nI (lb_s f t q))))) rfl k
    obtain ⟨d1, o1, ed, kc, k⟩ := lz_c (g := 139) (q := 1) (vs := [.ref B, .int (Int32.ofInt 0), .int (nI (lb_s f t q))]) (rest := []) rfl rfl (by decide) (Or.inr (Or.inl ⟨_, rfl, rfl⟩)) rfl k
    obtain ⟨hf, e1⟩ := (md_fails (a := lb_s f t q) (md_VP hP hO hK hV1) hV1.1 hp1 kc).resolve_right (fun c => c.1 rfl)
    subst e1
    have hV9 := md_Vup hP hO hK hV1 (md_Sw (y := lb_c (lb_s f t q) (Int32.ofInt 0)) (md_VP hP hO hK hV1) hV1.1)
    have k : nt_rn X _ 135 (105, [(3, .int (Int32.ofInt 0)), (2, .int (Int32.ofInt 0)), (1, .int (nI (lb_s f t q))), (0, .ref B)], [.int (Int32.ofInt 0)], me_w M (nt_u (nt_u J B 15 (nI (lb_s f t q))) B 16 (lb_c (lb_s f t q) (Int32.ofInt 0)))) _ := k
    have k := lz_ri rfl (by decide) k
    exact ⟨.inl (lb_c (lb_s f t q) (Int32.ofInt 0)), _, _, k, Or.inl ⟨hr, rfl⟩, (lb_c_ne (by omega) (by decide) (by decide)), rfl, _, _, _, _, hV9, hp1⟩
theorem md_rdl {X : nt_X} {d t x B Tb Sg Ln Op Cl Cs : Nat} {f : Nat → Int32} {M : nt_M} {J0 : Nat → Nat → Int32} {o : Option Value × nt_M} (hP : md_P M J0 f t x B Tb Sg Ln) (hO : md_O M B Tb Sg Ln Op) (hK : md_K M B Tb Sg Ln Cl Cs) (hB : lb_by f t) (hx : x < 6) : ∀ (c q m : Nat) (e : lb_E) (li : Nat) (J : Nat → Nat → Int32), 12 - li < c → md_V J0 B Sg Ln Op Cl Cs x q 0 m e.2 li J → q ≤ t → nt_rn X d 134 (35, [(1, .int (Int32.ofInt 1)), (0, .ref B)], [], me_w M J) o → ∃ r a J', o = (some (.int a), me_w M J') ∧ (∃ k, lb_c2 f t k li (lb_s f t q, m, e) r) ∧ (a = Int32.ofInt 1 ∧ lb_rc r = 0 ∨ a = Int32.ofInt 0 ∧ lb_rc r ≠ 0) ∧ J' B 16 = lb_rc r ∧ J' B 1 = 0 ∧ J' B 2 = J0 B 2 ∧ J' B 18 = J0 B 18 ∧ (∀ a, a ≠ B → a ≠ Sg → a ≠ Ln → a ≠ Op → a ≠ Cl → a ≠ Cs → J' a = J0 a) := by
  have t4 : t ≤ 400 := hP.2.2.2.2.2.1
  intro cc
  induction cc with
  | zero => intro q m e li J hc; omega
  | succ cc ih =>
    intro q m e li J hcc hV hp k
    have k := ly_revb 2 (c' := (if (Int32.ofInt 1) = 0 then 66 else 39, [(1, .int (Int32.ofInt 1)), (0, .ref B)], [], me_w M J)) rfl k
    rw [if_neg (show ¬ ((Int32.ofInt 1) = 0) from by decide)] at k
    have k := ly_revb 1 (c' := (40, [(1, .int (Int32.ofInt 1)), (0, .ref B)], [.ref B], me_w M J)) rfl k
    obtain ⟨d1, o1, ed, kc, k⟩ := lz_c (g := 136) (q := 1) (vs := [.ref B]) (rest := []) rfl rfl (by decide) (Or.inr (Or.inl ⟨_, rfl, rfl⟩)) rfl k
    have e1 := md_see (md_VP hP hO hK hV) hV.1 hp kc
    subst e1
    have hV1 := md_Vup hP hO hK hV (md_Sq (y := lb_s f t q) (md_VP hP hO hK hV) hV.1)
    have hp1 : lb_s f t q ≤ t := (lb_s_le (t - q) q (by omega)).2
    have hss : lb_s f t (lb_s f t q) = lb_s f t q := lb_ss hp
    have k : nt_rn X _ 134 (43, [(1, .int (Int32.ofInt 1)), (0, .ref B)], [.int (lb_g f t (lb_s f t q))], me_w M (nt_u J B 15 (nI (lb_s f t q)))) _ := k
    have k := ly_revb 2 (c' := (if (lb_g f t (lb_s f t q)) = (Int32.ofInt 59) then 48 else 66, [(1, .int (Int32.ofInt 1)), (0, .ref B)], [], me_w M (nt_u J B 15 (nI (lb_s f t q))))) rfl k
    by_cases h45 : lb_g f t (lb_s f t q) = Int32.ofInt 59
    · rw [if_pos (show (lb_g f t (lb_s f t q)) = (Int32.ofInt 59) from h45)] at k
      have k := ly_revb 2 (c' := (50, [(1, .int (Int32.ofInt 1)), (0, .ref B)], [.ref B, .ref B], me_w M (nt_u J B 15 (nI (lb_s f t q))))) rfl k
      have k := lz_get (a := B) (g := 1115) (M := me_w M (nt_u J B 15 (nI (lb_s f t q)))) (v := .int (nI (lb_s f t q))) rfl (congrArg Value.int (hV1.1.1)) k
      have k := ly_revb 2 (c' := (55, [(1, .int (Int32.ofInt 1)), (0, .ref B)], [.int ((nI (lb_s f t q)) + (Int32.ofInt 1)), .ref B], me_w M (nt_u J B 15 (nI (lb_s f t q))))) rfl k
      rw [show ((nI (lb_s f t q)) + (Int32.ofInt 1) : Int32) = nI ((lb_s f t q) + 1) from me_add (k := 1)] at k
      have k := me_put rfl (by decide) k
      have k : nt_rn X _ 134 (58, [(1, .int (Int32.ofInt 1)), (0, .ref B)], [], me_w M (nt_u (nt_u J B 15 (nI (lb_s f t q))) B 15 (nI ((lb_s f t q) + 1)))) _ := k
      have hlt : lb_s f t q < t := lb_g_lt (by rw [h45]; decide)
      have hV2 := md_Vup hP hO hK hV1 (md_Sq (y := lb_s f t q + 1) (md_VP hP hO hK hV1) hV1.1)
      have k := ly_revb 1 (c' := (59, [(1, .int (Int32.ofInt 1)), (0, .ref B)], [.ref B], me_w M (nt_u (nt_u J B 15 (nI (lb_s f t q))) B 15 (nI ((lb_s f t q) + 1))))) rfl k
      obtain ⟨d1, o1, ed, kc, k⟩ := lz_c (g := 135) (q := 1) (vs := [.ref B]) (rest := []) rfl rfl (by decide) (Or.inr (Or.inl ⟨_, rfl, rfl⟩)) rfl k
      obtain ⟨r3, a3, J3, e1, hc1, hQ⟩ := md_clause (e := e) hP hO hK hB hV2 hx (show lb_s f t q + 1 ≤ t from hlt) kc
      subst e1
      rcases r3 with c | z3
      · obtain ⟨hc, rfl, q3, m3, e3, l3, hV3, hq3⟩ := hQ
        have k : nt_rn X _ 134 (62, [(1, .int (Int32.ofInt 1)), (0, .ref B)], [.int (Int32.ofInt 0)], me_w M J3) _ := k
        have k := ly_revb 2 (c' := (35, [(1, .int (Int32.ofInt 0)), (0, .ref B)], [], me_w M J3)) rfl k
        have k := ly_revb 2 (c' := (if (Int32.ofInt 0) = 0 then 66 else 39, [(1, .int (Int32.ofInt 0)), (0, .ref B)], [], me_w M J3)) rfl k
        rw [if_pos (show (Int32.ofInt 0) = 0 from by decide)] at k
        have k := ly_revb 2 (c' := (if (Int32.ofInt 0) = 0 then 88 else 70, [(1, .int (Int32.ofInt 0)), (0, .ref B)], [], me_w M J3)) rfl k
        rw [if_pos (show (Int32.ofInt 0) = 0 from by decide)] at k
        have k := ly_revb 2 (c' := (90, [(1, .int (Int32.ofInt 0)), (0, .ref B)], [.int (Int32.ofInt 0), .ref B], me_w M J3)) rfl k
        have k := me_put rfl (by decide) k
        have k : nt_rn X _ 134 (93, [(1, .int (Int32.ofInt 0)), (0, .ref B)], [], me_w M (nt_u J3 B 1 (Int32.ofInt 0))) _ := k
        have k := ly_revb 1 (c' := (94, [(1, .int (Int32.ofInt 0)), (0, .ref B)], [.ref B], me_w M (nt_u J3 B 1 (Int32.ofInt 0)))) rfl k
        have k := lz_get (a := B) (g := 1116) (M := me_w M (nt_u J3 B 1 (Int32.ofInt 0))) (v := .int (c)) rfl (congrArg Value.int ((me_uk (by decide)).trans (hV3.1.2.1))) k
        have k := ly_revb 1 (c' := (if c = 0 then 100 else 104, [(1, .int (Int32.ofInt 0)), (0, .ref B)], [], me_w M (nt_u J3 B 1 (Int32.ofInt 0)))) rfl k
        rw [if_neg (show ¬ (c = 0) from hc)] at k
        have k := ly_revb 1 (c' := (105, [(1, .int (Int32.ofInt 0)), (0, .ref B)], [.int (Int32.ofInt 0)], me_w M (nt_u J3 B 1 (Int32.ofInt 0)))) rfl k
        have k := lz_ri rfl (by decide) k
        refine ⟨.inl c, _, _, k, ⟨1, Or.inl ⟨h45, _, hc1, Or.inl ⟨c, rfl, rfl⟩⟩⟩, ?_, (me_uk (by decide)).trans hV3.1.2.1, me_us, (me_uk (by decide)).trans (hV3.2.1.1 2 (by decide) (by decide) (by decide) (by decide) (by decide) (by decide) (by decide)), (me_uk (by decide)).trans (hV3.2.1.1 18 (by decide) (by decide) (by decide) (by decide) (by decide) (by decide) (by decide)), fun a q1 q2 q3 q4 q5 q6 => (me_uo q1).trans (hV3.2.1.2 a q1 q2 q3 q4 q5 q6)⟩
        exact Or.inr ⟨rfl, hc⟩
      · obtain ⟨rfl, q3, hz3, hq3, hV3⟩ := hQ
        have k : nt_rn X _ 134 (62, [(1, .int (Int32.ofInt 1)), (0, .ref B)], [.int (Int32.ofInt 1)], me_w M J3) _ := k
        have k := ly_revb 2 (c' := (35, [(1, .int (Int32.ofInt 1)), (0, .ref B)], [], me_w M J3)) rfl k
        have l3 : li + 1 ≤ 12 := hV3.2.2.2
        obtain ⟨r, a, J', e9, ⟨k9, hk9⟩, hf⟩ := ih _ _ z3.2.2 _ _ (by omega) hV3 hq3 k
        rw [show (lb_s f t q3, z3.2.1, z3.2.2) = z3 from by rw [hz3]] at hk9
        exact ⟨r, a, J', e9, ⟨k9 + 1, Or.inl ⟨h45, _, hc1, Or.inr ⟨z3, rfl, hk9⟩⟩⟩, hf⟩
    · rw [if_neg (show ¬ ((lb_g f t (lb_s f t q)) = (Int32.ofInt 59)) from h45)] at k
      have k := ly_revb 2 (c' := (if (Int32.ofInt 1) = 0 then 88 else 70, [(1, .int (Int32.ofInt 1)), (0, .ref B)], [], me_w M (nt_u J B 15 (nI (lb_s f t q))))) rfl k
      rw [if_neg (show ¬ ((Int32.ofInt 1) = 0) from by decide)] at k
      have k := ly_revb 1 (c' := (71, [(1, .int (Int32.ofInt 1)), (0, .ref B)], [.ref B], me_w M (nt_u J B 15 (nI (lb_s f t q))))) rfl k
      obtain ⟨d1, o1, ed, kc, k⟩ := lz_c (g := 136) (q := 1) (vs := [.ref B]) (rest := []) rfl rfl (by decide) (Or.inr (Or.inl ⟨_, rfl, rfl⟩)) rfl k
      have e1 := md_see (md_VP hP hO hK hV1) hV1.1 hp1 kc
      rw [hss, me_uu] at e1
      subst e1
      have k : nt_rn X _ 134 (74, [(1, .int (Int32.ofInt 1)), (0, .ref B)], [.int (lb_g f t (lb_s f t q))], me_w M (nt_u J B 15 (nI (lb_s f t q)))) _ := k
      have k := ly_revb 2 (c' := (if (lb_g f t (lb_s f t q)) = (Int32.ofInt (-1)) then 88 else 78, [(1, .int (Int32.ofInt 1)), (0, .ref B)], [], me_w M (nt_u J B 15 (nI (lb_s f t q))))) rfl k
      by_cases h75 : lb_g f t (lb_s f t q) = Int32.ofInt (-1)
      · rw [if_pos (show (lb_g f t (lb_s f t q)) = (Int32.ofInt (-1)) from h75)] at k
        have k := ly_revb 2 (c' := (90, [(1, .int (Int32.ofInt 1)), (0, .ref B)], [.int (Int32.ofInt 0), .ref B], me_w M (nt_u J B 15 (nI (lb_s f t q))))) rfl k
        have k := me_put rfl (by decide) k
        have k : nt_rn X _ 134 (93, [(1, .int (Int32.ofInt 1)), (0, .ref B)], [], me_w M (nt_u (nt_u J B 15 (nI (lb_s f t q))) B 1 (Int32.ofInt 0))) _ := k
        have k := ly_revb 1 (c' := (94, [(1, .int (Int32.ofInt 1)), (0, .ref B)], [.ref B], me_w M (nt_u (nt_u J B 15 (nI (lb_s f t q))) B 1 (Int32.ofInt 0)))) rfl k
        have k := lz_get (a := B) (g := 1116) (M := me_w M (nt_u (nt_u J B 15 (nI (lb_s f t q))) B 1 (Int32.ofInt 0))) (v := .int ((0 : Int32))) rfl (congrArg Value.int ((me_uk (by decide)).trans (hV1.1.2.1))) k
        have k := ly_revb 1 (c' := (if ((0 : Int32)) = 0 then 100 else 104, [(1, .int (Int32.ofInt 1)), (0, .ref B)], [], me_w M (nt_u (nt_u J B 15 (nI (lb_s f t q))) B 1 (Int32.ofInt 0)))) rfl k
        rw [if_pos (show ((0 : Int32)) = 0 from rfl)] at k
        have k := ly_revb 2 (c' := (105, [(1, .int (Int32.ofInt 1)), (0, .ref B)], [.int (Int32.ofInt 1)], me_w M (nt_u (nt_u J B 15 (nI (lb_s f t q))) B 1 (Int32.ofInt 0)))) rfl k
        have k := lz_ri rfl (by decide) k
        refine ⟨.inr (lb_s f t q, m, e), _, _, k, ⟨1, Or.inr (Or.inl ⟨h75, rfl⟩)⟩, ?_, (me_uk (by decide)).trans hV1.1.2.1, me_us, (me_uk (by decide)).trans (hV1.2.1.1 2 (by decide) (by decide) (by decide) (by decide) (by decide) (by decide) (by decide)), (me_uk (by decide)).trans (hV1.2.1.1 18 (by decide) (by decide) (by decide) (by decide) (by decide) (by decide) (by decide)), fun a q1 q2 q3 q4 q5 q6 => (me_uo q1).trans (hV1.2.1.2 a q1 q2 q3 q4 q5 q6)⟩
        exact Or.inl ⟨rfl, rfl⟩
      · rw [if_neg (show ¬ ((lb_g f t (lb_s f t q)) = (Int32.ofInt (-1))) from h75)] at k
        have k := ly_revb 3 (c' := (81, [(1, .int (Int32.ofInt 1)), (0, .ref B)], [.ref B, .int (Int32.ofInt 0), .ref B], me_w M (nt_u J B 15 (nI (lb_s f t q))))) rfl k
        have k := lz_get (a := B) (g := 1115) (M := me_w M (nt_u J B 15 (nI (lb_s f t q)))) (v := .int (nI (lb_s f t q))) rfl (congrArg Value.int (hV1.1.1)) k
        obtain ⟨d1, o1, ed, kc, k⟩ := lz_c (g := 139) (q := 1) (vs := [.ref B, .int (Int32.ofInt 0), .int (nI (lb_s f t q))]) (rest := []) rfl rfl (by decide) (Or.inr (Or.inl ⟨_, rfl, rfl⟩)) rfl k
        obtain ⟨hf, e1⟩ := (md_fails (a := lb_s f t q) (md_VP hP hO hK hV1) hV1.1 hp1 kc).resolve_right (fun c => c.1 rfl)
        subst e1
        have hV9 := md_Vup hP hO hK hV1 (md_Sw (y := lb_c (lb_s f t q) (Int32.ofInt 0)) (md_VP hP hO hK hV1) hV1.1)
        have k : nt_rn X _ 134 (87, [(1, .int (Int32.ofInt 1)), (0, .ref B)], [.int (Int32.ofInt 0)], me_w M (nt_u (nt_u J B 15 (nI (lb_s f t q))) B 16 (lb_c (lb_s f t q) (Int32.ofInt 0)))) _ := k
        have k := ly_revb 3 (c' := (90, [(1, .int (Int32.ofInt 1)), (0, .ref B)], [.int (Int32.ofInt 0), .ref B], me_w M (nt_u (nt_u J B 15 (nI (lb_s f t q))) B 16 (lb_c (lb_s f t q) (Int32.ofInt 0))))) rfl k
        have k := me_put rfl (by decide) k
        have k : nt_rn X _ 134 (93, [(1, .int (Int32.ofInt 1)), (0, .ref B)], [], me_w M (nt_u (nt_u (nt_u J B 15 (nI (lb_s f t q))) B 16 (lb_c (lb_s f t q) (Int32.ofInt 0))) B 1 (Int32.ofInt 0))) _ := k
        have k := ly_revb 1 (c' := (94, [(1, .int (Int32.ofInt 1)), (0, .ref B)], [.ref B], me_w M (nt_u (nt_u (nt_u J B 15 (nI (lb_s f t q))) B 16 (lb_c (lb_s f t q) (Int32.ofInt 0))) B 1 (Int32.ofInt 0)))) rfl k
        have k := lz_get (a := B) (g := 1116) (M := me_w M (nt_u (nt_u (nt_u J B 15 (nI (lb_s f t q))) B 16 (lb_c (lb_s f t q) (Int32.ofInt 0))) B 1 (Int32.ofInt 0))) (v := .int (lb_c (lb_s f t q) (Int32.ofInt 0))) rfl (congrArg Value.int ((me_uk (by decide)).trans (hV9.1.2.1))) k
        have k := ly_revb 1 (c' := (if (lb_c (lb_s f t q) (Int32.ofInt 0)) = 0 then 100 else 104, [(1, .int (Int32.ofInt 1)), (0, .ref B)], [], me_w M (nt_u (nt_u (nt_u J B 15 (nI (lb_s f t q))) B 16 (lb_c (lb_s f t q) (Int32.ofInt 0))) B 1 (Int32.ofInt 0)))) rfl k
        rw [if_neg (show ¬ ((lb_c (lb_s f t q) (Int32.ofInt 0)) = 0) from (lb_c_ne (by omega) (by decide) (by decide)))] at k
        have k := ly_revb 1 (c' := (105, [(1, .int (Int32.ofInt 1)), (0, .ref B)], [.int (Int32.ofInt 0)], me_w M (nt_u (nt_u (nt_u J B 15 (nI (lb_s f t q))) B 16 (lb_c (lb_s f t q) (Int32.ofInt 0))) B 1 (Int32.ofInt 0)))) rfl k
        have k := lz_ri rfl (by decide) k
        refine ⟨.inl (lb_c (lb_s f t q) (Int32.ofInt 0)), _, _, k, ⟨1, Or.inr (Or.inr ⟨h45, h75, rfl⟩)⟩, ?_, (me_uk (by decide)).trans hV9.1.2.1, me_us, (me_uk (by decide)).trans (hV9.2.1.1 2 (by decide) (by decide) (by decide) (by decide) (by decide) (by decide) (by decide)), (me_uk (by decide)).trans (hV9.2.1.1 18 (by decide) (by decide) (by decide) (by decide) (by decide) (by decide) (by decide)), fun a q1 q2 q3 q4 q5 q6 => (me_uo q1).trans (hV9.2.1.2 a q1 q2 q3 q4 q5 q6)⟩
        exact Or.inr ⟨rfl, (lb_c_ne (by omega) (by decide) (by decide))⟩
theorem md_V0 {M : nt_M} {J0 J : Nat → Nat → Int32} {f : Nat → Int32} {t x B Tb Sg Ln Op Cl Cs : Nat} (hP : md_P M J0 f t x B Tb Sg Ln) (hO : md_O M B Tb Sg Ln Op) (hK : md_K M B Tb Sg Ln Cl Cs) (fr : (∀ i, i ≠ 15 → i ≠ 16 → i ≠ 17 → i ≠ 19 → i ≠ 20 → i ≠ 21 → i ≠ 23 → J B i = J0 B i) ∧ (∀ a, a ≠ B → a ≠ Sg → a ≠ Ln → a ≠ Op → a ≠ Cl → a ≠ Cs → J a = J0 a)) : md_V J0 B Sg Ln Op Cl Cs x 0 0 0 (0, fun _ => 0) 0 (nt_u (nt_u (nt_u (nt_u (nt_u J Ln x (Int32.ofInt 0)) B 21 (Int32.ofInt 0)) B 15 (Int32.ofInt 0)) B 16 (Int32.ofInt 0)) B 19 (Int32.ofInt 0)) := by
  have n2 := hP.2.1.2.2.2.2.1
  refine ⟨⟨(me_uk (by decide)).trans ((me_uk (by decide)).trans me_us), (me_uk (by decide)).trans me_us, me_us, ?_, fun j hj => absurd hj (Nat.not_lt_zero _), fun _ _ _ _ _ => rfl, fun _ _ _ _ => rfl, Nat.zero_le _, Nat.zero_le _⟩, ⟨fun i q1 q2 q3 q4 q5 q6 q7 => ?_, fun a q1 q2 q3 q4 q5 q6 => ?_⟩, ?_, Nat.zero_le _⟩
  · rw [me_uj (Ne.symm n2), me_uj (Ne.symm n2), me_uj (Ne.symm n2), me_uj (Ne.symm n2), me_us]
    rfl
  · rw [me_uk q4, me_uk q2, me_uk q1, me_uk q6, me_uj n2]
    exact fr.1 i q1 q2 q3 q4 q5 q6 q7
  · rw [me_uo q1, me_uo q1, me_uo q1, me_uo q1, me_uo q3]
    exact fr.2 a q1 q2 q3 q4 q5 q6
  · rw [me_uk (by decide), me_uk (by decide), me_uk (by decide), me_us]
    rfl
theorem md_reads {X : nt_X} {d t x B Tb Sg Ln Op Cl Cs : Nat} {f : Nat → Int32} {M : nt_M} {J0 J : Nat → Nat → Int32} {o : Option Value × nt_M} (hP : md_P M J0 f t x B Tb Sg Ln) (hO : md_O M B Tb Sg Ln Op) (hK : md_K M B Tb Sg Ln Cl Cs) (hB : lb_by f t) (hx : x < 6) (fr : (∀ i, i ≠ 15 → i ≠ 16 → i ≠ 17 → i ≠ 19 → i ≠ 20 → i ≠ 21 → i ≠ 23 → J B i = J0 B i) ∧ (∀ a, a ≠ B → a ≠ Sg → a ≠ Ln → a ≠ Op → a ≠ Cl → a ≠ Cs → J a = J0 a)) (k : nt_ev X d 134 [.ref B] (me_w M J) o) : ∃ r a J', o = (some (.int a), me_w M J') ∧ lb_c3 f t (lb_s f t 0, 0, ((0, fun _ => 0), (0, fun _ => 0))) r ∧ (a = Int32.ofInt 1 ∧ lb_rc r = 0 ∨ a = Int32.ofInt 0 ∧ lb_rc r ≠ 0) ∧ J' B 16 = lb_rc r ∧ J' B 1 = 0 ∧ J' B 2 = J0 B 2 ∧ J' B 18 = J0 B 18 ∧ (∀ a, a ≠ B → a ≠ Sg → a ≠ Ln → a ≠ Op → a ≠ Cl → a ≠ Cs → J' a = J0 a) := by
  have k : nt_rn X d 134 (0, [(0, .ref B)], [], me_w M J) o := k
  have t4 : t ≤ 400 := hP.2.2.2.2.2.1
  have k := ly_revb 1 (c' := (1, [(0, .ref B)], [.ref B], me_w M J)) rfl k
  have k := lz_get (a := B) (g := 1104) (M := me_w M J) (v := .ref Ln) rfl (nt_gfR rfl hP.1.2.2) k
  have k := ly_revb 1 (c' := (5, [(0, .ref B)], [.ref B, .ref Ln], me_w M J)) rfl k
  have k := lz_get (a := B) (g := 1118) (M := me_w M J) (v := .int (nI x)) rfl (congrArg Value.int ((fr.1 18 (by decide) (by decide) (by decide) (by decide) (by decide) (by decide) (by decide)).trans hP.2.2.2.1)) k
  have k := ly_revb 1 (c' := (9, [(0, .ref B)], [.int (Int32.ofInt 0), .int (nI x), .ref Ln], me_w M J)) rfl k
  have k := me_iast (q := x) rfl (rfl) (by omega) k
  have k := ly_revb 2 (c' := (12, [(0, .ref B)], [.int (Int32.ofInt 0), .ref B], me_w M (nt_u J Ln x (Int32.ofInt 0)))) rfl k
  have k := me_put rfl (by decide) k
  have k : nt_rn X _ 134 (15, [(0, .ref B)], [], me_w M (nt_u (nt_u J Ln x (Int32.ofInt 0)) B 21 (Int32.ofInt 0))) _ := k
  have k := ly_revb 2 (c' := (17, [(0, .ref B)], [.int (Int32.ofInt 0), .ref B], me_w M (nt_u (nt_u J Ln x (Int32.ofInt 0)) B 21 (Int32.ofInt 0)))) rfl k
  have k := me_put rfl (by decide) k
  have k : nt_rn X _ 134 (20, [(0, .ref B)], [], me_w M (nt_u (nt_u (nt_u J Ln x (Int32.ofInt 0)) B 21 (Int32.ofInt 0)) B 15 (Int32.ofInt 0))) _ := k
  have k := ly_revb 2 (c' := (22, [(0, .ref B)], [.int (Int32.ofInt 0), .ref B], me_w M (nt_u (nt_u (nt_u J Ln x (Int32.ofInt 0)) B 21 (Int32.ofInt 0)) B 15 (Int32.ofInt 0)))) rfl k
  have k := me_put rfl (by decide) k
  have k : nt_rn X _ 134 (25, [(0, .ref B)], [], me_w M (nt_u (nt_u (nt_u (nt_u J Ln x (Int32.ofInt 0)) B 21 (Int32.ofInt 0)) B 15 (Int32.ofInt 0)) B 16 (Int32.ofInt 0))) _ := k
  have k := ly_revb 2 (c' := (27, [(0, .ref B)], [.int (Int32.ofInt 0), .ref B], me_w M (nt_u (nt_u (nt_u (nt_u J Ln x (Int32.ofInt 0)) B 21 (Int32.ofInt 0)) B 15 (Int32.ofInt 0)) B 16 (Int32.ofInt 0)))) rfl k
  have k := me_put rfl (by decide) k
  have k : nt_rn X _ 134 (30, [(0, .ref B)], [], me_w M (nt_u (nt_u (nt_u (nt_u (nt_u J Ln x (Int32.ofInt 0)) B 21 (Int32.ofInt 0)) B 15 (Int32.ofInt 0)) B 16 (Int32.ofInt 0)) B 19 (Int32.ofInt 0))) _ := k
  have hV : md_V J0 B Sg Ln Op Cl Cs x 0 0 0 (0, fun _ => 0) 0 (nt_u (nt_u (nt_u (nt_u (nt_u J Ln x (Int32.ofInt 0)) B 21 (Int32.ofInt 0)) B 15 (Int32.ofInt 0)) B 16 (Int32.ofInt 0)) B 19 (Int32.ofInt 0)) := md_V0 hP hO hK fr
  have k := ly_revb 1 (c' := (31, [(0, .ref B)], [.ref B], me_w M (nt_u (nt_u (nt_u (nt_u (nt_u J Ln x (Int32.ofInt 0)) B 21 (Int32.ofInt 0)) B 15 (Int32.ofInt 0)) B 16 (Int32.ofInt 0)) B 19 (Int32.ofInt 0)))) rfl k
  obtain ⟨d1, o1, ed, kc, k⟩ := lz_c (g := 135) (q := 1) (vs := [.ref B]) (rest := []) rfl rfl (by decide) (Or.inr (Or.inl ⟨_, rfl, rfl⟩)) rfl k
  obtain ⟨r3, a3, J3, e1, hc1, hQ⟩ := md_clause (e := ((0, fun _ => 0), (0, fun _ => 0))) hP hO hK hB hV hx (Nat.zero_le _) kc
  subst e1
  rcases r3 with c | z3
  · obtain ⟨hc, rfl, q3, m3, e3, l3, hV3, hq3⟩ := hQ
    have k : nt_rn X _ 134 (34, [(0, .ref B)], [.int (Int32.ofInt 0)], me_w M J3) _ := k
    have k := ly_revb 1 (c' := (35, [(1, .int (Int32.ofInt 0)), (0, .ref B)], [], me_w M J3)) rfl k
    have k := ly_revb 2 (c' := (if (Int32.ofInt 0) = 0 then 66 else 39, [(1, .int (Int32.ofInt 0)), (0, .ref B)], [], me_w M J3)) rfl k
    rw [if_pos (show (Int32.ofInt 0) = 0 from by decide)] at k
    have k := ly_revb 2 (c' := (if (Int32.ofInt 0) = 0 then 88 else 70, [(1, .int (Int32.ofInt 0)), (0, .ref B)], [], me_w M J3)) rfl k
    rw [if_pos (show (Int32.ofInt 0) = 0 from by decide)] at k
    have k := ly_revb 2 (c' := (90, [(1, .int (Int32.ofInt 0)), (0, .ref B)], [.int (Int32.ofInt 0), .ref B], me_w M J3)) rfl k
    have k := me_put rfl (by decide) k
    have k : nt_rn X _ 134 (93, [(1, .int (Int32.ofInt 0)), (0, .ref B)], [], me_w M (nt_u J3 B 1 (Int32.ofInt 0))) _ := k
    have k := ly_revb 1 (c' := (94, [(1, .int (Int32.ofInt 0)), (0, .ref B)], [.ref B], me_w M (nt_u J3 B 1 (Int32.ofInt 0)))) rfl k
    have k := lz_get (a := B) (g := 1116) (M := me_w M (nt_u J3 B 1 (Int32.ofInt 0))) (v := .int (c)) rfl (congrArg Value.int ((me_uk (by decide)).trans (hV3.1.2.1))) k
    have k := ly_revb 1 (c' := (if c = 0 then 100 else 104, [(1, .int (Int32.ofInt 0)), (0, .ref B)], [], me_w M (nt_u J3 B 1 (Int32.ofInt 0)))) rfl k
    rw [if_neg (show ¬ (c = 0) from hc)] at k
    have k := ly_revb 1 (c' := (105, [(1, .int (Int32.ofInt 0)), (0, .ref B)], [.int (Int32.ofInt 0)], me_w M (nt_u J3 B 1 (Int32.ofInt 0)))) rfl k
    have k := lz_ri rfl (by decide) k
    refine ⟨.inl c, _, _, k, ⟨_, hc1, Or.inl ⟨c, rfl, rfl⟩⟩, ?_, (me_uk (by decide)).trans hV3.1.2.1, me_us, (me_uk (by decide)).trans (hV3.2.1.1 2 (by decide) (by decide) (by decide) (by decide) (by decide) (by decide) (by decide)), (me_uk (by decide)).trans (hV3.2.1.1 18 (by decide) (by decide) (by decide) (by decide) (by decide) (by decide) (by decide)), fun a q1 q2 q3 q4 q5 q6 => (me_uo q1).trans (hV3.2.1.2 a q1 q2 q3 q4 q5 q6)⟩
    exact Or.inr ⟨rfl, hc⟩
  · obtain ⟨rfl, q3, hz3, hq3, hV3⟩ := hQ
    have k : nt_rn X _ 134 (34, [(0, .ref B)], [.int (Int32.ofInt 1)], me_w M J3) _ := k
    have k := ly_revb 1 (c' := (35, [(1, .int (Int32.ofInt 1)), (0, .ref B)], [], me_w M J3)) rfl k
    obtain ⟨r, a, J', e9, ⟨k9, hk9⟩, hf⟩ := md_rdl hP hO hK hB hx 13 _ _ z3.2.2 _ _ (by decide) hV3 hq3 k
    rw [show (lb_s f t q3, z3.2.1, z3.2.2) = z3 from by rw [hz3]] at hk9
    exact ⟨r, a, J', e9, ⟨_, hc1, Or.inr ⟨z3, rfl, k9, hk9⟩⟩, hf⟩
end
section
/-! behind yard the tape is empty -/
def kk_n_yard2 : sx_K := (104, 9, [(10, 0, 0, 8), (7, 0, 0, 4), (12, 400, 400, 0), (2, 0, 0, 5), (9, 0, 0, 0), (6, 0, 0, 15), (6, 0, 0, 15), (8, 0, 0, 1), (13, 24, 24, 0), (13, 24, 24, 2), (13, 24, 24, 0), (13, 24, 24, 0), (13, 8, 8, 3), (13, 8, 8, 0), (13, 8, 8, 0), (13, 8, 8, 0), (13, 6, 6, 0), (13, 6, 6, 0), (13, 6, 6, 0), (13, 24, 24, 0), (13, 24, 24, 0), (15, 24, 24, 0), (13, 8, 8, 0)], ([(1, 1, 1), (3, 1, 2), (6, 1, 6), (7, 0, 4), (8, 0, 2147483647), (9, 0, 2147483647), (10, 0, 2147483647), (11, 0, 2147483647), (12, 0, 2147483647), (13, 0, 2147483647), (14, 0, 2147483647), (15, 0, 2147483647), (16, 0, 2147483647), (17, 0, 2147483647), (18, 0, 2147483647), (19, 0, 2147483647), (20, 0, 2147483647), (21, 0, 2147483647), (22, 0, 2147483647)], [(0, 7), (0, 8), (4, 1)]), [(2, 0, (0, []))], ([((5, (6, [])), (0, [(0, 1)]))], [((0, (0, [])), 2), ((0, (1, [])), 5), ((0, (7, [])), 6), ((0, (8, [])), 7), ((4, (0, [])), 4), ((3, (0, [])), 2), ((1, (0, [])), 3), ((6, (0, [])), 8), ((7, (5, [])), 9), ((7, (6, [])), 10), ((7, (7, [])), 11), ((7, (8, [])), 12), ((7, (9, [])), 13), ((7, (10, [])), 14), ((7, (11, [])), 15), ((7, (12, [])), 16), ((6, (7, [])), 17), ((6, (8, [])), 18), ((6, (9, [])), 19), ((6, (10, [])), 20), ((6, (11, [])), 21), ((6, (12, [])), 22), ((6, (13, [])), 23)], ([(0, (-2147483648), 2147483647)], []), 1), [(some (0, 0, (0, [(1, 1)])), ([((5, (6, [])), (0, [(0, 1)])), ((1, (1, [])), (0, []))], [((0, (7, [])), 6), ((0, (8, [])), 7)], ([(1, (-2147483648), 2147483647)], []), 2)), (some (0, 0, (0, [(1, 1)])), ([((6, (6, [])), (0, [(0, 1)])), ((1, (1, [])), (0, []))], [((0, (7, [])), 7), ((0, (8, [])), 6)], ([(1, (-2147483648), 2147483647)], []), 2))])
def kh_n_yard2 : List (sx_A × sx_L) := []
def kk_readsAllY2 : sx_K := (134, 5, [(11, 0, 0, 9), (13, 2400, 2400, 0), (13, 288, 288, 0), (13, 6, 6, 14), (13, 212, 212, 10), (14, 64, 64, 0), (14, 10, 10, 0), (13, 212, 212, 10), (12, 400, 400, 0), (13, 400, 400, 0), (13, 7, 7, 13), (13, 24, 24, 0), (13, 72, 72, 11), (13, 32, 32, 12), (13, 848, 848, 16), (15, 4, 4, 0)], ([(0, 1, 1), (0, 7, 11), (0, 15, 17), (0, 19, 19), (0, 21, 21), (10, 0, 2147483647), (11, 0, 2147483647), (12, 0, 2147483647), (13, 0, 2147483647)], []), [(2, 0, (0, []))], ([((0, (18, [])), (0, [(0, 1)]))], [((0, (3, [])), 2), ((0, (5, [])), 3), ((0, (6, [])), 4), ((0, (27, [])), 5), ((0, (24, [])), 6), ((0, (26, [])), 7), ((0, (28, [])), 8), ((0, (0, [])), 9), ((0, (22, [])), 10), ((0, (4, [])), 11), ((0, (12, [])), 12), ((0, (13, [])), 13), ((0, (14, [])), 14), ((0, (29, [])), 15), ((0, (30, [])), 16)], ([(0, 6, 6)], []), 1), [(some (0, 0, (0, [(1, 1)])), ([((0, (1, [])), (0, []))], [], ([(1, 0, 1)], []), 2))])
def kh_readsAllY2 : List (sx_A × sx_L) := [((35, [(0, (2, 0, (0, []))), (1, (0, 0, (0, [(1, 1)])))], [], ([((0, (15, [])), (0, [(2, 1)])), ((0, (1, [])), (0, [(3, 1)])), ((0, (1, [])), (0, [(3, 1)])), ((0, (19, [])), (0, [])), ((10, (0, [(0, 1)])), (0, [])), ((0, (18, [])), (0, [(0, 1)]))], [((0, (3, [])), 2), ((0, (5, [])), 3), ((0, (6, [])), 4), ((0, (27, [])), 5), ((0, (24, [])), 6), ((0, (26, [])), 7), ((0, (28, [])), 8), ((0, (0, [])), 9), ((0, (22, [])), 10), ((0, (4, [])), 11), ((0, (12, [])), 12), ((0, (13, [])), 13), ((0, (14, [])), 14), ((0, (29, [])), 15), ((0, (30, [])), 16)], ([(0, 6, 6), (3, 0, 400), (2, 0, 400), (1, 0, 1)], []), 4)), (400, [(2, (-1))]))]
def kk_yard2 : sx_K := (166, 6, [(11, 0, 0, 9), (13, 2400, 2400, 0), (13, 288, 288, 0), (13, 6, 6, 14), (13, 212, 212, 10), (14, 64, 64, 0), (14, 10, 10, 0), (13, 212, 212, 10), (12, 400, 400, 0), (13, 400, 400, 0), (13, 7, 7, 13), (13, 24, 24, 0), (13, 72, 72, 11), (13, 32, 32, 12), (13, 848, 848, 16), (15, 4, 4, 0)], ([(0, 1, 1), (0, 7, 11), (0, 15, 19), (0, 21, 21), (4, 0, 211), (10, 0, 2147483647), (11, 0, 2147483647), (12, 0, 2147483647), (13, 0, 2147483647)], []), [(2, 0, (0, []))], ([((4, (9, [])), (0, [(0, 1)]))], [((0, (3, [])), 2), ((0, (5, [])), 3), ((0, (6, [])), 4), ((0, (27, [])), 5), ((0, (24, [])), 6), ((0, (26, [])), 7), ((0, (28, [])), 8), ((0, (0, [])), 9), ((0, (22, [])), 10), ((0, (4, [])), 11), ((0, (12, [])), 12), ((0, (13, [])), 13), ((0, (14, [])), 14), ((0, (29, [])), 15), ((0, (30, [])), 16)], ([(0, (-2147483648), 2147483647)], []), 1), [(some (0, 0, (0, [(1, 1)])), ([((4, (9, [])), (0, [(0, 1)])), ((0, (1, [])), (0, []))], [], ([(1, (-2147483648), 2147483647)], []), 2))])
def kh_yard2 : List (sx_A × sx_L) := [((56, [(0, (2, 0, (0, []))), (1, (0, 0, (0, [(0, 1)]))), (2, (0, 0, (0, [(1, 1)])))], [], ([((0, (1, [])), (0, [])), ((0, (18, [])), (6, []))], [((0, (3, [])), 2), ((0, (5, [])), 3), ((0, (6, [])), 4), ((0, (27, [])), 5), ((0, (24, [])), 6), ((0, (26, [])), 7), ((0, (28, [])), 8), ((0, (0, [])), 9), ((0, (22, [])), 10), ((0, (4, [])), 11), ((0, (12, [])), 12), ((0, (13, [])), 13), ((0, (14, [])), 14), ((0, (29, [])), 15), ((0, (30, [])), 16)], ([(0, (-2147483648), 2147483647), (1, 0, 212)], []), 2)), (73786976322755493887, [(1, (-1))])), ((148, [(0, (2, 0, (0, []))), (1, (0, 0, (0, [(0, 1)]))), (2, (0, 0, (0, [(1, 1)])))], [], ([((4, (9, [])), (0, [(0, 1)])), ((4, (5, [])), (0, [(2, 1)])), ((4, (3, [])), (0, [(3, 1)])), ((0, (10, [])), (0, [(3, 1)])), ((4, (2, [])), (0, [(4, 1)])), ((0, (9, [])), (0, [(4, 1)])), ((4, (1, [])), (0, [(5, 1)])), ((0, (8, [])), (0, [(5, 1)])), ((4, (0, [])), (0, [(6, 1)])), ((0, (7, [])), (0, [(6, 1)])), ((0, (1, [])), (0, [])), ((0, (18, [])), (6, []))], [((0, (3, [])), 2), ((0, (5, [])), 3), ((0, (6, [])), 4), ((0, (27, [])), 5), ((0, (24, [])), 6), ((0, (26, [])), 7), ((0, (28, [])), 8), ((0, (0, [])), 9), ((0, (22, [])), 10), ((0, (4, [])), 11), ((0, (12, [])), 12), ((0, (13, [])), 13), ((0, (14, [])), 14), ((0, (29, [])), 15), ((0, (30, [])), 16)], ([(0, (-2147483648), 2147483647), (6, 0, 4), (5, 0, 6), (4, 0, 24), (3, 0, 8), (2, 0, 2147483647), (1, 0, 6)], []), 7)), (18446744093036904447, [(1, (-8589934593))])), ((158, [(0, (2, 0, (0, []))), (1, (0, 0, (0, [(0, 1)]))), (2, (0, 0, (0, [(1, 1)]))), (3, (0, 0, (0, [(2, 1)])))], [], ([((4, (9, [])), (0, [(0, 1)])), ((4, (5, [])), (0, [(3, 1)])), ((4, (3, [])), (0, [(4, 1)])), ((0, (10, [])), (0, [(4, 1)])), ((4, (2, [])), (0, [(5, 1)])), ((0, (9, [])), (0, [(5, 1)])), ((4, (1, [])), (0, [(6, 1)])), ((0, (8, [])), (0, [(6, 1)])), ((4, (0, [])), (0, [(7, 1)])), ((0, (7, [])), (0, [(7, 1)])), ((0, (1, [])), (0, [])), ((0, (18, [])), (6, []))], [((0, (3, [])), 2), ((0, (5, [])), 3), ((0, (6, [])), 4), ((0, (27, [])), 5), ((0, (24, [])), 6), ((0, (26, [])), 7), ((0, (28, [])), 8), ((0, (0, [])), 9), ((0, (22, [])), 10), ((0, (4, [])), 11), ((0, (12, [])), 12), ((0, (13, [])), 13), ((0, (14, [])), 14), ((0, (29, [])), 15), ((0, (30, [])), 16)], ([(0, (-2147483648), 2147483647), (7, 0, 4), (6, 1, 6), (5, 0, 24), (4, 0, 8), (3, 0, 2147483647), (2, 0, 4), (1, 0, 5)], []), 8)), (18446744086594453502, [(1, (-8589934593)), (2, (-1))])), ((219, [(0, (2, 0, (0, []))), (1, (0, 0, (0, [(0, 1)]))), (2, (0, 0, (0, [(1, 1)])))], [], ([((4, (9, [])), (0, [(0, 1)])), ((4, (5, [])), (0, [(2, 1)])), ((4, (3, [])), (0, [(3, 1)])), ((0, (10, [])), (0, [(3, 1)])), ((4, (2, [])), (0, [(4, 1)])), ((0, (9, [])), (0, [(4, 1)])), ((4, (1, [])), (0, [(5, 1)])), ((0, (8, [])), (0, [(5, 1)])), ((4, (0, [])), (0, [(6, 1)])), ((0, (7, [])), (0, [(6, 1)])), ((0, (1, [])), (0, [])), ((0, (18, [])), (6, []))], [((0, (3, [])), 2), ((0, (5, [])), 3), ((0, (6, [])), 4), ((0, (27, [])), 5), ((0, (24, [])), 6), ((0, (26, [])), 7), ((0, (28, [])), 8), ((0, (0, [])), 9), ((0, (22, [])), 10), ((0, (4, [])), 11), ((0, (12, [])), 12), ((0, (13, [])), 13), ((0, (14, [])), 14), ((0, (29, [])), 15), ((0, (30, [])), 16)], ([(0, (-2147483648), 2147483647), (6, 0, 4), (5, 0, 6), (4, 0, 24), (3, 0, 8), (2, 0, 2147483647), (1, 0, 24)], []), 7)), (10737418239, [(1, (-1))])), ((285, [(0, (2, 0, (0, []))), (1, (0, 0, (0, [(0, 1)]))), (2, (0, 0, (0, [(1, 1)])))], [], ([((4, (9, [])), (0, [(0, 1)])), ((4, (5, [])), (0, [(2, 1)])), ((4, (3, [])), (0, [(3, 1)])), ((0, (10, [])), (0, [(3, 1)])), ((4, (2, [])), (0, [(4, 1)])), ((0, (9, [])), (0, [(4, 1)])), ((4, (1, [])), (0, [(5, 1)])), ((0, (8, [])), (0, [(5, 1)])), ((4, (0, [])), (0, [(6, 1)])), ((0, (7, [])), (0, [(6, 1)])), ((0, (1, [])), (0, [])), ((0, (18, [])), (6, []))], [((0, (3, [])), 2), ((0, (5, [])), 3), ((0, (6, [])), 4), ((0, (27, [])), 5), ((0, (24, [])), 6), ((0, (26, [])), 7), ((0, (28, [])), 8), ((0, (0, [])), 9), ((0, (22, [])), 10), ((0, (4, [])), 11), ((0, (12, [])), 12), ((0, (13, [])), 13), ((0, (14, [])), 14), ((0, (29, [])), 15), ((0, (30, [])), 16)], ([(0, (-2147483648), 2147483647), (6, 0, 4), (5, 0, 6), (4, 0, 24), (3, 0, 8), (2, 0, 2147483647), (1, 0, 8)], []), 7)), (2147483647, [(1, (-1))]))]
theorem kc_n_yard2 : sx_chk (sx_tbs, []) [kk_begin, kk_yread] kk_n_yard2 kh_n_yard2 3000 = true := by decide +kernel
theorem ko_n_yard2 (X : nt_X) : sx_KOK X (sx_tbs, []) kk_n_yard2 := sx_keeps (Ks := [kk_begin, kk_yread]) (fun K h => by
    rcases List.mem_cons.mp h with e | h
    · rw [e]; exact ko_begin X
    rcases List.mem_cons.mp h with e | h
    · rw [e]; exact ko_yread X
    cases h) kc_n_yard2
theorem kc_readsAllY2 : sx_chk (sx_tbs, []) [kk_fails, kk_see, kk_clauseHereY] kk_readsAllY2 kh_readsAllY2 3000 = true := by decide +kernel
theorem ko_readsAllY2 (X : nt_X) : sx_KOK X (sx_tbs, []) kk_readsAllY2 := sx_keeps (Ks := [kk_fails, kk_see, kk_clauseHereY]) (fun K h => by
    rcases List.mem_cons.mp h with e | h
    · rw [e]; exact ko_fails X
    rcases List.mem_cons.mp h with e | h
    · rw [e]; exact ko_see X
    rcases List.mem_cons.mp h with e | h
    · rw [e]; exact ko_clauseHereY X
    cases h) kc_readsAllY2
theorem kc_yard2 : sx_chk (sx_tbs, []) [kk_readsAllY2] kk_yard2 kh_yard2 3000 = true := by decide +kernel
theorem ko_yard2 (X : nt_X) : sx_KOK X (sx_tbs, []) kk_yard2 := sx_keeps (Ks := [kk_readsAllY2]) (fun K h => by
    rcases List.mem_cons.mp h with e | h
    · rw [e]; exact ko_readsAllY2 X
    cases h) kc_yard2
def kk_w_n_yard2 : sx_K := (104, 9, ly_D, ([(17, 1, 1), (19, 1, 2), (48, 1, 6), (49, 0, 4), (50, 0, 2147483647), (51, 0, 2147483647), (52, 0, 2147483647), (53, 0, 2147483647), (54, 0, 2147483647), (55, 0, 2147483647), (56, 0, 2147483647), (57, 0, 2147483647), (58, 0, 2147483647), (59, 0, 2147483647), (60, 0, 2147483647), (61, 0, 2147483647), (62, 0, 2147483647), (63, 0, 2147483647), (64, 0, 2147483647)], [(16, 7), (16, 8), (20, 1)]), [(2, 16, (0, []))], (ly_C, ly_R, (ly_b, []), 11), [(some (0, 0, (0, [(11, 1)])), ([((17, (1, [])), (0, []))], [], ([(11, (-2147483648), 2147483647)], []), 12)), (some (0, 0, (0, [(11, 1)])), ([((17, (1, [])), (0, []))], [], ([(11, (-2147483648), 2147483647)], []), 12))])
theorem kc_w_n_yard2 : sx_wkc (sx_tbs, sx_gps) kk_n_yard2 kk_w_n_yard2 = true := by decide +kernel
theorem ko_w_n_yard2 (X : nt_X) : sx_KOK X (sx_tbs, sx_gps) kk_w_n_yard2 := sx_wk (sx_lift (by decide +kernel) (ko_n_yard2 X)) kc_w_n_yard2
def kk_w_yard2 : sx_K := (166, 6, ly_D, ([(0, 1, 1), (0, 7, 11), (0, 15, 19), (0, 21, 21), (4, 0, 211), (10, 0, 2147483647), (11, 0, 2147483647), (12, 0, 2147483647), (13, 0, 2147483647)], []), [(2, 0, (0, []))], (ly_C, ly_R, (ly_b, []), 11), [(some (0, 0, (0, [(11, 1)])), ([((0, (1, [])), (0, []))], [], ([(11, (-2147483648), 2147483647)], []), 12))])
theorem kc_w_yard2 : sx_wkc (sx_tbs, sx_gps) kk_yard2 kk_w_yard2 = true := by decide +kernel
theorem ko_w_yard2 (X : nt_X) : sx_KOK X (sx_tbs, sx_gps) kk_w_yard2 := sx_wk (sx_lift (by decide +kernel) (ko_yard2 X)) kc_w_yard2
theorem lq_Tx {K : sx_K} {pl : Nat → Nat} {M M' : nt_M} {x0 : Nat × Int × Int} (hn : 66 ≤ K.2.2.1.length) (hij : sx_ij (sx_KE (sx_tbs, sx_gps) K) pl) (hmo : K.2.2.2.1.1.all (fun q => (Nat.beq q.1 x0.1 && (decide (q.2.1 = x0.2.1) && decide (q.2.2 = x0.2.2))) || lq_o q) = true) (h : sx_fm (sx_KE (sx_tbs, sx_gps) K) pl M M') (g j : Nat) (hc : lq_c g j) (hx : ¬ (g = x0.1 ∧ x0.2.1 ≤ (j : Int) ∧ (j : Int) ≤ x0.2.2)) : nt_I M' (pl g) j = nt_I M (pl g) j := by
  refine h.2.1 _ j fun q hq hl hz => ?_
  have hg := lq_c66 hc
  have e := hij g q.1 (by show g < K.2.2.1.length; omega) hl hz.1
  have l := List.all_eq_true.mp hmo q hq
  rw [Bool.or_eq_true, Bool.and_eq_true, Bool.and_eq_true] at l
  rcases l with l | l
  · have a := Nat.eq_of_beq_eq_true l.1
    have b := of_decide_eq_true l.2.1
    have c := of_decide_eq_true l.2.2
    exact hx ⟨e.trans a, by rw [← b]; exact hz.2.1, by rw [← c]; exact hz.2.2⟩
  · exact lq_oc l (e ▸ hc) hz.2.1 hz.2.2
theorem lq_yardC {X : nt_X} {pl : Nat → Nat} {v : Nat → Int} {M : nt_M} {d : Nat} {o : Option Value × nt_M} (hd : 9 ≤ d) (hB : ly_B pl v M) (k : nt_ev X d 104 [.ref (pl 16)] M o) : nt_I o.2 (pl 17) 1 = nI 0 ∧ (∀ g j, lq_c g j → g ≠ 17 → nt_I o.2 (pl g) j = nt_I M (pl g) j) ∧ ∀ g j, (g = 31 ∨ g = 4 ∨ g = 14) → nt_I o.2 (pl g) j = nt_I M (pl g) j := by
  have hij := ly_ij (K := kk_w_n_yard2) rfl hB
  have hon := ly_app (K := kk_w_n_yard2) (r := v) (ed := []) (ec := []) (er := []) rfl hB (fun _ _ => rfl) (fun _ _ => rfl) hij ly_nil (fun q hq => by cases hq) (fun q hq => by cases hq) (ly_ob hB) ly_oc0
  obtain ⟨o', h1, p, hp, r', h2, h3⟩ := ly_run (ko_w_n_yard2 X) hd (vs := [.ref (pl 16)]) ⟨rfl, trivial⟩ hon
  have e : o = o' := lz_det k h1
  subst e
  refine ⟨?_, fun g j hc h17 => lq_Tx (x0 := (17, 1, 1)) (Nat.le_of_eq rfl) hij (by decide +kernel) h3.2.2.2.2.2.2 g j hc (fun h => h17 h.1), fun g j hg => h3.2.2.2.2.2.2.2.1 _ j fun q hq hl hz => ?_⟩
  · have key : ∃ q ∈ p.2.1, q = ((17, (1, [])), (0, [])) := by
      rcases List.mem_cons.mp hp with rfl | hp
      · exact ⟨_, List.Mem.head _, rfl⟩
      · rw [List.mem_singleton.mp hp]
        exact ⟨_, List.Mem.head _, rfl⟩
    obtain ⟨q, hq, eq⟩ := key
    have h := (h3.2.2.1 q hq).2
    rw [eq] at h
    dsimp only at h
    rw [sx_c_e, sx_c_e] at h
    unfold sx_rd at h
    rw [if_neg (by decide), if_neg (by decide)] at h
    exact Int32.toInt_inj.mp h
  · have e := hij g q.1 (by show g < 66; omega) hl hz.1
    have l := List.all_eq_true.mp (show kk_w_n_yard2.2.2.2.1.1.all (fun q => !Nat.beq q.1 31 && (!Nat.beq q.1 4 && !Nat.beq q.1 14)) = true from by decide +kernel) q hq
    rw [← e] at l
    rcases hg with rfl | rfl | rfl <;> exact absurd l (by decide)
theorem lq_yardR {X : nt_X} {pl : Nat → Nat} {v : Nat → Int} {M : nt_M} {d : Nat} {o : Option Value × nt_M} (hd : 6 ≤ d) (hB : ly_B pl v M) (k : nt_ev X d 166 [.ref (pl 0)] M o) : nt_I o.2 (pl 0) 1 = nI 0 ∧ (∀ g j, lq_c g j → ¬ (g = 0 ∧ j = 1) → nt_I o.2 (pl g) j = nt_I M (pl g) j) ∧ ∀ g j, (g = 31 ∨ g = 14) → nt_I o.2 (pl g) j = nt_I M (pl g) j := by
  have hij := ly_ij (K := kk_w_yard2) rfl hB
  have hon := ly_app (K := kk_w_yard2) (r := v) (ed := []) (ec := []) (er := []) rfl hB (fun _ _ => rfl) (fun _ _ => rfl) hij ly_nil (fun q hq => by cases hq) (fun q hq => by cases hq) (ly_ob hB) ly_oc0
  obtain ⟨o', h1, p, hp, r', h2, h3⟩ := ly_run (ko_w_yard2 X) hd (vs := [.ref (pl 0)]) ⟨rfl, trivial⟩ hon
  have e : o = o' := lz_det k h1
  subst e
  refine ⟨?_, fun g j hc h01 => lq_Tx (x0 := (0, 1, 1)) (Nat.le_of_eq rfl) hij (by decide +kernel) h3.2.2.2.2.2.2 g j hc (fun h => h01 ⟨h.1, by have := h.2; dsimp only at this; omega⟩), fun g j hg => h3.2.2.2.2.2.2.2.1 _ j fun q hq hl hz => ?_⟩
  · rw [List.mem_singleton.mp hp] at h3
    have h := (h3.2.2.1 ((0, (1, [])), (0, [])) (List.Mem.head _)).2
    dsimp only at h
    rw [sx_c_e, sx_c_e] at h
    unfold sx_rd at h
    rw [if_neg (by decide), if_neg (by decide)] at h
    exact Int32.toInt_inj.mp h
  · have e := hij g q.1 (by show g < 66; omega) hl hz.1
    have l := List.all_eq_true.mp (show kk_w_yard2.2.2.2.1.1.all (fun q => !Nat.beq q.1 31 && !Nat.beq q.1 14) = true from by decide +kernel) q hq
    rw [← e] at l
    rcases hg with rfl | rfl <;> exact absurd l (by decide)
end
section
/-! the tapes: fed and cut, both sides -/
theorem me_bast {X : nt_X} {d mi pc a g t q : Nat} {ls : nt_V} {st : List Value} {M : nt_M} {J : Nat → Nat → Int32} {o : Option Value × nt_M} {i x : Int32} (hat : nt_at mi pc = some (pc, .bastore, g, t)) (hk : nt_k M a = 12) (hi : i = nI q) (hq : q < 2 ^ 31) (k : nt_rn X d mi (pc, ls, .int x :: .int i :: .ref a :: st, me_w M J) o) : nt_rn X d mi (pc + 1, ls, st, me_w M (nt_u J a q (vp_nar .byte x))) o := by
  obtain ⟨c', hs, k⟩ := lz_s hat rfl k
  have hs : (if nt_k M a = 15 then nt_in (me_w M J) a 15 i (some (pc + 1, ls, st, nt_sI (me_w M J) a i.toNatClampNeg (vp_nar .boolean x))) else nt_in (me_w M J) a 12 i (some (pc + 1, ls, st, nt_sI (me_w M J) a i.toNatClampNeg (vp_nar .byte x)))) = some c' := hs
  rw [if_neg (by rw [hk]; decide)] at hs
  have e := lz_in (y := none) hs
  cases e
  rw [hi, nI_clamp hq] at k
  exact k
def lq_y (v k : Int32) : Int32 := vp_nar .byte (v >>> (k &&& 31)).toInt8.toInt32
theorem lq_yb {v k : Int32} : -128 ≤ (lq_y v k).toInt ∧ (lq_y v k).toInt ≤ 127 := by
  unfold lq_y
  have e : vp_nar .byte (v >>> (k &&& 31)).toInt8.toInt32 = ((v >>> (k &&& 31)).toInt8.toInt32.toInt8).toInt32 := rfl
  rw [e, Int8.toInt_toInt32]
  have a := ((v >>> (k &&& 31)).toInt8.toInt32.toInt8).le_toInt
  have b := ((v >>> (k &&& 31)).toInt8.toInt32.toInt8).toInt_lt
  have b : ((v >>> (k &&& 31)).toInt8.toInt32.toInt8).toInt < 128 := b
  have a : -128 ≤ ((v >>> (k &&& 31)).toInt8.toInt32.toInt8).toInt := a
  omega
def lq_w (g : Nat → Int32) (p : Nat) (v : Int32) (j : Nat) : Int32 := if j = p + 3 then lq_y v (Int32.ofInt 0) else if j = p + 2 then lq_y v (Int32.ofInt 8) else if j = p + 1 then lq_y v (Int32.ofInt 16) else if j = p then lq_y v (Int32.ofInt 24) else g j
theorem lq_wb {g : Nat → Int32} {p : Nat} {v : Int32} (h : ∀ j, -128 ≤ (g j).toInt ∧ (g j).toInt ≤ 127) (j : Nat) : -128 ≤ (lq_w g p v j).toInt ∧ (lq_w g p v j).toInt ≤ 127 := by
  unfold lq_w
  by_cases h1 : j = p + 3
  · rw [if_pos h1]; exact lq_yb
  rw [if_neg h1]
  by_cases h2 : j = p + 2
  · rw [if_pos h2]; exact lq_yb
  rw [if_neg h2]
  by_cases h3 : j = p + 1
  · rw [if_pos h3]; exact lq_yb
  rw [if_neg h3]
  by_cases h4 : j = p
  · rw [if_pos h4]; exact lq_yb
  rw [if_neg h4]
  exact h j
theorem me_ur {J : Nat → Nat → Int32} {a k j : Nat} {v : Int32} : nt_u J a k v a j = if j = k then v else J a j := if_pos rfl
def lq_f (g : Nat → Int32) (p : Nat) (a b c d e : Int32) : Nat → Int32 := lq_w (lq_w (lq_w (lq_w (lq_w g p a) (p + 4) b) (p + 8) c) (p + 12) d) (p + 16) e
theorem lq_append {X : nt_X} {d T Y p : Nat} {M : nt_M} {J : Nat → Nat → Int32} {o : Option Value × nt_M} {v : Int32} (hr : nt_R M T 0 = some Y) (hYT : Y ≠ T) (hk : nt_k M Y = 12) (hl : J T 1 = nI p) (hp : p + 4 ≤ 400) (k : nt_ev X d 84 [.ref T, .int v] (me_w M J) o) : ∃ J', o = (none, me_w M J') ∧ J' T 1 = nI (p + 4) ∧ J' Y = lq_w (J Y) p v ∧ (∀ i, i ≠ 1 → J' T i = J T i) ∧ (∀ a, a ≠ T → a ≠ Y → J' a = J a) := by
  have k : nt_rn X d 84 (0, [(0, .ref T), (1, .int v)], [], me_w M J) o := k
  have k := ly_revb 4 (c' := (if (Int32.ofInt 24) < 0 then 46 else 7, [(2, .int (Int32.ofInt 24)), (0, .ref T), (1, .int (v))], [], me_w M J)) rfl k
  rw [if_neg (show ¬ ((Int32.ofInt 24) < 0) from by decide)] at k
  have k := ly_revb 1 (c' := (8, [(2, .int (Int32.ofInt 24)), (0, .ref T), (1, .int (v))], [.ref T], me_w M J)) rfl k
  have k := lz_get (a := T) (g := 701) (M := me_w M J) (v := .int (nI p)) rfl (congrArg Value.int (hl)) k
  have k := ly_revb 2 (c' := (if (Int32.ofInt 400) ≤ (nI p) then 46 else 17, [(2, .int (Int32.ofInt 24)), (0, .ref T), (1, .int (v))], [], me_w M J)) rfl k
  rw [if_neg (show ¬ ((Int32.ofInt 400) ≤ (nI p)) from show ¬ nI 400 ≤ nI p from nI_ge (Nat.not_le.mp (by omega)) (by omega))] at k
  have k := ly_revb 1 (c' := (18, [(2, .int (Int32.ofInt 24)), (0, .ref T), (1, .int (v))], [.ref T], me_w M J)) rfl k
  have k := lz_get (a := T) (g := 700) (M := me_w M J) (v := .ref Y) rfl (nt_gfR rfl hr) k
  have k := ly_revb 1 (c' := (22, [(2, .int (Int32.ofInt 24)), (0, .ref T), (1, .int (v))], [.ref T, .ref Y], me_w M J)) rfl k
  have k := lz_get (a := T) (g := 701) (M := me_w M J) (v := .int (nI p)) rfl (congrArg Value.int (hl)) k
  have k := ly_revb 4 (c' := (29, [(2, .int (Int32.ofInt 24)), (0, .ref T), (1, .int (v))], [.int ((v >>> ((Int32.ofInt 24) &&& 31)).toInt8.toInt32), .int (nI p), .ref Y], me_w M J)) rfl k
  have k := me_bast (q := p) rfl (hk) rfl (by omega) k
  have k := ly_revb 2 (c' := (32, [(2, .int (Int32.ofInt 24)), (0, .ref T), (1, .int (v))], [.ref T, .ref T], me_w M (nt_u J Y p (vp_nar .byte ((v >>> ((Int32.ofInt 24) &&& 31)).toInt8.toInt32))))) rfl k
  have k := lz_get (a := T) (g := 701) (M := me_w M (nt_u J Y p (vp_nar .byte ((v >>> ((Int32.ofInt 24) &&& 31)).toInt8.toInt32)))) (v := .int (nI p)) rfl (congrArg Value.int ((me_uj (Ne.symm hYT)).trans (hl))) k
  have k := ly_revb 2 (c' := (37, [(2, .int (Int32.ofInt 24)), (0, .ref T), (1, .int (v))], [.int ((nI p) + (Int32.ofInt 1)), .ref T], me_w M (nt_u J Y p (vp_nar .byte ((v >>> ((Int32.ofInt 24) &&& 31)).toInt8.toInt32))))) rfl k
  rw [show ((nI p) + (Int32.ofInt 1) : Int32) = nI (p + 1) from me_add (k := 1)] at k
  have k := me_put rfl (by decide) k
  have k : nt_rn X _ 84 (40, [(2, .int (Int32.ofInt 24)), (0, .ref T), (1, .int (v))], [], me_w M (nt_u (nt_u J Y p (vp_nar .byte ((v >>> ((Int32.ofInt 24) &&& 31)).toInt8.toInt32))) T 1 (nI (p + 1)))) _ := k
  have k := ly_revb 2 (c' := (3, [(2, .int ((Int32.ofInt 24) + Int32.ofInt (-8))), (0, .ref T), (1, .int (v))], [], me_w M (nt_u (nt_u J Y p (vp_nar .byte ((v >>> ((Int32.ofInt 24) &&& 31)).toInt8.toInt32))) T 1 (nI (p + 1))))) rfl k
  rw [show ((Int32.ofInt 24) + Int32.ofInt (-8) : Int32) = Int32.ofInt 16 from by decide] at k
  have k := ly_revb 2 (c' := (if (Int32.ofInt 16) < 0 then 46 else 7, [(2, .int (Int32.ofInt 16)), (0, .ref T), (1, .int (v))], [], me_w M (nt_u (nt_u J Y p (vp_nar .byte ((v >>> ((Int32.ofInt 24) &&& 31)).toInt8.toInt32))) T 1 (nI (p + 1))))) rfl k
  rw [if_neg (show ¬ ((Int32.ofInt 16) < 0) from by decide)] at k
  have k := ly_revb 1 (c' := (8, [(2, .int (Int32.ofInt 16)), (0, .ref T), (1, .int (v))], [.ref T], me_w M (nt_u (nt_u J Y p (vp_nar .byte ((v >>> ((Int32.ofInt 24) &&& 31)).toInt8.toInt32))) T 1 (nI (p + 1))))) rfl k
  have k := lz_get (a := T) (g := 701) (M := me_w M (nt_u (nt_u J Y p (vp_nar .byte ((v >>> ((Int32.ofInt 24) &&& 31)).toInt8.toInt32))) T 1 (nI (p + 1)))) (v := .int (nI (p + 1))) rfl (congrArg Value.int (me_us)) k
  have k := ly_revb 2 (c' := (if (Int32.ofInt 400) ≤ (nI (p + 1)) then 46 else 17, [(2, .int (Int32.ofInt 16)), (0, .ref T), (1, .int (v))], [], me_w M (nt_u (nt_u J Y p (vp_nar .byte ((v >>> ((Int32.ofInt 24) &&& 31)).toInt8.toInt32))) T 1 (nI (p + 1))))) rfl k
  rw [if_neg (show ¬ ((Int32.ofInt 400) ≤ (nI (p + 1))) from show ¬ nI 400 ≤ nI ((p + 1)) from nI_ge (Nat.not_le.mp (by omega)) (by omega))] at k
  have k := ly_revb 1 (c' := (18, [(2, .int (Int32.ofInt 16)), (0, .ref T), (1, .int (v))], [.ref T], me_w M (nt_u (nt_u J Y p (vp_nar .byte ((v >>> ((Int32.ofInt 24) &&& 31)).toInt8.toInt32))) T 1 (nI (p + 1))))) rfl k
  have k := lz_get (a := T) (g := 700) (M := me_w M (nt_u (nt_u J Y p (vp_nar .byte ((v >>> ((Int32.ofInt 24) &&& 31)).toInt8.toInt32))) T 1 (nI (p + 1)))) (v := .ref Y) rfl (nt_gfR rfl hr) k
  have k := ly_revb 1 (c' := (22, [(2, .int (Int32.ofInt 16)), (0, .ref T), (1, .int (v))], [.ref T, .ref Y], me_w M (nt_u (nt_u J Y p (vp_nar .byte ((v >>> ((Int32.ofInt 24) &&& 31)).toInt8.toInt32))) T 1 (nI (p + 1))))) rfl k
  have k := lz_get (a := T) (g := 701) (M := me_w M (nt_u (nt_u J Y p (vp_nar .byte ((v >>> ((Int32.ofInt 24) &&& 31)).toInt8.toInt32))) T 1 (nI (p + 1)))) (v := .int (nI (p + 1))) rfl (congrArg Value.int (me_us)) k
  have k := ly_revb 4 (c' := (29, [(2, .int (Int32.ofInt 16)), (0, .ref T), (1, .int (v))], [.int ((v >>> ((Int32.ofInt 16) &&& 31)).toInt8.toInt32), .int (nI (p + 1)), .ref Y], me_w M (nt_u (nt_u J Y p (vp_nar .byte ((v >>> ((Int32.ofInt 24) &&& 31)).toInt8.toInt32))) T 1 (nI (p + 1))))) rfl k
  have k := me_bast (q := (p + 1)) rfl (hk) rfl (by omega) k
  have k := ly_revb 2 (c' := (32, [(2, .int (Int32.ofInt 16)), (0, .ref T), (1, .int (v))], [.ref T, .ref T], me_w M (nt_u (nt_u (nt_u J Y p (vp_nar .byte ((v >>> ((Int32.ofInt 24) &&& 31)).toInt8.toInt32))) T 1 (nI (p + 1))) Y ((p + 1)) (vp_nar .byte ((v >>> ((Int32.ofInt 16) &&& 31)).toInt8.toInt32))))) rfl k
  have k := lz_get (a := T) (g := 701) (M := me_w M (nt_u (nt_u (nt_u J Y p (vp_nar .byte ((v >>> ((Int32.ofInt 24) &&& 31)).toInt8.toInt32))) T 1 (nI (p + 1))) Y ((p + 1)) (vp_nar .byte ((v >>> ((Int32.ofInt 16) &&& 31)).toInt8.toInt32)))) (v := .int (nI (p + 1))) rfl (congrArg Value.int ((me_uj (Ne.symm hYT)).trans (me_us))) k
  have k := ly_revb 2 (c' := (37, [(2, .int (Int32.ofInt 16)), (0, .ref T), (1, .int (v))], [.int ((nI (p + 1)) + (Int32.ofInt 1)), .ref T], me_w M (nt_u (nt_u (nt_u J Y p (vp_nar .byte ((v >>> ((Int32.ofInt 24) &&& 31)).toInt8.toInt32))) T 1 (nI (p + 1))) Y ((p + 1)) (vp_nar .byte ((v >>> ((Int32.ofInt 16) &&& 31)).toInt8.toInt32))))) rfl k
  rw [show ((nI (p + 1)) + (Int32.ofInt 1) : Int32) = nI ((p + 1) + 1) from me_add (k := 1)] at k
  have k := me_put rfl (by decide) k
  have k : nt_rn X _ 84 (40, [(2, .int (Int32.ofInt 16)), (0, .ref T), (1, .int (v))], [], me_w M (nt_u (nt_u (nt_u (nt_u J Y p (vp_nar .byte ((v >>> ((Int32.ofInt 24) &&& 31)).toInt8.toInt32))) T 1 (nI (p + 1))) Y ((p + 1)) (vp_nar .byte ((v >>> ((Int32.ofInt 16) &&& 31)).toInt8.toInt32))) T 1 (nI ((p + 1) + 1)))) _ := k
  have k := ly_revb 2 (c' := (3, [(2, .int ((Int32.ofInt 16) + Int32.ofInt (-8))), (0, .ref T), (1, .int (v))], [], me_w M (nt_u (nt_u (nt_u (nt_u J Y p (vp_nar .byte ((v >>> ((Int32.ofInt 24) &&& 31)).toInt8.toInt32))) T 1 (nI (p + 1))) Y ((p + 1)) (vp_nar .byte ((v >>> ((Int32.ofInt 16) &&& 31)).toInt8.toInt32))) T 1 (nI ((p + 1) + 1))))) rfl k
  rw [show ((Int32.ofInt 16) + Int32.ofInt (-8) : Int32) = Int32.ofInt 8 from by decide] at k
  have k := ly_revb 2 (c' := (if (Int32.ofInt 8) < 0 then 46 else 7, [(2, .int (Int32.ofInt 8)), (0, .ref T), (1, .int (v))], [], me_w M (nt_u (nt_u (nt_u (nt_u J Y p (vp_nar .byte ((v >>> ((Int32.ofInt 24) &&& 31)).toInt8.toInt32))) T 1 (nI (p + 1))) Y ((p + 1)) (vp_nar .byte ((v >>> ((Int32.ofInt 16) &&& 31)).toInt8.toInt32))) T 1 (nI ((p + 1) + 1))))) rfl k
  rw [if_neg (show ¬ ((Int32.ofInt 8) < 0) from by decide)] at k
  have k := ly_revb 1 (c' := (8, [(2, .int (Int32.ofInt 8)), (0, .ref T), (1, .int (v))], [.ref T], me_w M (nt_u (nt_u (nt_u (nt_u J Y p (vp_nar .byte ((v >>> ((Int32.ofInt 24) &&& 31)).toInt8.toInt32))) T 1 (nI (p + 1))) Y ((p + 1)) (vp_nar .byte ((v >>> ((Int32.ofInt 16) &&& 31)).toInt8.toInt32))) T 1 (nI ((p + 1) + 1))))) rfl k
  have k := lz_get (a := T) (g := 701) (M := me_w M (nt_u (nt_u (nt_u (nt_u J Y p (vp_nar .byte ((v >>> ((Int32.ofInt 24) &&& 31)).toInt8.toInt32))) T 1 (nI (p + 1))) Y ((p + 1)) (vp_nar .byte ((v >>> ((Int32.ofInt 16) &&& 31)).toInt8.toInt32))) T 1 (nI ((p + 1) + 1)))) (v := .int (nI (p + 2))) rfl (congrArg Value.int (me_us)) k
  have k := ly_revb 2 (c' := (if (Int32.ofInt 400) ≤ (nI (p + 2)) then 46 else 17, [(2, .int (Int32.ofInt 8)), (0, .ref T), (1, .int (v))], [], me_w M (nt_u (nt_u (nt_u (nt_u J Y p (vp_nar .byte ((v >>> ((Int32.ofInt 24) &&& 31)).toInt8.toInt32))) T 1 (nI (p + 1))) Y ((p + 1)) (vp_nar .byte ((v >>> ((Int32.ofInt 16) &&& 31)).toInt8.toInt32))) T 1 (nI ((p + 1) + 1))))) rfl k
  rw [if_neg (show ¬ ((Int32.ofInt 400) ≤ (nI (p + 2))) from show ¬ nI 400 ≤ nI ((p + 2)) from nI_ge (Nat.not_le.mp (by omega)) (by omega))] at k
  have k := ly_revb 1 (c' := (18, [(2, .int (Int32.ofInt 8)), (0, .ref T), (1, .int (v))], [.ref T], me_w M (nt_u (nt_u (nt_u (nt_u J Y p (vp_nar .byte ((v >>> ((Int32.ofInt 24) &&& 31)).toInt8.toInt32))) T 1 (nI (p + 1))) Y ((p + 1)) (vp_nar .byte ((v >>> ((Int32.ofInt 16) &&& 31)).toInt8.toInt32))) T 1 (nI ((p + 1) + 1))))) rfl k
  have k := lz_get (a := T) (g := 700) (M := me_w M (nt_u (nt_u (nt_u (nt_u J Y p (vp_nar .byte ((v >>> ((Int32.ofInt 24) &&& 31)).toInt8.toInt32))) T 1 (nI (p + 1))) Y ((p + 1)) (vp_nar .byte ((v >>> ((Int32.ofInt 16) &&& 31)).toInt8.toInt32))) T 1 (nI ((p + 1) + 1)))) (v := .ref Y) rfl (nt_gfR rfl hr) k
  have k := ly_revb 1 (c' := (22, [(2, .int (Int32.ofInt 8)), (0, .ref T), (1, .int (v))], [.ref T, .ref Y], me_w M (nt_u (nt_u (nt_u (nt_u J Y p (vp_nar .byte ((v >>> ((Int32.ofInt 24) &&& 31)).toInt8.toInt32))) T 1 (nI (p + 1))) Y ((p + 1)) (vp_nar .byte ((v >>> ((Int32.ofInt 16) &&& 31)).toInt8.toInt32))) T 1 (nI ((p + 1) + 1))))) rfl k
  have k := lz_get (a := T) (g := 701) (M := me_w M (nt_u (nt_u (nt_u (nt_u J Y p (vp_nar .byte ((v >>> ((Int32.ofInt 24) &&& 31)).toInt8.toInt32))) T 1 (nI (p + 1))) Y ((p + 1)) (vp_nar .byte ((v >>> ((Int32.ofInt 16) &&& 31)).toInt8.toInt32))) T 1 (nI ((p + 1) + 1)))) (v := .int (nI (p + 2))) rfl (congrArg Value.int (me_us)) k
  have k := ly_revb 4 (c' := (29, [(2, .int (Int32.ofInt 8)), (0, .ref T), (1, .int (v))], [.int ((v >>> ((Int32.ofInt 8) &&& 31)).toInt8.toInt32), .int (nI (p + 2)), .ref Y], me_w M (nt_u (nt_u (nt_u (nt_u J Y p (vp_nar .byte ((v >>> ((Int32.ofInt 24) &&& 31)).toInt8.toInt32))) T 1 (nI (p + 1))) Y ((p + 1)) (vp_nar .byte ((v >>> ((Int32.ofInt 16) &&& 31)).toInt8.toInt32))) T 1 (nI ((p + 1) + 1))))) rfl k
  have k := me_bast (q := (p + 2)) rfl (hk) rfl (by omega) k
  have k := ly_revb 2 (c' := (32, [(2, .int (Int32.ofInt 8)), (0, .ref T), (1, .int (v))], [.ref T, .ref T], me_w M (nt_u (nt_u (nt_u (nt_u (nt_u J Y p (vp_nar .byte ((v >>> ((Int32.ofInt 24) &&& 31)).toInt8.toInt32))) T 1 (nI (p + 1))) Y ((p + 1)) (vp_nar .byte ((v >>> ((Int32.ofInt 16) &&& 31)).toInt8.toInt32))) T 1 (nI ((p + 1) + 1))) Y ((p + 2)) (vp_nar .byte ((v >>> ((Int32.ofInt 8) &&& 31)).toInt8.toInt32))))) rfl k
  have k := lz_get (a := T) (g := 701) (M := me_w M (nt_u (nt_u (nt_u (nt_u (nt_u J Y p (vp_nar .byte ((v >>> ((Int32.ofInt 24) &&& 31)).toInt8.toInt32))) T 1 (nI (p + 1))) Y ((p + 1)) (vp_nar .byte ((v >>> ((Int32.ofInt 16) &&& 31)).toInt8.toInt32))) T 1 (nI ((p + 1) + 1))) Y ((p + 2)) (vp_nar .byte ((v >>> ((Int32.ofInt 8) &&& 31)).toInt8.toInt32)))) (v := .int (nI (p + 2))) rfl (congrArg Value.int ((me_uj (Ne.symm hYT)).trans (me_us))) k
  have k := ly_revb 2 (c' := (37, [(2, .int (Int32.ofInt 8)), (0, .ref T), (1, .int (v))], [.int ((nI (p + 2)) + (Int32.ofInt 1)), .ref T], me_w M (nt_u (nt_u (nt_u (nt_u (nt_u J Y p (vp_nar .byte ((v >>> ((Int32.ofInt 24) &&& 31)).toInt8.toInt32))) T 1 (nI (p + 1))) Y ((p + 1)) (vp_nar .byte ((v >>> ((Int32.ofInt 16) &&& 31)).toInt8.toInt32))) T 1 (nI ((p + 1) + 1))) Y ((p + 2)) (vp_nar .byte ((v >>> ((Int32.ofInt 8) &&& 31)).toInt8.toInt32))))) rfl k
  rw [show ((nI (p + 2)) + (Int32.ofInt 1) : Int32) = nI ((p + 2) + 1) from me_add (k := 1)] at k
  have k := me_put rfl (by decide) k
  have k : nt_rn X _ 84 (40, [(2, .int (Int32.ofInt 8)), (0, .ref T), (1, .int (v))], [], me_w M (nt_u (nt_u (nt_u (nt_u (nt_u (nt_u J Y p (vp_nar .byte ((v >>> ((Int32.ofInt 24) &&& 31)).toInt8.toInt32))) T 1 (nI (p + 1))) Y ((p + 1)) (vp_nar .byte ((v >>> ((Int32.ofInt 16) &&& 31)).toInt8.toInt32))) T 1 (nI ((p + 1) + 1))) Y ((p + 2)) (vp_nar .byte ((v >>> ((Int32.ofInt 8) &&& 31)).toInt8.toInt32))) T 1 (nI ((p + 2) + 1)))) _ := k
  have k := ly_revb 2 (c' := (3, [(2, .int ((Int32.ofInt 8) + Int32.ofInt (-8))), (0, .ref T), (1, .int (v))], [], me_w M (nt_u (nt_u (nt_u (nt_u (nt_u (nt_u J Y p (vp_nar .byte ((v >>> ((Int32.ofInt 24) &&& 31)).toInt8.toInt32))) T 1 (nI (p + 1))) Y ((p + 1)) (vp_nar .byte ((v >>> ((Int32.ofInt 16) &&& 31)).toInt8.toInt32))) T 1 (nI ((p + 1) + 1))) Y ((p + 2)) (vp_nar .byte ((v >>> ((Int32.ofInt 8) &&& 31)).toInt8.toInt32))) T 1 (nI ((p + 2) + 1))))) rfl k
  rw [show ((Int32.ofInt 8) + Int32.ofInt (-8) : Int32) = Int32.ofInt 0 from by decide] at k
  have k := ly_revb 2 (c' := (if (Int32.ofInt 0) < 0 then 46 else 7, [(2, .int (Int32.ofInt 0)), (0, .ref T), (1, .int (v))], [], me_w M (nt_u (nt_u (nt_u (nt_u (nt_u (nt_u J Y p (vp_nar .byte ((v >>> ((Int32.ofInt 24) &&& 31)).toInt8.toInt32))) T 1 (nI (p + 1))) Y ((p + 1)) (vp_nar .byte ((v >>> ((Int32.ofInt 16) &&& 31)).toInt8.toInt32))) T 1 (nI ((p + 1) + 1))) Y ((p + 2)) (vp_nar .byte ((v >>> ((Int32.ofInt 8) &&& 31)).toInt8.toInt32))) T 1 (nI ((p + 2) + 1))))) rfl k
  rw [if_neg (show ¬ ((Int32.ofInt 0) < 0) from by decide)] at k
  have k := ly_revb 1 (c' := (8, [(2, .int (Int32.ofInt 0)), (0, .ref T), (1, .int (v))], [.ref T], me_w M (nt_u (nt_u (nt_u (nt_u (nt_u (nt_u J Y p (vp_nar .byte ((v >>> ((Int32.ofInt 24) &&& 31)).toInt8.toInt32))) T 1 (nI (p + 1))) Y ((p + 1)) (vp_nar .byte ((v >>> ((Int32.ofInt 16) &&& 31)).toInt8.toInt32))) T 1 (nI ((p + 1) + 1))) Y ((p + 2)) (vp_nar .byte ((v >>> ((Int32.ofInt 8) &&& 31)).toInt8.toInt32))) T 1 (nI ((p + 2) + 1))))) rfl k
  have k := lz_get (a := T) (g := 701) (M := me_w M (nt_u (nt_u (nt_u (nt_u (nt_u (nt_u J Y p (vp_nar .byte ((v >>> ((Int32.ofInt 24) &&& 31)).toInt8.toInt32))) T 1 (nI (p + 1))) Y ((p + 1)) (vp_nar .byte ((v >>> ((Int32.ofInt 16) &&& 31)).toInt8.toInt32))) T 1 (nI ((p + 1) + 1))) Y ((p + 2)) (vp_nar .byte ((v >>> ((Int32.ofInt 8) &&& 31)).toInt8.toInt32))) T 1 (nI ((p + 2) + 1)))) (v := .int (nI (p + 3))) rfl (congrArg Value.int (me_us)) k
  have k := ly_revb 2 (c' := (if (Int32.ofInt 400) ≤ (nI (p + 3)) then 46 else 17, [(2, .int (Int32.ofInt 0)), (0, .ref T), (1, .int (v))], [], me_w M (nt_u (nt_u (nt_u (nt_u (nt_u (nt_u J Y p (vp_nar .byte ((v >>> ((Int32.ofInt 24) &&& 31)).toInt8.toInt32))) T 1 (nI (p + 1))) Y ((p + 1)) (vp_nar .byte ((v >>> ((Int32.ofInt 16) &&& 31)).toInt8.toInt32))) T 1 (nI ((p + 1) + 1))) Y ((p + 2)) (vp_nar .byte ((v >>> ((Int32.ofInt 8) &&& 31)).toInt8.toInt32))) T 1 (nI ((p + 2) + 1))))) rfl k
  rw [if_neg (show ¬ ((Int32.ofInt 400) ≤ (nI (p + 3))) from show ¬ nI 400 ≤ nI ((p + 3)) from nI_ge (Nat.not_le.mp (by omega)) (by omega))] at k
  have k := ly_revb 1 (c' := (18, [(2, .int (Int32.ofInt 0)), (0, .ref T), (1, .int (v))], [.ref T], me_w M (nt_u (nt_u (nt_u (nt_u (nt_u (nt_u J Y p (vp_nar .byte ((v >>> ((Int32.ofInt 24) &&& 31)).toInt8.toInt32))) T 1 (nI (p + 1))) Y ((p + 1)) (vp_nar .byte ((v >>> ((Int32.ofInt 16) &&& 31)).toInt8.toInt32))) T 1 (nI ((p + 1) + 1))) Y ((p + 2)) (vp_nar .byte ((v >>> ((Int32.ofInt 8) &&& 31)).toInt8.toInt32))) T 1 (nI ((p + 2) + 1))))) rfl k
  have k := lz_get (a := T) (g := 700) (M := me_w M (nt_u (nt_u (nt_u (nt_u (nt_u (nt_u J Y p (vp_nar .byte ((v >>> ((Int32.ofInt 24) &&& 31)).toInt8.toInt32))) T 1 (nI (p + 1))) Y ((p + 1)) (vp_nar .byte ((v >>> ((Int32.ofInt 16) &&& 31)).toInt8.toInt32))) T 1 (nI ((p + 1) + 1))) Y ((p + 2)) (vp_nar .byte ((v >>> ((Int32.ofInt 8) &&& 31)).toInt8.toInt32))) T 1 (nI ((p + 2) + 1)))) (v := .ref Y) rfl (nt_gfR rfl hr) k
  have k := ly_revb 1 (c' := (22, [(2, .int (Int32.ofInt 0)), (0, .ref T), (1, .int (v))], [.ref T, .ref Y], me_w M (nt_u (nt_u (nt_u (nt_u (nt_u (nt_u J Y p (vp_nar .byte ((v >>> ((Int32.ofInt 24) &&& 31)).toInt8.toInt32))) T 1 (nI (p + 1))) Y ((p + 1)) (vp_nar .byte ((v >>> ((Int32.ofInt 16) &&& 31)).toInt8.toInt32))) T 1 (nI ((p + 1) + 1))) Y ((p + 2)) (vp_nar .byte ((v >>> ((Int32.ofInt 8) &&& 31)).toInt8.toInt32))) T 1 (nI ((p + 2) + 1))))) rfl k
  have k := lz_get (a := T) (g := 701) (M := me_w M (nt_u (nt_u (nt_u (nt_u (nt_u (nt_u J Y p (vp_nar .byte ((v >>> ((Int32.ofInt 24) &&& 31)).toInt8.toInt32))) T 1 (nI (p + 1))) Y ((p + 1)) (vp_nar .byte ((v >>> ((Int32.ofInt 16) &&& 31)).toInt8.toInt32))) T 1 (nI ((p + 1) + 1))) Y ((p + 2)) (vp_nar .byte ((v >>> ((Int32.ofInt 8) &&& 31)).toInt8.toInt32))) T 1 (nI ((p + 2) + 1)))) (v := .int (nI (p + 3))) rfl (congrArg Value.int (me_us)) k
  have k := ly_revb 4 (c' := (29, [(2, .int (Int32.ofInt 0)), (0, .ref T), (1, .int (v))], [.int ((v >>> ((Int32.ofInt 0) &&& 31)).toInt8.toInt32), .int (nI (p + 3)), .ref Y], me_w M (nt_u (nt_u (nt_u (nt_u (nt_u (nt_u J Y p (vp_nar .byte ((v >>> ((Int32.ofInt 24) &&& 31)).toInt8.toInt32))) T 1 (nI (p + 1))) Y ((p + 1)) (vp_nar .byte ((v >>> ((Int32.ofInt 16) &&& 31)).toInt8.toInt32))) T 1 (nI ((p + 1) + 1))) Y ((p + 2)) (vp_nar .byte ((v >>> ((Int32.ofInt 8) &&& 31)).toInt8.toInt32))) T 1 (nI ((p + 2) + 1))))) rfl k
  have k := me_bast (q := (p + 3)) rfl (hk) rfl (by omega) k
  have k := ly_revb 2 (c' := (32, [(2, .int (Int32.ofInt 0)), (0, .ref T), (1, .int (v))], [.ref T, .ref T], me_w M (nt_u (nt_u (nt_u (nt_u (nt_u (nt_u (nt_u J Y p (vp_nar .byte ((v >>> ((Int32.ofInt 24) &&& 31)).toInt8.toInt32))) T 1 (nI (p + 1))) Y ((p + 1)) (vp_nar .byte ((v >>> ((Int32.ofInt 16) &&& 31)).toInt8.toInt32))) T 1 (nI ((p + 1) + 1))) Y ((p + 2)) (vp_nar .byte ((v >>> ((Int32.ofInt 8) &&& 31)).toInt8.toInt32))) T 1 (nI ((p + 2) + 1))) Y ((p + 3)) (vp_nar .byte ((v >>> ((Int32.ofInt 0) &&& 31)).toInt8.toInt32))))) rfl k
  have k := lz_get (a := T) (g := 701) (M := me_w M (nt_u (nt_u (nt_u (nt_u (nt_u (nt_u (nt_u J Y p (vp_nar .byte ((v >>> ((Int32.ofInt 24) &&& 31)).toInt8.toInt32))) T 1 (nI (p + 1))) Y ((p + 1)) (vp_nar .byte ((v >>> ((Int32.ofInt 16) &&& 31)).toInt8.toInt32))) T 1 (nI ((p + 1) + 1))) Y ((p + 2)) (vp_nar .byte ((v >>> ((Int32.ofInt 8) &&& 31)).toInt8.toInt32))) T 1 (nI ((p + 2) + 1))) Y ((p + 3)) (vp_nar .byte ((v >>> ((Int32.ofInt 0) &&& 31)).toInt8.toInt32)))) (v := .int (nI (p + 3))) rfl (congrArg Value.int ((me_uj (Ne.symm hYT)).trans (me_us))) k
  have k := ly_revb 2 (c' := (37, [(2, .int (Int32.ofInt 0)), (0, .ref T), (1, .int (v))], [.int ((nI (p + 3)) + (Int32.ofInt 1)), .ref T], me_w M (nt_u (nt_u (nt_u (nt_u (nt_u (nt_u (nt_u J Y p (vp_nar .byte ((v >>> ((Int32.ofInt 24) &&& 31)).toInt8.toInt32))) T 1 (nI (p + 1))) Y ((p + 1)) (vp_nar .byte ((v >>> ((Int32.ofInt 16) &&& 31)).toInt8.toInt32))) T 1 (nI ((p + 1) + 1))) Y ((p + 2)) (vp_nar .byte ((v >>> ((Int32.ofInt 8) &&& 31)).toInt8.toInt32))) T 1 (nI ((p + 2) + 1))) Y ((p + 3)) (vp_nar .byte ((v >>> ((Int32.ofInt 0) &&& 31)).toInt8.toInt32))))) rfl k
  rw [show ((nI (p + 3)) + (Int32.ofInt 1) : Int32) = nI ((p + 3) + 1) from me_add (k := 1)] at k
  have k := me_put rfl (by decide) k
  have k : nt_rn X _ 84 (40, [(2, .int (Int32.ofInt 0)), (0, .ref T), (1, .int (v))], [], me_w M (nt_u (nt_u (nt_u (nt_u (nt_u (nt_u (nt_u (nt_u J Y p (vp_nar .byte ((v >>> ((Int32.ofInt 24) &&& 31)).toInt8.toInt32))) T 1 (nI (p + 1))) Y ((p + 1)) (vp_nar .byte ((v >>> ((Int32.ofInt 16) &&& 31)).toInt8.toInt32))) T 1 (nI ((p + 1) + 1))) Y ((p + 2)) (vp_nar .byte ((v >>> ((Int32.ofInt 8) &&& 31)).toInt8.toInt32))) T 1 (nI ((p + 2) + 1))) Y ((p + 3)) (vp_nar .byte ((v >>> ((Int32.ofInt 0) &&& 31)).toInt8.toInt32))) T 1 (nI ((p + 3) + 1)))) _ := k
  have k := ly_revb 2 (c' := (3, [(2, .int ((Int32.ofInt 0) + Int32.ofInt (-8))), (0, .ref T), (1, .int (v))], [], me_w M (nt_u (nt_u (nt_u (nt_u (nt_u (nt_u (nt_u (nt_u J Y p (vp_nar .byte ((v >>> ((Int32.ofInt 24) &&& 31)).toInt8.toInt32))) T 1 (nI (p + 1))) Y ((p + 1)) (vp_nar .byte ((v >>> ((Int32.ofInt 16) &&& 31)).toInt8.toInt32))) T 1 (nI ((p + 1) + 1))) Y ((p + 2)) (vp_nar .byte ((v >>> ((Int32.ofInt 8) &&& 31)).toInt8.toInt32))) T 1 (nI ((p + 2) + 1))) Y ((p + 3)) (vp_nar .byte ((v >>> ((Int32.ofInt 0) &&& 31)).toInt8.toInt32))) T 1 (nI ((p + 3) + 1))))) rfl k
  rw [show ((Int32.ofInt 0) + Int32.ofInt (-8) : Int32) = Int32.ofInt (-8) from by decide] at k
  have k := ly_revb 2 (c' := (if (Int32.ofInt (-8)) < 0 then 46 else 7, [(2, .int (Int32.ofInt (-8))), (0, .ref T), (1, .int (v))], [], me_w M (nt_u (nt_u (nt_u (nt_u (nt_u (nt_u (nt_u (nt_u J Y p (vp_nar .byte ((v >>> ((Int32.ofInt 24) &&& 31)).toInt8.toInt32))) T 1 (nI (p + 1))) Y ((p + 1)) (vp_nar .byte ((v >>> ((Int32.ofInt 16) &&& 31)).toInt8.toInt32))) T 1 (nI ((p + 1) + 1))) Y ((p + 2)) (vp_nar .byte ((v >>> ((Int32.ofInt 8) &&& 31)).toInt8.toInt32))) T 1 (nI ((p + 2) + 1))) Y ((p + 3)) (vp_nar .byte ((v >>> ((Int32.ofInt 0) &&& 31)).toInt8.toInt32))) T 1 (nI ((p + 3) + 1))))) rfl k
  rw [if_pos (show (Int32.ofInt (-8)) < 0 from by decide)] at k
  have k := lz_rv rfl rfl k
  refine ⟨_, k, me_us, ?_, fun i hi => ?_, fun a h1 h2 => ?_⟩
  · funext j
    rw [me_uj hYT, me_ur, me_uj hYT, me_ur, me_uj hYT, me_ur, me_uj hYT, me_ur]
    rfl
  · rw [me_uk hi, me_uj (Ne.symm hYT), me_uk hi, me_uj (Ne.symm hYT), me_uk hi, me_uj (Ne.symm hYT), me_uk hi, me_uj (Ne.symm hYT)]
  · rw [me_uo h1, me_uo h2, me_uo h1, me_uo h2, me_uo h1, me_uo h2, me_uo h1, me_uo h2]
theorem lq_four {X : nt_X} {d B Y p : Nat} {M : nt_M} {J : Nat → Nat → Int32} {o : Option Value × nt_M} {v : Int32} (hr : nt_R M B 0 = some Y) (hYT : Y ≠ B) (hk : nt_k M Y = 12) (hl : J B 1 = nI p) (hp : p + 4 ≤ 400) (k : nt_ev X d 131 [.ref B, .int v] (me_w M J) o) : ∃ J', o = (none, me_w M J') ∧ J' B 1 = nI (p + 4) ∧ J' Y = lq_w (J Y) p v ∧ (∀ i, i ≠ 1 → J' B i = J B i) ∧ (∀ a, a ≠ B → a ≠ Y → J' a = J a) := by
  have k : nt_rn X d 131 (0, [(0, .ref B), (1, .int v)], [], me_w M J) o := k
  have k := ly_revb 4 (c' := (if (Int32.ofInt 24) < 0 then 36 else 7, [(2, .int (Int32.ofInt 24)), (0, .ref B), (1, .int (v))], [], me_w M J)) rfl k
  rw [if_neg (show ¬ ((Int32.ofInt 24) < 0) from by decide)] at k
  have k := ly_revb 1 (c' := (8, [(2, .int (Int32.ofInt 24)), (0, .ref B), (1, .int (v))], [.ref B], me_w M J)) rfl k
  have k := lz_get (a := B) (g := 1100) (M := me_w M J) (v := .ref Y) rfl (nt_gfR rfl hr) k
  have k := ly_revb 1 (c' := (12, [(2, .int (Int32.ofInt 24)), (0, .ref B), (1, .int (v))], [.ref B, .ref Y], me_w M J)) rfl k
  have k := lz_get (a := B) (g := 1101) (M := me_w M J) (v := .int (nI p)) rfl (congrArg Value.int (hl)) k
  have k := ly_revb 4 (c' := (19, [(2, .int (Int32.ofInt 24)), (0, .ref B), (1, .int (v))], [.int ((v >>> ((Int32.ofInt 24) &&& 31)).toInt8.toInt32), .int (nI p), .ref Y], me_w M J)) rfl k
  have k := me_bast (q := p) rfl (hk) rfl (by omega) k
  have k := ly_revb 2 (c' := (22, [(2, .int (Int32.ofInt 24)), (0, .ref B), (1, .int (v))], [.ref B, .ref B], me_w M (nt_u J Y p (vp_nar .byte ((v >>> ((Int32.ofInt 24) &&& 31)).toInt8.toInt32))))) rfl k
  have k := lz_get (a := B) (g := 1101) (M := me_w M (nt_u J Y p (vp_nar .byte ((v >>> ((Int32.ofInt 24) &&& 31)).toInt8.toInt32)))) (v := .int (nI p)) rfl (congrArg Value.int ((me_uj (Ne.symm hYT)).trans (hl))) k
  have k := ly_revb 2 (c' := (27, [(2, .int (Int32.ofInt 24)), (0, .ref B), (1, .int (v))], [.int ((nI p) + (Int32.ofInt 1)), .ref B], me_w M (nt_u J Y p (vp_nar .byte ((v >>> ((Int32.ofInt 24) &&& 31)).toInt8.toInt32))))) rfl k
  rw [show ((nI p) + (Int32.ofInt 1) : Int32) = nI (p + 1) from me_add (k := 1)] at k
  have k := me_put rfl (by decide) k
  have k : nt_rn X _ 131 (30, [(2, .int (Int32.ofInt 24)), (0, .ref B), (1, .int (v))], [], me_w M (nt_u (nt_u J Y p (vp_nar .byte ((v >>> ((Int32.ofInt 24) &&& 31)).toInt8.toInt32))) B 1 (nI (p + 1)))) _ := k
  have k := ly_revb 2 (c' := (3, [(2, .int ((Int32.ofInt 24) + Int32.ofInt (-8))), (0, .ref B), (1, .int (v))], [], me_w M (nt_u (nt_u J Y p (vp_nar .byte ((v >>> ((Int32.ofInt 24) &&& 31)).toInt8.toInt32))) B 1 (nI (p + 1))))) rfl k
  rw [show ((Int32.ofInt 24) + Int32.ofInt (-8) : Int32) = Int32.ofInt 16 from by decide] at k
  have k := ly_revb 2 (c' := (if (Int32.ofInt 16) < 0 then 36 else 7, [(2, .int (Int32.ofInt 16)), (0, .ref B), (1, .int (v))], [], me_w M (nt_u (nt_u J Y p (vp_nar .byte ((v >>> ((Int32.ofInt 24) &&& 31)).toInt8.toInt32))) B 1 (nI (p + 1))))) rfl k
  rw [if_neg (show ¬ ((Int32.ofInt 16) < 0) from by decide)] at k
  have k := ly_revb 1 (c' := (8, [(2, .int (Int32.ofInt 16)), (0, .ref B), (1, .int (v))], [.ref B], me_w M (nt_u (nt_u J Y p (vp_nar .byte ((v >>> ((Int32.ofInt 24) &&& 31)).toInt8.toInt32))) B 1 (nI (p + 1))))) rfl k
  have k := lz_get (a := B) (g := 1100) (M := me_w M (nt_u (nt_u J Y p (vp_nar .byte ((v >>> ((Int32.ofInt 24) &&& 31)).toInt8.toInt32))) B 1 (nI (p + 1)))) (v := .ref Y) rfl (nt_gfR rfl hr) k
  have k := ly_revb 1 (c' := (12, [(2, .int (Int32.ofInt 16)), (0, .ref B), (1, .int (v))], [.ref B, .ref Y], me_w M (nt_u (nt_u J Y p (vp_nar .byte ((v >>> ((Int32.ofInt 24) &&& 31)).toInt8.toInt32))) B 1 (nI (p + 1))))) rfl k
  have k := lz_get (a := B) (g := 1101) (M := me_w M (nt_u (nt_u J Y p (vp_nar .byte ((v >>> ((Int32.ofInt 24) &&& 31)).toInt8.toInt32))) B 1 (nI (p + 1)))) (v := .int (nI (p + 1))) rfl (congrArg Value.int (me_us)) k
  have k := ly_revb 4 (c' := (19, [(2, .int (Int32.ofInt 16)), (0, .ref B), (1, .int (v))], [.int ((v >>> ((Int32.ofInt 16) &&& 31)).toInt8.toInt32), .int (nI (p + 1)), .ref Y], me_w M (nt_u (nt_u J Y p (vp_nar .byte ((v >>> ((Int32.ofInt 24) &&& 31)).toInt8.toInt32))) B 1 (nI (p + 1))))) rfl k
  have k := me_bast (q := (p + 1)) rfl (hk) rfl (by omega) k
  have k := ly_revb 2 (c' := (22, [(2, .int (Int32.ofInt 16)), (0, .ref B), (1, .int (v))], [.ref B, .ref B], me_w M (nt_u (nt_u (nt_u J Y p (vp_nar .byte ((v >>> ((Int32.ofInt 24) &&& 31)).toInt8.toInt32))) B 1 (nI (p + 1))) Y ((p + 1)) (vp_nar .byte ((v >>> ((Int32.ofInt 16) &&& 31)).toInt8.toInt32))))) rfl k
  have k := lz_get (a := B) (g := 1101) (M := me_w M (nt_u (nt_u (nt_u J Y p (vp_nar .byte ((v >>> ((Int32.ofInt 24) &&& 31)).toInt8.toInt32))) B 1 (nI (p + 1))) Y ((p + 1)) (vp_nar .byte ((v >>> ((Int32.ofInt 16) &&& 31)).toInt8.toInt32)))) (v := .int (nI (p + 1))) rfl (congrArg Value.int ((me_uj (Ne.symm hYT)).trans (me_us))) k
  have k := ly_revb 2 (c' := (27, [(2, .int (Int32.ofInt 16)), (0, .ref B), (1, .int (v))], [.int ((nI (p + 1)) + (Int32.ofInt 1)), .ref B], me_w M (nt_u (nt_u (nt_u J Y p (vp_nar .byte ((v >>> ((Int32.ofInt 24) &&& 31)).toInt8.toInt32))) B 1 (nI (p + 1))) Y ((p + 1)) (vp_nar .byte ((v >>> ((Int32.ofInt 16) &&& 31)).toInt8.toInt32))))) rfl k
  rw [show ((nI (p + 1)) + (Int32.ofInt 1) : Int32) = nI ((p + 1) + 1) from me_add (k := 1)] at k
  have k := me_put rfl (by decide) k
  have k : nt_rn X _ 131 (30, [(2, .int (Int32.ofInt 16)), (0, .ref B), (1, .int (v))], [], me_w M (nt_u (nt_u (nt_u (nt_u J Y p (vp_nar .byte ((v >>> ((Int32.ofInt 24) &&& 31)).toInt8.toInt32))) B 1 (nI (p + 1))) Y ((p + 1)) (vp_nar .byte ((v >>> ((Int32.ofInt 16) &&& 31)).toInt8.toInt32))) B 1 (nI ((p + 1) + 1)))) _ := k
  have k := ly_revb 2 (c' := (3, [(2, .int ((Int32.ofInt 16) + Int32.ofInt (-8))), (0, .ref B), (1, .int (v))], [], me_w M (nt_u (nt_u (nt_u (nt_u J Y p (vp_nar .byte ((v >>> ((Int32.ofInt 24) &&& 31)).toInt8.toInt32))) B 1 (nI (p + 1))) Y ((p + 1)) (vp_nar .byte ((v >>> ((Int32.ofInt 16) &&& 31)).toInt8.toInt32))) B 1 (nI ((p + 1) + 1))))) rfl k
  rw [show ((Int32.ofInt 16) + Int32.ofInt (-8) : Int32) = Int32.ofInt 8 from by decide] at k
  have k := ly_revb 2 (c' := (if (Int32.ofInt 8) < 0 then 36 else 7, [(2, .int (Int32.ofInt 8)), (0, .ref B), (1, .int (v))], [], me_w M (nt_u (nt_u (nt_u (nt_u J Y p (vp_nar .byte ((v >>> ((Int32.ofInt 24) &&& 31)).toInt8.toInt32))) B 1 (nI (p + 1))) Y ((p + 1)) (vp_nar .byte ((v >>> ((Int32.ofInt 16) &&& 31)).toInt8.toInt32))) B 1 (nI ((p + 1) + 1))))) rfl k
  rw [if_neg (show ¬ ((Int32.ofInt 8) < 0) from by decide)] at k
  have k := ly_revb 1 (c' := (8, [(2, .int (Int32.ofInt 8)), (0, .ref B), (1, .int (v))], [.ref B], me_w M (nt_u (nt_u (nt_u (nt_u J Y p (vp_nar .byte ((v >>> ((Int32.ofInt 24) &&& 31)).toInt8.toInt32))) B 1 (nI (p + 1))) Y ((p + 1)) (vp_nar .byte ((v >>> ((Int32.ofInt 16) &&& 31)).toInt8.toInt32))) B 1 (nI ((p + 1) + 1))))) rfl k
  have k := lz_get (a := B) (g := 1100) (M := me_w M (nt_u (nt_u (nt_u (nt_u J Y p (vp_nar .byte ((v >>> ((Int32.ofInt 24) &&& 31)).toInt8.toInt32))) B 1 (nI (p + 1))) Y ((p + 1)) (vp_nar .byte ((v >>> ((Int32.ofInt 16) &&& 31)).toInt8.toInt32))) B 1 (nI ((p + 1) + 1)))) (v := .ref Y) rfl (nt_gfR rfl hr) k
  have k := ly_revb 1 (c' := (12, [(2, .int (Int32.ofInt 8)), (0, .ref B), (1, .int (v))], [.ref B, .ref Y], me_w M (nt_u (nt_u (nt_u (nt_u J Y p (vp_nar .byte ((v >>> ((Int32.ofInt 24) &&& 31)).toInt8.toInt32))) B 1 (nI (p + 1))) Y ((p + 1)) (vp_nar .byte ((v >>> ((Int32.ofInt 16) &&& 31)).toInt8.toInt32))) B 1 (nI ((p + 1) + 1))))) rfl k
  have k := lz_get (a := B) (g := 1101) (M := me_w M (nt_u (nt_u (nt_u (nt_u J Y p (vp_nar .byte ((v >>> ((Int32.ofInt 24) &&& 31)).toInt8.toInt32))) B 1 (nI (p + 1))) Y ((p + 1)) (vp_nar .byte ((v >>> ((Int32.ofInt 16) &&& 31)).toInt8.toInt32))) B 1 (nI ((p + 1) + 1)))) (v := .int (nI (p + 2))) rfl (congrArg Value.int (me_us)) k
  have k := ly_revb 4 (c' := (19, [(2, .int (Int32.ofInt 8)), (0, .ref B), (1, .int (v))], [.int ((v >>> ((Int32.ofInt 8) &&& 31)).toInt8.toInt32), .int (nI (p + 2)), .ref Y], me_w M (nt_u (nt_u (nt_u (nt_u J Y p (vp_nar .byte ((v >>> ((Int32.ofInt 24) &&& 31)).toInt8.toInt32))) B 1 (nI (p + 1))) Y ((p + 1)) (vp_nar .byte ((v >>> ((Int32.ofInt 16) &&& 31)).toInt8.toInt32))) B 1 (nI ((p + 1) + 1))))) rfl k
  have k := me_bast (q := (p + 2)) rfl (hk) rfl (by omega) k
  have k := ly_revb 2 (c' := (22, [(2, .int (Int32.ofInt 8)), (0, .ref B), (1, .int (v))], [.ref B, .ref B], me_w M (nt_u (nt_u (nt_u (nt_u (nt_u J Y p (vp_nar .byte ((v >>> ((Int32.ofInt 24) &&& 31)).toInt8.toInt32))) B 1 (nI (p + 1))) Y ((p + 1)) (vp_nar .byte ((v >>> ((Int32.ofInt 16) &&& 31)).toInt8.toInt32))) B 1 (nI ((p + 1) + 1))) Y ((p + 2)) (vp_nar .byte ((v >>> ((Int32.ofInt 8) &&& 31)).toInt8.toInt32))))) rfl k
  have k := lz_get (a := B) (g := 1101) (M := me_w M (nt_u (nt_u (nt_u (nt_u (nt_u J Y p (vp_nar .byte ((v >>> ((Int32.ofInt 24) &&& 31)).toInt8.toInt32))) B 1 (nI (p + 1))) Y ((p + 1)) (vp_nar .byte ((v >>> ((Int32.ofInt 16) &&& 31)).toInt8.toInt32))) B 1 (nI ((p + 1) + 1))) Y ((p + 2)) (vp_nar .byte ((v >>> ((Int32.ofInt 8) &&& 31)).toInt8.toInt32)))) (v := .int (nI (p + 2))) rfl (congrArg Value.int ((me_uj (Ne.symm hYT)).trans (me_us))) k
  have k := ly_revb 2 (c' := (27, [(2, .int (Int32.ofInt 8)), (0, .ref B), (1, .int (v))], [.int ((nI (p + 2)) + (Int32.ofInt 1)), .ref B], me_w M (nt_u (nt_u (nt_u (nt_u (nt_u J Y p (vp_nar .byte ((v >>> ((Int32.ofInt 24) &&& 31)).toInt8.toInt32))) B 1 (nI (p + 1))) Y ((p + 1)) (vp_nar .byte ((v >>> ((Int32.ofInt 16) &&& 31)).toInt8.toInt32))) B 1 (nI ((p + 1) + 1))) Y ((p + 2)) (vp_nar .byte ((v >>> ((Int32.ofInt 8) &&& 31)).toInt8.toInt32))))) rfl k
  rw [show ((nI (p + 2)) + (Int32.ofInt 1) : Int32) = nI ((p + 2) + 1) from me_add (k := 1)] at k
  have k := me_put rfl (by decide) k
  have k : nt_rn X _ 131 (30, [(2, .int (Int32.ofInt 8)), (0, .ref B), (1, .int (v))], [], me_w M (nt_u (nt_u (nt_u (nt_u (nt_u (nt_u J Y p (vp_nar .byte ((v >>> ((Int32.ofInt 24) &&& 31)).toInt8.toInt32))) B 1 (nI (p + 1))) Y ((p + 1)) (vp_nar .byte ((v >>> ((Int32.ofInt 16) &&& 31)).toInt8.toInt32))) B 1 (nI ((p + 1) + 1))) Y ((p + 2)) (vp_nar .byte ((v >>> ((Int32.ofInt 8) &&& 31)).toInt8.toInt32))) B 1 (nI ((p + 2) + 1)))) _ := k
  have k := ly_revb 2 (c' := (3, [(2, .int ((Int32.ofInt 8) + Int32.ofInt (-8))), (0, .ref B), (1, .int (v))], [], me_w M (nt_u (nt_u (nt_u (nt_u (nt_u (nt_u J Y p (vp_nar .byte ((v >>> ((Int32.ofInt 24) &&& 31)).toInt8.toInt32))) B 1 (nI (p + 1))) Y ((p + 1)) (vp_nar .byte ((v >>> ((Int32.ofInt 16) &&& 31)).toInt8.toInt32))) B 1 (nI ((p + 1) + 1))) Y ((p + 2)) (vp_nar .byte ((v >>> ((Int32.ofInt 8) &&& 31)).toInt8.toInt32))) B 1 (nI ((p + 2) + 1))))) rfl k
  rw [show ((Int32.ofInt 8) + Int32.ofInt (-8) : Int32) = Int32.ofInt 0 from by decide] at k
  have k := ly_revb 2 (c' := (if (Int32.ofInt 0) < 0 then 36 else 7, [(2, .int (Int32.ofInt 0)), (0, .ref B), (1, .int (v))], [], me_w M (nt_u (nt_u (nt_u (nt_u (nt_u (nt_u J Y p (vp_nar .byte ((v >>> ((Int32.ofInt 24) &&& 31)).toInt8.toInt32))) B 1 (nI (p + 1))) Y ((p + 1)) (vp_nar .byte ((v >>> ((Int32.ofInt 16) &&& 31)).toInt8.toInt32))) B 1 (nI ((p + 1) + 1))) Y ((p + 2)) (vp_nar .byte ((v >>> ((Int32.ofInt 8) &&& 31)).toInt8.toInt32))) B 1 (nI ((p + 2) + 1))))) rfl k
  rw [if_neg (show ¬ ((Int32.ofInt 0) < 0) from by decide)] at k
  have k := ly_revb 1 (c' := (8, [(2, .int (Int32.ofInt 0)), (0, .ref B), (1, .int (v))], [.ref B], me_w M (nt_u (nt_u (nt_u (nt_u (nt_u (nt_u J Y p (vp_nar .byte ((v >>> ((Int32.ofInt 24) &&& 31)).toInt8.toInt32))) B 1 (nI (p + 1))) Y ((p + 1)) (vp_nar .byte ((v >>> ((Int32.ofInt 16) &&& 31)).toInt8.toInt32))) B 1 (nI ((p + 1) + 1))) Y ((p + 2)) (vp_nar .byte ((v >>> ((Int32.ofInt 8) &&& 31)).toInt8.toInt32))) B 1 (nI ((p + 2) + 1))))) rfl k
  have k := lz_get (a := B) (g := 1100) (M := me_w M (nt_u (nt_u (nt_u (nt_u (nt_u (nt_u J Y p (vp_nar .byte ((v >>> ((Int32.ofInt 24) &&& 31)).toInt8.toInt32))) B 1 (nI (p + 1))) Y ((p + 1)) (vp_nar .byte ((v >>> ((Int32.ofInt 16) &&& 31)).toInt8.toInt32))) B 1 (nI ((p + 1) + 1))) Y ((p + 2)) (vp_nar .byte ((v >>> ((Int32.ofInt 8) &&& 31)).toInt8.toInt32))) B 1 (nI ((p + 2) + 1)))) (v := .ref Y) rfl (nt_gfR rfl hr) k
  have k := ly_revb 1 (c' := (12, [(2, .int (Int32.ofInt 0)), (0, .ref B), (1, .int (v))], [.ref B, .ref Y], me_w M (nt_u (nt_u (nt_u (nt_u (nt_u (nt_u J Y p (vp_nar .byte ((v >>> ((Int32.ofInt 24) &&& 31)).toInt8.toInt32))) B 1 (nI (p + 1))) Y ((p + 1)) (vp_nar .byte ((v >>> ((Int32.ofInt 16) &&& 31)).toInt8.toInt32))) B 1 (nI ((p + 1) + 1))) Y ((p + 2)) (vp_nar .byte ((v >>> ((Int32.ofInt 8) &&& 31)).toInt8.toInt32))) B 1 (nI ((p + 2) + 1))))) rfl k
  have k := lz_get (a := B) (g := 1101) (M := me_w M (nt_u (nt_u (nt_u (nt_u (nt_u (nt_u J Y p (vp_nar .byte ((v >>> ((Int32.ofInt 24) &&& 31)).toInt8.toInt32))) B 1 (nI (p + 1))) Y ((p + 1)) (vp_nar .byte ((v >>> ((Int32.ofInt 16) &&& 31)).toInt8.toInt32))) B 1 (nI ((p + 1) + 1))) Y ((p + 2)) (vp_nar .byte ((v >>> ((Int32.ofInt 8) &&& 31)).toInt8.toInt32))) B 1 (nI ((p + 2) + 1)))) (v := .int (nI (p + 3))) rfl (congrArg Value.int (me_us)) k
  have k := ly_revb 4 (c' := (19, [(2, .int (Int32.ofInt 0)), (0, .ref B), (1, .int (v))], [.int ((v >>> ((Int32.ofInt 0) &&& 31)).toInt8.toInt32), .int (nI (p + 3)), .ref Y], me_w M (nt_u (nt_u (nt_u (nt_u (nt_u (nt_u J Y p (vp_nar .byte ((v >>> ((Int32.ofInt 24) &&& 31)).toInt8.toInt32))) B 1 (nI (p + 1))) Y ((p + 1)) (vp_nar .byte ((v >>> ((Int32.ofInt 16) &&& 31)).toInt8.toInt32))) B 1 (nI ((p + 1) + 1))) Y ((p + 2)) (vp_nar .byte ((v >>> ((Int32.ofInt 8) &&& 31)).toInt8.toInt32))) B 1 (nI ((p + 2) + 1))))) rfl k
  have k := me_bast (q := (p + 3)) rfl (hk) rfl (by omega) k
  have k := ly_revb 2 (c' := (22, [(2, .int (Int32.ofInt 0)), (0, .ref B), (1, .int (v))], [.ref B, .ref B], me_w M (nt_u (nt_u (nt_u (nt_u (nt_u (nt_u (nt_u J Y p (vp_nar .byte ((v >>> ((Int32.ofInt 24) &&& 31)).toInt8.toInt32))) B 1 (nI (p + 1))) Y ((p + 1)) (vp_nar .byte ((v >>> ((Int32.ofInt 16) &&& 31)).toInt8.toInt32))) B 1 (nI ((p + 1) + 1))) Y ((p + 2)) (vp_nar .byte ((v >>> ((Int32.ofInt 8) &&& 31)).toInt8.toInt32))) B 1 (nI ((p + 2) + 1))) Y ((p + 3)) (vp_nar .byte ((v >>> ((Int32.ofInt 0) &&& 31)).toInt8.toInt32))))) rfl k
  have k := lz_get (a := B) (g := 1101) (M := me_w M (nt_u (nt_u (nt_u (nt_u (nt_u (nt_u (nt_u J Y p (vp_nar .byte ((v >>> ((Int32.ofInt 24) &&& 31)).toInt8.toInt32))) B 1 (nI (p + 1))) Y ((p + 1)) (vp_nar .byte ((v >>> ((Int32.ofInt 16) &&& 31)).toInt8.toInt32))) B 1 (nI ((p + 1) + 1))) Y ((p + 2)) (vp_nar .byte ((v >>> ((Int32.ofInt 8) &&& 31)).toInt8.toInt32))) B 1 (nI ((p + 2) + 1))) Y ((p + 3)) (vp_nar .byte ((v >>> ((Int32.ofInt 0) &&& 31)).toInt8.toInt32)))) (v := .int (nI (p + 3))) rfl (congrArg Value.int ((me_uj (Ne.symm hYT)).trans (me_us))) k
  have k := ly_revb 2 (c' := (27, [(2, .int (Int32.ofInt 0)), (0, .ref B), (1, .int (v))], [.int ((nI (p + 3)) + (Int32.ofInt 1)), .ref B], me_w M (nt_u (nt_u (nt_u (nt_u (nt_u (nt_u (nt_u J Y p (vp_nar .byte ((v >>> ((Int32.ofInt 24) &&& 31)).toInt8.toInt32))) B 1 (nI (p + 1))) Y ((p + 1)) (vp_nar .byte ((v >>> ((Int32.ofInt 16) &&& 31)).toInt8.toInt32))) B 1 (nI ((p + 1) + 1))) Y ((p + 2)) (vp_nar .byte ((v >>> ((Int32.ofInt 8) &&& 31)).toInt8.toInt32))) B 1 (nI ((p + 2) + 1))) Y ((p + 3)) (vp_nar .byte ((v >>> ((Int32.ofInt 0) &&& 31)).toInt8.toInt32))))) rfl k
  rw [show ((nI (p + 3)) + (Int32.ofInt 1) : Int32) = nI ((p + 3) + 1) from me_add (k := 1)] at k
  have k := me_put rfl (by decide) k
  have k : nt_rn X _ 131 (30, [(2, .int (Int32.ofInt 0)), (0, .ref B), (1, .int (v))], [], me_w M (nt_u (nt_u (nt_u (nt_u (nt_u (nt_u (nt_u (nt_u J Y p (vp_nar .byte ((v >>> ((Int32.ofInt 24) &&& 31)).toInt8.toInt32))) B 1 (nI (p + 1))) Y ((p + 1)) (vp_nar .byte ((v >>> ((Int32.ofInt 16) &&& 31)).toInt8.toInt32))) B 1 (nI ((p + 1) + 1))) Y ((p + 2)) (vp_nar .byte ((v >>> ((Int32.ofInt 8) &&& 31)).toInt8.toInt32))) B 1 (nI ((p + 2) + 1))) Y ((p + 3)) (vp_nar .byte ((v >>> ((Int32.ofInt 0) &&& 31)).toInt8.toInt32))) B 1 (nI ((p + 3) + 1)))) _ := k
  have k := ly_revb 2 (c' := (3, [(2, .int ((Int32.ofInt 0) + Int32.ofInt (-8))), (0, .ref B), (1, .int (v))], [], me_w M (nt_u (nt_u (nt_u (nt_u (nt_u (nt_u (nt_u (nt_u J Y p (vp_nar .byte ((v >>> ((Int32.ofInt 24) &&& 31)).toInt8.toInt32))) B 1 (nI (p + 1))) Y ((p + 1)) (vp_nar .byte ((v >>> ((Int32.ofInt 16) &&& 31)).toInt8.toInt32))) B 1 (nI ((p + 1) + 1))) Y ((p + 2)) (vp_nar .byte ((v >>> ((Int32.ofInt 8) &&& 31)).toInt8.toInt32))) B 1 (nI ((p + 2) + 1))) Y ((p + 3)) (vp_nar .byte ((v >>> ((Int32.ofInt 0) &&& 31)).toInt8.toInt32))) B 1 (nI ((p + 3) + 1))))) rfl k
  rw [show ((Int32.ofInt 0) + Int32.ofInt (-8) : Int32) = Int32.ofInt (-8) from by decide] at k
  have k := ly_revb 2 (c' := (if (Int32.ofInt (-8)) < 0 then 36 else 7, [(2, .int (Int32.ofInt (-8))), (0, .ref B), (1, .int (v))], [], me_w M (nt_u (nt_u (nt_u (nt_u (nt_u (nt_u (nt_u (nt_u J Y p (vp_nar .byte ((v >>> ((Int32.ofInt 24) &&& 31)).toInt8.toInt32))) B 1 (nI (p + 1))) Y ((p + 1)) (vp_nar .byte ((v >>> ((Int32.ofInt 16) &&& 31)).toInt8.toInt32))) B 1 (nI ((p + 1) + 1))) Y ((p + 2)) (vp_nar .byte ((v >>> ((Int32.ofInt 8) &&& 31)).toInt8.toInt32))) B 1 (nI ((p + 2) + 1))) Y ((p + 3)) (vp_nar .byte ((v >>> ((Int32.ofInt 0) &&& 31)).toInt8.toInt32))) B 1 (nI ((p + 3) + 1))))) rfl k
  rw [if_pos (show (Int32.ofInt (-8)) < 0 from by decide)] at k
  have k := lz_rv rfl rfl k
  refine ⟨_, k, me_us, ?_, fun i hi => ?_, fun a h1 h2 => ?_⟩
  · funext j
    rw [me_uj hYT, me_ur, me_uj hYT, me_ur, me_uj hYT, me_ur, me_uj hYT, me_ur]
    rfl
  · rw [me_uk hi, me_uj (Ne.symm hYT), me_uk hi, me_uj (Ne.symm hYT), me_uk hi, me_uj (Ne.symm hYT), me_uk hi, me_uj (Ne.symm hYT)]
  · rw [me_uo h1, me_uo h2, me_uo h1, me_uo h2, me_uo h1, me_uo h2, me_uo h1, me_uo h2]
theorem lq_feedC {X : nt_X} {d N T Y p : Nat} {M : nt_M} {J : Nat → Nat → Int32} {o : Option Value × nt_M} {a0 a1 a2 a3 a4 : Int32} (hn : nt_R M N 0 = some T) (hr : nt_R M T 0 = some Y) (hYT : Y ≠ T) (hk : nt_k M Y = 12) (hl : J T 1 = nI p) (hp : p ≤ 400) (k : nt_ev X d 102 [.ref N, .int a0, .int a1, .int a2, .int a3, .int a4] (me_w M J) o) : (380 < p ∧ o = (some (.int (Int32.ofInt (-1))), me_w M J)) ∨ (p ≤ 380 ∧ ∃ J', o = (some (.int (nI (p + 20))), me_w M J') ∧ J' T 1 = nI (p + 20) ∧ J' Y = lq_f (J Y) p a0 a1 a2 a3 a4 ∧ (∀ i, i ≠ 1 → J' T i = J T i) ∧ (∀ a, a ≠ T → a ≠ Y → J' a = J a)) := by
  have k : nt_rn X d 102 (0, [(0, .ref N), (1, .int (a0)), (2, .int (a1)), (3, .int (a2)), (4, .int (a3)), (5, .int (a4))], [], me_w M J) o := k
  have k := ly_revb 1 (c' := (1, [(0, .ref N), (1, .int (a0)), (2, .int (a1)), (3, .int (a2)), (4, .int (a3)), (5, .int (a4))], [.ref N], me_w M J)) rfl k
  have k := lz_get (a := N) (g := 1000) (M := me_w M J) (v := .ref T) rfl (nt_gfR rfl hn) k
  have k := lz_get (a := T) (g := 701) (M := me_w M J) (v := .int (nI p)) rfl (congrArg Value.int (hl)) k
  have k := ly_revb 2 (c' := (if (nI p) ≤ (Int32.ofInt 380) then 15 else 13, [(0, .ref N), (1, .int (a0)), (2, .int (a1)), (3, .int (a2)), (4, .int (a3)), (5, .int (a4))], [], me_w M J)) rfl k
  by_cases h10 : p ≤ 380
  · rw [if_pos (show (nI p) ≤ (Int32.ofInt 380) from show nI p ≤ nI 380 from nI_le h10 (by omega))] at k
    have k := ly_revb 1 (c' := (16, [(0, .ref N), (1, .int (a0)), (2, .int (a1)), (3, .int (a2)), (4, .int (a3)), (5, .int (a4))], [.ref N], me_w M J)) rfl k
    have k := lz_get (a := N) (g := 1000) (M := me_w M J) (v := .ref T) rfl (nt_gfR rfl hn) k
    have k := ly_revb 1 (c' := (20, [(0, .ref N), (1, .int (a0)), (2, .int (a1)), (3, .int (a2)), (4, .int (a3)), (5, .int (a4))], [.int (a0), .ref T], me_w M J)) rfl k
    obtain ⟨d1, o1, ed, kc, k⟩ := lz_c (g := 84) (q := 1) (vs := [.ref T, .int (a0)]) (rest := []) rfl rfl (by decide) (Or.inr (Or.inl ⟨_, rfl, rfl⟩)) rfl k
    obtain ⟨J1, e1, l1, y1, f1, g1⟩ := lq_append (p := p + 0) hr hYT hk hl (by omega) kc
    subst e1
    have k : nt_rn X _ 102 (23, [(0, .ref N), (1, .int (a0)), (2, .int (a1)), (3, .int (a2)), (4, .int (a3)), (5, .int (a4))], [], me_w M J1) _ := k
    have k := ly_revb 1 (c' := (24, [(0, .ref N), (1, .int (a0)), (2, .int (a1)), (3, .int (a2)), (4, .int (a3)), (5, .int (a4))], [.ref N], me_w M J1)) rfl k
    have k := lz_get (a := N) (g := 1000) (M := me_w M J1) (v := .ref T) rfl (nt_gfR rfl hn) k
    have k := ly_revb 1 (c' := (28, [(0, .ref N), (1, .int (a0)), (2, .int (a1)), (3, .int (a2)), (4, .int (a3)), (5, .int (a4))], [.int (a1), .ref T], me_w M J1)) rfl k
    obtain ⟨d1, o1, ed, kc, k⟩ := lz_c (g := 84) (q := 1) (vs := [.ref T, .int (a1)]) (rest := []) rfl rfl (by decide) (Or.inr (Or.inl ⟨_, rfl, rfl⟩)) rfl k
    obtain ⟨J2, e1, l2, y2, f2, g2⟩ := lq_append (p := p + 4) hr hYT hk l1 (by omega) kc
    subst e1
    have k : nt_rn X _ 102 (31, [(0, .ref N), (1, .int (a0)), (2, .int (a1)), (3, .int (a2)), (4, .int (a3)), (5, .int (a4))], [], me_w M J2) _ := k
    have k := ly_revb 1 (c' := (32, [(0, .ref N), (1, .int (a0)), (2, .int (a1)), (3, .int (a2)), (4, .int (a3)), (5, .int (a4))], [.ref N], me_w M J2)) rfl k
    have k := lz_get (a := N) (g := 1000) (M := me_w M J2) (v := .ref T) rfl (nt_gfR rfl hn) k
    have k := ly_revb 1 (c' := (36, [(0, .ref N), (1, .int (a0)), (2, .int (a1)), (3, .int (a2)), (4, .int (a3)), (5, .int (a4))], [.int (a2), .ref T], me_w M J2)) rfl k
    obtain ⟨d1, o1, ed, kc, k⟩ := lz_c (g := 84) (q := 1) (vs := [.ref T, .int (a2)]) (rest := []) rfl rfl (by decide) (Or.inr (Or.inl ⟨_, rfl, rfl⟩)) rfl k
    obtain ⟨J3, e1, l3, y3, f3, g3⟩ := lq_append (p := p + 8) hr hYT hk l2 (by omega) kc
    subst e1
    have k : nt_rn X _ 102 (39, [(0, .ref N), (1, .int (a0)), (2, .int (a1)), (3, .int (a2)), (4, .int (a3)), (5, .int (a4))], [], me_w M J3) _ := k
    have k := ly_revb 1 (c' := (40, [(0, .ref N), (1, .int (a0)), (2, .int (a1)), (3, .int (a2)), (4, .int (a3)), (5, .int (a4))], [.ref N], me_w M J3)) rfl k
    have k := lz_get (a := N) (g := 1000) (M := me_w M J3) (v := .ref T) rfl (nt_gfR rfl hn) k
    have k := ly_revb 1 (c' := (45, [(0, .ref N), (1, .int (a0)), (2, .int (a1)), (3, .int (a2)), (4, .int (a3)), (5, .int (a4))], [.int (a3), .ref T], me_w M J3)) rfl k
    obtain ⟨d1, o1, ed, kc, k⟩ := lz_c (g := 84) (q := 1) (vs := [.ref T, .int (a3)]) (rest := []) rfl rfl (by decide) (Or.inr (Or.inl ⟨_, rfl, rfl⟩)) rfl k
    obtain ⟨J4, e1, l4, y4, f4, g4⟩ := lq_append (p := p + 12) hr hYT hk l3 (by omega) kc
    subst e1
    have k : nt_rn X _ 102 (48, [(0, .ref N), (1, .int (a0)), (2, .int (a1)), (3, .int (a2)), (4, .int (a3)), (5, .int (a4))], [], me_w M J4) _ := k
    have k := ly_revb 1 (c' := (49, [(0, .ref N), (1, .int (a0)), (2, .int (a1)), (3, .int (a2)), (4, .int (a3)), (5, .int (a4))], [.ref N], me_w M J4)) rfl k
    have k := lz_get (a := N) (g := 1000) (M := me_w M J4) (v := .ref T) rfl (nt_gfR rfl hn) k
    have k := ly_revb 1 (c' := (54, [(0, .ref N), (1, .int (a0)), (2, .int (a1)), (3, .int (a2)), (4, .int (a3)), (5, .int (a4))], [.int (a4), .ref T], me_w M J4)) rfl k
    obtain ⟨d1, o1, ed, kc, k⟩ := lz_c (g := 84) (q := 1) (vs := [.ref T, .int (a4)]) (rest := []) rfl rfl (by decide) (Or.inr (Or.inl ⟨_, rfl, rfl⟩)) rfl k
    obtain ⟨J5, e1, l5, y5, f5, g5⟩ := lq_append (p := p + 16) hr hYT hk l4 (by omega) kc
    subst e1
    have k : nt_rn X _ 102 (57, [(0, .ref N), (1, .int (a0)), (2, .int (a1)), (3, .int (a2)), (4, .int (a3)), (5, .int (a4))], [], me_w M J5) _ := k
    have k := ly_revb 1 (c' := (58, [(0, .ref N), (1, .int (a0)), (2, .int (a1)), (3, .int (a2)), (4, .int (a3)), (5, .int (a4))], [.ref N], me_w M J5)) rfl k
    have k := lz_get (a := N) (g := 1000) (M := me_w M J5) (v := .ref T) rfl (nt_gfR rfl hn) k
    have k := lz_get (a := T) (g := 701) (M := me_w M J5) (v := .int (nI (p + 16 + 4))) rfl (congrArg Value.int (l5)) k
    have k := lz_ri rfl (by decide) k
    refine Or.inr ⟨by omega, J5, k, l5, ?_, fun i hi => ?_, fun a h1 h2 => ?_⟩
    · rw [y5, y4, y3, y2, y1]
      rfl
    · rw [f5 i hi, f4 i hi, f3 i hi, f2 i hi, f1 i hi]
    · rw [g5 a h1 h2, g4 a h1 h2, g3 a h1 h2, g2 a h1 h2, g1 a h1 h2]
  · rw [if_neg (show ¬ ((nI p) ≤ (Int32.ofInt 380)) from show ¬ nI p ≤ nI 380 from nI_ge (Nat.not_le.mp h10) (by omega))] at k
    have k := ly_revb 1 (c' := (14, [(0, .ref N), (1, .int (a0)), (2, .int (a1)), (3, .int (a2)), (4, .int (a3)), (5, .int (a4))], [.int (Int32.ofInt (-1))], me_w M J)) rfl k
    have k := lz_ri rfl (by decide) k
    exact Or.inl ⟨by omega, k⟩
theorem lq_feedR {X : nt_X} {d B Y p : Nat} {M : nt_M} {J : Nat → Nat → Int32} {o : Option Value × nt_M} {a0 a1 a2 a3 a4 : Int32} (hr : nt_R M B 0 = some Y) (hYT : Y ≠ B) (hk : nt_k M Y = 12) (hl : J B 1 = nI p) (hp : p ≤ 400) (k : nt_ev X d 130 [.ref B, .int a0, .int a1, .int a2, .int a3, .int a4] (me_w M J) o) : (380 < p ∧ o = (some (.int (Int32.ofInt (-1))), me_w M J)) ∨ (p ≤ 380 ∧ ∃ J', o = (some (.int (nI (p + 20))), me_w M J') ∧ J' B 1 = nI (p + 20) ∧ J' Y = lq_f (J Y) p a0 a1 a2 a3 a4 ∧ (∀ i, i ≠ 1 → J' B i = J B i) ∧ (∀ a, a ≠ B → a ≠ Y → J' a = J a)) := by
  have k : nt_rn X d 130 (0, [(0, .ref B), (1, .int (a0)), (2, .int (a1)), (3, .int (a2)), (4, .int (a3)), (5, .int (a4))], [], me_w M J) o := k
  have k := ly_revb 1 (c' := (1, [(0, .ref B), (1, .int (a0)), (2, .int (a1)), (3, .int (a2)), (4, .int (a3)), (5, .int (a4))], [.ref B], me_w M J)) rfl k
  have k := lz_get (a := B) (g := 1101) (M := me_w M J) (v := .int (nI p)) rfl (congrArg Value.int (hl)) k
  have k := ly_revb 2 (c' := (7, [(0, .ref B), (1, .int (a0)), (2, .int (a1)), (3, .int (a2)), (4, .int (a3)), (5, .int (a4))], [.int ((nI p) + (Int32.ofInt 20))], me_w M J)) rfl k
  rw [show ((nI p) + (Int32.ofInt 20) : Int32) = nI (p + 20) from me_add (k := 20)] at k
  have k := ly_revb 2 (c' := (if (nI (p + 20)) ≤ (Int32.ofInt 400) then 15 else 13, [(0, .ref B), (1, .int (a0)), (2, .int (a1)), (3, .int (a2)), (4, .int (a3)), (5, .int (a4))], [], me_w M J)) rfl k
  by_cases h10 : p + 20 ≤ 400
  · rw [if_pos (show (nI (p + 20)) ≤ (Int32.ofInt 400) from show nI (p + 20) ≤ nI 400 from nI_le h10 (by omega))] at k
    have k := ly_revb 2 (c' := (17, [(0, .ref B), (1, .int (a0)), (2, .int (a1)), (3, .int (a2)), (4, .int (a3)), (5, .int (a4))], [.int (a0), .ref B], me_w M J)) rfl k
    obtain ⟨d1, o1, ed, kc, k⟩ := lz_c (g := 131) (q := 1) (vs := [.ref B, .int (a0)]) (rest := []) rfl rfl (by decide) (Or.inr (Or.inl ⟨_, rfl, rfl⟩)) rfl k
    obtain ⟨J1, e1, l1, y1, f1, g1⟩ := lq_four (p := p + 0) hr hYT hk hl (by omega) kc
    subst e1
    have k : nt_rn X _ 130 (20, [(0, .ref B), (1, .int (a0)), (2, .int (a1)), (3, .int (a2)), (4, .int (a3)), (5, .int (a4))], [], me_w M J1) _ := k
    have k := ly_revb 2 (c' := (22, [(0, .ref B), (1, .int (a0)), (2, .int (a1)), (3, .int (a2)), (4, .int (a3)), (5, .int (a4))], [.int (a1), .ref B], me_w M J1)) rfl k
    obtain ⟨d1, o1, ed, kc, k⟩ := lz_c (g := 131) (q := 1) (vs := [.ref B, .int (a1)]) (rest := []) rfl rfl (by decide) (Or.inr (Or.inl ⟨_, rfl, rfl⟩)) rfl k
    obtain ⟨J2, e1, l2, y2, f2, g2⟩ := lq_four (p := p + 4) hr hYT hk l1 (by omega) kc
    subst e1
    have k : nt_rn X _ 130 (25, [(0, .ref B), (1, .int (a0)), (2, .int (a1)), (3, .int (a2)), (4, .int (a3)), (5, .int (a4))], [], me_w M J2) _ := k
    have k := ly_revb 2 (c' := (27, [(0, .ref B), (1, .int (a0)), (2, .int (a1)), (3, .int (a2)), (4, .int (a3)), (5, .int (a4))], [.int (a2), .ref B], me_w M J2)) rfl k
    obtain ⟨d1, o1, ed, kc, k⟩ := lz_c (g := 131) (q := 1) (vs := [.ref B, .int (a2)]) (rest := []) rfl rfl (by decide) (Or.inr (Or.inl ⟨_, rfl, rfl⟩)) rfl k
    obtain ⟨J3, e1, l3, y3, f3, g3⟩ := lq_four (p := p + 8) hr hYT hk l2 (by omega) kc
    subst e1
    have k : nt_rn X _ 130 (30, [(0, .ref B), (1, .int (a0)), (2, .int (a1)), (3, .int (a2)), (4, .int (a3)), (5, .int (a4))], [], me_w M J3) _ := k
    have k := ly_revb 2 (c' := (33, [(0, .ref B), (1, .int (a0)), (2, .int (a1)), (3, .int (a2)), (4, .int (a3)), (5, .int (a4))], [.int (a3), .ref B], me_w M J3)) rfl k
    obtain ⟨d1, o1, ed, kc, k⟩ := lz_c (g := 131) (q := 1) (vs := [.ref B, .int (a3)]) (rest := []) rfl rfl (by decide) (Or.inr (Or.inl ⟨_, rfl, rfl⟩)) rfl k
    obtain ⟨J4, e1, l4, y4, f4, g4⟩ := lq_four (p := p + 12) hr hYT hk l3 (by omega) kc
    subst e1
    have k : nt_rn X _ 130 (36, [(0, .ref B), (1, .int (a0)), (2, .int (a1)), (3, .int (a2)), (4, .int (a3)), (5, .int (a4))], [], me_w M J4) _ := k
    have k := ly_revb 2 (c' := (39, [(0, .ref B), (1, .int (a0)), (2, .int (a1)), (3, .int (a2)), (4, .int (a3)), (5, .int (a4))], [.int (a4), .ref B], me_w M J4)) rfl k
    obtain ⟨d1, o1, ed, kc, k⟩ := lz_c (g := 131) (q := 1) (vs := [.ref B, .int (a4)]) (rest := []) rfl rfl (by decide) (Or.inr (Or.inl ⟨_, rfl, rfl⟩)) rfl k
    obtain ⟨J5, e1, l5, y5, f5, g5⟩ := lq_four (p := p + 16) hr hYT hk l4 (by omega) kc
    subst e1
    have k : nt_rn X _ 130 (42, [(0, .ref B), (1, .int (a0)), (2, .int (a1)), (3, .int (a2)), (4, .int (a3)), (5, .int (a4))], [], me_w M J5) _ := k
    have k := ly_revb 1 (c' := (43, [(0, .ref B), (1, .int (a0)), (2, .int (a1)), (3, .int (a2)), (4, .int (a3)), (5, .int (a4))], [.ref B], me_w M J5)) rfl k
    have k := lz_get (a := B) (g := 1101) (M := me_w M J5) (v := .int (nI (p + 16 + 4))) rfl (congrArg Value.int (l5)) k
    have k := lz_ri rfl (by decide) k
    refine Or.inr ⟨by omega, J5, k, l5, ?_, fun i hi => ?_, fun a h1 h2 => ?_⟩
    · rw [y5, y4, y3, y2, y1]
      rfl
    · rw [f5 i hi, f4 i hi, f3 i hi, f2 i hi, f1 i hi]
    · rw [g5 a h1 h2, g4 a h1 h2, g3 a h1 h2, g2 a h1 h2, g1 a h1 h2]
  · rw [if_neg (show ¬ ((nI (p + 20)) ≤ (Int32.ofInt 400)) from show ¬ nI (p + 20) ≤ nI 400 from nI_ge (Nat.not_le.mp h10) (by omega))] at k
    have k := ly_revb 1 (c' := (14, [(0, .ref B), (1, .int (a0)), (2, .int (a1)), (3, .int (a2)), (4, .int (a3)), (5, .int (a4))], [.int (Int32.ofInt (-1))], me_w M J)) rfl k
    have k := lz_ri rfl (by decide) k
    exact Or.inl ⟨by omega, k⟩
theorem lq_endC {X : nt_X} {d N T p : Nat} {M : nt_M} {J : Nat → Nat → Int32} {o : Option Value × nt_M} {n : Int32} (hn : nt_R M N 0 = some T) (hl : J T 1 = nI p) (k : nt_ev X d 103 [.ref N, .int n] (me_w M J) o) : ((n < 0 ∨ ¬ n ≤ nI p) ∧ o = (some (.int (Int32.ofInt (-1))), me_w M J)) ∨ (¬ n < 0 ∧ n ≤ nI p ∧ o = (some (.int n), me_w M (nt_u J T 1 n))) := by
  have k : nt_rn X d 103 (0, [(0, .ref N), (1, .int (n))], [], me_w M J) o := k
  have k := ly_revb 2 (c' := (if n < 0 then 15 else 4, [(0, .ref N), (1, .int (n))], [], me_w M J)) rfl k
  by_cases h1 : n < 0
  · rw [if_pos (show n < 0 from h1)] at k
    have k := ly_revb 1 (c' := (16, [(0, .ref N), (1, .int (n))], [.int (Int32.ofInt (-1))], me_w M J)) rfl k
    have k := lz_ri rfl (by decide) k
    exact Or.inl ⟨Or.inl h1, k⟩
  · rw [if_neg (show ¬ (n < 0) from h1)] at k
    have k := ly_revb 2 (c' := (6, [(0, .ref N), (1, .int (n))], [.ref N, .int (n)], me_w M J)) rfl k
    have k := lz_get (a := N) (g := 1000) (M := me_w M J) (v := .ref T) rfl (nt_gfR rfl hn) k
    have k := lz_get (a := T) (g := 701) (M := me_w M J) (v := .int (nI p)) rfl (congrArg Value.int (hl)) k
    have k := ly_revb 1 (c' := (if n ≤ (nI p) then 17 else 15, [(0, .ref N), (1, .int (n))], [], me_w M J)) rfl k
    by_cases h12 : n ≤ nI p
    · rw [if_pos (show n ≤ (nI p) from h12)] at k
      have k := ly_revb 1 (c' := (18, [(0, .ref N), (1, .int (n))], [.ref N], me_w M J)) rfl k
      have k := lz_get (a := N) (g := 1000) (M := me_w M J) (v := .ref T) rfl (nt_gfR rfl hn) k
      have k := ly_revb 1 (c' := (22, [(0, .ref N), (1, .int (n))], [.int (n), .ref T], me_w M J)) rfl k
      have k := me_put rfl (by decide) k
      have k : nt_rn X _ 103 (25, [(0, .ref N), (1, .int (n))], [], me_w M (nt_u J T 1 (n))) _ := k
      have k := ly_revb 1 (c' := (26, [(0, .ref N), (1, .int (n))], [.int (n)], me_w M (nt_u J T 1 (n)))) rfl k
      have k := lz_ri rfl (by decide) k
      exact Or.inr ⟨h1, h12, k⟩
    · rw [if_neg (show ¬ (n ≤ (nI p)) from h12)] at k
      have k := ly_revb 1 (c' := (16, [(0, .ref N), (1, .int (n))], [.int (Int32.ofInt (-1))], me_w M J)) rfl k
      have k := lz_ri rfl (by decide) k
      exact Or.inl ⟨Or.inr h12, k⟩
theorem lq_endR {X : nt_X} {d B p : Nat} {M : nt_M} {J : Nat → Nat → Int32} {o : Option Value × nt_M} {n : Int32} (hl : J B 1 = nI p) (k : nt_ev X d 132 [.ref B, .int n] (me_w M J) o) : ((n < 0 ∨ ¬ n ≤ nI p) ∧ o = (some (.int (Int32.ofInt (-1))), me_w M J)) ∨ (¬ n < 0 ∧ n ≤ nI p ∧ o = (some (.int n), me_w M (nt_u J B 1 n))) := by
  have k : nt_rn X d 132 (0, [(0, .ref B), (1, .int (n))], [], me_w M J) o := k
  have k := ly_revb 2 (c' := (if n < 0 then 12 else 4, [(0, .ref B), (1, .int (n))], [], me_w M J)) rfl k
  by_cases h1 : n < 0
  · rw [if_pos (show n < 0 from h1)] at k
    have k := ly_revb 1 (c' := (13, [(0, .ref B), (1, .int (n))], [.int (Int32.ofInt (-1))], me_w M J)) rfl k
    have k := lz_ri rfl (by decide) k
    exact Or.inl ⟨Or.inl h1, k⟩
  · rw [if_neg (show ¬ (n < 0) from h1)] at k
    have k := ly_revb 2 (c' := (6, [(0, .ref B), (1, .int (n))], [.ref B, .int (n)], me_w M J)) rfl k
    have k := lz_get (a := B) (g := 1101) (M := me_w M J) (v := .int (nI p)) rfl (congrArg Value.int (hl)) k
    have k := ly_revb 1 (c' := (if n ≤ (nI p) then 14 else 12, [(0, .ref B), (1, .int (n))], [], me_w M J)) rfl k
    by_cases h9 : n ≤ nI p
    · rw [if_pos (show n ≤ (nI p) from h9)] at k
      have k := ly_revb 2 (c' := (16, [(0, .ref B), (1, .int (n))], [.int (n), .ref B], me_w M J)) rfl k
      have k := me_put rfl (by decide) k
      have k : nt_rn X _ 132 (19, [(0, .ref B), (1, .int (n))], [], me_w M (nt_u J B 1 (n))) _ := k
      have k := ly_revb 1 (c' := (20, [(0, .ref B), (1, .int (n))], [.int (n)], me_w M (nt_u J B 1 (n)))) rfl k
      have k := lz_ri rfl (by decide) k
      exact Or.inr ⟨h1, h9, k⟩
    · rw [if_neg (show ¬ (n ≤ (nI p)) from h9)] at k
      have k := ly_revb 1 (c' := (13, [(0, .ref B), (1, .int (n))], [.int (Int32.ofInt (-1))], me_w M J)) rfl k
      have k := lz_ri rfl (by decide) k
      exact Or.inl ⟨Or.inr h9, k⟩
end
