/-! terms and sums, the other side -/
def lb_by (f : Nat → Int32) (t : Nat) : Prop := ∀ j, j < t → -128 ≤ (f j).toInt ∧ (f j).toInt ≤ 127
theorem lb_by_all : ∀ i : Fin 256, (Int32.ofInt ((i.val : Int) - 128) &&& Int32.ofInt 255).toInt = if 128 ≤ i.val then (i.val : Int) - 128 else (i.val : Int) + 128 := by decide +kernel
theorem lb_gb {f : Nat → Int32} {t p : Nat} (hb : lb_by f t) (hp : p < t) : (lb_g f t p).toInt = if 0 ≤ (f p).toInt then (f p).toInt else (f p).toInt + 256 := by
  obtain ⟨a, b⟩ := hb p hp
  unfold lb_g
  rw [if_pos hp]
  have q := lb_by_all ⟨((f p).toInt + 128).toNat, by omega⟩
  have e : (((⟨((f p).toInt + 128).toNat, by omega⟩ : Fin 256).val : Int) - 128) = (f p).toInt := by
    show (((f p).toInt + 128).toNat : Int) - 128 = _
    omega
  rw [e, Int32.ofInt_toInt] at q
  rw [q]
  by_cases c : 0 ≤ (f p).toInt
  · rw [if_pos c, if_pos (show 128 ≤ ((f p).toInt + 128).toNat by omega)]
  · rw [if_neg c, if_neg (show ¬ 128 ≤ ((f p).toInt + 128).toNat by omega)]
    show (((f p).toInt + 128).toNat : Int) + 128 = _
    omega
theorem lb_g1 {f : Nat → Int32} {t p : Nat} {c : Int32} (hb : lb_by f t) (hp : p < t) (h0 : 0 ≤ c.toInt) (h1 : c.toInt ≤ 127) (h : lb_g f t p = c) : f p = c := by
  have q := lb_gb hb hp
  obtain ⟨a, b⟩ := hb p hp
  rw [h] at q
  apply Int32.toInt_inj.mp
  by_cases k : 0 ≤ (f p).toInt
  · rw [if_pos k] at q
    omega
  · rw [if_neg k] at q
    omega
theorem lb_g2 {f : Nat → Int32} {t p : Nat} {c : Int32} (hb : lb_by f t) (hp : p < t) (h0 : 0 ≤ c.toInt) (h : f p = c) : lb_g f t p = c := by
  have q := lb_gb hb hp
  rw [h, if_pos h0] at q
  exact Int32.toInt_inj.mp q
theorem lb_op_i {g : Int32} : (lb_op g = Int32.ofInt 10 → g = Int32.ofInt 43) ∧ (lb_op g = Int32.ofInt 11 → g = Int32.ofInt 45) ∧ (lb_op g = Int32.ofInt 12 → g = Int32.ofInt 42) ∧ (lb_op g = Int32.ofInt 13 → g = Int32.ofInt 47) := by
  unfold lb_op
  by_cases h1 : g = Int32.ofInt 43
  · rw [if_pos h1]; exact ⟨fun _ => h1, fun c => absurd c (by decide), fun c => absurd c (by decide), fun c => absurd c (by decide)⟩
  rw [if_neg h1]
  by_cases h2 : g = Int32.ofInt 45
  · rw [if_pos h2]; exact ⟨fun c => absurd c (by decide), fun _ => h2, fun c => absurd c (by decide), fun c => absurd c (by decide)⟩
  rw [if_neg h2]
  by_cases h3 : g = Int32.ofInt 42
  · rw [if_pos h3]; exact ⟨fun c => absurd c (by decide), fun c => absurd c (by decide), fun _ => h3, fun c => absurd c (by decide)⟩
  rw [if_neg h3]
  by_cases h4 : g = Int32.ofInt 47
  · rw [if_pos h4]; exact ⟨fun c => absurd c (by decide), fun c => absurd c (by decide), fun c => absurd c (by decide), fun _ => h4⟩
  rw [if_neg h4]
  exact ⟨fun c => absurd c (by decide), fun c => absurd c (by decide), fun c => absurd c (by decide), fun c => absurd c (by decide)⟩
/-- while one of two operators stands: an R, then the operator is put -/
def lb_lp (f : Nat → Int32) (t : Nat) (R : lb_Z → lb_Y → Prop) (a b : Int32) : Nat → lb_Z → lb_Y → Prop
  | 0, _, _ => False
  | k + 1, z, r =>
    (¬ (lb_op (lb_g f t z.1) = a ∨ lb_op (lb_g f t z.1) = b) ∧ r = .inr z) ∨
    ((lb_op (lb_g f t z.1) = a ∨ lb_op (lb_g f t z.1) = b) ∧ ∃ r1, R (lb_s f t (z.1 + 1), z.2.1, z.2.2) r1 ∧ lb_th r1 r (fun z1 => lb_lp f t R a b k (z1.1, z1.2.1, lb_ew z1.2.2 (lb_op (lb_g f t z.1))) r))
def lb_te (f : Nat → Int32) (t : Nat) (z : lb_Z) (r : lb_Y) : Prop := ∃ r1, lb_val f t z r1 ∧ lb_th r1 r (fun z1 => ∃ k, lb_lp f t (lb_val f t) (Int32.ofInt 12) (Int32.ofInt 13) k z1 r)
def lb_su (f : Nat → Int32) (t : Nat) (z : lb_Z) (r : lb_Y) : Prop := ∃ r1, lb_te f t z r1 ∧ lb_th r1 r (fun z1 => ∃ k, lb_lp f t (lb_te f t) (Int32.ofInt 10) (Int32.ofInt 11) k z1 r)
theorem lb_lp_up {f : Nat → Int32} {t : Nat} {R : lb_Z → lb_Y → Prop} {a b : Int32} (ha : a ≠ Int32.ofInt (-1)) (hb : b ≠ Int32.ofInt (-1)) (hR : ∀ z z1, z.1 ≤ t → R z (.inr z1) → z.1 < z1.1 ∧ z1.1 ≤ t) : ∀ (k : Nat) (z z1 : lb_Z), z.1 ≤ t → lb_lp f t R a b k z (.inr z1) → z.1 ≤ z1.1 ∧ z1.1 ≤ t ∧ ¬ (lb_op (lb_g f t z1.1) = a ∨ lb_op (lb_g f t z1.1) = b) := by
  intro k
  induction k with
  | zero => intro z z1 _ h; exact h.elim
  | succ k ih =>
    intro z z1 hz h
    rcases h with ⟨h1, h⟩ | ⟨h1, r1, h2, h⟩
    · have e := Sum.inr.inj h
      subst e
      exact ⟨Nat.le_refl _, hz, h1⟩
    · have hlt : z.1 < t := lb_op_lt (by rcases h1 with q | q <;> (rw [q]; assumption))
      have hs := lb_s_le (f := f) (t := t) (t - (z.1 + 1)) (z.1 + 1) (by omega)
      rcases h with ⟨c, e1, e2⟩ | ⟨z2, e1, h⟩
      · cases e2
      · subst e1
        have q := hR _ _ hs.2 h2
        have i := ih (z2.1, z2.2.1, lb_ew z2.2.2 (lb_op (lb_g f t z.1))) _ q.2 h
        dsimp only at i q
        exact ⟨by omega, i.2⟩
theorem lb_te_up {f : Nat → Int32} {t : Nat} {z z1 : lb_Z} (hz : z.1 ≤ t) (h : lb_te f t z (.inr z1)) : z.1 < z1.1 ∧ z1.1 ≤ t := by
  obtain ⟨r1, hv, h⟩ := h
  rcases h with ⟨c, e1, e2⟩ | ⟨z2, e1, k, h⟩
  · cases e2
  · subst e1
    have q := lb_val_up hz hv
    have a := lb_lp_up (by decide) (by decide) (fun _ _ => lb_val_up) _ _ _ q.2 h
    exact ⟨by omega, a.2.1⟩
/-- a term's loop in a sum's -/
theorem lb_tl_sr {f : Nat → Int32} {t : Nat} {w : Int32} : ∀ (k : Nat) (z : lb_Z) (r1 r : lb_Y), lb_lp f t (lb_val f t) (Int32.ofInt 12) (Int32.ofInt 13) k z r1 → lb_th r1 r (fun z1 => ∃ j, lb_sr f t j w z1 r) → ∃ j, lb_sr f t j w z r := by
  intro k
  induction k with
  | zero => intro z r1 r h _; exact h.elim
  | succ k ih =>
    intro z r1 r h h2
    rcases h with ⟨h1, h⟩ | ⟨h1, r0, hv, h⟩
    · subst h
      rcases h2 with ⟨c, e1, e2⟩ | ⟨z1, e1, h2⟩
      · cases e1
      · cases e1
        exact h2
    · rcases h with ⟨c, e1, e2⟩ | ⟨z2, e1, h⟩
      · subst e1
        subst e2
        rcases h2 with ⟨c2, e1, e2⟩ | ⟨z1, e1, h2⟩
        · cases e1
          exact ⟨1, Or.inr (Or.inl ⟨h1, _, hv, Or.inl ⟨c, rfl, e2⟩⟩)⟩
        · cases e1
      · obtain ⟨j, q⟩ := ih _ _ _ h h2
        exact ⟨j + 1, Or.inr (Or.inl ⟨h1, _, hv, Or.inr ⟨z2, e1, q⟩⟩)⟩
theorem lb_sl_sr {f : Nat → Int32} {t : Nat} : ∀ (k : Nat) (w : Int32) (z : lb_Z) (r : lb_Y), z.1 ≤ t → ¬ (lb_op (lb_g f t z.1) = Int32.ofInt 12 ∨ lb_op (lb_g f t z.1) = Int32.ofInt 13) → lb_lp f t (lb_te f t) (Int32.ofInt 10) (Int32.ofInt 11) k (z.1, z.2.1, lb_ew z.2.2 w) r → ∃ j, lb_sr f t j w z r := by
  intro k
  induction k with
  | zero => intro w z r _ _ h; exact h.elim
  | succ k ih =>
    intro w z r hz hn h
    rcases h with ⟨h1, h⟩ | ⟨h1, r0, hv, h⟩
    · dsimp only at h1
      have q := lb_op_in (lb_g f t z.1)
      have q : lb_op (lb_g f t z.1) = Int32.ofInt (-1) := by
        rcases q with q | q | q | q | q
        · exact absurd (Or.inl q) h1
        · exact absurd (Or.inr q) h1
        · exact absurd (Or.inl q) hn
        · exact absurd (Or.inr q) hn
        · exact q
      exact ⟨1, Or.inl ⟨q, h⟩⟩
    · dsimp only at h1 hv h
      have hlt : z.1 < t := lb_op_lt (by rcases h1 with q | q <;> (rw [q]; decide))
      have hs := lb_s_le (f := f) (t := t) (t - (z.1 + 1)) (z.1 + 1) (by omega)
      obtain ⟨r2, hv2, hv⟩ := hv
      rcases hv with ⟨c, e1, e2⟩ | ⟨z2, e1, k2, hv⟩
      · subst e2
        rcases h with ⟨c2, e3, e4⟩ | ⟨z1, e3, h⟩
        · cases e3
          exact ⟨1, Or.inr (Or.inr ⟨h1, _, hv2, Or.inl ⟨c, e1, e4⟩⟩)⟩
        · cases e3
      · subst e1
        have q := lb_val_up hs.2 hv2
        have key : ∃ j, lb_sr f t j (lb_op (lb_g f t z.1)) z2 r := by
          refine lb_tl_sr k2 z2 r0 r hv ?_
          rcases h with h | ⟨z1, e3, h⟩
          · exact Or.inl h
          · subst e3
            have u := lb_lp_up (by decide) (by decide) (fun _ _ => lb_val_up) _ _ _ q.2 hv
            exact Or.inr ⟨z1, rfl, ih _ _ _ u.2.1 u.2.2 h⟩
        obtain ⟨j, key⟩ := key
        exact ⟨j + 1, Or.inr (Or.inr ⟨h1, _, hv2, Or.inr ⟨z2, rfl, key⟩⟩)⟩
theorem lb_su_sum {f : Nat → Int32} {t : Nat} {z : lb_Z} {r : lb_Y} (hz : z.1 ≤ t) (h : lb_su f t z r) : lb_sum f t z r := by
  obtain ⟨r1, hv, h⟩ := h
  obtain ⟨r2, hv2, hv⟩ := hv
  rcases hv with ⟨c, e1, e2⟩ | ⟨z2, e1, k2, hv⟩
  · subst e2
    rcases h with ⟨c2, e3, e4⟩ | ⟨z1, e3, h⟩
    · cases e3
      exact ⟨_, hv2, Or.inl ⟨c, e1, e4⟩⟩
    · cases e3
  · subst e1
    have q := lb_val_up hz hv2
    have key : ∃ j, lb_sr f t j (Int32.ofInt (-1)) z2 r := by
      refine lb_tl_sr k2 z2 r1 r hv ?_
      rcases h with h | ⟨z1, e3, k, h⟩
      · exact Or.inl h
      · subst e3
        have u := lb_lp_up (by decide) (by decide) (fun _ _ => lb_val_up) _ _ _ q.2 hv
        refine Or.inr ⟨z1, rfl, lb_sl_sr k _ _ _ u.2.1 u.2.2 ?_⟩
        have e : lb_ew z1.2.2 (Int32.ofInt (-1)) = z1.2.2 := if_pos rfl
        rw [e]
        exact h
    obtain ⟨j, key⟩ := key
    exact ⟨_, hv2, Or.inr ⟨z2, j, rfl, key⟩⟩
theorem lb_ew_c {e : lb_E} {w y : Int32} (h : ¬ w = Int32.ofInt (-1)) (hy : y = w - Int32.ofInt 8) : lb_ew e w = (lb_e e.1 w, lb_a e.2 y) := by
  unfold lb_ew
  rw [if_neg h, hy]
  rfl
theorem md_terml {X : nt_X} {d t x B Tb Sg Ln : Nat} {f : Nat → Int32} {M : nt_M} {J0 : Nat → Nat → Int32} {o : Option Value × nt_M} (hP : md_P M J0 f t x B Tb Sg Ln) (hB : lb_by f t) : ∀ (c q m : Nat) (e : Nat × (Nat → Int32)) (J : Nat → Nat → Int32) (s0 : Nat × (Nat → Int32)) (s9 : Int32), t - lb_s f t q < c → md_S J0 B Sg Ln x q 0 m e J → q ≤ t → nt_rn X d 152 (9, [(1, .int s9), (0, .ref B)], [], me_w M J) o → ∃ r a J', o = (some (.int a), me_w M J') ∧ (∃ k, lb_lp f t (lb_val f t) (Int32.ofInt 12) (Int32.ofInt 13) k (lb_s f t q, m, (s0, e)) r) ∧ md_Q J0 B Sg Ln x t f r a J' := by
  have t4 : t ≤ 400 := hP.2.2.2.2.2.1
  intro cc
  induction cc with
  | zero => intro q m e J s0 s9 hc; omega
  | succ cc ih =>
    intro q m e J s0 s9 hcc hS hp k
    have k := ly_revb 1 (c' := (10, [(1, .int (s9)), (0, .ref B)], [.ref B], me_w M J)) rfl k
    obtain ⟨d1, o1, ed, kc, k⟩ := lz_c (g := 136) (q := 1) (vs := [.ref B]) (rest := []) rfl rfl (by decide) (Or.inr (Or.inl ⟨_, rfl, rfl⟩)) rfl k
    have e1 := md_see hP hS hp kc
    subst e1
    have hS10 := md_Sq (y := lb_s f t q) hP hS
    have hp10 : lb_s f t q ≤ t := (lb_s_le (t - q) q (by omega)).2
    have k : nt_rn X _ 152 (13, [(1, .int (s9)), (0, .ref B)], [.int (lb_g f t (lb_s f t q))], me_w M (nt_u J B 15 (nI (lb_s f t q)))) _ := k
    have k := ly_revb 2 (c' := (if (lb_g f t (lb_s f t q)) = (Int32.ofInt 42) then 27 else 18, [(1, .int (s9)), (0, .ref B)], [], me_w M (nt_u J B 15 (nI (lb_s f t q))))) rfl k
    by_cases h15 : lb_g f t (lb_s f t q) = Int32.ofInt 42
    · rw [if_pos (show (lb_g f t (lb_s f t q)) = (Int32.ofInt 42) from h15)] at k
      have k := ly_revb 1 (c' := (28, [(1, .int (s9)), (0, .ref B)], [.ref B], me_w M (nt_u J B 15 (nI (lb_s f t q))))) rfl k
      have k := lz_get (a := B) (g := 1100) (M := me_w M (nt_u J B 15 (nI (lb_s f t q)))) (v := .ref Tb) rfl (nt_gfR rfl hP.1.1) k
      have k := ly_revb 1 (c' := (32, [(1, .int (s9)), (0, .ref B)], [.ref B, .ref Tb], me_w M (nt_u J B 15 (nI (lb_s f t q))))) rfl k
      have k := lz_get (a := B) (g := 1115) (M := me_w M (nt_u J B 15 (nI (lb_s f t q)))) (v := .int (nI (lb_s f t q))) rfl (congrArg Value.int (hS10.1)) k
      have k := me_bald (q := (lb_s f t q)) (v := f ((lb_s f t q))) rfl (rfl) (by omega) (md_f hP hS10 ((lb_s f t q))) k
      have k := ly_revb 2 (c' := (if (f ((lb_s f t q))) = (Int32.ofInt 42) then 41 else 45, [(1, .int (s9)), (0, .ref B)], [], me_w M (nt_u J B 15 (nI (lb_s f t q))))) rfl k
      have hlt : lb_s f t q < t := lb_g_lt (by rw [h15]; decide)
      rw [if_pos (show (f ((lb_s f t q))) = (Int32.ofInt 42) from lb_g1 hB hlt (by decide) (by decide) h15)] at k
      have k := ly_revb 5 (c' := (49, [(1, .int (Int32.ofInt 4)), (0, .ref B)], [.ref B, .ref B], me_w M (nt_u J B 15 (nI (lb_s f t q))))) rfl k
      have k := lz_get (a := B) (g := 1115) (M := me_w M (nt_u J B 15 (nI (lb_s f t q)))) (v := .int (nI (lb_s f t q))) rfl (congrArg Value.int (hS10.1)) k
      have k := ly_revb 2 (c' := (54, [(1, .int (Int32.ofInt 4)), (0, .ref B)], [.int ((nI (lb_s f t q)) + (Int32.ofInt 1)), .ref B], me_w M (nt_u J B 15 (nI (lb_s f t q))))) rfl k
      rw [show ((nI (lb_s f t q)) + (Int32.ofInt 1) : Int32) = nI ((lb_s f t q) + 1) from me_add (k := 1)] at k
      have k := me_put rfl (by decide) k
      have k : nt_rn X _ 152 (57, [(1, .int (Int32.ofInt 4)), (0, .ref B)], [], me_w M (nt_u (nt_u J B 15 (nI (lb_s f t q))) B 15 (nI ((lb_s f t q) + 1)))) _ := k
      have hV0 := md_Sq (y := lb_s f t q + 1) hP hS10
      have k := ly_revb 1 (c' := (58, [(1, .int (Int32.ofInt 4)), (0, .ref B)], [.ref B], me_w M (nt_u (nt_u J B 15 (nI (lb_s f t q))) B 15 (nI ((lb_s f t q) + 1))))) rfl k
      obtain ⟨d1, o1, ed, kc, k⟩ := lz_c (g := 153) (q := 1) (vs := [.ref B]) (rest := []) rfl rfl (by decide) (Or.inr (Or.inl ⟨_, rfl, rfl⟩)) rfl k
      obtain ⟨r1, a1, J1, e1, hv1, hQ1⟩ := md_value (s0 := s0) hP hV0 (show lb_s f t q + 1 ≤ t from hlt) kc
      subst e1
      rcases r1 with c | z1
      · obtain ⟨hc, rfl, q1, m1, e1, hT1, hq1⟩ := hQ1
        have k : nt_rn X _ 152 (61, [(1, .int (Int32.ofInt 4)), (0, .ref B)], [.int (Int32.ofInt 0)], me_w M J1) _ := k
        have k := ly_revb 1 (c' := (if (Int32.ofInt 0) = 0 then 64 else 66, [(1, .int (Int32.ofInt 4)), (0, .ref B)], [], me_w M J1)) rfl k
        rw [if_pos (show (Int32.ofInt 0) = 0 from by decide)] at k
        have k := ly_revb 1 (c' := (65, [(1, .int (Int32.ofInt 4)), (0, .ref B)], [.int (Int32.ofInt 0)], me_w M J1)) rfl k
        have k := lz_ri rfl (by decide) k
        have ho : lb_op (lb_g f t (lb_s f t q)) = Int32.ofInt 12 := by rw [h15]; decide
        have hl2 : lb_lp f t (lb_val f t) (Int32.ofInt 12) (Int32.ofInt 13) 1 (lb_s f t q, m, (s0, e)) (.inl c) := Or.inr ⟨Or.inl ho, _, hv1, Or.inl ⟨c, rfl, rfl⟩⟩
        exact ⟨_, _, _, k, ⟨_, hl2⟩, ⟨hc, rfl, _, _, _, hT1, hq1⟩⟩
      · obtain ⟨rfl, q1, hz1, hq1, hT1⟩ := hQ1
        have k : nt_rn X _ 152 (61, [(1, .int (Int32.ofInt 4)), (0, .ref B)], [.int (Int32.ofInt 1)], me_w M J1) _ := k
        have k := ly_revb 1 (c' := (if (Int32.ofInt 1) = 0 then 64 else 66, [(1, .int (Int32.ofInt 4)), (0, .ref B)], [], me_w M J1)) rfl k
        rw [if_neg (show ¬ ((Int32.ofInt 1) = 0) from by decide)] at k
        have k := ly_revb 3 (c' := (69, [(1, .int (Int32.ofInt 4)), (0, .ref B)], [.int (Int32.ofInt 0), .int (Int32.ofInt 4), .ref B], me_w M J1)) rfl k
        obtain ⟨d1, o1, ed, kc, k⟩ := lz_c (g := 155) (q := 1) (vs := [.ref B, .int (Int32.ofInt 4), .int (Int32.ofInt 0)]) (rest := []) rfl rfl (by decide) (Or.inr (Or.inl ⟨_, rfl, rfl⟩)) rfl k
        obtain ⟨hb, e1⟩ := md_puts hP hT1 hq1 kc
        subst e1
        have hU1 := md_Se (y := (Int32.ofInt 4) + Int32.ofInt 16 * (Int32.ofInt 0)) hP hT1 hb
        have k : nt_rn X _ 152 (72, [(1, .int (Int32.ofInt 4)), (0, .ref B)], [], me_w M (nt_u (nt_u J1 Sg (400 * x + z1.2.2.2.1) ((Int32.ofInt 4) + Int32.ofInt 16 * (Int32.ofInt 0))) Ln x (nI (z1.2.2.2.1 + 1)))) _ := k
        have k := ly_revb 1 (c' := (9, [(1, .int (Int32.ofInt 4)), (0, .ref B)], [], me_w M (nt_u (nt_u J1 Sg (400 * x + z1.2.2.2.1) ((Int32.ofInt 4) + Int32.ofInt 16 * (Int32.ofInt 0))) Ln x (nI (z1.2.2.2.1 + 1))))) rfl k
        have hup := lb_val_up ((lb_s_le (f := f) (t := t) (t - (lb_s f t q + 1)) (lb_s f t q + 1) (by omega)).2) hv1
        have hsl := lb_s_le (f := f) (t := t) (t - (lb_s f t q + 1)) (lb_s f t q + 1) (by omega)
        dsimp only at hup
        obtain ⟨r, a, J9, e9, ⟨kk, hl⟩, hQ⟩ := ih q1 _ _ _ (lb_e z1.2.2.1 (Int32.ofInt 12)) _ (by rw [hz1]; omega) hU1 hq1 k
        rw [hz1, ← lb_ew_c (e := z1.2.2) (w := Int32.ofInt 12) (by decide) (by decide)] at hl
        have ho : lb_op (lb_g f t (lb_s f t q)) = Int32.ofInt 12 := by rw [h15]; decide
        have hl2 : lb_lp f t (lb_val f t) (Int32.ofInt 12) (Int32.ofInt 13) (kk + 1) (lb_s f t q, m, (s0, e)) r := Or.inr ⟨Or.inl ho, _, hv1, Or.inr ⟨_, rfl, by dsimp only; rw [ho]; exact hl⟩⟩
        exact ⟨_, _, _, e9, ⟨_, hl2⟩, hQ⟩
    · rw [if_neg (show ¬ ((lb_g f t (lb_s f t q)) = (Int32.ofInt 42)) from h15)] at k
      have k := ly_revb 1 (c' := (19, [(1, .int (s9)), (0, .ref B)], [.ref B], me_w M (nt_u J B 15 (nI (lb_s f t q))))) rfl k
      obtain ⟨d1, o1, ed, kc, k⟩ := lz_c (g := 136) (q := 1) (vs := [.ref B]) (rest := []) rfl rfl (by decide) (Or.inr (Or.inl ⟨_, rfl, rfl⟩)) rfl k
      have e1 := md_see hP hS10 hp10 kc
      rw [lb_ss hp, me_uu] at e1
      subst e1
      have k : nt_rn X _ 152 (22, [(1, .int (s9)), (0, .ref B)], [.int (lb_g f t (lb_s f t q))], me_w M (nt_u J B 15 (nI (lb_s f t q)))) _ := k
      have k := ly_revb 2 (c' := (if (lb_g f t (lb_s f t q)) = (Int32.ofInt 47) then 27 else 75, [(1, .int (s9)), (0, .ref B)], [], me_w M (nt_u J B 15 (nI (lb_s f t q))))) rfl k
      by_cases h24 : lb_g f t (lb_s f t q) = Int32.ofInt 47
      · rw [if_pos (show (lb_g f t (lb_s f t q)) = (Int32.ofInt 47) from h24)] at k
        have k := ly_revb 1 (c' := (28, [(1, .int (s9)), (0, .ref B)], [.ref B], me_w M (nt_u J B 15 (nI (lb_s f t q))))) rfl k
        have k := lz_get (a := B) (g := 1100) (M := me_w M (nt_u J B 15 (nI (lb_s f t q)))) (v := .ref Tb) rfl (nt_gfR rfl hP.1.1) k
        have k := ly_revb 1 (c' := (32, [(1, .int (s9)), (0, .ref B)], [.ref B, .ref Tb], me_w M (nt_u J B 15 (nI (lb_s f t q))))) rfl k
        have k := lz_get (a := B) (g := 1115) (M := me_w M (nt_u J B 15 (nI (lb_s f t q)))) (v := .int (nI (lb_s f t q))) rfl (congrArg Value.int (hS10.1)) k
        have k := me_bald (q := (lb_s f t q)) (v := f ((lb_s f t q))) rfl (rfl) (by omega) (md_f hP hS10 ((lb_s f t q))) k
        have k := ly_revb 2 (c' := (if (f ((lb_s f t q))) = (Int32.ofInt 42) then 41 else 45, [(1, .int (s9)), (0, .ref B)], [], me_w M (nt_u J B 15 (nI (lb_s f t q))))) rfl k
        have hlt : lb_s f t q < t := lb_g_lt (by rw [h24]; decide)
        rw [if_neg (show ¬ ((f ((lb_s f t q))) = (Int32.ofInt 42)) from fun c => h15 (lb_g2 hB hlt (by decide) c))] at k
        have k := ly_revb 4 (c' := (49, [(1, .int (Int32.ofInt 5)), (0, .ref B)], [.ref B, .ref B], me_w M (nt_u J B 15 (nI (lb_s f t q))))) rfl k
        have k := lz_get (a := B) (g := 1115) (M := me_w M (nt_u J B 15 (nI (lb_s f t q)))) (v := .int (nI (lb_s f t q))) rfl (congrArg Value.int (hS10.1)) k
        have k := ly_revb 2 (c' := (54, [(1, .int (Int32.ofInt 5)), (0, .ref B)], [.int ((nI (lb_s f t q)) + (Int32.ofInt 1)), .ref B], me_w M (nt_u J B 15 (nI (lb_s f t q))))) rfl k
        rw [show ((nI (lb_s f t q)) + (Int32.ofInt 1) : Int32) = nI ((lb_s f t q) + 1) from me_add (k := 1)] at k
        have k := me_put rfl (by decide) k
        have k : nt_rn X _ 152 (57, [(1, .int (Int32.ofInt 5)), (0, .ref B)], [], me_w M (nt_u (nt_u J B 15 (nI (lb_s f t q))) B 15 (nI ((lb_s f t q) + 1)))) _ := k
        have hV0 := md_Sq (y := lb_s f t q + 1) hP hS10
        have k := ly_revb 1 (c' := (58, [(1, .int (Int32.ofInt 5)), (0, .ref B)], [.ref B], me_w M (nt_u (nt_u J B 15 (nI (lb_s f t q))) B 15 (nI ((lb_s f t q) + 1))))) rfl k
        obtain ⟨d1, o1, ed, kc, k⟩ := lz_c (g := 153) (q := 1) (vs := [.ref B]) (rest := []) rfl rfl (by decide) (Or.inr (Or.inl ⟨_, rfl, rfl⟩)) rfl k
        obtain ⟨r1, a1, J1, e1, hv1, hQ1⟩ := md_value (s0 := s0) hP hV0 (show lb_s f t q + 1 ≤ t from hlt) kc
        subst e1
        rcases r1 with c | z1
        · obtain ⟨hc, rfl, q1, m1, e1, hT1, hq1⟩ := hQ1
          have k : nt_rn X _ 152 (61, [(1, .int (Int32.ofInt 5)), (0, .ref B)], [.int (Int32.ofInt 0)], me_w M J1) _ := k
          have k := ly_revb 1 (c' := (if (Int32.ofInt 0) = 0 then 64 else 66, [(1, .int (Int32.ofInt 5)), (0, .ref B)], [], me_w M J1)) rfl k
          rw [if_pos (show (Int32.ofInt 0) = 0 from by decide)] at k
          have k := ly_revb 1 (c' := (65, [(1, .int (Int32.ofInt 5)), (0, .ref B)], [.int (Int32.ofInt 0)], me_w M J1)) rfl k
          have k := lz_ri rfl (by decide) k
          have ho : lb_op (lb_g f t (lb_s f t q)) = Int32.ofInt 13 := by rw [h24]; decide
          have hl2 : lb_lp f t (lb_val f t) (Int32.ofInt 12) (Int32.ofInt 13) 1 (lb_s f t q, m, (s0, e)) (.inl c) := Or.inr ⟨Or.inr ho, _, hv1, Or.inl ⟨c, rfl, rfl⟩⟩
          exact ⟨_, _, _, k, ⟨_, hl2⟩, ⟨hc, rfl, _, _, _, hT1, hq1⟩⟩
        · obtain ⟨rfl, q1, hz1, hq1, hT1⟩ := hQ1
          have k : nt_rn X _ 152 (61, [(1, .int (Int32.ofInt 5)), (0, .ref B)], [.int (Int32.ofInt 1)], me_w M J1) _ := k
          have k := ly_revb 1 (c' := (if (Int32.ofInt 1) = 0 then 64 else 66, [(1, .int (Int32.ofInt 5)), (0, .ref B)], [], me_w M J1)) rfl k
          rw [if_neg (show ¬ ((Int32.ofInt 1) = 0) from by decide)] at k
          have k := ly_revb 3 (c' := (69, [(1, .int (Int32.ofInt 5)), (0, .ref B)], [.int (Int32.ofInt 0), .int (Int32.ofInt 5), .ref B], me_w M J1)) rfl k
          obtain ⟨d1, o1, ed, kc, k⟩ := lz_c (g := 155) (q := 1) (vs := [.ref B, .int (Int32.ofInt 5), .int (Int32.ofInt 0)]) (rest := []) rfl rfl (by decide) (Or.inr (Or.inl ⟨_, rfl, rfl⟩)) rfl k
          obtain ⟨hb, e1⟩ := md_puts hP hT1 hq1 kc
          subst e1
          have hU1 := md_Se (y := (Int32.ofInt 5) + Int32.ofInt 16 * (Int32.ofInt 0)) hP hT1 hb
          have k : nt_rn X _ 152 (72, [(1, .int (Int32.ofInt 5)), (0, .ref B)], [], me_w M (nt_u (nt_u J1 Sg (400 * x + z1.2.2.2.1) ((Int32.ofInt 5) + Int32.ofInt 16 * (Int32.ofInt 0))) Ln x (nI (z1.2.2.2.1 + 1)))) _ := k
          have k := ly_revb 1 (c' := (9, [(1, .int (Int32.ofInt 5)), (0, .ref B)], [], me_w M (nt_u (nt_u J1 Sg (400 * x + z1.2.2.2.1) ((Int32.ofInt 5) + Int32.ofInt 16 * (Int32.ofInt 0))) Ln x (nI (z1.2.2.2.1 + 1))))) rfl k
          have hup := lb_val_up ((lb_s_le (f := f) (t := t) (t - (lb_s f t q + 1)) (lb_s f t q + 1) (by omega)).2) hv1
          have hsl := lb_s_le (f := f) (t := t) (t - (lb_s f t q + 1)) (lb_s f t q + 1) (by omega)
          dsimp only at hup
          obtain ⟨r, a, J9, e9, ⟨kk, hl⟩, hQ⟩ := ih q1 _ _ _ (lb_e z1.2.2.1 (Int32.ofInt 13)) _ (by rw [hz1]; omega) hU1 hq1 k
          rw [hz1, ← lb_ew_c (e := z1.2.2) (w := Int32.ofInt 13) (by decide) (by decide)] at hl
          have ho : lb_op (lb_g f t (lb_s f t q)) = Int32.ofInt 13 := by rw [h24]; decide
          have hl2 : lb_lp f t (lb_val f t) (Int32.ofInt 12) (Int32.ofInt 13) (kk + 1) (lb_s f t q, m, (s0, e)) r := Or.inr ⟨Or.inr ho, _, hv1, Or.inr ⟨_, rfl, by dsimp only; rw [ho]; exact hl⟩⟩
          exact ⟨_, _, _, e9, ⟨_, hl2⟩, hQ⟩
      · rw [if_neg (show ¬ ((lb_g f t (lb_s f t q)) = (Int32.ofInt 47)) from h24)] at k
        have k := ly_revb 1 (c' := (76, [(1, .int (s9)), (0, .ref B)], [.int (Int32.ofInt 1)], me_w M (nt_u J B 15 (nI (lb_s f t q))))) rfl k
        have k := lz_ri rfl (by decide) k
        have hno : ¬ (lb_op (lb_g f t (lb_s f t q)) = Int32.ofInt 12 ∨ lb_op (lb_g f t (lb_s f t q)) = Int32.ofInt 13) := fun hh => hh.elim (fun c => h15 (lb_op_i.2.2.1 c)) (fun c => h24 (lb_op_i.2.2.2 c))
        have hl2 : lb_lp f t (lb_val f t) (Int32.ofInt 12) (Int32.ofInt 13) 1 (lb_s f t q, m, (s0, e)) (.inr (lb_s f t q, m, (s0, e))) := Or.inl ⟨hno, rfl⟩
        exact ⟨_, _, _, k, ⟨_, hl2⟩, ⟨rfl, _, lb_ss hp, hp10, hS10⟩⟩
theorem md_term {X : nt_X} {d t x B Tb Sg Ln q m : Nat} {f : Nat → Int32} {M : nt_M} {J0 J : Nat → Nat → Int32} {o : Option Value × nt_M} {e : Nat × (Nat → Int32)} {s0 : Nat × (Nat → Int32)} (hP : md_P M J0 f t x B Tb Sg Ln) (hB : lb_by f t) (hS : md_S J0 B Sg Ln x q 0 m e J) (hp : q ≤ t) (k : nt_ev X d 152 [.ref B] (me_w M J) o) : ∃ r a J', o = (some (.int a), me_w M J') ∧ lb_te f t (lb_s f t q, m, (s0, e)) r ∧ md_Q J0 B Sg Ln x t f r a J' := by
  have k : nt_rn X d 152 (0, [(0, .ref B)], [], me_w M J) o := k
  have t4 : t ≤ 400 := hP.2.2.2.2.2.1
  have k := ly_revb 1 (c' := (1, [(0, .ref B)], [.ref B], me_w M J)) rfl k
  obtain ⟨d1, o1, ed, kc, k⟩ := lz_c (g := 153) (q := 1) (vs := [.ref B]) (rest := []) rfl rfl (by decide) (Or.inr (Or.inl ⟨_, rfl, rfl⟩)) rfl k
  obtain ⟨r1, a1, J1, e1, hv1, hQ1⟩ := md_value (s0 := s0) hP hS hp kc
  subst e1
  rcases r1 with c | z1
  · obtain ⟨hc, rfl, q1, m1, e1, hT1, hq1⟩ := hQ1
    have k : nt_rn X _ 152 (4, [(0, .ref B)], [.int (Int32.ofInt 0)], me_w M J1) _ := k
    have k := ly_revb 1 (c' := (if (Int32.ofInt 0) = 0 then 7 else 9, [(0, .ref B)], [], me_w M J1)) rfl k
    rw [if_pos (show (Int32.ofInt 0) = 0 from by decide)] at k
    have k := ly_revb 1 (c' := (8, [(0, .ref B)], [.int (Int32.ofInt 0)], me_w M J1)) rfl k
    have k := lz_ri rfl (by decide) k
    exact ⟨.inl c, _, _, k, ⟨_, hv1, Or.inl ⟨c, rfl, rfl⟩⟩, hc, rfl, _, _, _, hT1, hq1⟩
  · obtain ⟨rfl, q1, hz1, hq1, hT1⟩ := hQ1
    have k : nt_rn X _ 152 (4, [(0, .ref B)], [.int (Int32.ofInt 1)], me_w M J1) _ := k
    have k := ly_revb 1 (c' := (if (Int32.ofInt 1) = 0 then 7 else 9, [(0, .ref B)], [], me_w M J1)) rfl k
    rw [if_neg (show ¬ ((Int32.ofInt 1) = 0) from by decide)] at k
    have k := ly_revb 1 (c' := (10, [(0, .ref B)], [.ref B], me_w M J1)) rfl k
    obtain ⟨d1, o1, ed, kc, k⟩ := lz_c (g := 136) (q := 1) (vs := [.ref B]) (rest := []) rfl rfl (by decide) (Or.inr (Or.inl ⟨_, rfl, rfl⟩)) rfl k
    have e1 := md_see hP hT1 hq1 kc
    subst e1
    have hS11 := md_Sq (y := lb_s f t q1) hP hT1
    have hp11 : lb_s f t q1 ≤ t := (lb_s_le (t - q1) q1 (by omega)).2
    have k : nt_rn X _ 152 (13, [(0, .ref B)], [.int (lb_g f t (lb_s f t q1))], me_w M (nt_u J1 B 15 (nI (lb_s f t q1)))) _ := k
    have k := ly_revb 2 (c' := (if (lb_g f t (lb_s f t q1)) = (Int32.ofInt 42) then 27 else 18, [(0, .ref B)], [], me_w M (nt_u J1 B 15 (nI (lb_s f t q1))))) rfl k
    by_cases h15 : lb_g f t (lb_s f t q1) = Int32.ofInt 42
    · rw [if_pos (show (lb_g f t (lb_s f t q1)) = (Int32.ofInt 42) from h15)] at k
      have k := ly_revb 1 (c' := (28, [(0, .ref B)], [.ref B], me_w M (nt_u J1 B 15 (nI (lb_s f t q1))))) rfl k
      have k := lz_get (a := B) (g := 1100) (M := me_w M (nt_u J1 B 15 (nI (lb_s f t q1)))) (v := .ref Tb) rfl (nt_gfR rfl hP.1.1) k
      have k := ly_revb 1 (c' := (32, [(0, .ref B)], [.ref B, .ref Tb], me_w M (nt_u J1 B 15 (nI (lb_s f t q1))))) rfl k
      have k := lz_get (a := B) (g := 1115) (M := me_w M (nt_u J1 B 15 (nI (lb_s f t q1)))) (v := .int (nI (lb_s f t q1))) rfl (congrArg Value.int (hS11.1)) k
      have k := me_bald (q := (lb_s f t q1)) (v := f ((lb_s f t q1))) rfl (rfl) (by omega) (md_f hP hS11 ((lb_s f t q1))) k
      have k := ly_revb 2 (c' := (if (f ((lb_s f t q1))) = (Int32.ofInt 42) then 41 else 45, [(0, .ref B)], [], me_w M (nt_u J1 B 15 (nI (lb_s f t q1))))) rfl k
      have hlt : lb_s f t q1 < t := lb_g_lt (by rw [h15]; decide)
      rw [if_pos (show (f ((lb_s f t q1))) = (Int32.ofInt 42) from lb_g1 hB hlt (by decide) (by decide) h15)] at k
      have k := ly_revb 5 (c' := (49, [(1, .int (Int32.ofInt 4)), (0, .ref B)], [.ref B, .ref B], me_w M (nt_u J1 B 15 (nI (lb_s f t q1))))) rfl k
      have k := lz_get (a := B) (g := 1115) (M := me_w M (nt_u J1 B 15 (nI (lb_s f t q1)))) (v := .int (nI (lb_s f t q1))) rfl (congrArg Value.int (hS11.1)) k
      have k := ly_revb 2 (c' := (54, [(1, .int (Int32.ofInt 4)), (0, .ref B)], [.int ((nI (lb_s f t q1)) + (Int32.ofInt 1)), .ref B], me_w M (nt_u J1 B 15 (nI (lb_s f t q1))))) rfl k
      rw [show ((nI (lb_s f t q1)) + (Int32.ofInt 1) : Int32) = nI ((lb_s f t q1) + 1) from me_add (k := 1)] at k
      have k := me_put rfl (by decide) k
      have k : nt_rn X _ 152 (57, [(1, .int (Int32.ofInt 4)), (0, .ref B)], [], me_w M (nt_u (nt_u J1 B 15 (nI (lb_s f t q1))) B 15 (nI ((lb_s f t q1) + 1)))) _ := k
      have hV1 := md_Sq (y := lb_s f t q1 + 1) hP hS11
      have k := ly_revb 1 (c' := (58, [(1, .int (Int32.ofInt 4)), (0, .ref B)], [.ref B], me_w M (nt_u (nt_u J1 B 15 (nI (lb_s f t q1))) B 15 (nI ((lb_s f t q1) + 1))))) rfl k
      obtain ⟨d1, o1, ed, kc, k⟩ := lz_c (g := 153) (q := 1) (vs := [.ref B]) (rest := []) rfl rfl (by decide) (Or.inr (Or.inl ⟨_, rfl, rfl⟩)) rfl k
      obtain ⟨r2, a2, J2, e1, hv2, hQ2⟩ := md_value (s0 := z1.2.2.1) hP hV1 (show lb_s f t q1 + 1 ≤ t from hlt) kc
      subst e1
      rcases r2 with c | z2
      · obtain ⟨hc, rfl, q2, m2, e2, hT2, hq2⟩ := hQ2
        have k : nt_rn X _ 152 (61, [(1, .int (Int32.ofInt 4)), (0, .ref B)], [.int (Int32.ofInt 0)], me_w M J2) _ := k
        have k := ly_revb 1 (c' := (if (Int32.ofInt 0) = 0 then 64 else 66, [(1, .int (Int32.ofInt 4)), (0, .ref B)], [], me_w M J2)) rfl k
        rw [if_pos (show (Int32.ofInt 0) = 0 from by decide)] at k
        have k := ly_revb 1 (c' := (65, [(1, .int (Int32.ofInt 4)), (0, .ref B)], [.int (Int32.ofInt 0)], me_w M J2)) rfl k
        have k := lz_ri rfl (by decide) k
        have ho : lb_op (lb_g f t (lb_s f t q1)) = Int32.ofInt 12 := by rw [h15]; decide
        have hl2 : lb_lp f t (lb_val f t) (Int32.ofInt 12) (Int32.ofInt 13) 1 (lb_s f t q1, z1.2.1, z1.2.2) (.inl c) := Or.inr ⟨Or.inl ho, _, hv2, Or.inl ⟨c, rfl, rfl⟩⟩
        have hzz : (lb_s f t q1, z1.2.1, z1.2.2) = z1 := by rw [hz1]
        rw [hzz] at hl2
        exact ⟨_, _, _, k, ⟨_, hv1, Or.inr ⟨_, rfl, _, hl2⟩⟩, ⟨hc, rfl, _, _, _, hT2, hq2⟩⟩
      · obtain ⟨rfl, q2, hz2, hq2, hT2⟩ := hQ2
        have k : nt_rn X _ 152 (61, [(1, .int (Int32.ofInt 4)), (0, .ref B)], [.int (Int32.ofInt 1)], me_w M J2) _ := k
        have k := ly_revb 1 (c' := (if (Int32.ofInt 1) = 0 then 64 else 66, [(1, .int (Int32.ofInt 4)), (0, .ref B)], [], me_w M J2)) rfl k
        rw [if_neg (show ¬ ((Int32.ofInt 1) = 0) from by decide)] at k
        have k := ly_revb 3 (c' := (69, [(1, .int (Int32.ofInt 4)), (0, .ref B)], [.int (Int32.ofInt 0), .int (Int32.ofInt 4), .ref B], me_w M J2)) rfl k
        obtain ⟨d1, o1, ed, kc, k⟩ := lz_c (g := 155) (q := 1) (vs := [.ref B, .int (Int32.ofInt 4), .int (Int32.ofInt 0)]) (rest := []) rfl rfl (by decide) (Or.inr (Or.inl ⟨_, rfl, rfl⟩)) rfl k
        obtain ⟨hb, e1⟩ := md_puts hP hT2 hq2 kc
        subst e1
        have hU2 := md_Se (y := (Int32.ofInt 4) + Int32.ofInt 16 * (Int32.ofInt 0)) hP hT2 hb
        have k : nt_rn X _ 152 (72, [(1, .int (Int32.ofInt 4)), (0, .ref B)], [], me_w M (nt_u (nt_u J2 Sg (400 * x + z2.2.2.2.1) ((Int32.ofInt 4) + Int32.ofInt 16 * (Int32.ofInt 0))) Ln x (nI (z2.2.2.2.1 + 1)))) _ := k
        have k := ly_revb 1 (c' := (9, [(1, .int (Int32.ofInt 4)), (0, .ref B)], [], me_w M (nt_u (nt_u J2 Sg (400 * x + z2.2.2.2.1) ((Int32.ofInt 4) + Int32.ofInt 16 * (Int32.ofInt 0))) Ln x (nI (z2.2.2.2.1 + 1))))) rfl k
        have hup := lb_val_up ((lb_s_le (f := f) (t := t) (t - (lb_s f t q1 + 1)) (lb_s f t q1 + 1) (by omega)).2) hv2
        have hsl := lb_s_le (f := f) (t := t) (t - (lb_s f t q1 + 1)) (lb_s f t q1 + 1) (by omega)
        dsimp only at hup
        obtain ⟨r, a, J9, e9, ⟨kk, hl⟩, hQ⟩ := md_terml hP hB (t + 1 - 0 * z2.1) q2 _ _ _ (lb_e z2.2.2.1 (Int32.ofInt 12)) _ (by rw [hz2]; omega) hU2 hq2 k
        rw [hz2, ← lb_ew_c (e := z2.2.2) (w := Int32.ofInt 12) (by decide) (by decide)] at hl
        have ho : lb_op (lb_g f t (lb_s f t q1)) = Int32.ofInt 12 := by rw [h15]; decide
        have hl2 : lb_lp f t (lb_val f t) (Int32.ofInt 12) (Int32.ofInt 13) (kk + 1) (lb_s f t q1, z1.2.1, z1.2.2) r := Or.inr ⟨Or.inl ho, _, hv2, Or.inr ⟨_, rfl, by dsimp only; rw [ho]; exact hl⟩⟩
        have hzz : (lb_s f t q1, z1.2.1, z1.2.2) = z1 := by rw [hz1]
        rw [hzz] at hl2
        exact ⟨_, _, _, e9, ⟨_, hv1, Or.inr ⟨_, rfl, _, hl2⟩⟩, hQ⟩
    · rw [if_neg (show ¬ ((lb_g f t (lb_s f t q1)) = (Int32.ofInt 42)) from h15)] at k
      have k := ly_revb 1 (c' := (19, [(0, .ref B)], [.ref B], me_w M (nt_u J1 B 15 (nI (lb_s f t q1))))) rfl k
      obtain ⟨d1, o1, ed, kc, k⟩ := lz_c (g := 136) (q := 1) (vs := [.ref B]) (rest := []) rfl rfl (by decide) (Or.inr (Or.inl ⟨_, rfl, rfl⟩)) rfl k
      have e1 := md_see hP hS11 hp11 kc
      rw [lb_ss hq1, me_uu] at e1
      subst e1
      have k : nt_rn X _ 152 (22, [(0, .ref B)], [.int (lb_g f t (lb_s f t q1))], me_w M (nt_u J1 B 15 (nI (lb_s f t q1)))) _ := k
      have k := ly_revb 2 (c' := (if (lb_g f t (lb_s f t q1)) = (Int32.ofInt 47) then 27 else 75, [(0, .ref B)], [], me_w M (nt_u J1 B 15 (nI (lb_s f t q1))))) rfl k
      by_cases h24 : lb_g f t (lb_s f t q1) = Int32.ofInt 47
      · rw [if_pos (show (lb_g f t (lb_s f t q1)) = (Int32.ofInt 47) from h24)] at k
        have k := ly_revb 1 (c' := (28, [(0, .ref B)], [.ref B], me_w M (nt_u J1 B 15 (nI (lb_s f t q1))))) rfl k
        have k := lz_get (a := B) (g := 1100) (M := me_w M (nt_u J1 B 15 (nI (lb_s f t q1)))) (v := .ref Tb) rfl (nt_gfR rfl hP.1.1) k
        have k := ly_revb 1 (c' := (32, [(0, .ref B)], [.ref B, .ref Tb], me_w M (nt_u J1 B 15 (nI (lb_s f t q1))))) rfl k
        have k := lz_get (a := B) (g := 1115) (M := me_w M (nt_u J1 B 15 (nI (lb_s f t q1)))) (v := .int (nI (lb_s f t q1))) rfl (congrArg Value.int (hS11.1)) k
        have k := me_bald (q := (lb_s f t q1)) (v := f ((lb_s f t q1))) rfl (rfl) (by omega) (md_f hP hS11 ((lb_s f t q1))) k
        have k := ly_revb 2 (c' := (if (f ((lb_s f t q1))) = (Int32.ofInt 42) then 41 else 45, [(0, .ref B)], [], me_w M (nt_u J1 B 15 (nI (lb_s f t q1))))) rfl k
        have hlt : lb_s f t q1 < t := lb_g_lt (by rw [h24]; decide)
        rw [if_neg (show ¬ ((f ((lb_s f t q1))) = (Int32.ofInt 42)) from fun c => h15 (lb_g2 hB hlt (by decide) c))] at k
        have k := ly_revb 4 (c' := (49, [(1, .int (Int32.ofInt 5)), (0, .ref B)], [.ref B, .ref B], me_w M (nt_u J1 B 15 (nI (lb_s f t q1))))) rfl k
        have k := lz_get (a := B) (g := 1115) (M := me_w M (nt_u J1 B 15 (nI (lb_s f t q1)))) (v := .int (nI (lb_s f t q1))) rfl (congrArg Value.int (hS11.1)) k
        have k := ly_revb 2 (c' := (54, [(1, .int (Int32.ofInt 5)), (0, .ref B)], [.int ((nI (lb_s f t q1)) + (Int32.ofInt 1)), .ref B], me_w M (nt_u J1 B 15 (nI (lb_s f t q1))))) rfl k
        rw [show ((nI (lb_s f t q1)) + (Int32.ofInt 1) : Int32) = nI ((lb_s f t q1) + 1) from me_add (k := 1)] at k
        have k := me_put rfl (by decide) k
        have k : nt_rn X _ 152 (57, [(1, .int (Int32.ofInt 5)), (0, .ref B)], [], me_w M (nt_u (nt_u J1 B 15 (nI (lb_s f t q1))) B 15 (nI ((lb_s f t q1) + 1)))) _ := k
        have hV1 := md_Sq (y := lb_s f t q1 + 1) hP hS11
        have k := ly_revb 1 (c' := (58, [(1, .int (Int32.ofInt 5)), (0, .ref B)], [.ref B], me_w M (nt_u (nt_u J1 B 15 (nI (lb_s f t q1))) B 15 (nI ((lb_s f t q1) + 1))))) rfl k
        obtain ⟨d1, o1, ed, kc, k⟩ := lz_c (g := 153) (q := 1) (vs := [.ref B]) (rest := []) rfl rfl (by decide) (Or.inr (Or.inl ⟨_, rfl, rfl⟩)) rfl k
        obtain ⟨r2, a2, J2, e1, hv2, hQ2⟩ := md_value (s0 := z1.2.2.1) hP hV1 (show lb_s f t q1 + 1 ≤ t from hlt) kc
        subst e1
        rcases r2 with c | z2
        · obtain ⟨hc, rfl, q2, m2, e2, hT2, hq2⟩ := hQ2
          have k : nt_rn X _ 152 (61, [(1, .int (Int32.ofInt 5)), (0, .ref B)], [.int (Int32.ofInt 0)], me_w M J2) _ := k
          have k := ly_revb 1 (c' := (if (Int32.ofInt 0) = 0 then 64 else 66, [(1, .int (Int32.ofInt 5)), (0, .ref B)], [], me_w M J2)) rfl k
          rw [if_pos (show (Int32.ofInt 0) = 0 from by decide)] at k
          have k := ly_revb 1 (c' := (65, [(1, .int (Int32.ofInt 5)), (0, .ref B)], [.int (Int32.ofInt 0)], me_w M J2)) rfl k
          have k := lz_ri rfl (by decide) k
          have ho : lb_op (lb_g f t (lb_s f t q1)) = Int32.ofInt 13 := by rw [h24]; decide
          have hl2 : lb_lp f t (lb_val f t) (Int32.ofInt 12) (Int32.ofInt 13) 1 (lb_s f t q1, z1.2.1, z1.2.2) (.inl c) := Or.inr ⟨Or.inr ho, _, hv2, Or.inl ⟨c, rfl, rfl⟩⟩
          have hzz : (lb_s f t q1, z1.2.1, z1.2.2) = z1 := by rw [hz1]
          rw [hzz] at hl2
          exact ⟨_, _, _, k, ⟨_, hv1, Or.inr ⟨_, rfl, _, hl2⟩⟩, ⟨hc, rfl, _, _, _, hT2, hq2⟩⟩
        · obtain ⟨rfl, q2, hz2, hq2, hT2⟩ := hQ2
          have k : nt_rn X _ 152 (61, [(1, .int (Int32.ofInt 5)), (0, .ref B)], [.int (Int32.ofInt 1)], me_w M J2) _ := k
          have k := ly_revb 1 (c' := (if (Int32.ofInt 1) = 0 then 64 else 66, [(1, .int (Int32.ofInt 5)), (0, .ref B)], [], me_w M J2)) rfl k
          rw [if_neg (show ¬ ((Int32.ofInt 1) = 0) from by decide)] at k
          have k := ly_revb 3 (c' := (69, [(1, .int (Int32.ofInt 5)), (0, .ref B)], [.int (Int32.ofInt 0), .int (Int32.ofInt 5), .ref B], me_w M J2)) rfl k
          obtain ⟨d1, o1, ed, kc, k⟩ := lz_c (g := 155) (q := 1) (vs := [.ref B, .int (Int32.ofInt 5), .int (Int32.ofInt 0)]) (rest := []) rfl rfl (by decide) (Or.inr (Or.inl ⟨_, rfl, rfl⟩)) rfl k
          obtain ⟨hb, e1⟩ := md_puts hP hT2 hq2 kc
          subst e1
          have hU2 := md_Se (y := (Int32.ofInt 5) + Int32.ofInt 16 * (Int32.ofInt 0)) hP hT2 hb
          have k : nt_rn X _ 152 (72, [(1, .int (Int32.ofInt 5)), (0, .ref B)], [], me_w M (nt_u (nt_u J2 Sg (400 * x + z2.2.2.2.1) ((Int32.ofInt 5) + Int32.ofInt 16 * (Int32.ofInt 0))) Ln x (nI (z2.2.2.2.1 + 1)))) _ := k
          have k := ly_revb 1 (c' := (9, [(1, .int (Int32.ofInt 5)), (0, .ref B)], [], me_w M (nt_u (nt_u J2 Sg (400 * x + z2.2.2.2.1) ((Int32.ofInt 5) + Int32.ofInt 16 * (Int32.ofInt 0))) Ln x (nI (z2.2.2.2.1 + 1))))) rfl k
          have hup := lb_val_up ((lb_s_le (f := f) (t := t) (t - (lb_s f t q1 + 1)) (lb_s f t q1 + 1) (by omega)).2) hv2
          have hsl := lb_s_le (f := f) (t := t) (t - (lb_s f t q1 + 1)) (lb_s f t q1 + 1) (by omega)
          dsimp only at hup
          obtain ⟨r, a, J9, e9, ⟨kk, hl⟩, hQ⟩ := md_terml hP hB (t + 1 - 0 * z2.1) q2 _ _ _ (lb_e z2.2.2.1 (Int32.ofInt 13)) _ (by rw [hz2]; omega) hU2 hq2 k
          rw [hz2, ← lb_ew_c (e := z2.2.2) (w := Int32.ofInt 13) (by decide) (by decide)] at hl
          have ho : lb_op (lb_g f t (lb_s f t q1)) = Int32.ofInt 13 := by rw [h24]; decide
          have hl2 : lb_lp f t (lb_val f t) (Int32.ofInt 12) (Int32.ofInt 13) (kk + 1) (lb_s f t q1, z1.2.1, z1.2.2) r := Or.inr ⟨Or.inr ho, _, hv2, Or.inr ⟨_, rfl, by dsimp only; rw [ho]; exact hl⟩⟩
          have hzz : (lb_s f t q1, z1.2.1, z1.2.2) = z1 := by rw [hz1]
          rw [hzz] at hl2
          exact ⟨_, _, _, e9, ⟨_, hv1, Or.inr ⟨_, rfl, _, hl2⟩⟩, hQ⟩
      · rw [if_neg (show ¬ ((lb_g f t (lb_s f t q1)) = (Int32.ofInt 47)) from h24)] at k
        have k := ly_revb 1 (c' := (76, [(0, .ref B)], [.int (Int32.ofInt 1)], me_w M (nt_u J1 B 15 (nI (lb_s f t q1))))) rfl k
        have k := lz_ri rfl (by decide) k
        have hno : ¬ (lb_op (lb_g f t (lb_s f t q1)) = Int32.ofInt 12 ∨ lb_op (lb_g f t (lb_s f t q1)) = Int32.ofInt 13) := fun hh => hh.elim (fun c => h15 (lb_op_i.2.2.1 c)) (fun c => h24 (lb_op_i.2.2.2 c))
        have hl2 : lb_lp f t (lb_val f t) (Int32.ofInt 12) (Int32.ofInt 13) 1 (lb_s f t q1, z1.2.1, z1.2.2) (.inr (lb_s f t q1, z1.2.1, z1.2.2)) := Or.inl ⟨hno, rfl⟩
        have hzz : (lb_s f t q1, z1.2.1, z1.2.2) = z1 := by rw [hz1]
        rw [hzz] at hl2
        exact ⟨_, _, _, k, ⟨_, hv1, Or.inr ⟨_, rfl, _, hl2⟩⟩, ⟨rfl, _, (lb_ss hq1).trans hz1, hp11, hS11⟩⟩
theorem md_suml {X : nt_X} {d t x B Tb Sg Ln : Nat} {f : Nat → Int32} {M : nt_M} {J0 : Nat → Nat → Int32} {o : Option Value × nt_M} (hP : md_P M J0 f t x B Tb Sg Ln) (hB : lb_by f t) : ∀ (c q m : Nat) (e : Nat × (Nat → Int32)) (J : Nat → Nat → Int32) (s0 : Nat × (Nat → Int32)) (s9 : Int32), t - lb_s f t q < c → md_S J0 B Sg Ln x q 0 m e J → q ≤ t → nt_rn X d 151 (9, [(1, .int s9), (0, .ref B)], [], me_w M J) o → ∃ r a J', o = (some (.int a), me_w M J') ∧ (∃ k, lb_lp f t (lb_te f t) (Int32.ofInt 10) (Int32.ofInt 11) k (lb_s f t q, m, (s0, e)) r) ∧ md_Q J0 B Sg Ln x t f r a J' := by
  have t4 : t ≤ 400 := hP.2.2.2.2.2.1
  intro cc
  induction cc with
  | zero => intro q m e J s0 s9 hc; omega
  | succ cc ih =>
    intro q m e J s0 s9 hcc hS hp k
    have k := ly_revb 1 (c' := (10, [(1, .int (s9)), (0, .ref B)], [.ref B], me_w M J)) rfl k
    obtain ⟨d1, o1, ed, kc, k⟩ := lz_c (g := 136) (q := 1) (vs := [.ref B]) (rest := []) rfl rfl (by decide) (Or.inr (Or.inl ⟨_, rfl, rfl⟩)) rfl k
    have e1 := md_see hP hS hp kc
    subst e1
    have hS10 := md_Sq (y := lb_s f t q) hP hS
    have hp10 : lb_s f t q ≤ t := (lb_s_le (t - q) q (by omega)).2
    have k : nt_rn X _ 151 (13, [(1, .int (s9)), (0, .ref B)], [.int (lb_g f t (lb_s f t q))], me_w M (nt_u J B 15 (nI (lb_s f t q)))) _ := k
    have k := ly_revb 2 (c' := (if (lb_g f t (lb_s f t q)) = (Int32.ofInt 43) then 27 else 18, [(1, .int (s9)), (0, .ref B)], [], me_w M (nt_u J B 15 (nI (lb_s f t q))))) rfl k
    by_cases h15 : lb_g f t (lb_s f t q) = Int32.ofInt 43
    · rw [if_pos (show (lb_g f t (lb_s f t q)) = (Int32.ofInt 43) from h15)] at k
      have k := ly_revb 1 (c' := (28, [(1, .int (s9)), (0, .ref B)], [.ref B], me_w M (nt_u J B 15 (nI (lb_s f t q))))) rfl k
      have k := lz_get (a := B) (g := 1100) (M := me_w M (nt_u J B 15 (nI (lb_s f t q)))) (v := .ref Tb) rfl (nt_gfR rfl hP.1.1) k
      have k := ly_revb 1 (c' := (32, [(1, .int (s9)), (0, .ref B)], [.ref B, .ref Tb], me_w M (nt_u J B 15 (nI (lb_s f t q))))) rfl k
      have k := lz_get (a := B) (g := 1115) (M := me_w M (nt_u J B 15 (nI (lb_s f t q)))) (v := .int (nI (lb_s f t q))) rfl (congrArg Value.int (hS10.1)) k
      have k := me_bald (q := (lb_s f t q)) (v := f ((lb_s f t q))) rfl (rfl) (by omega) (md_f hP hS10 ((lb_s f t q))) k
      have k := ly_revb 2 (c' := (if (f ((lb_s f t q))) = (Int32.ofInt 43) then 41 else 45, [(1, .int (s9)), (0, .ref B)], [], me_w M (nt_u J B 15 (nI (lb_s f t q))))) rfl k
      have hlt : lb_s f t q < t := lb_g_lt (by rw [h15]; decide)
      rw [if_pos (show (f ((lb_s f t q))) = (Int32.ofInt 43) from lb_g1 hB hlt (by decide) (by decide) h15)] at k
      have k := ly_revb 5 (c' := (49, [(1, .int (Int32.ofInt 2)), (0, .ref B)], [.ref B, .ref B], me_w M (nt_u J B 15 (nI (lb_s f t q))))) rfl k
      have k := lz_get (a := B) (g := 1115) (M := me_w M (nt_u J B 15 (nI (lb_s f t q)))) (v := .int (nI (lb_s f t q))) rfl (congrArg Value.int (hS10.1)) k
      have k := ly_revb 2 (c' := (54, [(1, .int (Int32.ofInt 2)), (0, .ref B)], [.int ((nI (lb_s f t q)) + (Int32.ofInt 1)), .ref B], me_w M (nt_u J B 15 (nI (lb_s f t q))))) rfl k
      rw [show ((nI (lb_s f t q)) + (Int32.ofInt 1) : Int32) = nI ((lb_s f t q) + 1) from me_add (k := 1)] at k
      have k := me_put rfl (by decide) k
      have k : nt_rn X _ 151 (57, [(1, .int (Int32.ofInt 2)), (0, .ref B)], [], me_w M (nt_u (nt_u J B 15 (nI (lb_s f t q))) B 15 (nI ((lb_s f t q) + 1)))) _ := k
      have hV0 := md_Sq (y := lb_s f t q + 1) hP hS10
      have k := ly_revb 1 (c' := (58, [(1, .int (Int32.ofInt 2)), (0, .ref B)], [.ref B], me_w M (nt_u (nt_u J B 15 (nI (lb_s f t q))) B 15 (nI ((lb_s f t q) + 1))))) rfl k
      obtain ⟨d1, o1, ed, kc, k⟩ := lz_c (g := 152) (q := 1) (vs := [.ref B]) (rest := []) rfl rfl (by decide) (Or.inr (Or.inl ⟨_, rfl, rfl⟩)) rfl k
      obtain ⟨r1, a1, J1, e1, hv1, hQ1⟩ := md_term (s0 := s0) hP hB hV0 (show lb_s f t q + 1 ≤ t from hlt) kc
      subst e1
      rcases r1 with c | z1
      · obtain ⟨hc, rfl, q1, m1, e1, hT1, hq1⟩ := hQ1
        have k : nt_rn X _ 151 (61, [(1, .int (Int32.ofInt 2)), (0, .ref B)], [.int (Int32.ofInt 0)], me_w M J1) _ := k
        have k := ly_revb 1 (c' := (if (Int32.ofInt 0) = 0 then 64 else 66, [(1, .int (Int32.ofInt 2)), (0, .ref B)], [], me_w M J1)) rfl k
        rw [if_pos (show (Int32.ofInt 0) = 0 from by decide)] at k
        have k := ly_revb 1 (c' := (65, [(1, .int (Int32.ofInt 2)), (0, .ref B)], [.int (Int32.ofInt 0)], me_w M J1)) rfl k
        have k := lz_ri rfl (by decide) k
        have ho : lb_op (lb_g f t (lb_s f t q)) = Int32.ofInt 10 := by rw [h15]; decide
        have hl2 : lb_lp f t (lb_te f t) (Int32.ofInt 10) (Int32.ofInt 11) 1 (lb_s f t q, m, (s0, e)) (.inl c) := Or.inr ⟨Or.inl ho, _, hv1, Or.inl ⟨c, rfl, rfl⟩⟩
        exact ⟨_, _, _, k, ⟨_, hl2⟩, ⟨hc, rfl, _, _, _, hT1, hq1⟩⟩
      · obtain ⟨rfl, q1, hz1, hq1, hT1⟩ := hQ1
        have k : nt_rn X _ 151 (61, [(1, .int (Int32.ofInt 2)), (0, .ref B)], [.int (Int32.ofInt 1)], me_w M J1) _ := k
        have k := ly_revb 1 (c' := (if (Int32.ofInt 1) = 0 then 64 else 66, [(1, .int (Int32.ofInt 2)), (0, .ref B)], [], me_w M J1)) rfl k
        rw [if_neg (show ¬ ((Int32.ofInt 1) = 0) from by decide)] at k
        have k := ly_revb 3 (c' := (69, [(1, .int (Int32.ofInt 2)), (0, .ref B)], [.int (Int32.ofInt 0), .int (Int32.ofInt 2), .ref B], me_w M J1)) rfl k
        obtain ⟨d1, o1, ed, kc, k⟩ := lz_c (g := 155) (q := 1) (vs := [.ref B, .int (Int32.ofInt 2), .int (Int32.ofInt 0)]) (rest := []) rfl rfl (by decide) (Or.inr (Or.inl ⟨_, rfl, rfl⟩)) rfl k
        obtain ⟨hb, e1⟩ := md_puts hP hT1 hq1 kc
        subst e1
        have hU1 := md_Se (y := (Int32.ofInt 2) + Int32.ofInt 16 * (Int32.ofInt 0)) hP hT1 hb
        have k : nt_rn X _ 151 (72, [(1, .int (Int32.ofInt 2)), (0, .ref B)], [], me_w M (nt_u (nt_u J1 Sg (400 * x + z1.2.2.2.1) ((Int32.ofInt 2) + Int32.ofInt 16 * (Int32.ofInt 0))) Ln x (nI (z1.2.2.2.1 + 1)))) _ := k
        have k := ly_revb 1 (c' := (9, [(1, .int (Int32.ofInt 2)), (0, .ref B)], [], me_w M (nt_u (nt_u J1 Sg (400 * x + z1.2.2.2.1) ((Int32.ofInt 2) + Int32.ofInt 16 * (Int32.ofInt 0))) Ln x (nI (z1.2.2.2.1 + 1))))) rfl k
        have hup := lb_te_up ((lb_s_le (f := f) (t := t) (t - (lb_s f t q + 1)) (lb_s f t q + 1) (by omega)).2) hv1
        have hsl := lb_s_le (f := f) (t := t) (t - (lb_s f t q + 1)) (lb_s f t q + 1) (by omega)
        dsimp only at hup
        obtain ⟨r, a, J9, e9, ⟨kk, hl⟩, hQ⟩ := ih q1 _ _ _ (lb_e z1.2.2.1 (Int32.ofInt 10)) _ (by rw [hz1]; omega) hU1 hq1 k
        rw [hz1, ← lb_ew_c (e := z1.2.2) (w := Int32.ofInt 10) (by decide) (by decide)] at hl
        have ho : lb_op (lb_g f t (lb_s f t q)) = Int32.ofInt 10 := by rw [h15]; decide
        have hl2 : lb_lp f t (lb_te f t) (Int32.ofInt 10) (Int32.ofInt 11) (kk + 1) (lb_s f t q, m, (s0, e)) r := Or.inr ⟨Or.inl ho, _, hv1, Or.inr ⟨_, rfl, by dsimp only; rw [ho]; exact hl⟩⟩
        exact ⟨_, _, _, e9, ⟨_, hl2⟩, hQ⟩
    · rw [if_neg (show ¬ ((lb_g f t (lb_s f t q)) = (Int32.ofInt 43)) from h15)] at k
      have k := ly_revb 1 (c' := (19, [(1, .int (s9)), (0, .ref B)], [.ref B], me_w M (nt_u J B 15 (nI (lb_s f t q))))) rfl k
      obtain ⟨d1, o1, ed, kc, k⟩ := lz_c (g := 136) (q := 1) (vs := [.ref B]) (rest := []) rfl rfl (by decide) (Or.inr (Or.inl ⟨_, rfl, rfl⟩)) rfl k
      have e1 := md_see hP hS10 hp10 kc
      rw [lb_ss hp, me_uu] at e1
      subst e1
      have k : nt_rn X _ 151 (22, [(1, .int (s9)), (0, .ref B)], [.int (lb_g f t (lb_s f t q))], me_w M (nt_u J B 15 (nI (lb_s f t q)))) _ := k
      have k := ly_revb 2 (c' := (if (lb_g f t (lb_s f t q)) = (Int32.ofInt 45) then 27 else 75, [(1, .int (s9)), (0, .ref B)], [], me_w M (nt_u J B 15 (nI (lb_s f t q))))) rfl k
      by_cases h24 : lb_g f t (lb_s f t q) = Int32.ofInt 45
      · rw [if_pos (show (lb_g f t (lb_s f t q)) = (Int32.ofInt 45) from h24)] at k
        have k := ly_revb 1 (c' := (28, [(1, .int (s9)), (0, .ref B)], [.ref B], me_w M (nt_u J B 15 (nI (lb_s f t q))))) rfl k
        have k := lz_get (a := B) (g := 1100) (M := me_w M (nt_u J B 15 (nI (lb_s f t q)))) (v := .ref Tb) rfl (nt_gfR rfl hP.1.1) k
        have k := ly_revb 1 (c' := (32, [(1, .int (s9)), (0, .ref B)], [.ref B, .ref Tb], me_w M (nt_u J B 15 (nI (lb_s f t q))))) rfl k
        have k := lz_get (a := B) (g := 1115) (M := me_w M (nt_u J B 15 (nI (lb_s f t q)))) (v := .int (nI (lb_s f t q))) rfl (congrArg Value.int (hS10.1)) k
        have k := me_bald (q := (lb_s f t q)) (v := f ((lb_s f t q))) rfl (rfl) (by omega) (md_f hP hS10 ((lb_s f t q))) k
        have k := ly_revb 2 (c' := (if (f ((lb_s f t q))) = (Int32.ofInt 43) then 41 else 45, [(1, .int (s9)), (0, .ref B)], [], me_w M (nt_u J B 15 (nI (lb_s f t q))))) rfl k
        have hlt : lb_s f t q < t := lb_g_lt (by rw [h24]; decide)
        rw [if_neg (show ¬ ((f ((lb_s f t q))) = (Int32.ofInt 43)) from fun c => h15 (lb_g2 hB hlt (by decide) c))] at k
        have k := ly_revb 4 (c' := (49, [(1, .int (Int32.ofInt 3)), (0, .ref B)], [.ref B, .ref B], me_w M (nt_u J B 15 (nI (lb_s f t q))))) rfl k
        have k := lz_get (a := B) (g := 1115) (M := me_w M (nt_u J B 15 (nI (lb_s f t q)))) (v := .int (nI (lb_s f t q))) rfl (congrArg Value.int (hS10.1)) k
        have k := ly_revb 2 (c' := (54, [(1, .int (Int32.ofInt 3)), (0, .ref B)], [.int ((nI (lb_s f t q)) + (Int32.ofInt 1)), .ref B], me_w M (nt_u J B 15 (nI (lb_s f t q))))) rfl k
        rw [show ((nI (lb_s f t q)) + (Int32.ofInt 1) : Int32) = nI ((lb_s f t q) + 1) from me_add (k := 1)] at k
        have k := me_put rfl (by decide) k
        have k : nt_rn X _ 151 (57, [(1, .int (Int32.ofInt 3)), (0, .ref B)], [], me_w M (nt_u (nt_u J B 15 (nI (lb_s f t q))) B 15 (nI ((lb_s f t q) + 1)))) _ := k
        have hV0 := md_Sq (y := lb_s f t q + 1) hP hS10
        have k := ly_revb 1 (c' := (58, [(1, .int (Int32.ofInt 3)), (0, .ref B)], [.ref B], me_w M (nt_u (nt_u J B 15 (nI (lb_s f t q))) B 15 (nI ((lb_s f t q) + 1))))) rfl k
        obtain ⟨d1, o1, ed, kc, k⟩ := lz_c (g := 152) (q := 1) (vs := [.ref B]) (rest := []) rfl rfl (by decide) (Or.inr (Or.inl ⟨_, rfl, rfl⟩)) rfl k
        obtain ⟨r1, a1, J1, e1, hv1, hQ1⟩ := md_term (s0 := s0) hP hB hV0 (show lb_s f t q + 1 ≤ t from hlt) kc
        subst e1
        rcases r1 with c | z1
        · obtain ⟨hc, rfl, q1, m1, e1, hT1, hq1⟩ := hQ1
          have k : nt_rn X _ 151 (61, [(1, .int (Int32.ofInt 3)), (0, .ref B)], [.int (Int32.ofInt 0)], me_w M J1) _ := k
          have k := ly_revb 1 (c' := (if (Int32.ofInt 0) = 0 then 64 else 66, [(1, .int (Int32.ofInt 3)), (0, .ref B)], [], me_w M J1)) rfl k
          rw [if_pos (show (Int32.ofInt 0) = 0 from by decide)] at k
          have k := ly_revb 1 (c' := (65, [(1, .int (Int32.ofInt 3)), (0, .ref B)], [.int (Int32.ofInt 0)], me_w M J1)) rfl k
          have k := lz_ri rfl (by decide) k
          have ho : lb_op (lb_g f t (lb_s f t q)) = Int32.ofInt 11 := by rw [h24]; decide
          have hl2 : lb_lp f t (lb_te f t) (Int32.ofInt 10) (Int32.ofInt 11) 1 (lb_s f t q, m, (s0, e)) (.inl c) := Or.inr ⟨Or.inr ho, _, hv1, Or.inl ⟨c, rfl, rfl⟩⟩
          exact ⟨_, _, _, k, ⟨_, hl2⟩, ⟨hc, rfl, _, _, _, hT1, hq1⟩⟩
        · obtain ⟨rfl, q1, hz1, hq1, hT1⟩ := hQ1
          have k : nt_rn X _ 151 (61, [(1, .int (Int32.ofInt 3)), (0, .ref B)], [.int (Int32.ofInt 1)], me_w M J1) _ := k
          have k := ly_revb 1 (c' := (if (Int32.ofInt 1) = 0 then 64 else 66, [(1, .int (Int32.ofInt 3)), (0, .ref B)], [], me_w M J1)) rfl k
          rw [if_neg (show ¬ ((Int32.ofInt 1) = 0) from by decide)] at k
          have k := ly_revb 3 (c' := (69, [(1, .int (Int32.ofInt 3)), (0, .ref B)], [.int (Int32.ofInt 0), .int (Int32.ofInt 3), .ref B], me_w M J1)) rfl k
          obtain ⟨d1, o1, ed, kc, k⟩ := lz_c (g := 155) (q := 1) (vs := [.ref B, .int (Int32.ofInt 3), .int (Int32.ofInt 0)]) (rest := []) rfl rfl (by decide) (Or.inr (Or.inl ⟨_, rfl, rfl⟩)) rfl k
          obtain ⟨hb, e1⟩ := md_puts hP hT1 hq1 kc
          subst e1
          have hU1 := md_Se (y := (Int32.ofInt 3) + Int32.ofInt 16 * (Int32.ofInt 0)) hP hT1 hb
          have k : nt_rn X _ 151 (72, [(1, .int (Int32.ofInt 3)), (0, .ref B)], [], me_w M (nt_u (nt_u J1 Sg (400 * x + z1.2.2.2.1) ((Int32.ofInt 3) + Int32.ofInt 16 * (Int32.ofInt 0))) Ln x (nI (z1.2.2.2.1 + 1)))) _ := k
          have k := ly_revb 1 (c' := (9, [(1, .int (Int32.ofInt 3)), (0, .ref B)], [], me_w M (nt_u (nt_u J1 Sg (400 * x + z1.2.2.2.1) ((Int32.ofInt 3) + Int32.ofInt 16 * (Int32.ofInt 0))) Ln x (nI (z1.2.2.2.1 + 1))))) rfl k
          have hup := lb_te_up ((lb_s_le (f := f) (t := t) (t - (lb_s f t q + 1)) (lb_s f t q + 1) (by omega)).2) hv1
          have hsl := lb_s_le (f := f) (t := t) (t - (lb_s f t q + 1)) (lb_s f t q + 1) (by omega)
          dsimp only at hup
          obtain ⟨r, a, J9, e9, ⟨kk, hl⟩, hQ⟩ := ih q1 _ _ _ (lb_e z1.2.2.1 (Int32.ofInt 11)) _ (by rw [hz1]; omega) hU1 hq1 k
          rw [hz1, ← lb_ew_c (e := z1.2.2) (w := Int32.ofInt 11) (by decide) (by decide)] at hl
          have ho : lb_op (lb_g f t (lb_s f t q)) = Int32.ofInt 11 := by rw [h24]; decide
          have hl2 : lb_lp f t (lb_te f t) (Int32.ofInt 10) (Int32.ofInt 11) (kk + 1) (lb_s f t q, m, (s0, e)) r := Or.inr ⟨Or.inr ho, _, hv1, Or.inr ⟨_, rfl, by dsimp only; rw [ho]; exact hl⟩⟩
          exact ⟨_, _, _, e9, ⟨_, hl2⟩, hQ⟩
      · rw [if_neg (show ¬ ((lb_g f t (lb_s f t q)) = (Int32.ofInt 45)) from h24)] at k
        have k := ly_revb 1 (c' := (76, [(1, .int (s9)), (0, .ref B)], [.int (Int32.ofInt 1)], me_w M (nt_u J B 15 (nI (lb_s f t q))))) rfl k
        have k := lz_ri rfl (by decide) k
        have hno : ¬ (lb_op (lb_g f t (lb_s f t q)) = Int32.ofInt 10 ∨ lb_op (lb_g f t (lb_s f t q)) = Int32.ofInt 11) := fun hh => hh.elim (fun c => h15 (lb_op_i.1 c)) (fun c => h24 (lb_op_i.2.1 c))
        have hl2 : lb_lp f t (lb_te f t) (Int32.ofInt 10) (Int32.ofInt 11) 1 (lb_s f t q, m, (s0, e)) (.inr (lb_s f t q, m, (s0, e))) := Or.inl ⟨hno, rfl⟩
        exact ⟨_, _, _, k, ⟨_, hl2⟩, ⟨rfl, _, lb_ss hp, hp10, hS10⟩⟩
theorem md_sum0 {X : nt_X} {d t x B Tb Sg Ln q m : Nat} {f : Nat → Int32} {M : nt_M} {J0 J : Nat → Nat → Int32} {o : Option Value × nt_M} {e : Nat × (Nat → Int32)} {s0 : Nat × (Nat → Int32)} (hP : md_P M J0 f t x B Tb Sg Ln) (hB : lb_by f t) (hS : md_S J0 B Sg Ln x q 0 m e J) (hp : q ≤ t) (k : nt_ev X d 151 [.ref B] (me_w M J) o) : ∃ r a J', o = (some (.int a), me_w M J') ∧ lb_su f t (lb_s f t q, m, (s0, e)) r ∧ md_Q J0 B Sg Ln x t f r a J' := by
  have k : nt_rn X d 151 (0, [(0, .ref B)], [], me_w M J) o := k
  have t4 : t ≤ 400 := hP.2.2.2.2.2.1
  have k := ly_revb 1 (c' := (1, [(0, .ref B)], [.ref B], me_w M J)) rfl k
  obtain ⟨d1, o1, ed, kc, k⟩ := lz_c (g := 152) (q := 1) (vs := [.ref B]) (rest := []) rfl rfl (by decide) (Or.inr (Or.inl ⟨_, rfl, rfl⟩)) rfl k
  obtain ⟨r1, a1, J1, e1, hv1, hQ1⟩ := md_term (s0 := s0) hP hB hS hp kc
  subst e1
  rcases r1 with c | z1
  · obtain ⟨hc, rfl, q1, m1, e1, hT1, hq1⟩ := hQ1
    have k : nt_rn X _ 151 (4, [(0, .ref B)], [.int (Int32.ofInt 0)], me_w M J1) _ := k
    have k := ly_revb 1 (c' := (if (Int32.ofInt 0) = 0 then 7 else 9, [(0, .ref B)], [], me_w M J1)) rfl k
    rw [if_pos (show (Int32.ofInt 0) = 0 from by decide)] at k
    have k := ly_revb 1 (c' := (8, [(0, .ref B)], [.int (Int32.ofInt 0)], me_w M J1)) rfl k
    have k := lz_ri rfl (by decide) k
    exact ⟨.inl c, _, _, k, ⟨_, hv1, Or.inl ⟨c, rfl, rfl⟩⟩, hc, rfl, _, _, _, hT1, hq1⟩
  · obtain ⟨rfl, q1, hz1, hq1, hT1⟩ := hQ1
    have k : nt_rn X _ 151 (4, [(0, .ref B)], [.int (Int32.ofInt 1)], me_w M J1) _ := k
    have k := ly_revb 1 (c' := (if (Int32.ofInt 1) = 0 then 7 else 9, [(0, .ref B)], [], me_w M J1)) rfl k
    rw [if_neg (show ¬ ((Int32.ofInt 1) = 0) from by decide)] at k
    have k := ly_revb 1 (c' := (10, [(0, .ref B)], [.ref B], me_w M J1)) rfl k
    obtain ⟨d1, o1, ed, kc, k⟩ := lz_c (g := 136) (q := 1) (vs := [.ref B]) (rest := []) rfl rfl (by decide) (Or.inr (Or.inl ⟨_, rfl, rfl⟩)) rfl k
    have e1 := md_see hP hT1 hq1 kc
    subst e1
    have hS11 := md_Sq (y := lb_s f t q1) hP hT1
    have hp11 : lb_s f t q1 ≤ t := (lb_s_le (t - q1) q1 (by omega)).2
    have k : nt_rn X _ 151 (13, [(0, .ref B)], [.int (lb_g f t (lb_s f t q1))], me_w M (nt_u J1 B 15 (nI (lb_s f t q1)))) _ := k
    have k := ly_revb 2 (c' := (if (lb_g f t (lb_s f t q1)) = (Int32.ofInt 43) then 27 else 18, [(0, .ref B)], [], me_w M (nt_u J1 B 15 (nI (lb_s f t q1))))) rfl k
    by_cases h15 : lb_g f t (lb_s f t q1) = Int32.ofInt 43
    · rw [if_pos (show (lb_g f t (lb_s f t q1)) = (Int32.ofInt 43) from h15)] at k
      have k := ly_revb 1 (c' := (28, [(0, .ref B)], [.ref B], me_w M (nt_u J1 B 15 (nI (lb_s f t q1))))) rfl k
      have k := lz_get (a := B) (g := 1100) (M := me_w M (nt_u J1 B 15 (nI (lb_s f t q1)))) (v := .ref Tb) rfl (nt_gfR rfl hP.1.1) k
      have k := ly_revb 1 (c' := (32, [(0, .ref B)], [.ref B, .ref Tb], me_w M (nt_u J1 B 15 (nI (lb_s f t q1))))) rfl k
      have k := lz_get (a := B) (g := 1115) (M := me_w M (nt_u J1 B 15 (nI (lb_s f t q1)))) (v := .int (nI (lb_s f t q1))) rfl (congrArg Value.int (hS11.1)) k
      have k := me_bald (q := (lb_s f t q1)) (v := f ((lb_s f t q1))) rfl (rfl) (by omega) (md_f hP hS11 ((lb_s f t q1))) k
      have k := ly_revb 2 (c' := (if (f ((lb_s f t q1))) = (Int32.ofInt 43) then 41 else 45, [(0, .ref B)], [], me_w M (nt_u J1 B 15 (nI (lb_s f t q1))))) rfl k
      have hlt : lb_s f t q1 < t := lb_g_lt (by rw [h15]; decide)
      rw [if_pos (show (f ((lb_s f t q1))) = (Int32.ofInt 43) from lb_g1 hB hlt (by decide) (by decide) h15)] at k
      have k := ly_revb 5 (c' := (49, [(1, .int (Int32.ofInt 2)), (0, .ref B)], [.ref B, .ref B], me_w M (nt_u J1 B 15 (nI (lb_s f t q1))))) rfl k
      have k := lz_get (a := B) (g := 1115) (M := me_w M (nt_u J1 B 15 (nI (lb_s f t q1)))) (v := .int (nI (lb_s f t q1))) rfl (congrArg Value.int (hS11.1)) k
      have k := ly_revb 2 (c' := (54, [(1, .int (Int32.ofInt 2)), (0, .ref B)], [.int ((nI (lb_s f t q1)) + (Int32.ofInt 1)), .ref B], me_w M (nt_u J1 B 15 (nI (lb_s f t q1))))) rfl k
      rw [show ((nI (lb_s f t q1)) + (Int32.ofInt 1) : Int32) = nI ((lb_s f t q1) + 1) from me_add (k := 1)] at k
      have k := me_put rfl (by decide) k
      have k : nt_rn X _ 151 (57, [(1, .int (Int32.ofInt 2)), (0, .ref B)], [], me_w M (nt_u (nt_u J1 B 15 (nI (lb_s f t q1))) B 15 (nI ((lb_s f t q1) + 1)))) _ := k
      have hV1 := md_Sq (y := lb_s f t q1 + 1) hP hS11
      have k := ly_revb 1 (c' := (58, [(1, .int (Int32.ofInt 2)), (0, .ref B)], [.ref B], me_w M (nt_u (nt_u J1 B 15 (nI (lb_s f t q1))) B 15 (nI ((lb_s f t q1) + 1))))) rfl k
      obtain ⟨d1, o1, ed, kc, k⟩ := lz_c (g := 152) (q := 1) (vs := [.ref B]) (rest := []) rfl rfl (by decide) (Or.inr (Or.inl ⟨_, rfl, rfl⟩)) rfl k
      obtain ⟨r2, a2, J2, e1, hv2, hQ2⟩ := md_term (s0 := z1.2.2.1) hP hB hV1 (show lb_s f t q1 + 1 ≤ t from hlt) kc
      subst e1
      rcases r2 with c | z2
      · obtain ⟨hc, rfl, q2, m2, e2, hT2, hq2⟩ := hQ2
        have k : nt_rn X _ 151 (61, [(1, .int (Int32.ofInt 2)), (0, .ref B)], [.int (Int32.ofInt 0)], me_w M J2) _ := k
        have k := ly_revb 1 (c' := (if (Int32.ofInt 0) = 0 then 64 else 66, [(1, .int (Int32.ofInt 2)), (0, .ref B)], [], me_w M J2)) rfl k
        rw [if_pos (show (Int32.ofInt 0) = 0 from by decide)] at k
        have k := ly_revb 1 (c' := (65, [(1, .int (Int32.ofInt 2)), (0, .ref B)], [.int (Int32.ofInt 0)], me_w M J2)) rfl k
        have k := lz_ri rfl (by decide) k
        have ho : lb_op (lb_g f t (lb_s f t q1)) = Int32.ofInt 10 := by rw [h15]; decide
        have hl2 : lb_lp f t (lb_te f t) (Int32.ofInt 10) (Int32.ofInt 11) 1 (lb_s f t q1, z1.2.1, z1.2.2) (.inl c) := Or.inr ⟨Or.inl ho, _, hv2, Or.inl ⟨c, rfl, rfl⟩⟩
        have hzz : (lb_s f t q1, z1.2.1, z1.2.2) = z1 := by rw [hz1]
        rw [hzz] at hl2
        exact ⟨_, _, _, k, ⟨_, hv1, Or.inr ⟨_, rfl, _, hl2⟩⟩, ⟨hc, rfl, _, _, _, hT2, hq2⟩⟩
      · obtain ⟨rfl, q2, hz2, hq2, hT2⟩ := hQ2
        have k : nt_rn X _ 151 (61, [(1, .int (Int32.ofInt 2)), (0, .ref B)], [.int (Int32.ofInt 1)], me_w M J2) _ := k
        have k := ly_revb 1 (c' := (if (Int32.ofInt 1) = 0 then 64 else 66, [(1, .int (Int32.ofInt 2)), (0, .ref B)], [], me_w M J2)) rfl k
        rw [if_neg (show ¬ ((Int32.ofInt 1) = 0) from by decide)] at k
        have k := ly_revb 3 (c' := (69, [(1, .int (Int32.ofInt 2)), (0, .ref B)], [.int (Int32.ofInt 0), .int (Int32.ofInt 2), .ref B], me_w M J2)) rfl k
        obtain ⟨d1, o1, ed, kc, k⟩ := lz_c (g := 155) (q := 1) (vs := [.ref B, .int (Int32.ofInt 2), .int (Int32.ofInt 0)]) (rest := []) rfl rfl (by decide) (Or.inr (Or.inl ⟨_, rfl, rfl⟩)) rfl k
        obtain ⟨hb, e1⟩ := md_puts hP hT2 hq2 kc
        subst e1
        have hU2 := md_Se (y := (Int32.ofInt 2) + Int32.ofInt 16 * (Int32.ofInt 0)) hP hT2 hb
        have k : nt_rn X _ 151 (72, [(1, .int (Int32.ofInt 2)), (0, .ref B)], [], me_w M (nt_u (nt_u J2 Sg (400 * x + z2.2.2.2.1) ((Int32.ofInt 2) + Int32.ofInt 16 * (Int32.ofInt 0))) Ln x (nI (z2.2.2.2.1 + 1)))) _ := k
        have k := ly_revb 1 (c' := (9, [(1, .int (Int32.ofInt 2)), (0, .ref B)], [], me_w M (nt_u (nt_u J2 Sg (400 * x + z2.2.2.2.1) ((Int32.ofInt 2) + Int32.ofInt 16 * (Int32.ofInt 0))) Ln x (nI (z2.2.2.2.1 + 1))))) rfl k
        have hup := lb_te_up ((lb_s_le (f := f) (t := t) (t - (lb_s f t q1 + 1)) (lb_s f t q1 + 1) (by omega)).2) hv2
        have hsl := lb_s_le (f := f) (t := t) (t - (lb_s f t q1 + 1)) (lb_s f t q1 + 1) (by omega)
        dsimp only at hup
        obtain ⟨r, a, J9, e9, ⟨kk, hl⟩, hQ⟩ := md_suml hP hB (t + 1 - 0 * z2.1) q2 _ _ _ (lb_e z2.2.2.1 (Int32.ofInt 10)) _ (by rw [hz2]; omega) hU2 hq2 k
        rw [hz2, ← lb_ew_c (e := z2.2.2) (w := Int32.ofInt 10) (by decide) (by decide)] at hl
        have ho : lb_op (lb_g f t (lb_s f t q1)) = Int32.ofInt 10 := by rw [h15]; decide
        have hl2 : lb_lp f t (lb_te f t) (Int32.ofInt 10) (Int32.ofInt 11) (kk + 1) (lb_s f t q1, z1.2.1, z1.2.2) r := Or.inr ⟨Or.inl ho, _, hv2, Or.inr ⟨_, rfl, by dsimp only; rw [ho]; exact hl⟩⟩
        have hzz : (lb_s f t q1, z1.2.1, z1.2.2) = z1 := by rw [hz1]
        rw [hzz] at hl2
        exact ⟨_, _, _, e9, ⟨_, hv1, Or.inr ⟨_, rfl, _, hl2⟩⟩, hQ⟩
    · rw [if_neg (show ¬ ((lb_g f t (lb_s f t q1)) = (Int32.ofInt 43)) from h15)] at k
      have k := ly_revb 1 (c' := (19, [(0, .ref B)], [.ref B], me_w M (nt_u J1 B 15 (nI (lb_s f t q1))))) rfl k
      obtain ⟨d1, o1, ed, kc, k⟩ := lz_c (g := 136) (q := 1) (vs := [.ref B]) (rest := []) rfl rfl (by decide) (Or.inr (Or.inl ⟨_, rfl, rfl⟩)) rfl k
      have e1 := md_see hP hS11 hp11 kc
      rw [lb_ss hq1, me_uu] at e1
      subst e1
      have k : nt_rn X _ 151 (22, [(0, .ref B)], [.int (lb_g f t (lb_s f t q1))], me_w M (nt_u J1 B 15 (nI (lb_s f t q1)))) _ := k
      have k := ly_revb 2 (c' := (if (lb_g f t (lb_s f t q1)) = (Int32.ofInt 45) then 27 else 75, [(0, .ref B)], [], me_w M (nt_u J1 B 15 (nI (lb_s f t q1))))) rfl k
      by_cases h24 : lb_g f t (lb_s f t q1) = Int32.ofInt 45
      · rw [if_pos (show (lb_g f t (lb_s f t q1)) = (Int32.ofInt 45) from h24)] at k
        have k := ly_revb 1 (c' := (28, [(0, .ref B)], [.ref B], me_w M (nt_u J1 B 15 (nI (lb_s f t q1))))) rfl k
        have k := lz_get (a := B) (g := 1100) (M := me_w M (nt_u J1 B 15 (nI (lb_s f t q1)))) (v := .ref Tb) rfl (nt_gfR rfl hP.1.1) k
        have k := ly_revb 1 (c' := (32, [(0, .ref B)], [.ref B, .ref Tb], me_w M (nt_u J1 B 15 (nI (lb_s f t q1))))) rfl k
        have k := lz_get (a := B) (g := 1115) (M := me_w M (nt_u J1 B 15 (nI (lb_s f t q1)))) (v := .int (nI (lb_s f t q1))) rfl (congrArg Value.int (hS11.1)) k
        have k := me_bald (q := (lb_s f t q1)) (v := f ((lb_s f t q1))) rfl (rfl) (by omega) (md_f hP hS11 ((lb_s f t q1))) k
        have k := ly_revb 2 (c' := (if (f ((lb_s f t q1))) = (Int32.ofInt 43) then 41 else 45, [(0, .ref B)], [], me_w M (nt_u J1 B 15 (nI (lb_s f t q1))))) rfl k
        have hlt : lb_s f t q1 < t := lb_g_lt (by rw [h24]; decide)
        rw [if_neg (show ¬ ((f ((lb_s f t q1))) = (Int32.ofInt 43)) from fun c => h15 (lb_g2 hB hlt (by decide) c))] at k
        have k := ly_revb 4 (c' := (49, [(1, .int (Int32.ofInt 3)), (0, .ref B)], [.ref B, .ref B], me_w M (nt_u J1 B 15 (nI (lb_s f t q1))))) rfl k
        have k := lz_get (a := B) (g := 1115) (M := me_w M (nt_u J1 B 15 (nI (lb_s f t q1)))) (v := .int (nI (lb_s f t q1))) rfl (congrArg Value.int (hS11.1)) k
        have k := ly_revb 2 (c' := (54, [(1, .int (Int32.ofInt 3)), (0, .ref B)], [.int ((nI (lb_s f t q1)) + (Int32.ofInt 1)), .ref B], me_w M (nt_u J1 B 15 (nI (lb_s f t q1))))) rfl k
        rw [show ((nI (lb_s f t q1)) + (Int32.ofInt 1) : Int32) = nI ((lb_s f t q1) + 1) from me_add (k := 1)] at k
        have k := me_put rfl (by decide) k
        have k : nt_rn X _ 151 (57, [(1, .int (Int32.ofInt 3)), (0, .ref B)], [], me_w M (nt_u (nt_u J1 B 15 (nI (lb_s f t q1))) B 15 (nI ((lb_s f t q1) + 1)))) _ := k
        have hV1 := md_Sq (y := lb_s f t q1 + 1) hP hS11
        have k := ly_revb 1 (c' := (58, [(1, .int (Int32.ofInt 3)), (0, .ref B)], [.ref B], me_w M (nt_u (nt_u J1 B 15 (nI (lb_s f t q1))) B 15 (nI ((lb_s f t q1) + 1))))) rfl k
        obtain ⟨d1, o1, ed, kc, k⟩ := lz_c (g := 152) (q := 1) (vs := [.ref B]) (rest := []) rfl rfl (by decide) (Or.inr (Or.inl ⟨_, rfl, rfl⟩)) rfl k
        obtain ⟨r2, a2, J2, e1, hv2, hQ2⟩ := md_term (s0 := z1.2.2.1) hP hB hV1 (show lb_s f t q1 + 1 ≤ t from hlt) kc
        subst e1
        rcases r2 with c | z2
        · obtain ⟨hc, rfl, q2, m2, e2, hT2, hq2⟩ := hQ2
          have k : nt_rn X _ 151 (61, [(1, .int (Int32.ofInt 3)), (0, .ref B)], [.int (Int32.ofInt 0)], me_w M J2) _ := k
          have k := ly_revb 1 (c' := (if (Int32.ofInt 0) = 0 then 64 else 66, [(1, .int (Int32.ofInt 3)), (0, .ref B)], [], me_w M J2)) rfl k
          rw [if_pos (show (Int32.ofInt 0) = 0 from by decide)] at k
          have k := ly_revb 1 (c' := (65, [(1, .int (Int32.ofInt 3)), (0, .ref B)], [.int (Int32.ofInt 0)], me_w M J2)) rfl k
          have k := lz_ri rfl (by decide) k
          have ho : lb_op (lb_g f t (lb_s f t q1)) = Int32.ofInt 11 := by rw [h24]; decide
          have hl2 : lb_lp f t (lb_te f t) (Int32.ofInt 10) (Int32.ofInt 11) 1 (lb_s f t q1, z1.2.1, z1.2.2) (.inl c) := Or.inr ⟨Or.inr ho, _, hv2, Or.inl ⟨c, rfl, rfl⟩⟩
          have hzz : (lb_s f t q1, z1.2.1, z1.2.2) = z1 := by rw [hz1]
          rw [hzz] at hl2
          exact ⟨_, _, _, k, ⟨_, hv1, Or.inr ⟨_, rfl, _, hl2⟩⟩, ⟨hc, rfl, _, _, _, hT2, hq2⟩⟩
        · obtain ⟨rfl, q2, hz2, hq2, hT2⟩ := hQ2
          have k : nt_rn X _ 151 (61, [(1, .int (Int32.ofInt 3)), (0, .ref B)], [.int (Int32.ofInt 1)], me_w M J2) _ := k
          have k := ly_revb 1 (c' := (if (Int32.ofInt 1) = 0 then 64 else 66, [(1, .int (Int32.ofInt 3)), (0, .ref B)], [], me_w M J2)) rfl k
          rw [if_neg (show ¬ ((Int32.ofInt 1) = 0) from by decide)] at k
          have k := ly_revb 3 (c' := (69, [(1, .int (Int32.ofInt 3)), (0, .ref B)], [.int (Int32.ofInt 0), .int (Int32.ofInt 3), .ref B], me_w M J2)) rfl k
          obtain ⟨d1, o1, ed, kc, k⟩ := lz_c (g := 155) (q := 1) (vs := [.ref B, .int (Int32.ofInt 3), .int (Int32.ofInt 0)]) (rest := []) rfl rfl (by decide) (Or.inr (Or.inl ⟨_, rfl, rfl⟩)) rfl k
          obtain ⟨hb, e1⟩ := md_puts hP hT2 hq2 kc
          subst e1
          have hU2 := md_Se (y := (Int32.ofInt 3) + Int32.ofInt 16 * (Int32.ofInt 0)) hP hT2 hb
          have k : nt_rn X _ 151 (72, [(1, .int (Int32.ofInt 3)), (0, .ref B)], [], me_w M (nt_u (nt_u J2 Sg (400 * x + z2.2.2.2.1) ((Int32.ofInt 3) + Int32.ofInt 16 * (Int32.ofInt 0))) Ln x (nI (z2.2.2.2.1 + 1)))) _ := k
          have k := ly_revb 1 (c' := (9, [(1, .int (Int32.ofInt 3)), (0, .ref B)], [], me_w M (nt_u (nt_u J2 Sg (400 * x + z2.2.2.2.1) ((Int32.ofInt 3) + Int32.ofInt 16 * (Int32.ofInt 0))) Ln x (nI (z2.2.2.2.1 + 1))))) rfl k
          have hup := lb_te_up ((lb_s_le (f := f) (t := t) (t - (lb_s f t q1 + 1)) (lb_s f t q1 + 1) (by omega)).2) hv2
          have hsl := lb_s_le (f := f) (t := t) (t - (lb_s f t q1 + 1)) (lb_s f t q1 + 1) (by omega)
          dsimp only at hup
          obtain ⟨r, a, J9, e9, ⟨kk, hl⟩, hQ⟩ := md_suml hP hB (t + 1 - 0 * z2.1) q2 _ _ _ (lb_e z2.2.2.1 (Int32.ofInt 11)) _ (by rw [hz2]; omega) hU2 hq2 k
          rw [hz2, ← lb_ew_c (e := z2.2.2) (w := Int32.ofInt 11) (by decide) (by decide)] at hl
          have ho : lb_op (lb_g f t (lb_s f t q1)) = Int32.ofInt 11 := by rw [h24]; decide
          have hl2 : lb_lp f t (lb_te f t) (Int32.ofInt 10) (Int32.ofInt 11) (kk + 1) (lb_s f t q1, z1.2.1, z1.2.2) r := Or.inr ⟨Or.inr ho, _, hv2, Or.inr ⟨_, rfl, by dsimp only; rw [ho]; exact hl⟩⟩
          have hzz : (lb_s f t q1, z1.2.1, z1.2.2) = z1 := by rw [hz1]
          rw [hzz] at hl2
          exact ⟨_, _, _, e9, ⟨_, hv1, Or.inr ⟨_, rfl, _, hl2⟩⟩, hQ⟩
      · rw [if_neg (show ¬ ((lb_g f t (lb_s f t q1)) = (Int32.ofInt 45)) from h24)] at k
        have k := ly_revb 1 (c' := (76, [(0, .ref B)], [.int (Int32.ofInt 1)], me_w M (nt_u J1 B 15 (nI (lb_s f t q1))))) rfl k
        have k := lz_ri rfl (by decide) k
        have hno : ¬ (lb_op (lb_g f t (lb_s f t q1)) = Int32.ofInt 10 ∨ lb_op (lb_g f t (lb_s f t q1)) = Int32.ofInt 11) := fun hh => hh.elim (fun c => h15 (lb_op_i.1 c)) (fun c => h24 (lb_op_i.2.1 c))
        have hl2 : lb_lp f t (lb_te f t) (Int32.ofInt 10) (Int32.ofInt 11) 1 (lb_s f t q1, z1.2.1, z1.2.2) (.inr (lb_s f t q1, z1.2.1, z1.2.2)) := Or.inl ⟨hno, rfl⟩
        have hzz : (lb_s f t q1, z1.2.1, z1.2.2) = z1 := by rw [hz1]
        rw [hzz] at hl2
        exact ⟨_, _, _, k, ⟨_, hv1, Or.inr ⟨_, rfl, _, hl2⟩⟩, ⟨rfl, _, (lb_ss hq1).trans hz1, hp11, hS11⟩⟩
