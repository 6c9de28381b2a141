section
/-! clauses and rules, the other side, with what the rows clause and clauses hold -/
def mg_K2 (Op Cl Cs : Nat) : Prop := Cl ≠ Op ∧ Cs ≠ Op ∧ Cl ≠ Cs
def mg_C (G : Nat → Int32) (Cl Cs x : Nat) (cl : Nat → Int32) (cc : Nat) (J : Nat → Nat → Int32) : Prop := (∀ j, J Cl j = cl j) ∧ J Cs x = nI cc ∧ (∀ j, j < 48 * x → cl j = G (10000 + j)) ∧ (∀ j, j ≠ x → J Cs j = G (20000 + j)) ∧ cc ≤ 12
theorem mg_Cr {G : Nat → Int32} {Cl Cs x cc : Nat} {cl : Nat → Int32} {J J' : Nat → Nat → Int32} (h : mg_C G Cl Cs x cl cc J) (h1 : J' Cl = J Cl) (h2 : J' Cs = J Cs) : mg_C G Cl Cs x cl cc J' := by
  unfold mg_C
  rw [h1, h2]
  exact h
theorem mg_ix {x cc r : Nat} (hx : x ≤ 6) (hc : cc ≤ 12) (hr : r ≤ 3) : (Int32.ofInt 48 * nI x + Int32.ofInt 4 * nI cc + Int32.ofInt (r : Int)).toNatClampNeg = 48 * x + 4 * cc + r := by
  have e : Int32.ofInt 48 * nI x + Int32.ofInt 4 * nI cc + Int32.ofInt (r : Int) = nI (48 * x + 4 * cc + r) := by
    rw [← me_addn, ← me_addn, show nI (48 * x) = Int32.ofInt 48 * nI x from Int32.ofNat_mul 48 x, show nI (4 * cc) = Int32.ofInt 4 * nI cc from Int32.ofNat_mul 4 cc]
    rfl
  rw [e, nI_clamp (by omega)]
theorem mg_ix0 {x cc : Nat} (hx : x ≤ 6) (hc : cc ≤ 12) : (Int32.ofInt 48 * nI x + Int32.ofInt 4 * nI cc).toNatClampNeg = 48 * x + 4 * cc := by
  have e : Int32.ofInt 48 * nI x + Int32.ofInt 4 * nI cc = nI (48 * x + 4 * cc) := by
    rw [← me_addn, show nI (48 * x) = Int32.ofInt 48 * nI x from Int32.ofNat_mul 48 x, show nI (4 * cc) = Int32.ofInt 4 * nI cc from Int32.ofNat_mul 4 cc]
  rw [e, nI_clamp (by omega)]
/-- one clause read, and its four cells -/
def mg_D (f : Nat → Int32) (t x : Nat) (z0 : lb_Z) (cl : Nat → Int32) (cc : Nat) (z : lb_Z) (cl' : Nat → Int32) : Prop := ∃ z1, lb_sum f t (lb_s f t (z0.1 + (lb_W (nt_sp + 1 + 5)).length), z0.2.1, z0.2.2) (.inr z1) ∧ lb_i2 f t z1 (.inr z) ∧ cl' (48 * x + 4 * cc) = nI z0.2.2.2.1 ∧ cl' (48 * x + 4 * cc + 1) = nI z1.2.2.2.1 ∧ cl' (48 * x + 4 * cc + 2) = (@ite _ (lb_at f t (lb_W (nt_sp + 1 + 14)) z1.1) (Classical.propDecidable _) (nI z1.2.2.2.1) (Int32.ofInt (-1))) ∧ cl' (48 * x + 4 * cc + 3) = nI z.2.2.2.1 ∧ (∀ j, ¬ (48 * x + 4 * cc ≤ j ∧ j < 48 * x + 4 * cc + 4) → cl' j = cl j)
def mg_V (G : Nat → Int32) (J0 : Nat → Nat → Int32) (B Sg Ln Op Cl Cs x q : Nat) (wr : Int32) (m : Nat) (e : Nat × (Nat → Int32)) (li : Nat) (cl : Nat → Int32) (cc : Nat) (J : Nat → Nat → Int32) : Prop := mg_S G J B Sg Ln x q wr m e J ∧ ((∀ i, i ≠ 15 → i ≠ 16 → i ≠ 17 → i ≠ 19 → i ≠ 20 → i ≠ 21 → i ≠ 23 → J B i = J0 B i) ∧ (∀ a, a ≠ B → a ≠ Sg → a ≠ Ln → a ≠ Op → a ≠ Cl → a ≠ Cs → J a = J0 a)) ∧ J B 21 = nI li ∧ li ≤ 12 ∧ mg_C G Cl Cs x cl cc J
theorem mg_VP {G : Nat → Int32} {M : nt_M} {J0 J : Nat → Nat → Int32} {f : Nat → Int32} {t x B Tb Sg Ln Op Cl Cs q m li : Nat} {wr : Int32} {e : Nat × (Nat → Int32)} {cl : Nat → Int32} {cc : Nat} (hP : md_P M J0 f t x B Tb Sg Ln) (hO : md_O M B Tb Sg Ln Op) (hK : md_K M B Tb Sg Ln Cl Cs) (hK2 : mg_K2 Op Cl Cs) (hV : mg_V G J0 B Sg Ln Op Cl Cs x q wr m e li cl cc J) : md_P M J f t x B Tb Sg Ln := by
  obtain ⟨p1, p2, p3, p4, p5, p6⟩ := hP
  obtain ⟨_, ⟨fB, fA⟩, _⟩ := hV
  refine ⟨p1, p2, (fB 1 (by decide) (by decide) (by decide) (by decide) (by decide) (by decide) (by decide)).trans p3, (fB 18 (by decide) (by decide) (by decide) (by decide) (by decide) (by decide) (by decide)).trans p4, fun j => ?_, p6⟩
  rw [fA Tb p2.1 p2.2.1 p2.2.2.1 (Ne.symm hO.2.1.2.1) (Ne.symm hK.2.2.1.2.1) (Ne.symm hK.2.2.2.1.2.1)]
  exact p5 j
theorem mg_Vup {G : Nat → Int32} {M : nt_M} {J0 J : Nat → Nat → Int32} {f : Nat → Int32} {t x B Tb Sg Ln Op Cl Cs q m li : Nat} {wr : Int32} {e : Nat × (Nat → Int32)} {cl : Nat → Int32} {cc : Nat} (hP : md_P M J0 f t x B Tb Sg Ln) (hO : md_O M B Tb Sg Ln Op) (hK : md_K M B Tb Sg Ln Cl Cs) (hK2 : mg_K2 Op Cl Cs) (hV : mg_V G J0 B Sg Ln Op Cl Cs x q wr m e li cl cc J) {J' : Nat → Nat → Int32} {q' m' : Nat} {wr' : Int32} {e' : Nat × (Nat → Int32)} (hS : mg_S G J B Sg Ln x q' wr' m' e' J') : mg_V G J0 B Sg Ln Op Cl Cs x q' wr' m' e' li cl cc J' := by
  obtain ⟨h1, ⟨fB, fA⟩, t1, t2, t3⟩ := hV
  have b1 := hS.2.2.2.2.2.1
  have b2 := hS.2.2.2.2.2.2.1
  exact ⟨mg_Sself hS, ⟨fun i q1 q2 q3 q4 q5 q6 q7 => (b1 i q1 q2 q3 q4).trans (fB i q1 q2 q3 q4 q5 q6 q7), fun a q1 q2 q3 q4 q5 q6 => (b2 a q1 q2 q3).trans (fA a q1 q2 q3 q4 q5 q6)⟩, (b1 21 (by decide) (by decide) (by decide) (by decide)).trans t1, t2, mg_Cr t3 (b2 Cl hK.2.2.1.1 hK.2.2.1.2.2.1 hK.2.2.1.2.2.2) (b2 Cs hK.2.2.2.1.1 hK.2.2.2.1.2.2.1 hK.2.2.2.1.2.2.2)⟩
theorem mg_Vte {G : Nat → Int32} {M : nt_M} {J0 J : Nat → Nat → Int32} {f : Nat → Int32} {t x B Tb Sg Ln Op Cl Cs q m li : Nat} {wr : Int32} {e : Nat × (Nat → Int32)} {cl : Nat → Int32} {cc : Nat} (hP : md_P M J0 f t x B Tb Sg Ln) (hO : md_O M B Tb Sg Ln Op) (hK : md_K M B Tb Sg Ln Cl Cs) (hK2 : mg_K2 Op Cl Cs) (hV : mg_V G J0 B Sg Ln Op Cl Cs x q wr m e li cl cc J) {J' : Nat → Nat → Int32} {q' m' : Nat} {wr' dd : Int32} {S : List Int32} {e' : Nat × (Nat → Int32)} (hT : mg_T G J B Sg Ln Op x q' wr' m' e' dd S J') : mg_V G J0 B Sg Ln Op Cl Cs x q' wr' m' e' li cl cc J' := by
  obtain ⟨h1, ⟨fB, fA⟩, t1, t2, t3⟩ := hV
  obtain ⟨s1, ⟨b1, b2⟩, _⟩ := hT
  exact ⟨s1, ⟨fun i q1 q2 q3 q4 q5 q6 q7 => (b1 i q1 q2 q3 q4 q5 q7).trans (fB i q1 q2 q3 q4 q5 q6 q7), fun a q1 q2 q3 q4 q5 q6 => (b2 a q1 q2 q3 q4).trans (fA a q1 q2 q3 q4 q5 q6)⟩, (b1 21 (by decide) (by decide) (by decide) (by decide) (by decide) (by decide)).trans t1, t2, mg_Cr t3 (b2 Cl hK.2.2.1.1 hK.2.2.1.2.2.1 hK.2.2.1.2.2.2 hK2.1) (b2 Cs hK.2.2.2.1.1 hK.2.2.2.1.2.2.1 hK.2.2.2.1.2.2.2 hK2.2.1)⟩
theorem mg_Vcl {G : Nat → Int32} {M : nt_M} {J0 J : Nat → Nat → Int32} {f : Nat → Int32} {t x B Tb Sg Ln Op Cl Cs q m li : Nat} {wr : Int32} {e : Nat × (Nat → Int32)} {cl : Nat → Int32} {cc : Nat} {i : Nat} {v : Int32} (hP : md_P M J0 f t x B Tb Sg Ln) (hO : md_O M B Tb Sg Ln Op) (hK : md_K M B Tb Sg Ln Cl Cs) (hK2 : mg_K2 Op Cl Cs) (hV : mg_V G J0 B Sg Ln Op Cl Cs x q wr m e li cl cc J) (hi : 48 * x ≤ i) : mg_V G J0 B Sg Ln Op Cl Cs x q wr m e li (fun j => if j = i then v else cl j) cc (nt_u J Cl i v) := by
  obtain ⟨⟨a1, a2, a3, a4, a5, a6, a7, a8⟩, ⟨fB, fA⟩, t1, t2, u1, u2, u3, u4, u5⟩ := hV
  have c1 := hK.2.2.1.1
  have c3 := hK.2.2.1.2.2.1
  have c4 := hK.2.2.1.2.2.2
  refine ⟨⟨(me_uj (Ne.symm c1)).trans a1, (me_uj (Ne.symm c1)).trans a2, (me_uj (Ne.symm c1)).trans a3, (me_uj (Ne.symm c4)).trans a4, fun j hj => (me_uj (Ne.symm c3)).trans (a5 j hj), fun _ _ _ _ _ => rfl, fun _ _ _ _ => rfl, a8⟩, ⟨fun i q1 q2 q3 q4 q5 q6 q7 => (me_uj (Ne.symm c1)).trans (fB i q1 q2 q3 q4 q5 q6 q7), fun a q1 q2 q3 q4 q5 q6 => (me_uo q5).trans (fA a q1 q2 q3 q4 q5 q6)⟩, (me_uj (Ne.symm c1)).trans t1, t2, ⟨fun j => ?_, (me_uj (Ne.symm hK2.2.2)).trans u2, fun j hj => ?_, fun j hj => (me_uj (Ne.symm hK2.2.2)).trans (u4 j hj), u5⟩⟩
  · show nt_u J Cl i v Cl j = if j = i then v else cl j
    by_cases c : j = i
    · rw [c, me_us, if_pos rfl]
    · rw [me_uk c, if_neg c]
      exact u1 j
  · show (if j = i then v else cl j) = _
    rw [if_neg (by omega)]
    exact u3 j hj
theorem mg_Vcs {G : Nat → Int32} {M : nt_M} {J0 J : Nat → Nat → Int32} {f : Nat → Int32} {t x B Tb Sg Ln Op Cl Cs q m li : Nat} {wr : Int32} {e : Nat × (Nat → Int32)} {cl : Nat → Int32} {cc : Nat} (hP : md_P M J0 f t x B Tb Sg Ln) (hO : md_O M B Tb Sg Ln Op) (hK : md_K M B Tb Sg Ln Cl Cs) (hK2 : mg_K2 Op Cl Cs) (hV : mg_V G J0 B Sg Ln Op Cl Cs x q wr m e li cl cc J) (hi : cc + 1 ≤ 12) : mg_V G J0 B Sg Ln Op Cl Cs x q wr m e li cl (cc + 1) (nt_u J Cs x (nI (cc + 1))) := by
  obtain ⟨⟨a1, a2, a3, a4, a5, a6, a7, a8⟩, ⟨fB, fA⟩, t1, t2, u1, u2, u3, u4, u5⟩ := hV
  have c1 := hK.2.2.2.1.1
  have c3 := hK.2.2.2.1.2.2.1
  have c4 := hK.2.2.2.1.2.2.2
  refine ⟨⟨(me_uj (Ne.symm c1)).trans a1, (me_uj (Ne.symm c1)).trans a2, (me_uj (Ne.symm c1)).trans a3, (me_uj (Ne.symm c4)).trans a4, fun j hj => (me_uj (Ne.symm c3)).trans (a5 j hj), fun _ _ _ _ _ => rfl, fun _ _ _ _ => rfl, a8⟩, ⟨fun i q1 q2 q3 q4 q5 q6 q7 => (me_uj (Ne.symm c1)).trans (fB i q1 q2 q3 q4 q5 q6 q7), fun a q1 q2 q3 q4 q5 q6 => (me_uo q6).trans (fA a q1 q2 q3 q4 q5 q6)⟩, (me_uj (Ne.symm c1)).trans t1, t2, ⟨fun j => (me_uj hK2.2.2).trans (u1 j), me_us, u3, fun j hj => (me_uk hj).trans (u4 j hj), hi⟩⟩
theorem mg_Vli {G : Nat → Int32} {M : nt_M} {J0 J : Nat → Nat → Int32} {f : Nat → Int32} {t x B Tb Sg Ln Op Cl Cs q m li : Nat} {wr : Int32} {e : Nat × (Nat → Int32)} {cl : Nat → Int32} {cc : Nat} {y : Nat} (hP : md_P M J0 f t x B Tb Sg Ln) (hO : md_O M B Tb Sg Ln Op) (hK : md_K M B Tb Sg Ln Cl Cs) (hK2 : mg_K2 Op Cl Cs) (hV : mg_V G J0 B Sg Ln Op Cl Cs x q wr m e li cl cc J) (hy : y ≤ 12) : mg_V G J0 B Sg Ln Op Cl Cs x q wr m e y cl cc (nt_u J B 21 (nI y)) := by
  obtain ⟨⟨a1, a2, a3, a4, a5, a6, a7, a8⟩, ⟨fB, fA⟩, t1, t2, t3⟩ := hV
  have n1 := hP.2.1.2.2.2.1
  have n2 := hP.2.1.2.2.2.2.1
  exact ⟨⟨(me_uk (by decide)).trans a1, (me_uk (by decide)).trans a2, (me_uk (by decide)).trans a3, (me_uj (Ne.symm n2)).trans a4, fun j hj => (me_uj (Ne.symm n1)).trans (a5 j hj), fun _ _ _ _ _ => rfl, fun _ _ _ _ => rfl, a8⟩, ⟨fun i q1 q2 q3 q4 q5 q6 q7 => (me_uk q6).trans (fB i q1 q2 q3 q4 q5 q6 q7), fun a q1 q2 q3 q4 q5 q6 => (me_uo q1).trans (fA a q1 q2 q3 q4 q5 q6)⟩, me_us, hy, mg_Cr t3 (me_uo hK.2.2.1.1) (me_uo hK.2.2.2.1.1)⟩
def mg_QV (G : Nat → Int32) (J0 : Nat → Nat → Int32) (B Sg Ln Op Cl Cs x t : Nat) (z0 : lb_Z) (cl0 : Nat → Int32) (cc li' : Nat) (f : Nat → Int32) (r : lb_Y) (a : Int32) (J : Nat → Nat → Int32) : Prop := match r with
  | .inl c => c ≠ 0 ∧ a = Int32.ofInt 0 ∧ ∃ q m e l cl' cc', mg_V G J0 B Sg Ln Op Cl Cs x q c m e l cl' cc' J ∧ q ≤ t
  | .inr z => a = Int32.ofInt 1 ∧ ∃ q cl', lb_s f t q = z.1 ∧ q ≤ t ∧ mg_V G J0 B Sg Ln Op Cl Cs x q 0 z.2.1 z.2.2.2 li' cl' (cc + 1) J ∧ mg_D f t x z0 cl0 cc z cl'
theorem mg_takes {G : Nat → Int32} {X : nt_X} {d t x B Tb Sg Ln q m : Nat} {f : Nat → Int32} {M : nt_M} {J0 J : Nat → Nat → Int32} {o : Option Value × nt_M} {wr : Int32} {e : Nat × (Nat → Int32)} {w : Int64} (hP : md_P M J0 f t x B Tb Sg Ln) (hS : mg_S G J0 B Sg Ln x q wr m e J) (hp : q ≤ t) (k : nt_ev X d 157 [.ref B, .long w] (me_w M J) o) : (lb_iw f t (lb_s f t q) w ∧ o = (some (.int (Int32.ofInt 1)), me_w M (nt_u J B 15 (nI (lb_s f t q + lb_l f t (lb_s f t q)))))) ∨ (¬ lb_iw f t (lb_s f t q) w ∧ o = (some (.int (Int32.ofInt 0)), me_w M (nt_u J B 15 (nI (lb_s f t q))))) := by
  have k : nt_rn X d 157 (0, [(0, .ref B), (1, .long (w))], [], me_w M J) o := k
  have t4 : t ≤ 400 := hP.2.2.2.2.2.1
  have k := ly_revb 2 (c' := (2, [(0, .ref B), (1, .long (w))], [.long (w), .ref B], me_w M J)) rfl k
  obtain ⟨d1, o1, ed, kc, k⟩ := lz_c (g := 137) (q := 1) (vs := [.ref B, .long (w)]) (rest := []) rfl rfl (by decide) (Or.inr (Or.inl ⟨_, rfl, rfl⟩)) rfl k
  obtain ⟨r, e1, hr⟩ := mg_isWord hP hS hp kc
  subst e1
  rcases hr with ⟨rfl, hr⟩ | ⟨rfl, hr⟩
  · have hS1 := mg_Sq (y := lb_s f t q) hP hS
    have hp1 : lb_s f t q ≤ t := (lb_s_le (t - q) q (by omega)).2
    have k : nt_rn X _ 157 (5, [(0, .ref B), (1, .long (w))], [.int (Int32.ofInt 1)], me_w M (nt_u J B 15 (nI (lb_s f t q)))) _ := k
    have k := ly_revb 1 (c' := (if (Int32.ofInt 1) = 0 then 8 else 10, [(0, .ref B), (1, .long (w))], [], me_w M (nt_u J B 15 (nI (lb_s f t q))))) rfl k
    rw [if_neg (show ¬ ((Int32.ofInt 1) = 0) from by decide)] at k
    have k := ly_revb 1 (c' := (11, [(0, .ref B), (1, .long (w))], [.ref B], me_w M (nt_u J B 15 (nI (lb_s f t q))))) rfl k
    obtain ⟨d1, o1, ed, kc, k⟩ := lz_c (g := 142) (q := 1) (vs := [.ref B]) (rest := []) rfl rfl (by decide) (Or.inr (Or.inl ⟨_, rfl, rfl⟩)) rfl k
    have e1 := mg_pass hP hS1 hp1 kc
    rw [me_uu] at e1
    subst e1
    have k : nt_rn X _ 157 (14, [(0, .ref B), (1, .long (w))], [], me_w M (nt_u J B 15 (nI (lb_s f t q + lb_l f t (lb_s f t q))))) _ := k
    have k := ly_revb 1 (c' := (15, [(0, .ref B), (1, .long (w))], [.int (Int32.ofInt 1)], me_w M (nt_u J B 15 (nI (lb_s f t q + lb_l f t (lb_s f t q)))))) rfl k
    have k := lz_ri rfl (by decide) k
    exact Or.inl ⟨hr, k⟩
  · have hS1 := mg_Sq (y := lb_s f t q) hP hS
    have hp1 : lb_s f t q ≤ t := (lb_s_le (t - q) q (by omega)).2
    have k : nt_rn X _ 157 (5, [(0, .ref B), (1, .long (w))], [.int (Int32.ofInt 0)], me_w M (nt_u J B 15 (nI (lb_s f t q)))) _ := k
    have k := ly_revb 1 (c' := (if (Int32.ofInt 0) = 0 then 8 else 10, [(0, .ref B), (1, .long (w))], [], me_w M (nt_u J B 15 (nI (lb_s f t q))))) rfl k
    rw [if_pos (show (Int32.ofInt 0) = 0 from by decide)] at k
    have k := ly_revb 1 (c' := (9, [(0, .ref B), (1, .long (w))], [.int (Int32.ofInt 0)], me_w M (nt_u J B 15 (nI (lb_s f t q))))) rfl k
    have k := lz_ri rfl (by decide) k
    exact Or.inr ⟨hr, k⟩
theorem mg_take {G : Nat → Int32} {X : nt_X} {d t x B Tb Sg Ln Op Cl Cs q m li : Nat} {f : Nat → Int32} {M : nt_M} {J0 J : Nat → Nat → Int32} {o : Option Value × nt_M} {e : lb_E} {cl : Nat → Int32} {cc : Nat} (hP : md_P M J0 f t x B Tb Sg Ln) (hO : md_O M B Tb Sg Ln Op) (hK : md_K M B Tb Sg Ln Cl Cs) (hK2 : mg_K2 Op Cl Cs) (hB : lb_by f t) (hV : mg_V G J0 B Sg Ln Op Cl Cs x q 0 m e.2 li cl cc J) (hcc : cc < 12) (hp : q ≤ t) (hat : lb_at f t (lb_W (nt_sp + 1 + 5)) q) (k : nt_ev X d 150 [.ref B] (me_w M J) o) : ∃ r a J', o = (some (.int a), me_w M J') ∧ lb_tk f t (q, m, e) r ∧ mg_QV G J0 B Sg Ln Op Cl Cs x t (q, m, e) cl cc li f r a J' := by
  have k : nt_rn X d 150 (0, [(0, .ref B)], [], me_w M J) o := k
  have t4 : t ≤ 400 := hP.2.2.2.2.2.1
  have x6 : x ≤ 6 := hP.2.2.2.2.2.2.1
  have c12 : cc ≤ 12 := by omega
  have k := ly_revb 1 (c' := (1, [(0, .ref B)], [.ref B], me_w M J)) rfl k
  obtain ⟨d1, o1, ed, kc, k⟩ := lz_c (g := 142) (q := 1) (vs := [.ref B]) (rest := []) rfl rfl (by decide) (Or.inr (Or.inl ⟨_, rfl, rfl⟩)) rfl k
  have e1 := mg_pass (mg_VP hP hO hK hK2 hV) hV.1 hp kc
  rw [lb_at_l hat] at e1
  subst e1
  have hV1 := mg_Vup hP hO hK hK2 hV (mg_Sq (y := q + (lb_W (nt_sp + 1 + 5)).length) (mg_VP hP hO hK hK2 hV) hV.1)
  have hp1 : q + (lb_W (nt_sp + 1 + 5)).length ≤ t := hat.1
  have k : nt_rn X _ 150 (4, [(0, .ref B)], [], me_w M (nt_u J B 15 (nI (q + (lb_W (nt_sp + 1 + 5)).length)))) _ := k
  have k := ly_revb 2 (c' := (7, [(0, .ref B)], [.ref B, .int (Int32.ofInt 48)], me_w M (nt_u J B 15 (nI (q + (lb_W (nt_sp + 1 + 5)).length))))) rfl k
  have k := lz_get (a := B) (g := 1118) (M := me_w M (nt_u J B 15 (nI (q + (lb_W (nt_sp + 1 + 5)).length)))) (v := .int (nI x)) rfl (congrArg Value.int (mg_x (mg_VP hP hO hK hK2 hV1) hV1.1)) k
  have k := ly_revb 3 (c' := (13, [(0, .ref B)], [.ref B, .int (Int32.ofInt 4), .int ((Int32.ofInt 48) * (nI x))], me_w M (nt_u J B 15 (nI (q + (lb_W (nt_sp + 1 + 5)).length))))) rfl k
  have k := lz_get (a := B) (g := 1106) (M := me_w M (nt_u J B 15 (nI (q + (lb_W (nt_sp + 1 + 5)).length)))) (v := .ref Cs) rfl (nt_gfR rfl hK.2.1) k
  have k := ly_revb 1 (c' := (17, [(0, .ref B)], [.ref B, .ref Cs, .int (Int32.ofInt 4), .int ((Int32.ofInt 48) * (nI x))], me_w M (nt_u J B 15 (nI (q + (lb_W (nt_sp + 1 + 5)).length))))) rfl k
  have k := lz_get (a := B) (g := 1118) (M := me_w M (nt_u J B 15 (nI (q + (lb_W (nt_sp + 1 + 5)).length)))) (v := .int (nI x)) rfl (congrArg Value.int (mg_x (mg_VP hP hO hK hK2 hV1) hV1.1)) k
  have k := me_iald (q := x) (v := nI cc) rfl (hK.2.2.2.2.2) (rfl) (by omega) (hV1.2.2.2.2.2.1) k
  have k := ly_revb 4 (c' := (25, [(1, .int (((Int32.ofInt 48) * (nI x)) + ((Int32.ofInt 4) * (nI cc)))), (0, .ref B)], [.ref B], me_w M (nt_u J B 15 (nI (q + (lb_W (nt_sp + 1 + 5)).length))))) rfl k
  have k := lz_get (a := B) (g := 1105) (M := me_w M (nt_u J B 15 (nI (q + (lb_W (nt_sp + 1 + 5)).length)))) (v := .ref Cl) rfl (nt_gfR rfl hK.1) k
  have k := ly_revb 2 (c' := (30, [(1, .int (((Int32.ofInt 48) * (nI x)) + ((Int32.ofInt 4) * (nI cc)))), (0, .ref B)], [.ref B, .int (((Int32.ofInt 48) * (nI x)) + ((Int32.ofInt 4) * (nI cc))), .ref Cl], me_w M (nt_u J B 15 (nI (q + (lb_W (nt_sp + 1 + 5)).length))))) rfl k
  have k := lz_get (a := B) (g := 1104) (M := me_w M (nt_u J B 15 (nI (q + (lb_W (nt_sp + 1 + 5)).length)))) (v := .ref Ln) rfl (nt_gfR rfl hP.1.2.2) k
  have k := ly_revb 1 (c' := (34, [(1, .int (((Int32.ofInt 48) * (nI x)) + ((Int32.ofInt 4) * (nI cc)))), (0, .ref B)], [.ref B, .ref Ln, .int (((Int32.ofInt 48) * (nI x)) + ((Int32.ofInt 4) * (nI cc))), .ref Cl], me_w M (nt_u J B 15 (nI (q + (lb_W (nt_sp + 1 + 5)).length))))) rfl k
  have k := lz_get (a := B) (g := 1118) (M := me_w M (nt_u J B 15 (nI (q + (lb_W (nt_sp + 1 + 5)).length)))) (v := .int (nI x)) rfl (congrArg Value.int (mg_x (mg_VP hP hO hK hK2 hV1) hV1.1)) k
  have k := me_iald (q := x) (v := nI e.2.1) rfl (hP.2.2.2.2.2.2.2.2.2) (rfl) (by omega) (hV1.1.2.2.2.1) k
  have k := me_iastx rfl k
  rw [show (((Int32.ofInt 48) * (nI x)) + ((Int32.ofInt 4) * (nI cc))).toNatClampNeg = 48 * x + 4 * cc from mg_ix0 x6 c12] at k
  have hV2 := mg_Vcl (i := 48 * x + 4 * cc) (v := nI e.2.1) hP hO hK hK2 hV1 (by omega)
  have k : nt_rn X _ 150 (39, [(1, .int (((Int32.ofInt 48) * (nI x)) + ((Int32.ofInt 4) * (nI cc)))), (0, .ref B)], [], me_w M (nt_u (nt_u J B 15 (nI (q + (lb_W (nt_sp + 1 + 5)).length))) Cl (48 * x + 4 * cc) (nI e.2.1))) _ := k
  have k := ly_revb 1 (c' := (40, [(1, .int (((Int32.ofInt 48) * (nI x)) + ((Int32.ofInt 4) * (nI cc)))), (0, .ref B)], [.ref B], me_w M (nt_u (nt_u J B 15 (nI (q + (lb_W (nt_sp + 1 + 5)).length))) Cl (48 * x + 4 * cc) (nI e.2.1)))) rfl k
  obtain ⟨d1, o1, ed, kc, k⟩ := lz_c (g := 151) (q := 1) (vs := [.ref B]) (rest := []) rfl rfl (by decide) (Or.inr (Or.inl ⟨_, rfl, rfl⟩)) rfl k
  obtain ⟨r1, a1, J4, e1, hv1, hQ⟩ := mg_sum (s0 := e.1) (mg_VP hP hO hK hK2 hV2) hB hV2.1 hp1 kc
  subst e1
  rcases r1 with c | z1
  · obtain ⟨hc, rfl, q4, m4, e4, hS4, hq4⟩ := hQ
    have hV9 := mg_Vup hP hO hK hK2 hV2 hS4
    have k : nt_rn X _ 150 (43, [(1, .int (((Int32.ofInt 48) * (nI x)) + ((Int32.ofInt 4) * (nI cc)))), (0, .ref B)], [.int (Int32.ofInt 0)], me_w M J4) _ := k
    have k := ly_revb 1 (c' := (if (Int32.ofInt 0) = 0 then 46 else 48, [(1, .int (((Int32.ofInt 48) * (nI x)) + ((Int32.ofInt 4) * (nI cc)))), (0, .ref B)], [], me_w M J4)) rfl k
    rw [if_pos (show (Int32.ofInt 0) = 0 from by decide)] at k
    have k := ly_revb 1 (c' := (47, [(1, .int (((Int32.ofInt 48) * (nI x)) + ((Int32.ofInt 4) * (nI cc)))), (0, .ref B)], [.int (Int32.ofInt 0)], me_w M J4)) rfl k
    have k := lz_ri rfl (by decide) k
    exact ⟨.inl c, _, _, k, ⟨_, hv1, Or.inl ⟨c, rfl, rfl⟩⟩, hc, rfl, _, _, _, _, _, _, hV9, hq4⟩
  · obtain ⟨rfl, q4, hz4, hq4, hS4⟩ := hQ
    have hV20 := mg_Vup hP hO hK hK2 hV2 hS4
    have k : nt_rn X _ 150 (43, [(1, .int (((Int32.ofInt 48) * (nI x)) + ((Int32.ofInt 4) * (nI cc)))), (0, .ref B)], [.int (Int32.ofInt 1)], me_w M J4) _ := k
    have k := ly_revb 1 (c' := (if (Int32.ofInt 1) = 0 then 46 else 48, [(1, .int (((Int32.ofInt 48) * (nI x)) + ((Int32.ofInt 4) * (nI cc)))), (0, .ref B)], [], me_w M J4)) rfl k
    rw [if_neg (show ¬ ((Int32.ofInt 1) = 0) from by decide)] at k
    have k := ly_revb 1 (c' := (49, [(1, .int (((Int32.ofInt 48) * (nI x)) + ((Int32.ofInt 4) * (nI cc)))), (0, .ref B)], [.ref B], me_w M J4)) rfl k
    have k := lz_get (a := B) (g := 1105) (M := me_w M J4) (v := .ref Cl) rfl (nt_gfR rfl hK.1) k
    have k := ly_revb 4 (c' := (56, [(1, .int (((Int32.ofInt 48) * (nI x)) + ((Int32.ofInt 4) * (nI cc)))), (0, .ref B)], [.ref B, .int ((((Int32.ofInt 48) * (nI x)) + ((Int32.ofInt 4) * (nI cc))) + (Int32.ofInt 1)), .ref Cl], me_w M J4)) rfl k
    have k := lz_get (a := B) (g := 1104) (M := me_w M J4) (v := .ref Ln) rfl (nt_gfR rfl hP.1.2.2) k
    have k := ly_revb 1 (c' := (60, [(1, .int (((Int32.ofInt 48) * (nI x)) + ((Int32.ofInt 4) * (nI cc)))), (0, .ref B)], [.ref B, .ref Ln, .int ((((Int32.ofInt 48) * (nI x)) + ((Int32.ofInt 4) * (nI cc))) + (Int32.ofInt 1)), .ref Cl], me_w M J4)) rfl k
    have k := lz_get (a := B) (g := 1118) (M := me_w M J4) (v := .int (nI x)) rfl (congrArg Value.int (mg_x (mg_VP hP hO hK hK2 hV20) hV20.1)) k
    have k := me_iald (q := x) (v := nI z1.2.2.2.1) rfl (hP.2.2.2.2.2.2.2.2.2) (rfl) (by omega) (hV20.1.2.2.2.1) k
    have k := me_iastx rfl k
    rw [show ((((Int32.ofInt 48) * (nI x)) + ((Int32.ofInt 4) * (nI cc))) + (Int32.ofInt 1)).toNatClampNeg = 48 * x + 4 * cc + 1 from mg_ix (r := 1) x6 c12 (by omega)] at k
    have hV21 := mg_Vcl (i := 48 * x + 4 * cc + 1) (v := nI z1.2.2.2.1) hP hO hK hK2 hV20 (by omega)
    have k : nt_rn X _ 150 (65, [(1, .int (((Int32.ofInt 48) * (nI x)) + ((Int32.ofInt 4) * (nI cc)))), (0, .ref B)], [], me_w M (nt_u J4 Cl (48 * x + 4 * cc + 1) (nI z1.2.2.2.1))) _ := k
    have k := ly_revb 1 (c' := (66, [(1, .int (((Int32.ofInt 48) * (nI x)) + ((Int32.ofInt 4) * (nI cc)))), (0, .ref B)], [.ref B], me_w M (nt_u J4 Cl (48 * x + 4 * cc + 1) (nI z1.2.2.2.1)))) rfl k
    have k := lz_get (a := B) (g := 1105) (M := me_w M (nt_u J4 Cl (48 * x + 4 * cc + 1) (nI z1.2.2.2.1))) (v := .ref Cl) rfl (nt_gfR rfl hK.1) k
    have k := ly_revb 4 (c' := (73, [(1, .int (((Int32.ofInt 48) * (nI x)) + ((Int32.ofInt 4) * (nI cc)))), (0, .ref B)], [.int (Int32.ofInt (-1)), .int ((((Int32.ofInt 48) * (nI x)) + ((Int32.ofInt 4) * (nI cc))) + (Int32.ofInt 2)), .ref Cl], me_w M (nt_u J4 Cl (48 * x + 4 * cc + 1) (nI z1.2.2.2.1)))) rfl k
    have k := me_iastx rfl k
    rw [show ((((Int32.ofInt 48) * (nI x)) + ((Int32.ofInt 4) * (nI cc))) + (Int32.ofInt 2)).toNatClampNeg = 48 * x + 4 * cc + 2 from mg_ix (r := 2) x6 c12 (by omega)] at k
    have hV22 := mg_Vcl (i := 48 * x + 4 * cc + 2) (v := Int32.ofInt (-1)) hP hO hK hK2 hV21 (by omega)
    have k : nt_rn X _ 150 (74, [(1, .int (((Int32.ofInt 48) * (nI x)) + ((Int32.ofInt 4) * (nI cc)))), (0, .ref B)], [], me_w M (nt_u (nt_u J4 Cl (48 * x + 4 * cc + 1) (nI z1.2.2.2.1)) Cl (48 * x + 4 * cc + 2) (Int32.ofInt (-1)))) _ := k
    have k := ly_revb 2 (c' := (78, [(1, .int (((Int32.ofInt 48) * (nI x)) + ((Int32.ofInt 4) * (nI cc)))), (0, .ref B)], [.long (26982), .ref B], me_w M (nt_u (nt_u J4 Cl (48 * x + 4 * cc + 1) (nI z1.2.2.2.1)) Cl (48 * x + 4 * cc + 2) (Int32.ofInt (-1))))) rfl k
    obtain ⟨d1, o1, ed, kc, k⟩ := lz_c (g := 157) (q := 1) (vs := [.ref B, .long (26982)]) (rest := []) rfl rfl (by decide) (Or.inr (Or.inl ⟨_, rfl, rfl⟩)) rfl k
    have ht := mg_takes (mg_VP hP hO hK hK2 hV22) hV22.1 hq4 kc
    rw [hz4, lb_w_if] at ht
    have hz1t : z1.1 ≤ t := by rw [← hz4]; exact (lb_s_le (t - q4) q4 (by omega)).2
    rcases ht with ⟨hi, e1⟩ | ⟨hi, e1⟩
    · rw [lb_at_l hi] at e1
      subst e1
      have hV30 := mg_Vup hP hO hK hK2 hV22 (mg_Sq (y := z1.1 + (lb_W (nt_sp + 1 + 14)).length) (mg_VP hP hO hK hK2 hV22) hV22.1)
      have hp30 : z1.1 + (lb_W (nt_sp + 1 + 14)).length ≤ t := hi.1
      have k : nt_rn X _ 150 (81, [(1, .int (((Int32.ofInt 48) * (nI x)) + ((Int32.ofInt 4) * (nI cc)))), (0, .ref B)], [.int (Int32.ofInt 1)], me_w M (nt_u (nt_u (nt_u J4 Cl (48 * x + 4 * cc + 1) (nI z1.2.2.2.1)) Cl (48 * x + 4 * cc + 2) (Int32.ofInt (-1))) B 15 (nI (z1.1 + (lb_W (nt_sp + 1 + 14)).length)))) _ := k
      have k := ly_revb 1 (c' := (if (Int32.ofInt 1) = 0 then 110 else 84, [(1, .int (((Int32.ofInt 48) * (nI x)) + ((Int32.ofInt 4) * (nI cc)))), (0, .ref B)], [], me_w M (nt_u (nt_u (nt_u J4 Cl (48 * x + 4 * cc + 1) (nI z1.2.2.2.1)) Cl (48 * x + 4 * cc + 2) (Int32.ofInt (-1))) B 15 (nI (z1.1 + (lb_W (nt_sp + 1 + 14)).length))))) rfl k
      rw [if_neg (show ¬ ((Int32.ofInt 1) = 0) from by decide)] at k
      have k := ly_revb 1 (c' := (85, [(1, .int (((Int32.ofInt 48) * (nI x)) + ((Int32.ofInt 4) * (nI cc)))), (0, .ref B)], [.ref B], me_w M (nt_u (nt_u (nt_u J4 Cl (48 * x + 4 * cc + 1) (nI z1.2.2.2.1)) Cl (48 * x + 4 * cc + 2) (Int32.ofInt (-1))) B 15 (nI (z1.1 + (lb_W (nt_sp + 1 + 14)).length))))) rfl k
      have k := lz_get (a := B) (g := 1105) (M := me_w M (nt_u (nt_u (nt_u J4 Cl (48 * x + 4 * cc + 1) (nI z1.2.2.2.1)) Cl (48 * x + 4 * cc + 2) (Int32.ofInt (-1))) B 15 (nI (z1.1 + (lb_W (nt_sp + 1 + 14)).length)))) (v := .ref Cl) rfl (nt_gfR rfl hK.1) k
      have k := ly_revb 4 (c' := (92, [(1, .int (((Int32.ofInt 48) * (nI x)) + ((Int32.ofInt 4) * (nI cc)))), (0, .ref B)], [.ref B, .int ((((Int32.ofInt 48) * (nI x)) + ((Int32.ofInt 4) * (nI cc))) + (Int32.ofInt 2)), .ref Cl], me_w M (nt_u (nt_u (nt_u J4 Cl (48 * x + 4 * cc + 1) (nI z1.2.2.2.1)) Cl (48 * x + 4 * cc + 2) (Int32.ofInt (-1))) B 15 (nI (z1.1 + (lb_W (nt_sp + 1 + 14)).length))))) rfl k
      have k := lz_get (a := B) (g := 1104) (M := me_w M (nt_u (nt_u (nt_u J4 Cl (48 * x + 4 * cc + 1) (nI z1.2.2.2.1)) Cl (48 * x + 4 * cc + 2) (Int32.ofInt (-1))) B 15 (nI (z1.1 + (lb_W (nt_sp + 1 + 14)).length)))) (v := .ref Ln) rfl (nt_gfR rfl hP.1.2.2) k
      have k := ly_revb 1 (c' := (96, [(1, .int (((Int32.ofInt 48) * (nI x)) + ((Int32.ofInt 4) * (nI cc)))), (0, .ref B)], [.ref B, .ref Ln, .int ((((Int32.ofInt 48) * (nI x)) + ((Int32.ofInt 4) * (nI cc))) + (Int32.ofInt 2)), .ref Cl], me_w M (nt_u (nt_u (nt_u J4 Cl (48 * x + 4 * cc + 1) (nI z1.2.2.2.1)) Cl (48 * x + 4 * cc + 2) (Int32.ofInt (-1))) B 15 (nI (z1.1 + (lb_W (nt_sp + 1 + 14)).length))))) rfl k
      have k := lz_get (a := B) (g := 1118) (M := me_w M (nt_u (nt_u (nt_u J4 Cl (48 * x + 4 * cc + 1) (nI z1.2.2.2.1)) Cl (48 * x + 4 * cc + 2) (Int32.ofInt (-1))) B 15 (nI (z1.1 + (lb_W (nt_sp + 1 + 14)).length)))) (v := .int (nI x)) rfl (congrArg Value.int (mg_x (mg_VP hP hO hK hK2 hV30) hV30.1)) k
      have k := me_iald (q := x) (v := nI z1.2.2.2.1) rfl (hP.2.2.2.2.2.2.2.2.2) (rfl) (by omega) (hV30.1.2.2.2.1) k
      have k := me_iastx rfl k
      rw [show ((((Int32.ofInt 48) * (nI x)) + ((Int32.ofInt 4) * (nI cc))) + (Int32.ofInt 2)).toNatClampNeg = 48 * x + 4 * cc + 2 from mg_ix (r := 2) x6 c12 (by omega)] at k
      have hV31 := mg_Vcl (i := 48 * x + 4 * cc + 2) (v := nI z1.2.2.2.1) hP hO hK hK2 hV30 (by omega)
      have k : nt_rn X _ 150 (101, [(1, .int (((Int32.ofInt 48) * (nI x)) + ((Int32.ofInt 4) * (nI cc)))), (0, .ref B)], [], me_w M (nt_u (nt_u (nt_u (nt_u J4 Cl (48 * x + 4 * cc + 1) (nI z1.2.2.2.1)) Cl (48 * x + 4 * cc + 2) (Int32.ofInt (-1))) B 15 (nI (z1.1 + (lb_W (nt_sp + 1 + 14)).length))) Cl (48 * x + 4 * cc + 2) (nI z1.2.2.2.1))) _ := k
      have k := ly_revb 1 (c' := (102, [(1, .int (((Int32.ofInt 48) * (nI x)) + ((Int32.ofInt 4) * (nI cc)))), (0, .ref B)], [.ref B], me_w M (nt_u (nt_u (nt_u (nt_u J4 Cl (48 * x + 4 * cc + 1) (nI z1.2.2.2.1)) Cl (48 * x + 4 * cc + 2) (Int32.ofInt (-1))) B 15 (nI (z1.1 + (lb_W (nt_sp + 1 + 14)).length))) Cl (48 * x + 4 * cc + 2) (nI z1.2.2.2.1)))) rfl k
      obtain ⟨d1, o1, ed, kc, k⟩ := lz_c (g := 158) (q := 1) (vs := [.ref B]) (rest := []) rfl rfl (by decide) (Or.inr (Or.inl ⟨_, rfl, rfl⟩)) rfl k
      obtain ⟨r2, a2, J5, e1, ⟨k5, hk5⟩, hQ⟩ := mg_tested (e := z1.2.2) (mg_VP hP hO hK hK2 hV31) hO hB hV31.1 hp30 kc
      subst e1
      rcases r2 with c | z2
      · obtain ⟨hc, rfl, q5, m5, e5, d5, S5, hT5, hq5⟩ := hQ
        have hV9 := mg_Vte hP hO hK hK2 hV31 hT5
        have k : nt_rn X _ 150 (105, [(1, .int (((Int32.ofInt 48) * (nI x)) + ((Int32.ofInt 4) * (nI cc)))), (0, .ref B)], [.int (Int32.ofInt 0)], me_w M J5) _ := k
        have k := ly_revb 1 (c' := (if (Int32.ofInt 0) = 0 then 108 else 110, [(1, .int (((Int32.ofInt 48) * (nI x)) + ((Int32.ofInt 4) * (nI cc)))), (0, .ref B)], [], me_w M J5)) rfl k
        rw [if_pos (show (Int32.ofInt 0) = 0 from by decide)] at k
        have k := ly_revb 1 (c' := (109, [(1, .int (((Int32.ofInt 48) * (nI x)) + ((Int32.ofInt 4) * (nI cc)))), (0, .ref B)], [.int (Int32.ofInt 0)], me_w M J5)) rfl k
        have k := lz_ri rfl (by decide) k
        exact ⟨.inl c, _, _, k, ⟨_, hv1, Or.inr ⟨z1, rfl, Or.inl ⟨hi, k5, _, hk5, Or.inl ⟨c, rfl, rfl⟩⟩⟩⟩, hc, rfl, _, _, _, _, _, _, hV9, hq5⟩
      · obtain ⟨rfl, q5, d5, S5, hz5, hq5, hT5⟩ := hQ
        have hV40 := mg_Vte hP hO hK hK2 hV31 hT5
        have k : nt_rn X _ 150 (105, [(1, .int (((Int32.ofInt 48) * (nI x)) + ((Int32.ofInt 4) * (nI cc)))), (0, .ref B)], [.int (Int32.ofInt 1)], me_w M J5) _ := k
        have k := ly_revb 1 (c' := (if (Int32.ofInt 1) = 0 then 108 else 110, [(1, .int (((Int32.ofInt 48) * (nI x)) + ((Int32.ofInt 4) * (nI cc)))), (0, .ref B)], [], me_w M J5)) rfl k
        rw [if_neg (show ¬ ((Int32.ofInt 1) = 0) from by decide)] at k
        have k := ly_revb 1 (c' := (111, [(1, .int (((Int32.ofInt 48) * (nI x)) + ((Int32.ofInt 4) * (nI cc)))), (0, .ref B)], [.ref B], me_w M J5)) rfl k
        have k := lz_get (a := B) (g := 1105) (M := me_w M J5) (v := .ref Cl) rfl (nt_gfR rfl hK.1) k
        have k := ly_revb 4 (c' := (118, [(1, .int (((Int32.ofInt 48) * (nI x)) + ((Int32.ofInt 4) * (nI cc)))), (0, .ref B)], [.ref B, .int ((((Int32.ofInt 48) * (nI x)) + ((Int32.ofInt 4) * (nI cc))) + (Int32.ofInt 3)), .ref Cl], me_w M J5)) rfl k
        have k := lz_get (a := B) (g := 1104) (M := me_w M J5) (v := .ref Ln) rfl (nt_gfR rfl hP.1.2.2) k
        have k := ly_revb 1 (c' := (122, [(1, .int (((Int32.ofInt 48) * (nI x)) + ((Int32.ofInt 4) * (nI cc)))), (0, .ref B)], [.ref B, .ref Ln, .int ((((Int32.ofInt 48) * (nI x)) + ((Int32.ofInt 4) * (nI cc))) + (Int32.ofInt 3)), .ref Cl], me_w M J5)) rfl k
        have k := lz_get (a := B) (g := 1118) (M := me_w M J5) (v := .int (nI x)) rfl (congrArg Value.int (mg_x (mg_VP hP hO hK hK2 hV40) hV40.1)) k
        have k := me_iald (q := x) (v := nI z2.2.2.2.1) rfl (hP.2.2.2.2.2.2.2.2.2) (rfl) (by omega) (hV40.1.2.2.2.1) k
        have k := me_iastx rfl k
        rw [show ((((Int32.ofInt 48) * (nI x)) + ((Int32.ofInt 4) * (nI cc))) + (Int32.ofInt 3)).toNatClampNeg = 48 * x + 4 * cc + 3 from mg_ix (r := 3) x6 c12 (by omega)] at k
        have hV41 := mg_Vcl (i := 48 * x + 4 * cc + 3) (v := nI z2.2.2.2.1) hP hO hK hK2 hV40 (by omega)
        have k : nt_rn X _ 150 (127, [(1, .int (((Int32.ofInt 48) * (nI x)) + ((Int32.ofInt 4) * (nI cc)))), (0, .ref B)], [], me_w M (nt_u J5 Cl (48 * x + 4 * cc + 3) (nI z2.2.2.2.1))) _ := k
        have k := ly_revb 1 (c' := (128, [(1, .int (((Int32.ofInt 48) * (nI x)) + ((Int32.ofInt 4) * (nI cc)))), (0, .ref B)], [.ref B], me_w M (nt_u J5 Cl (48 * x + 4 * cc + 3) (nI z2.2.2.2.1)))) rfl k
        have k := lz_get (a := B) (g := 1106) (M := me_w M (nt_u J5 Cl (48 * x + 4 * cc + 3) (nI z2.2.2.2.1))) (v := .ref Cs) rfl (nt_gfR rfl hK.2.1) k
        have k := ly_revb 1 (c' := (132, [(1, .int (((Int32.ofInt 48) * (nI x)) + ((Int32.ofInt 4) * (nI cc)))), (0, .ref B)], [.ref B, .ref Cs], me_w M (nt_u J5 Cl (48 * x + 4 * cc + 3) (nI z2.2.2.2.1)))) rfl k
        have k := lz_get (a := B) (g := 1118) (M := me_w M (nt_u J5 Cl (48 * x + 4 * cc + 3) (nI z2.2.2.2.1))) (v := .int (nI x)) rfl (congrArg Value.int (mg_x (mg_VP hP hO hK hK2 hV41) hV41.1)) k
        have k := ly_revb 1 (c' := (136, [(1, .int (((Int32.ofInt 48) * (nI x)) + ((Int32.ofInt 4) * (nI cc)))), (0, .ref B)], [.int (nI x), .ref Cs, .int (nI x), .ref Cs], me_w M (nt_u J5 Cl (48 * x + 4 * cc + 3) (nI z2.2.2.2.1)))) rfl k
        have k := me_iald (q := x) (v := nI cc) rfl (hK.2.2.2.2.2) (rfl) (by omega) (hV41.2.2.2.2.2.1) k
        have k := ly_revb 2 (c' := (139, [(1, .int (((Int32.ofInt 48) * (nI x)) + ((Int32.ofInt 4) * (nI cc)))), (0, .ref B)], [.int ((nI cc) + (Int32.ofInt 1)), .int (nI x), .ref Cs], me_w M (nt_u J5 Cl (48 * x + 4 * cc + 3) (nI z2.2.2.2.1)))) rfl k
        rw [show ((nI cc) + (Int32.ofInt 1) : Int32) = nI (cc + 1) from me_add (k := 1)] at k
        have k := me_iastx rfl k
        rw [nI_clamp (show x < 2 ^ 31 by omega)] at k
        have hV42 := mg_Vcs hP hO hK hK2 hV41 hcc
        have k : nt_rn X _ 150 (140, [(1, .int (((Int32.ofInt 48) * (nI x)) + ((Int32.ofInt 4) * (nI cc)))), (0, .ref B)], [], me_w M (nt_u (nt_u J5 Cl (48 * x + 4 * cc + 3) (nI z2.2.2.2.1)) Cs x (nI (cc + 1)))) _ := k
        have k := ly_revb 1 (c' := (141, [(1, .int (((Int32.ofInt 48) * (nI x)) + ((Int32.ofInt 4) * (nI cc)))), (0, .ref B)], [.int (Int32.ofInt 1)], me_w M (nt_u (nt_u J5 Cl (48 * x + 4 * cc + 3) (nI z2.2.2.2.1)) Cs x (nI (cc + 1))))) rfl k
        have k := lz_ri rfl (by decide) k
        refine ⟨.inr (z2.1, z2.2.1, (lb_e z2.2.2.1 (Int32.ofInt 23), z2.2.2.2)), _, _, k, ⟨_, hv1, Or.inr ⟨z1, rfl, Or.inl ⟨hi, k5, _, hk5, Or.inr ⟨z2, rfl, rfl⟩⟩⟩⟩, rfl, q5, _, hz5, hq5, hV42, z1, hv1, Or.inl ⟨hi, k5, _, hk5, Or.inr ⟨z2, rfl, rfl⟩⟩, ?_, ?_, ?_, ?_, fun j hj => ?_⟩
        · exact (if_neg (by omega)).trans ((if_neg (by omega)).trans ((if_neg (by omega)).trans ((if_neg (by omega)).trans (if_pos rfl))))
        · exact (if_neg (by omega)).trans ((if_neg (by omega)).trans ((if_neg (by omega)).trans (if_pos rfl)))
        · exact ((if_neg (by omega)).trans (if_pos rfl)).trans (if_pos hi).symm
        · exact if_pos rfl
        · exact (if_neg (by omega)).trans ((if_neg (by omega)).trans ((if_neg (by omega)).trans ((if_neg (by omega)).trans (if_neg (by omega)))))
    · subst e1
      have hV30 := mg_Vup hP hO hK hK2 hV22 (mg_Sq (y := z1.1) (mg_VP hP hO hK hK2 hV22) hV22.1)
      have k : nt_rn X _ 150 (81, [(1, .int (((Int32.ofInt 48) * (nI x)) + ((Int32.ofInt 4) * (nI cc)))), (0, .ref B)], [.int (Int32.ofInt 0)], me_w M (nt_u (nt_u (nt_u J4 Cl (48 * x + 4 * cc + 1) (nI z1.2.2.2.1)) Cl (48 * x + 4 * cc + 2) (Int32.ofInt (-1))) B 15 (nI z1.1))) _ := k
      have k := ly_revb 1 (c' := (if (Int32.ofInt 0) = 0 then 110 else 84, [(1, .int (((Int32.ofInt 48) * (nI x)) + ((Int32.ofInt 4) * (nI cc)))), (0, .ref B)], [], me_w M (nt_u (nt_u (nt_u J4 Cl (48 * x + 4 * cc + 1) (nI z1.2.2.2.1)) Cl (48 * x + 4 * cc + 2) (Int32.ofInt (-1))) B 15 (nI z1.1)))) rfl k
      rw [if_pos (show (Int32.ofInt 0) = 0 from by decide)] at k
      have k := ly_revb 1 (c' := (111, [(1, .int (((Int32.ofInt 48) * (nI x)) + ((Int32.ofInt 4) * (nI cc)))), (0, .ref B)], [.ref B], me_w M (nt_u (nt_u (nt_u J4 Cl (48 * x + 4 * cc + 1) (nI z1.2.2.2.1)) Cl (48 * x + 4 * cc + 2) (Int32.ofInt (-1))) B 15 (nI z1.1)))) rfl k
      have k := lz_get (a := B) (g := 1105) (M := me_w M (nt_u (nt_u (nt_u J4 Cl (48 * x + 4 * cc + 1) (nI z1.2.2.2.1)) Cl (48 * x + 4 * cc + 2) (Int32.ofInt (-1))) B 15 (nI z1.1))) (v := .ref Cl) rfl (nt_gfR rfl hK.1) k
      have k := ly_revb 4 (c' := (118, [(1, .int (((Int32.ofInt 48) * (nI x)) + ((Int32.ofInt 4) * (nI cc)))), (0, .ref B)], [.ref B, .int ((((Int32.ofInt 48) * (nI x)) + ((Int32.ofInt 4) * (nI cc))) + (Int32.ofInt 3)), .ref Cl], me_w M (nt_u (nt_u (nt_u J4 Cl (48 * x + 4 * cc + 1) (nI z1.2.2.2.1)) Cl (48 * x + 4 * cc + 2) (Int32.ofInt (-1))) B 15 (nI z1.1)))) rfl k
      have k := lz_get (a := B) (g := 1104) (M := me_w M (nt_u (nt_u (nt_u J4 Cl (48 * x + 4 * cc + 1) (nI z1.2.2.2.1)) Cl (48 * x + 4 * cc + 2) (Int32.ofInt (-1))) B 15 (nI z1.1))) (v := .ref Ln) rfl (nt_gfR rfl hP.1.2.2) k
      have k := ly_revb 1 (c' := (122, [(1, .int (((Int32.ofInt 48) * (nI x)) + ((Int32.ofInt 4) * (nI cc)))), (0, .ref B)], [.ref B, .ref Ln, .int ((((Int32.ofInt 48) * (nI x)) + ((Int32.ofInt 4) * (nI cc))) + (Int32.ofInt 3)), .ref Cl], me_w M (nt_u (nt_u (nt_u J4 Cl (48 * x + 4 * cc + 1) (nI z1.2.2.2.1)) Cl (48 * x + 4 * cc + 2) (Int32.ofInt (-1))) B 15 (nI z1.1)))) rfl k
      have k := lz_get (a := B) (g := 1118) (M := me_w M (nt_u (nt_u (nt_u J4 Cl (48 * x + 4 * cc + 1) (nI z1.2.2.2.1)) Cl (48 * x + 4 * cc + 2) (Int32.ofInt (-1))) B 15 (nI z1.1))) (v := .int (nI x)) rfl (congrArg Value.int (mg_x (mg_VP hP hO hK hK2 hV30) hV30.1)) k
      have k := me_iald (q := x) (v := nI z1.2.2.2.1) rfl (hP.2.2.2.2.2.2.2.2.2) (rfl) (by omega) (hV30.1.2.2.2.1) k
      have k := me_iastx rfl k
      rw [show ((((Int32.ofInt 48) * (nI x)) + ((Int32.ofInt 4) * (nI cc))) + (Int32.ofInt 3)).toNatClampNeg = 48 * x + 4 * cc + 3 from mg_ix (r := 3) x6 c12 (by omega)] at k
      have hV31 := mg_Vcl (i := 48 * x + 4 * cc + 3) (v := nI z1.2.2.2.1) hP hO hK hK2 hV30 (by omega)
      have k : nt_rn X _ 150 (127, [(1, .int (((Int32.ofInt 48) * (nI x)) + ((Int32.ofInt 4) * (nI cc)))), (0, .ref B)], [], me_w M (nt_u (nt_u (nt_u (nt_u J4 Cl (48 * x + 4 * cc + 1) (nI z1.2.2.2.1)) Cl (48 * x + 4 * cc + 2) (Int32.ofInt (-1))) B 15 (nI z1.1)) Cl (48 * x + 4 * cc + 3) (nI z1.2.2.2.1))) _ := k
      have k := ly_revb 1 (c' := (128, [(1, .int (((Int32.ofInt 48) * (nI x)) + ((Int32.ofInt 4) * (nI cc)))), (0, .ref B)], [.ref B], me_w M (nt_u (nt_u (nt_u (nt_u J4 Cl (48 * x + 4 * cc + 1) (nI z1.2.2.2.1)) Cl (48 * x + 4 * cc + 2) (Int32.ofInt (-1))) B 15 (nI z1.1)) Cl (48 * x + 4 * cc + 3) (nI z1.2.2.2.1)))) rfl k
      have k := lz_get (a := B) (g := 1106) (M := me_w M (nt_u (nt_u (nt_u (nt_u J4 Cl (48 * x + 4 * cc + 1) (nI z1.2.2.2.1)) Cl (48 * x + 4 * cc + 2) (Int32.ofInt (-1))) B 15 (nI z1.1)) Cl (48 * x + 4 * cc + 3) (nI z1.2.2.2.1))) (v := .ref Cs) rfl (nt_gfR rfl hK.2.1) k
      have k := ly_revb 1 (c' := (132, [(1, .int (((Int32.ofInt 48) * (nI x)) + ((Int32.ofInt 4) * (nI cc)))), (0, .ref B)], [.ref B, .ref Cs], me_w M (nt_u (nt_u (nt_u (nt_u J4 Cl (48 * x + 4 * cc + 1) (nI z1.2.2.2.1)) Cl (48 * x + 4 * cc + 2) (Int32.ofInt (-1))) B 15 (nI z1.1)) Cl (48 * x + 4 * cc + 3) (nI z1.2.2.2.1)))) rfl k
      have k := lz_get (a := B) (g := 1118) (M := me_w M (nt_u (nt_u (nt_u (nt_u J4 Cl (48 * x + 4 * cc + 1) (nI z1.2.2.2.1)) Cl (48 * x + 4 * cc + 2) (Int32.ofInt (-1))) B 15 (nI z1.1)) Cl (48 * x + 4 * cc + 3) (nI z1.2.2.2.1))) (v := .int (nI x)) rfl (congrArg Value.int (mg_x (mg_VP hP hO hK hK2 hV31) hV31.1)) k
      have k := ly_revb 1 (c' := (136, [(1, .int (((Int32.ofInt 48) * (nI x)) + ((Int32.ofInt 4) * (nI cc)))), (0, .ref B)], [.int (nI x), .ref Cs, .int (nI x), .ref Cs], me_w M (nt_u (nt_u (nt_u (nt_u J4 Cl (48 * x + 4 * cc + 1) (nI z1.2.2.2.1)) Cl (48 * x + 4 * cc + 2) (Int32.ofInt (-1))) B 15 (nI z1.1)) Cl (48 * x + 4 * cc + 3) (nI z1.2.2.2.1)))) rfl k
      have k := me_iald (q := x) (v := nI cc) rfl (hK.2.2.2.2.2) (rfl) (by omega) (hV31.2.2.2.2.2.1) k
      have k := ly_revb 2 (c' := (139, [(1, .int (((Int32.ofInt 48) * (nI x)) + ((Int32.ofInt 4) * (nI cc)))), (0, .ref B)], [.int ((nI cc) + (Int32.ofInt 1)), .int (nI x), .ref Cs], me_w M (nt_u (nt_u (nt_u (nt_u J4 Cl (48 * x + 4 * cc + 1) (nI z1.2.2.2.1)) Cl (48 * x + 4 * cc + 2) (Int32.ofInt (-1))) B 15 (nI z1.1)) Cl (48 * x + 4 * cc + 3) (nI z1.2.2.2.1)))) rfl k
      rw [show ((nI cc) + (Int32.ofInt 1) : Int32) = nI (cc + 1) from me_add (k := 1)] at k
      have k := me_iastx rfl k
      rw [nI_clamp (show x < 2 ^ 31 by omega)] at k
      have hV32 := mg_Vcs hP hO hK hK2 hV31 hcc
      have k : nt_rn X _ 150 (140, [(1, .int (((Int32.ofInt 48) * (nI x)) + ((Int32.ofInt 4) * (nI cc)))), (0, .ref B)], [], me_w M (nt_u (nt_u (nt_u (nt_u (nt_u J4 Cl (48 * x + 4 * cc + 1) (nI z1.2.2.2.1)) Cl (48 * x + 4 * cc + 2) (Int32.ofInt (-1))) B 15 (nI z1.1)) Cl (48 * x + 4 * cc + 3) (nI z1.2.2.2.1)) Cs x (nI (cc + 1)))) _ := k
      have k := ly_revb 1 (c' := (141, [(1, .int (((Int32.ofInt 48) * (nI x)) + ((Int32.ofInt 4) * (nI cc)))), (0, .ref B)], [.int (Int32.ofInt 1)], me_w M (nt_u (nt_u (nt_u (nt_u (nt_u J4 Cl (48 * x + 4 * cc + 1) (nI z1.2.2.2.1)) Cl (48 * x + 4 * cc + 2) (Int32.ofInt (-1))) B 15 (nI z1.1)) Cl (48 * x + 4 * cc + 3) (nI z1.2.2.2.1)) Cs x (nI (cc + 1))))) rfl k
      have k := lz_ri rfl (by decide) k
      refine ⟨.inr (z1.1, z1.2.1, (lb_e z1.2.2.1 (Int32.ofInt 22), z1.2.2.2)), _, _, k, ⟨_, hv1, Or.inr ⟨z1, rfl, Or.inr ⟨hi, rfl⟩⟩⟩, rfl, z1.1, _, by rw [← hz4]; exact lb_ss hq4, hz1t, hV32, z1, hv1, Or.inr ⟨hi, rfl⟩, ?_, ?_, ?_, ?_, fun j hj => ?_⟩
      · exact (if_neg (by omega)).trans ((if_neg (by omega)).trans ((if_neg (by omega)).trans (if_pos rfl)))
      · exact (if_neg (by omega)).trans ((if_neg (by omega)).trans (if_pos rfl))
      · exact ((if_neg (by omega)).trans (if_pos rfl)).trans (if_neg hi).symm
      · exact if_pos rfl
      · exact (if_neg (by omega)).trans ((if_neg (by omega)).trans ((if_neg (by omega)).trans (if_neg (by omega))))
theorem mg_clause {G : Nat → Int32} {X : nt_X} {d t x B Tb Sg Ln Op Cl Cs q m li : Nat} {f : Nat → Int32} {M : nt_M} {J0 J : Nat → Nat → Int32} {o : Option Value × nt_M} {e : lb_E} {cl : Nat → Int32} {cc : Nat} (hP : md_P M J0 f t x B Tb Sg Ln) (hO : md_O M B Tb Sg Ln Op) (hK : md_K M B Tb Sg Ln Cl Cs) (hK2 : mg_K2 Op Cl Cs) (hB : lb_by f t) (hV : mg_V G J0 B Sg Ln Op Cl Cs x q 0 m e.2 li cl cc J) (hcl : cc = li) (hx : x < 6) (hp : q ≤ t) (k : nt_ev X d 135 [.ref B] (me_w M J) o) : ∃ r a J', o = (some (.int a), me_w M J') ∧ lb_c1 f t li (lb_s f t q, m, e) r ∧ mg_QV G J0 B Sg Ln Op Cl Cs x t (lb_s f t q, m, e) cl cc (li + 1) f r a J' := by
  have k : nt_rn X d 135 (0, [(0, .ref B)], [], me_w M J) o := k
  have t4 : t ≤ 400 := hP.2.2.2.2.2.1
  have l12 : li ≤ 12 := hV.2.2.2.1
  have k := ly_revb 1 (c' := (1, [(0, .ref B)], [.ref B], me_w M J)) rfl k
  obtain ⟨d1, o1, ed, kc, k⟩ := lz_c (g := 136) (q := 1) (vs := [.ref B]) (rest := []) rfl rfl (by decide) (Or.inr (Or.inl ⟨_, rfl, rfl⟩)) rfl k
  have e1 := mg_see (mg_VP hP hO hK hK2 hV) hV.1 hp kc
  subst e1
  have hV1 := mg_Vup hP hO hK hK2 hV (mg_Sq (y := lb_s f t q) (mg_VP hP hO hK hK2 hV) hV.1)
  have hp1 : lb_s f t q ≤ t := (lb_s_le (t - q) q (by omega)).2
  have hss : lb_s f t (lb_s f t q) = lb_s f t q := lb_ss hp
  have k : nt_rn X _ 135 (4, [(0, .ref B)], [.int (lb_g f t (lb_s f t q))], me_w M (nt_u J B 15 (nI (lb_s f t q)))) _ := k
  have k := ly_revb 2 (c' := (6, [(0, .ref B)], [.ref B], me_w M (nt_u J B 15 (nI (lb_s f t q))))) rfl k
  have k := lz_get (a := B) (g := 1115) (M := me_w M (nt_u J B 15 (nI (lb_s f t q)))) (v := .int (nI (lb_s f t q))) rfl (congrArg Value.int (hV1.1.1)) k
  have k := ly_revb 2 (c' := (11, [(1, .int (nI (lb_s f t q))), (0, .ref B)], [.ref B], me_w M (nt_u J B 15 (nI (lb_s f t q))))) rfl k
  have k := lz_get (a := B) (g := 1118) (M := me_w M (nt_u J B 15 (nI (lb_s f t q)))) (v := .int (nI x)) rfl (congrArg Value.int (mg_x (mg_VP hP hO hK hK2 hV1) hV1.1)) k
  have k := ly_revb 2 (c' := (if (nI x) = (Int32.ofInt 6) then 19 else 23, [(1, .int (nI (lb_s f t q))), (0, .ref B)], [], me_w M (nt_u J B 15 (nI (lb_s f t q))))) rfl k
  rw [if_neg (show ¬ ((nI x) = (Int32.ofInt 6)) from me_ne (a := x) (b := 6) (by omega) (by omega) (by omega))] at k
  have k := ly_revb 4 (c' := (if (Int32.ofInt 0) = 0 then 87 else 29, [(2, .int (Int32.ofInt 0)), (1, .int (nI (lb_s f t q))), (0, .ref B)], [], me_w M (nt_u J B 15 (nI (lb_s f t q))))) rfl k
  rw [if_pos (show (Int32.ofInt 0) = 0 from by decide)] at k
  have k := ly_revb 2 (c' := (91, [(2, .int (Int32.ofInt 0)), (1, .int (nI (lb_s f t q))), (0, .ref B)], [.long (1952541541), .ref B], me_w M (nt_u J B 15 (nI (lb_s f t q))))) rfl k
  obtain ⟨d1, o1, ed, kc, k⟩ := lz_c (g := 137) (q := 1) (vs := [.ref B, .long (1952541541)]) (rest := []) rfl rfl (by decide) (Or.inr (Or.inl ⟨_, rfl, rfl⟩)) rfl k
  obtain ⟨r, e1, hr⟩ := mg_isWord (mg_VP hP hO hK hK2 hV1) hV1.1 hp1 kc
  rw [hss, me_uu] at e1
  rw [hss, lb_w_take] at hr
  subst e1
  rcases hr with ⟨rfl, hr⟩ | ⟨rfl, hr⟩
  · have k : nt_rn X _ 135 (94, [(2, .int (Int32.ofInt 0)), (1, .int (nI (lb_s f t q))), (0, .ref B)], [.int (Int32.ofInt 1)], me_w M (nt_u J B 15 (nI (lb_s f t q)))) _ := k
    have k := ly_revb 3 (c' := (if (Int32.ofInt 1) = 0 then 99 else 106, [(3, .int (Int32.ofInt 1)), (2, .int (Int32.ofInt 0)), (1, .int (nI (lb_s f t q))), (0, .ref B)], [], me_w M (nt_u J B 15 (nI (lb_s f t q))))) rfl k
    rw [if_neg (show ¬ ((Int32.ofInt 1) = 0) from by decide)] at k
    have k := ly_revb 1 (c' := (107, [(3, .int (Int32.ofInt 1)), (2, .int (Int32.ofInt 0)), (1, .int (nI (lb_s f t q))), (0, .ref B)], [.ref B], me_w M (nt_u J B 15 (nI (lb_s f t q))))) rfl k
    have k := lz_get (a := B) (g := 1121) (M := me_w M (nt_u J B 15 (nI (lb_s f t q)))) (v := .int (nI li)) rfl (congrArg Value.int (hV1.2.2.1)) k
    have k := ly_revb 2 (c' := (if (Int32.ofInt 0) = 0 then 119 else 114, [(3, .int (Int32.ofInt 1)), (2, .int (Int32.ofInt 0)), (1, .int (nI (lb_s f t q))), (0, .ref B)], [.int (nI li)], me_w M (nt_u J B 15 (nI (lb_s f t q))))) rfl k
    rw [if_pos (show (Int32.ofInt 0) = 0 from by decide)] at k
    have k := ly_revb 2 (c' := (if (nI li) = (Int32.ofInt 12) then 124 else 131, [(3, .int (Int32.ofInt 1)), (2, .int (Int32.ofInt 0)), (1, .int (nI (lb_s f t q))), (0, .ref B)], [], me_w M (nt_u J B 15 (nI (lb_s f t q))))) rfl k
    by_cases h121 : li = 12
    · rw [if_pos (show (nI li) = (Int32.ofInt 12) from show nI li = nI 12 from congrArg nI h121)] at k
      have k := ly_revb 3 (c' := (127, [(3, .int (Int32.ofInt 1)), (2, .int (Int32.ofInt 0)), (1, .int (nI (lb_s f t q))), (0, .ref B)], [.int (nI (lb_s f t q)), .int (Int32.ofInt 4), .ref B], me_w M (nt_u J B 15 (nI (lb_s f t q))))) rfl k
      obtain ⟨d1, o1, ed, kc, k⟩ := lz_c (g := 139) (q := 1) (vs := [.ref B, .int (Int32.ofInt 4), .int (nI (lb_s f t q))]) (rest := []) rfl rfl (by decide) (Or.inr (Or.inl ⟨_, rfl, rfl⟩)) rfl k
      obtain ⟨hf, e1⟩ := (mg_fails (a := lb_s f t q) (mg_VP hP hO hK hK2 hV1) hV1.1 hp1 kc).resolve_right (fun c => c.1 rfl)
      subst e1
      have hV9 := mg_Vup hP hO hK hK2 hV1 (mg_Sw (y := lb_c (lb_s f t q) (Int32.ofInt 4)) (mg_VP hP hO hK hK2 hV1) hV1.1)
      have k : nt_rn X _ 135 (130, [(3, .int (Int32.ofInt 1)), (2, .int (Int32.ofInt 0)), (1, .int (nI (lb_s f t q))), (0, .ref B)], [.int (Int32.ofInt 0)], me_w M (nt_u (nt_u J B 15 (nI (lb_s f t q))) B 16 (lb_c (lb_s f t q) (Int32.ofInt 4)))) _ := k
      have k := lz_ri rfl (by decide) k
      exact ⟨.inl (lb_c (lb_s f t q) (Int32.ofInt 4)), _, _, k, Or.inr (Or.inl ⟨hr, h121, rfl⟩), (lb_c_ne (by omega) (by decide) (by decide)), rfl, _, _, _, _, _, _, hV9, hp1⟩
    · rw [if_neg (show ¬ ((nI li) = (Int32.ofInt 12)) from show ¬ nI li = nI 12 from me_ne h121 (by omega) (by omega))] at k
      have k := ly_revb 2 (c' := (133, [(3, .int (Int32.ofInt 1)), (2, .int (Int32.ofInt 0)), (1, .int (nI (lb_s f t q))), (0, .ref B)], [.ref B, .ref B], me_w M (nt_u J B 15 (nI (lb_s f t q))))) rfl k
      have k := lz_get (a := B) (g := 1121) (M := me_w M (nt_u J B 15 (nI (lb_s f t q)))) (v := .int (nI li)) rfl (congrArg Value.int (hV1.2.2.1)) k
      have k := ly_revb 2 (c' := (138, [(3, .int (Int32.ofInt 1)), (2, .int (Int32.ofInt 0)), (1, .int (nI (lb_s f t q))), (0, .ref B)], [.int ((nI li) + (Int32.ofInt 1)), .ref B], me_w M (nt_u J B 15 (nI (lb_s f t q))))) rfl k
      rw [show ((nI li) + (Int32.ofInt 1) : Int32) = nI (li + 1) from me_add (k := 1)] at k
      have k := me_put rfl (by decide) k
      have k : nt_rn X _ 135 (141, [(3, .int (Int32.ofInt 1)), (2, .int (Int32.ofInt 0)), (1, .int (nI (lb_s f t q))), (0, .ref B)], [], me_w M (nt_u (nt_u J B 15 (nI (lb_s f t q))) B 21 (nI (li + 1)))) _ := k
      have hV2 := mg_Vli (y := li + 1) hP hO hK hK2 hV1 (by omega)
      have k := ly_revb 2 (c' := (if (Int32.ofInt 0) = 0 then 153 else 145, [(3, .int (Int32.ofInt 1)), (2, .int (Int32.ofInt 0)), (1, .int (nI (lb_s f t q))), (0, .ref B)], [], me_w M (nt_u (nt_u J B 15 (nI (lb_s f t q))) B 21 (nI (li + 1))))) rfl k
      rw [if_pos (show (Int32.ofInt 0) = 0 from by decide)] at k
      have k := ly_revb 1 (c' := (154, [(3, .int (Int32.ofInt 1)), (2, .int (Int32.ofInt 0)), (1, .int (nI (lb_s f t q))), (0, .ref B)], [.ref B], me_w M (nt_u (nt_u J B 15 (nI (lb_s f t q))) B 21 (nI (li + 1))))) rfl k
      obtain ⟨d1, o1, ed, kc, k⟩ := lz_c (g := 150) (q := 1) (vs := [.ref B]) (rest := []) rfl rfl (by decide) (Or.inr (Or.inl ⟨_, rfl, rfl⟩)) rfl k
      obtain ⟨r3, a3, J3, e1, htk, hQ⟩ := mg_take (e := e) hP hO hK hK2 hB hV2 (by omega) hp1 hr kc
      subst e1
      have k : nt_rn X _ 135 (157, [(3, .int (Int32.ofInt 1)), (2, .int (Int32.ofInt 0)), (1, .int (nI (lb_s f t q))), (0, .ref B)], [.int (a3)], me_w M J3) _ := k
      have k := lz_ri rfl (by decide) k
      exact ⟨r3, _, _, k, Or.inr (Or.inr ⟨hr, by omega, htk⟩), hQ⟩
  · have k : nt_rn X _ 135 (94, [(2, .int (Int32.ofInt 0)), (1, .int (nI (lb_s f t q))), (0, .ref B)], [.int (Int32.ofInt 0)], me_w M (nt_u J B 15 (nI (lb_s f t q)))) _ := k
    have k := ly_revb 3 (c' := (if (Int32.ofInt 0) = 0 then 99 else 106, [(3, .int (Int32.ofInt 0)), (2, .int (Int32.ofInt 0)), (1, .int (nI (lb_s f t q))), (0, .ref B)], [], me_w M (nt_u J B 15 (nI (lb_s f t q))))) rfl k
    rw [if_pos (show (Int32.ofInt 0) = 0 from by decide)] at k
    have k := ly_revb 3 (c' := (102, [(3, .int (Int32.ofInt 0)), (2, .int (Int32.ofInt 0)), (1, .int (nI (lb_s f t q))), (0, .ref B)], [.int (nI (lb_s f t q)), .int (Int32.ofInt 0), .ref B], me_w M (nt_u J B 15 (nI (lb_s f t q))))) rfl k
    obtain ⟨d1, o1, ed, kc, k⟩ := lz_c (g := 139) (q := 1) (vs := [.ref B, .int (Int32.ofInt 0), .int (nI (lb_s f t q))]) (rest := []) rfl rfl (by decide) (Or.inr (Or.inl ⟨_, rfl, rfl⟩)) rfl k
    obtain ⟨hf, e1⟩ := (mg_fails (a := lb_s f t q) (mg_VP hP hO hK hK2 hV1) hV1.1 hp1 kc).resolve_right (fun c => c.1 rfl)
    subst e1
    have hV9 := mg_Vup hP hO hK hK2 hV1 (mg_Sw (y := lb_c (lb_s f t q) (Int32.ofInt 0)) (mg_VP hP hO hK hK2 hV1) hV1.1)
    have k : nt_rn X _ 135 (105, [(3, .int (Int32.ofInt 0)), (2, .int (Int32.ofInt 0)), (1, .int (nI (lb_s f t q))), (0, .ref B)], [.int (Int32.ofInt 0)], me_w M (nt_u (nt_u J B 15 (nI (lb_s f t q))) B 16 (lb_c (lb_s f t q) (Int32.ofInt 0)))) _ := k
    have k := lz_ri rfl (by decide) k
    exact ⟨.inl (lb_c (lb_s f t q) (Int32.ofInt 0)), _, _, k, Or.inl ⟨hr, rfl⟩, (lb_c_ne (by omega) (by decide) (by decide)), rfl, _, _, _, _, _, _, hV9, hp1⟩
def mg_c1 (f : Nat → Int32) (t x i : Nat) (z : lb_Z) (r : lb_Y) (cl : Nat → Int32) (cc : Nat) (cl' : Nat → Int32) (cc' : Nat) : Prop := lb_c1 f t i z r ∧ ∀ z', r = .inr z' → cc' = cc + 1 ∧ mg_D f t x z cl cc z' cl'
def mg_c2 (f : Nat → Int32) (t x : Nat) : Nat → Nat → lb_Z → lb_Y → (Nat → Int32) → Nat → (Nat → Int32) → Nat → Prop
  | 0, _, _, _, _, _, _, _ => False
  | k + 1, i, z, r, cl, cc, cl', cc' => (lb_g f t z.1 = Int32.ofInt 59 ∧ ∃ r1 cl1 cc1, mg_c1 f t x i (lb_s f t (z.1 + 1), z.2.1, z.2.2) r1 cl cc cl1 cc1 ∧ lb_th r1 r (fun z1 => mg_c2 f t x k (i + 1) z1 r cl1 cc1 cl' cc')) ∨ (lb_g f t z.1 = Int32.ofInt (-1) ∧ r = .inr z ∧ cl' = cl ∧ cc' = cc) ∨ (¬ lb_g f t z.1 = Int32.ofInt 59 ∧ ¬ lb_g f t z.1 = Int32.ofInt (-1) ∧ r = .inl (lb_c z.1 (Int32.ofInt 0)))
def mg_c3 (f : Nat → Int32) (t x : Nat) (z : lb_Z) (r : lb_Y) (cl : Nat → Int32) (cl' : Nat → Int32) (cc' : Nat) : Prop := ∃ r1 cl1 cc1, mg_c1 f t x 0 z r1 cl 0 cl1 cc1 ∧ lb_th r1 r (fun z1 => ∃ k, mg_c2 f t x k 1 z1 r cl1 cc1 cl' cc')
theorem mg_rdl {G : Nat → Int32} {X : nt_X} {d t x B Tb Sg Ln Op Cl Cs : Nat} {f : Nat → Int32} {M : nt_M} {J0 : Nat → Nat → Int32} {o : Option Value × nt_M} (hP : md_P M J0 f t x B Tb Sg Ln) (hO : md_O M B Tb Sg Ln Op) (hK : md_K M B Tb Sg Ln Cl Cs) (hK2 : mg_K2 Op Cl Cs) (hB : lb_by f t) (hx : x < 6) : ∀ (c q m : Nat) (e : lb_E) (li : Nat) (cl : Nat → Int32) (cc : Nat) (J : Nat → Nat → Int32), 12 - li < c → mg_V G J0 B Sg Ln Op Cl Cs x q 0 m e.2 li cl cc J → cc = li → q ≤ t → nt_rn X d 134 (35, [(1, .int (Int32.ofInt 1)), (0, .ref B)], [], me_w M J) o → ∃ r a J' cl' cc', o = (some (.int a), me_w M J') ∧ (∃ k, mg_c2 f t x k li (lb_s f t q, m, e) r cl cc cl' cc') ∧ (a = Int32.ofInt 1 ∧ lb_rc r = 0 ∨ a = Int32.ofInt 0 ∧ lb_rc r ≠ 0) ∧ J' B 16 = lb_rc r ∧ J' B 1 = 0 ∧ J' B 2 = J0 B 2 ∧ J' B 18 = J0 B 18 ∧ (∀ a, a ≠ B → a ≠ Sg → a ≠ Ln → a ≠ Op → a ≠ Cl → a ≠ Cs → J' a = J0 a) ∧ ∃ q wr m e l cl2 cc2 J2, mg_V G J0 B Sg Ln Op Cl Cs x q wr m e l cl2 cc2 J2 ∧ (∀ a, a ≠ B → J' a = J2 a) ∧ ∀ z, r = .inr z → e = z.2.2.2 ∧ cl2 = cl' ∧ cc2 = cc' := by
  have t4 : t ≤ 400 := hP.2.2.2.2.2.1
  intro fu
  induction fu with
  | zero => intro q m e li cl cc J hc; omega
  | succ fu ih =>
    intro q m e li cl cc J hcc hV hcl hp k
    have k := ly_revb 2 (c' := (if (Int32.ofInt 1) = 0 then 66 else 39, [(1, .int (Int32.ofInt 1)), (0, .ref B)], [], me_w M J)) rfl k
    rw [if_neg (show ¬ ((Int32.ofInt 1) = 0) from by decide)] at k
    have k := ly_revb 1 (c' := (40, [(1, .int (Int32.ofInt 1)), (0, .ref B)], [.ref B], me_w M J)) rfl k
    obtain ⟨d1, o1, ed, kc, k⟩ := lz_c (g := 136) (q := 1) (vs := [.ref B]) (rest := []) rfl rfl (by decide) (Or.inr (Or.inl ⟨_, rfl, rfl⟩)) rfl k
    have e1 := mg_see (mg_VP hP hO hK hK2 hV) hV.1 hp kc
    subst e1
    have hV1 := mg_Vup hP hO hK hK2 hV (mg_Sq (y := lb_s f t q) (mg_VP hP hO hK hK2 hV) hV.1)
    have hp1 : lb_s f t q ≤ t := (lb_s_le (t - q) q (by omega)).2
    have hss : lb_s f t (lb_s f t q) = lb_s f t q := lb_ss hp
    have k : nt_rn X _ 134 (43, [(1, .int (Int32.ofInt 1)), (0, .ref B)], [.int (lb_g f t (lb_s f t q))], me_w M (nt_u J B 15 (nI (lb_s f t q)))) _ := k
    have k := ly_revb 2 (c' := (if (lb_g f t (lb_s f t q)) = (Int32.ofInt 59) then 48 else 66, [(1, .int (Int32.ofInt 1)), (0, .ref B)], [], me_w M (nt_u J B 15 (nI (lb_s f t q))))) rfl k
    by_cases h45 : lb_g f t (lb_s f t q) = Int32.ofInt 59
    · rw [if_pos (show (lb_g f t (lb_s f t q)) = (Int32.ofInt 59) from h45)] at k
      have k := ly_revb 2 (c' := (50, [(1, .int (Int32.ofInt 1)), (0, .ref B)], [.ref B, .ref B], me_w M (nt_u J B 15 (nI (lb_s f t q))))) rfl k
      have k := lz_get (a := B) (g := 1115) (M := me_w M (nt_u J B 15 (nI (lb_s f t q)))) (v := .int (nI (lb_s f t q))) rfl (congrArg Value.int (hV1.1.1)) k
      have k := ly_revb 2 (c' := (55, [(1, .int (Int32.ofInt 1)), (0, .ref B)], [.int ((nI (lb_s f t q)) + (Int32.ofInt 1)), .ref B], me_w M (nt_u J B 15 (nI (lb_s f t q))))) rfl k
      rw [show ((nI (lb_s f t q)) + (Int32.ofInt 1) : Int32) = nI ((lb_s f t q) + 1) from me_add (k := 1)] at k
      have k := me_put rfl (by decide) k
      have k : nt_rn X _ 134 (58, [(1, .int (Int32.ofInt 1)), (0, .ref B)], [], me_w M (nt_u (nt_u J B 15 (nI (lb_s f t q))) B 15 (nI ((lb_s f t q) + 1)))) _ := k
      have hlt : lb_s f t q < t := lb_g_lt (by rw [h45]; decide)
      have hV2 := mg_Vup hP hO hK hK2 hV1 (mg_Sq (y := lb_s f t q + 1) (mg_VP hP hO hK hK2 hV1) hV1.1)
      have k := ly_revb 1 (c' := (59, [(1, .int (Int32.ofInt 1)), (0, .ref B)], [.ref B], me_w M (nt_u (nt_u J B 15 (nI (lb_s f t q))) B 15 (nI ((lb_s f t q) + 1))))) rfl k
      obtain ⟨d1, o1, ed, kc, k⟩ := lz_c (g := 135) (q := 1) (vs := [.ref B]) (rest := []) rfl rfl (by decide) (Or.inr (Or.inl ⟨_, rfl, rfl⟩)) rfl k
      obtain ⟨r3, a3, J3, e1, hc1, hQ⟩ := mg_clause (e := e) hP hO hK hK2 hB hV2 hcl hx (show lb_s f t q + 1 ≤ t from hlt) kc
      subst e1
      rcases r3 with c | z3
      · obtain ⟨hc, rfl, q3, m3, e3, l3, cl3, cc3, hV3, hq3⟩ := hQ
        have k : nt_rn X _ 134 (62, [(1, .int (Int32.ofInt 1)), (0, .ref B)], [.int (Int32.ofInt 0)], me_w M J3) _ := k
        have k := ly_revb 2 (c' := (35, [(1, .int (Int32.ofInt 0)), (0, .ref B)], [], me_w M J3)) rfl k
        have k := ly_revb 2 (c' := (if (Int32.ofInt 0) = 0 then 66 else 39, [(1, .int (Int32.ofInt 0)), (0, .ref B)], [], me_w M J3)) rfl k
        rw [if_pos (show (Int32.ofInt 0) = 0 from by decide)] at k
        have k := ly_revb 2 (c' := (if (Int32.ofInt 0) = 0 then 88 else 70, [(1, .int (Int32.ofInt 0)), (0, .ref B)], [], me_w M J3)) rfl k
        rw [if_pos (show (Int32.ofInt 0) = 0 from by decide)] at k
        have k := ly_revb 2 (c' := (90, [(1, .int (Int32.ofInt 0)), (0, .ref B)], [.int (Int32.ofInt 0), .ref B], me_w M J3)) rfl k
        have k := me_put rfl (by decide) k
        have k : nt_rn X _ 134 (93, [(1, .int (Int32.ofInt 0)), (0, .ref B)], [], me_w M (nt_u J3 B 1 (Int32.ofInt 0))) _ := k
        have k := ly_revb 1 (c' := (94, [(1, .int (Int32.ofInt 0)), (0, .ref B)], [.ref B], me_w M (nt_u J3 B 1 (Int32.ofInt 0)))) rfl k
        have k := lz_get (a := B) (g := 1116) (M := me_w M (nt_u J3 B 1 (Int32.ofInt 0))) (v := .int (c)) rfl (congrArg Value.int ((me_uk (by decide)).trans (hV3.1.2.1))) k
        have k := ly_revb 1 (c' := (if c = 0 then 100 else 104, [(1, .int (Int32.ofInt 0)), (0, .ref B)], [], me_w M (nt_u J3 B 1 (Int32.ofInt 0)))) rfl k
        rw [if_neg (show ¬ (c = 0) from hc)] at k
        have k := ly_revb 1 (c' := (105, [(1, .int (Int32.ofInt 0)), (0, .ref B)], [.int (Int32.ofInt 0)], me_w M (nt_u J3 B 1 (Int32.ofInt 0)))) rfl k
        have k := lz_ri rfl (by decide) k
        refine ⟨.inl c, _, _, fun _ => 0, 0, k, ⟨1, Or.inl ⟨h45, _, fun _ => 0, 0, ⟨hc1, fun z hz => by cases hz⟩, Or.inl ⟨c, rfl, rfl⟩⟩⟩, ?_, (me_uk (by decide)).trans hV3.1.2.1, me_us, (me_uk (by decide)).trans (hV3.2.1.1 2 (by decide) (by decide) (by decide) (by decide) (by decide) (by decide) (by decide)), (me_uk (by decide)).trans (hV3.2.1.1 18 (by decide) (by decide) (by decide) (by decide) (by decide) (by decide) (by decide)), fun a q1 q2 q3 q4 q5 q6 => (me_uo q1).trans (hV3.2.1.2 a q1 q2 q3 q4 q5 q6), _, _, _, _, _, _, _, _, hV3, fun a ha => me_uo ha, fun z hz => by cases hz⟩
        exact Or.inr ⟨rfl, hc⟩
      · obtain ⟨rfl, q3, cl3, hz3, hq3, hV3, hD3⟩ := hQ
        have k : nt_rn X _ 134 (62, [(1, .int (Int32.ofInt 1)), (0, .ref B)], [.int (Int32.ofInt 1)], me_w M J3) _ := k
        have k := ly_revb 2 (c' := (35, [(1, .int (Int32.ofInt 1)), (0, .ref B)], [], me_w M J3)) rfl k
        have l3 : li + 1 ≤ 12 := hV3.2.2.2.1
        obtain ⟨r, a, J', cl9, cc9, e9, ⟨k9, hk9⟩, hf⟩ := ih _ _ z3.2.2 _ _ _ _ (by omega) hV3 (by omega) hq3 k
        rw [show (lb_s f t q3, z3.2.1, z3.2.2) = z3 from by rw [hz3]] at hk9
        exact ⟨r, a, J', cl9, cc9, e9, ⟨k9 + 1, Or.inl ⟨h45, _, cl3, cc + 1, ⟨hc1, fun z hz => by cases hz; exact ⟨rfl, hD3⟩⟩, Or.inr ⟨z3, rfl, hk9⟩⟩⟩, hf⟩
    · rw [if_neg (show ¬ ((lb_g f t (lb_s f t q)) = (Int32.ofInt 59)) from h45)] at k
      have k := ly_revb 2 (c' := (if (Int32.ofInt 1) = 0 then 88 else 70, [(1, .int (Int32.ofInt 1)), (0, .ref B)], [], me_w M (nt_u J B 15 (nI (lb_s f t q))))) rfl k
      rw [if_neg (show ¬ ((Int32.ofInt 1) = 0) from by decide)] at k
      have k := ly_revb 1 (c' := (71, [(1, .int (Int32.ofInt 1)), (0, .ref B)], [.ref B], me_w M (nt_u J B 15 (nI (lb_s f t q))))) rfl k
      obtain ⟨d1, o1, ed, kc, k⟩ := lz_c (g := 136) (q := 1) (vs := [.ref B]) (rest := []) rfl rfl (by decide) (Or.inr (Or.inl ⟨_, rfl, rfl⟩)) rfl k
      have e1 := mg_see (mg_VP hP hO hK hK2 hV1) hV1.1 hp1 kc
      rw [hss, me_uu] at e1
      subst e1
      have k : nt_rn X _ 134 (74, [(1, .int (Int32.ofInt 1)), (0, .ref B)], [.int (lb_g f t (lb_s f t q))], me_w M (nt_u J B 15 (nI (lb_s f t q)))) _ := k
      have k := ly_revb 2 (c' := (if (lb_g f t (lb_s f t q)) = (Int32.ofInt (-1)) then 88 else 78, [(1, .int (Int32.ofInt 1)), (0, .ref B)], [], me_w M (nt_u J B 15 (nI (lb_s f t q))))) rfl k
      by_cases h75 : lb_g f t (lb_s f t q) = Int32.ofInt (-1)
      · rw [if_pos (show (lb_g f t (lb_s f t q)) = (Int32.ofInt (-1)) from h75)] at k
        have k := ly_revb 2 (c' := (90, [(1, .int (Int32.ofInt 1)), (0, .ref B)], [.int (Int32.ofInt 0), .ref B], me_w M (nt_u J B 15 (nI (lb_s f t q))))) rfl k
        have k := me_put rfl (by decide) k
        have k : nt_rn X _ 134 (93, [(1, .int (Int32.ofInt 1)), (0, .ref B)], [], me_w M (nt_u (nt_u J B 15 (nI (lb_s f t q))) B 1 (Int32.ofInt 0))) _ := k
        have k := ly_revb 1 (c' := (94, [(1, .int (Int32.ofInt 1)), (0, .ref B)], [.ref B], me_w M (nt_u (nt_u J B 15 (nI (lb_s f t q))) B 1 (Int32.ofInt 0)))) rfl k
        have k := lz_get (a := B) (g := 1116) (M := me_w M (nt_u (nt_u J B 15 (nI (lb_s f t q))) B 1 (Int32.ofInt 0))) (v := .int ((0 : Int32))) rfl (congrArg Value.int ((me_uk (by decide)).trans (hV1.1.2.1))) k
        have k := ly_revb 1 (c' := (if ((0 : Int32)) = 0 then 100 else 104, [(1, .int (Int32.ofInt 1)), (0, .ref B)], [], me_w M (nt_u (nt_u J B 15 (nI (lb_s f t q))) B 1 (Int32.ofInt 0)))) rfl k
        rw [if_pos (show ((0 : Int32)) = 0 from rfl)] at k
        have k := ly_revb 2 (c' := (105, [(1, .int (Int32.ofInt 1)), (0, .ref B)], [.int (Int32.ofInt 1)], me_w M (nt_u (nt_u J B 15 (nI (lb_s f t q))) B 1 (Int32.ofInt 0)))) rfl k
        have k := lz_ri rfl (by decide) k
        refine ⟨.inr (lb_s f t q, m, e), _, _, cl, cc, k, ⟨1, Or.inr (Or.inl ⟨h75, rfl, rfl, rfl⟩)⟩, ?_, (me_uk (by decide)).trans hV1.1.2.1, me_us, (me_uk (by decide)).trans (hV1.2.1.1 2 (by decide) (by decide) (by decide) (by decide) (by decide) (by decide) (by decide)), (me_uk (by decide)).trans (hV1.2.1.1 18 (by decide) (by decide) (by decide) (by decide) (by decide) (by decide) (by decide)), fun a q1 q2 q3 q4 q5 q6 => (me_uo q1).trans (hV1.2.1.2 a q1 q2 q3 q4 q5 q6), _, _, _, _, _, _, _, _, hV1, fun a ha => me_uo ha, fun z hz => by cases hz; exact ⟨rfl, rfl, rfl⟩⟩
        exact Or.inl ⟨rfl, rfl⟩
      · rw [if_neg (show ¬ ((lb_g f t (lb_s f t q)) = (Int32.ofInt (-1))) from h75)] at k
        have k := ly_revb 3 (c' := (81, [(1, .int (Int32.ofInt 1)), (0, .ref B)], [.ref B, .int (Int32.ofInt 0), .ref B], me_w M (nt_u J B 15 (nI (lb_s f t q))))) rfl k
        have k := lz_get (a := B) (g := 1115) (M := me_w M (nt_u J B 15 (nI (lb_s f t q)))) (v := .int (nI (lb_s f t q))) rfl (congrArg Value.int (hV1.1.1)) k
        obtain ⟨d1, o1, ed, kc, k⟩ := lz_c (g := 139) (q := 1) (vs := [.ref B, .int (Int32.ofInt 0), .int (nI (lb_s f t q))]) (rest := []) rfl rfl (by decide) (Or.inr (Or.inl ⟨_, rfl, rfl⟩)) rfl k
        obtain ⟨hf, e1⟩ := (mg_fails (a := lb_s f t q) (mg_VP hP hO hK hK2 hV1) hV1.1 hp1 kc).resolve_right (fun c => c.1 rfl)
        subst e1
        have hV9 := mg_Vup hP hO hK hK2 hV1 (mg_Sw (y := lb_c (lb_s f t q) (Int32.ofInt 0)) (mg_VP hP hO hK hK2 hV1) hV1.1)
        have k : nt_rn X _ 134 (87, [(1, .int (Int32.ofInt 1)), (0, .ref B)], [.int (Int32.ofInt 0)], me_w M (nt_u (nt_u J B 15 (nI (lb_s f t q))) B 16 (lb_c (lb_s f t q) (Int32.ofInt 0)))) _ := k
        have k := ly_revb 3 (c' := (90, [(1, .int (Int32.ofInt 1)), (0, .ref B)], [.int (Int32.ofInt 0), .ref B], me_w M (nt_u (nt_u J B 15 (nI (lb_s f t q))) B 16 (lb_c (lb_s f t q) (Int32.ofInt 0))))) rfl k
        have k := me_put rfl (by decide) k
        have k : nt_rn X _ 134 (93, [(1, .int (Int32.ofInt 1)), (0, .ref B)], [], me_w M (nt_u (nt_u (nt_u J B 15 (nI (lb_s f t q))) B 16 (lb_c (lb_s f t q) (Int32.ofInt 0))) B 1 (Int32.ofInt 0))) _ := k
        have k := ly_revb 1 (c' := (94, [(1, .int (Int32.ofInt 1)), (0, .ref B)], [.ref B], me_w M (nt_u (nt_u (nt_u J B 15 (nI (lb_s f t q))) B 16 (lb_c (lb_s f t q) (Int32.ofInt 0))) B 1 (Int32.ofInt 0)))) rfl k
        have k := lz_get (a := B) (g := 1116) (M := me_w M (nt_u (nt_u (nt_u J B 15 (nI (lb_s f t q))) B 16 (lb_c (lb_s f t q) (Int32.ofInt 0))) B 1 (Int32.ofInt 0))) (v := .int (lb_c (lb_s f t q) (Int32.ofInt 0))) rfl (congrArg Value.int ((me_uk (by decide)).trans (hV9.1.2.1))) k
        have k := ly_revb 1 (c' := (if (lb_c (lb_s f t q) (Int32.ofInt 0)) = 0 then 100 else 104, [(1, .int (Int32.ofInt 1)), (0, .ref B)], [], me_w M (nt_u (nt_u (nt_u J B 15 (nI (lb_s f t q))) B 16 (lb_c (lb_s f t q) (Int32.ofInt 0))) B 1 (Int32.ofInt 0)))) rfl k
        rw [if_neg (show ¬ ((lb_c (lb_s f t q) (Int32.ofInt 0)) = 0) from (lb_c_ne (by omega) (by decide) (by decide)))] at k
        have k := ly_revb 1 (c' := (105, [(1, .int (Int32.ofInt 1)), (0, .ref B)], [.int (Int32.ofInt 0)], me_w M (nt_u (nt_u (nt_u J B 15 (nI (lb_s f t q))) B 16 (lb_c (lb_s f t q) (Int32.ofInt 0))) B 1 (Int32.ofInt 0)))) rfl k
        have k := lz_ri rfl (by decide) k
        refine ⟨.inl (lb_c (lb_s f t q) (Int32.ofInt 0)), _, _, fun _ => 0, 0, k, ⟨1, Or.inr (Or.inr ⟨h45, h75, rfl⟩)⟩, ?_, (me_uk (by decide)).trans hV9.1.2.1, me_us, (me_uk (by decide)).trans (hV9.2.1.1 2 (by decide) (by decide) (by decide) (by decide) (by decide) (by decide) (by decide)), (me_uk (by decide)).trans (hV9.2.1.1 18 (by decide) (by decide) (by decide) (by decide) (by decide) (by decide) (by decide)), fun a q1 q2 q3 q4 q5 q6 => (me_uo q1).trans (hV9.2.1.2 a q1 q2 q3 q4 q5 q6), _, _, _, _, _, _, _, _, hV9, fun a ha => me_uo ha, fun z hz => by cases hz⟩
        exact Or.inr ⟨rfl, (lb_c_ne (by omega) (by decide) (by decide))⟩
theorem mg_V0 {G : Nat → Int32} {M : nt_M} {J0 J : Nat → Nat → Int32} {f : Nat → Int32} {t x B Tb Sg Ln Op Cl Cs : Nat} (hP : md_P M J0 f t x B Tb Sg Ln) (hO : md_O M B Tb Sg Ln Op) (hK : md_K M B Tb Sg Ln Cl Cs) (hK2 : mg_K2 Op Cl Cs) (hG : (∀ j, j < 400 * x → J Sg j = G j) ∧ (∀ j, j < 48 * x → J Cl j = G (10000 + j)) ∧ (∀ j, j ≠ x → J Cs j = G (20000 + j)) ∧ J Cs x = nI 0) (fr : (∀ i, i ≠ 15 → i ≠ 16 → i ≠ 17 → i ≠ 19 → i ≠ 20 → i ≠ 21 → i ≠ 23 → J B i = J0 B i) ∧ (∀ a, a ≠ B → a ≠ Sg → a ≠ Ln → a ≠ Op → a ≠ Cl → a ≠ Cs → J a = J0 a)) : mg_V G J0 B Sg Ln Op Cl Cs x 0 0 0 (0, fun _ => 0) 0 (J Cl) 0 (nt_u (nt_u (nt_u (nt_u (nt_u J Ln x (Int32.ofInt 0)) B 21 (Int32.ofInt 0)) B 15 (Int32.ofInt 0)) B 16 (Int32.ofInt 0)) B 19 (Int32.ofInt 0)) := by
  have n1 := hP.2.1.2.2.2.1
  have n2 := hP.2.1.2.2.2.2.1
  have n3 := hP.2.1.2.2.2.2.2
  refine ⟨⟨(me_uk (by decide)).trans ((me_uk (by decide)).trans me_us), (me_uk (by decide)).trans me_us, me_us, ?_, fun j hj => ?_, fun _ _ _ _ _ => rfl, fun _ _ _ _ => rfl, Nat.zero_le _, Nat.zero_le _⟩, ⟨fun i q1 q2 q3 q4 q5 q6 q7 => ?_, fun a q1 q2 q3 q4 q5 q6 => ?_⟩, ?_, Nat.zero_le _, ?_⟩
  · rw [me_uj (Ne.symm n2), me_uj (Ne.symm n2), me_uj (Ne.symm n2), me_uj (Ne.symm n2), me_us]
    rfl
  · rw [me_uo (Ne.symm n1), me_uo (Ne.symm n1), me_uo (Ne.symm n1), me_uo (Ne.symm n1), me_uo n3]
    unfold mg_p at hj
    dsimp only at hj
    unfold mg_a mg_e
    rw [if_neg (by omega), if_neg (by omega)]
    exact hG.1 _ (by omega)
  · rw [me_uk q4, me_uk q2, me_uk q1, me_uk q6, me_uj n2]
    exact fr.1 i q1 q2 q3 q4 q5 q6 q7
  · rw [me_uo q1, me_uo q1, me_uo q1, me_uo q1, me_uo q3]
    exact fr.2 a q1 q2 q3 q4 q5 q6
  · rw [me_uk (by decide), me_uk (by decide), me_uk (by decide), me_us]
    rfl
  · refine mg_Cr (J := J) ⟨fun _ => rfl, hG.2.2.2, hG.2.1, hG.2.2.1, Nat.zero_le _⟩ ?_ ?_
    · rw [me_uo hK.2.2.1.1, me_uo hK.2.2.1.1, me_uo hK.2.2.1.1, me_uo hK.2.2.1.1, me_uo hK.2.2.1.2.2.2]
    · rw [me_uo hK.2.2.2.1.1, me_uo hK.2.2.2.1.1, me_uo hK.2.2.2.1.1, me_uo hK.2.2.2.1.1, me_uo hK.2.2.2.1.2.2.2]
theorem mg_reads {G : Nat → Int32} {X : nt_X} {d t x B Tb Sg Ln Op Cl Cs : Nat} {f : Nat → Int32} {M : nt_M} {J0 J : Nat → Nat → Int32} {o : Option Value × nt_M} (hP : md_P M J0 f t x B Tb Sg Ln) (hO : md_O M B Tb Sg Ln Op) (hK : md_K M B Tb Sg Ln Cl Cs) (hK2 : mg_K2 Op Cl Cs) (hB : lb_by f t) (hx : x < 6) (hG : (∀ j, j < 400 * x → J Sg j = G j) ∧ (∀ j, j < 48 * x → J Cl j = G (10000 + j)) ∧ (∀ j, j ≠ x → J Cs j = G (20000 + j)) ∧ J Cs x = nI 0) (fr : (∀ i, i ≠ 15 → i ≠ 16 → i ≠ 17 → i ≠ 19 → i ≠ 20 → i ≠ 21 → i ≠ 23 → J B i = J0 B i) ∧ (∀ a, a ≠ B → a ≠ Sg → a ≠ Ln → a ≠ Op → a ≠ Cl → a ≠ Cs → J a = J0 a)) (k : nt_ev X d 134 [.ref B] (me_w M J) o) : ∃ r a J' cl' cc', o = (some (.int a), me_w M J') ∧ mg_c3 f t x (lb_s f t 0, 0, ((0, fun _ => 0), (0, fun _ => 0))) r (J Cl) cl' cc' ∧ (a = Int32.ofInt 1 ∧ lb_rc r = 0 ∨ a = Int32.ofInt 0 ∧ lb_rc r ≠ 0) ∧ J' B 16 = lb_rc r ∧ J' B 1 = 0 ∧ J' B 2 = J0 B 2 ∧ J' B 18 = J0 B 18 ∧ (∀ a, a ≠ B → a ≠ Sg → a ≠ Ln → a ≠ Op → a ≠ Cl → a ≠ Cs → J' a = J0 a) ∧ ∃ q wr m e l cl2 cc2 J2, mg_V G J0 B Sg Ln Op Cl Cs x q wr m e l cl2 cc2 J2 ∧ (∀ a, a ≠ B → J' a = J2 a) ∧ ∀ z, r = .inr z → e = z.2.2.2 ∧ cl2 = cl' ∧ cc2 = cc' := by
  have k : nt_rn X d 134 (0, [(0, .ref B)], [], me_w M J) o := k
  have t4 : t ≤ 400 := hP.2.2.2.2.2.1
  have k := ly_revb 1 (c' := (1, [(0, .ref B)], [.ref B], me_w M J)) rfl k
  have k := lz_get (a := B) (g := 1104) (M := me_w M J) (v := .ref Ln) rfl (nt_gfR rfl hP.1.2.2) k
  have k := ly_revb 1 (c' := (5, [(0, .ref B)], [.ref B, .ref Ln], me_w M J)) rfl k
  have k := lz_get (a := B) (g := 1118) (M := me_w M J) (v := .int (nI x)) rfl (congrArg Value.int ((fr.1 18 (by decide) (by decide) (by decide) (by decide) (by decide) (by decide) (by decide)).trans hP.2.2.2.1)) k
  have k := ly_revb 1 (c' := (9, [(0, .ref B)], [.int (Int32.ofInt 0), .int (nI x), .ref Ln], me_w M J)) rfl k
  have k := me_iast (q := x) rfl (rfl) (by omega) k
  have k := ly_revb 2 (c' := (12, [(0, .ref B)], [.int (Int32.ofInt 0), .ref B], me_w M (nt_u J Ln x (Int32.ofInt 0)))) rfl k
  have k := me_put rfl (by decide) k
  have k : nt_rn X _ 134 (15, [(0, .ref B)], [], me_w M (nt_u (nt_u J Ln x (Int32.ofInt 0)) B 21 (Int32.ofInt 0))) _ := k
  have k := ly_revb 2 (c' := (17, [(0, .ref B)], [.int (Int32.ofInt 0), .ref B], me_w M (nt_u (nt_u J Ln x (Int32.ofInt 0)) B 21 (Int32.ofInt 0)))) rfl k
  have k := me_put rfl (by decide) k
  have k : nt_rn X _ 134 (20, [(0, .ref B)], [], me_w M (nt_u (nt_u (nt_u J Ln x (Int32.ofInt 0)) B 21 (Int32.ofInt 0)) B 15 (Int32.ofInt 0))) _ := k
  have k := ly_revb 2 (c' := (22, [(0, .ref B)], [.int (Int32.ofInt 0), .ref B], me_w M (nt_u (nt_u (nt_u J Ln x (Int32.ofInt 0)) B 21 (Int32.ofInt 0)) B 15 (Int32.ofInt 0)))) rfl k
  have k := me_put rfl (by decide) k
  have k : nt_rn X _ 134 (25, [(0, .ref B)], [], me_w M (nt_u (nt_u (nt_u (nt_u J Ln x (Int32.ofInt 0)) B 21 (Int32.ofInt 0)) B 15 (Int32.ofInt 0)) B 16 (Int32.ofInt 0))) _ := k
  have k := ly_revb 2 (c' := (27, [(0, .ref B)], [.int (Int32.ofInt 0), .ref B], me_w M (nt_u (nt_u (nt_u (nt_u J Ln x (Int32.ofInt 0)) B 21 (Int32.ofInt 0)) B 15 (Int32.ofInt 0)) B 16 (Int32.ofInt 0)))) rfl k
  have k := me_put rfl (by decide) k
  have k : nt_rn X _ 134 (30, [(0, .ref B)], [], me_w M (nt_u (nt_u (nt_u (nt_u (nt_u J Ln x (Int32.ofInt 0)) B 21 (Int32.ofInt 0)) B 15 (Int32.ofInt 0)) B 16 (Int32.ofInt 0)) B 19 (Int32.ofInt 0))) _ := k
  have hV : mg_V G J0 B Sg Ln Op Cl Cs x 0 0 0 (0, fun _ => 0) 0 (J Cl) 0 (nt_u (nt_u (nt_u (nt_u (nt_u J Ln x (Int32.ofInt 0)) B 21 (Int32.ofInt 0)) B 15 (Int32.ofInt 0)) B 16 (Int32.ofInt 0)) B 19 (Int32.ofInt 0)) := mg_V0 hP hO hK hK2 hG fr
  have k := ly_revb 1 (c' := (31, [(0, .ref B)], [.ref B], me_w M (nt_u (nt_u (nt_u (nt_u (nt_u J Ln x (Int32.ofInt 0)) B 21 (Int32.ofInt 0)) B 15 (Int32.ofInt 0)) B 16 (Int32.ofInt 0)) B 19 (Int32.ofInt 0)))) rfl k
  obtain ⟨d1, o1, ed, kc, k⟩ := lz_c (g := 135) (q := 1) (vs := [.ref B]) (rest := []) rfl rfl (by decide) (Or.inr (Or.inl ⟨_, rfl, rfl⟩)) rfl k
  obtain ⟨r3, a3, J3, e1, hc1, hQ⟩ := mg_clause (e := ((0, fun _ => 0), (0, fun _ => 0))) hP hO hK hK2 hB hV rfl hx (Nat.zero_le _) kc
  subst e1
  rcases r3 with c | z3
  · obtain ⟨hc, rfl, q3, m3, e3, l3, cl3, cc3, hV3, hq3⟩ := hQ
    have k : nt_rn X _ 134 (34, [(0, .ref B)], [.int (Int32.ofInt 0)], me_w M J3) _ := k
    have k := ly_revb 1 (c' := (35, [(1, .int (Int32.ofInt 0)), (0, .ref B)], [], me_w M J3)) rfl k
    have k := ly_revb 2 (c' := (if (Int32.ofInt 0) = 0 then 66 else 39, [(1, .int (Int32.ofInt 0)), (0, .ref B)], [], me_w M J3)) rfl k
    rw [if_pos (show (Int32.ofInt 0) = 0 from by decide)] at k
    have k := ly_revb 2 (c' := (if (Int32.ofInt 0) = 0 then 88 else 70, [(1, .int (Int32.ofInt 0)), (0, .ref B)], [], me_w M J3)) rfl k
    rw [if_pos (show (Int32.ofInt 0) = 0 from by decide)] at k
    have k := ly_revb 2 (c' := (90, [(1, .int (Int32.ofInt 0)), (0, .ref B)], [.int (Int32.ofInt 0), .ref B], me_w M J3)) rfl k
    have k := me_put rfl (by decide) k
    have k : nt_rn X _ 134 (93, [(1, .int (Int32.ofInt 0)), (0, .ref B)], [], me_w M (nt_u J3 B 1 (Int32.ofInt 0))) _ := k
    have k := ly_revb 1 (c' := (94, [(1, .int (Int32.ofInt 0)), (0, .ref B)], [.ref B], me_w M (nt_u J3 B 1 (Int32.ofInt 0)))) rfl k
    have k := lz_get (a := B) (g := 1116) (M := me_w M (nt_u J3 B 1 (Int32.ofInt 0))) (v := .int (c)) rfl (congrArg Value.int ((me_uk (by decide)).trans (hV3.1.2.1))) k
    have k := ly_revb 1 (c' := (if c = 0 then 100 else 104, [(1, .int (Int32.ofInt 0)), (0, .ref B)], [], me_w M (nt_u J3 B 1 (Int32.ofInt 0)))) rfl k
    rw [if_neg (show ¬ (c = 0) from hc)] at k
    have k := ly_revb 1 (c' := (105, [(1, .int (Int32.ofInt 0)), (0, .ref B)], [.int (Int32.ofInt 0)], me_w M (nt_u J3 B 1 (Int32.ofInt 0)))) rfl k
    have k := lz_ri rfl (by decide) k
    refine ⟨.inl c, _, _, fun _ => 0, 0, k, ⟨_, fun _ => 0, 0, ⟨hc1, fun z hz => by cases hz⟩, Or.inl ⟨c, rfl, rfl⟩⟩, ?_, (me_uk (by decide)).trans hV3.1.2.1, me_us, (me_uk (by decide)).trans (hV3.2.1.1 2 (by decide) (by decide) (by decide) (by decide) (by decide) (by decide) (by decide)), (me_uk (by decide)).trans (hV3.2.1.1 18 (by decide) (by decide) (by decide) (by decide) (by decide) (by decide) (by decide)), fun a q1 q2 q3 q4 q5 q6 => (me_uo q1).trans (hV3.2.1.2 a q1 q2 q3 q4 q5 q6), _, _, _, _, _, _, _, _, hV3, fun a ha => me_uo ha, fun z hz => by cases hz⟩
    exact Or.inr ⟨rfl, hc⟩
  · obtain ⟨rfl, q3, cl3, hz3, hq3, hV3, hD3⟩ := hQ
    have k : nt_rn X _ 134 (34, [(0, .ref B)], [.int (Int32.ofInt 1)], me_w M J3) _ := k
    have k := ly_revb 1 (c' := (35, [(1, .int (Int32.ofInt 1)), (0, .ref B)], [], me_w M J3)) rfl k
    obtain ⟨r, a, J', cl9, cc9, e9, ⟨k9, hk9⟩, hf⟩ := mg_rdl hP hO hK hK2 hB hx 13 _ _ z3.2.2 _ _ _ _ (by decide) hV3 rfl hq3 k
    rw [show (lb_s f t q3, z3.2.1, z3.2.2) = z3 from by rw [hz3]] at hk9
    exact ⟨r, a, J', cl9, cc9, e9, ⟨_, cl3, 0 + 1, ⟨hc1, fun z hz => by cases hz; exact ⟨rfl, hD3⟩⟩, Or.inr ⟨z3, rfl, k9, hk9⟩⟩, hf⟩
end
section
/-! a rule, the other side, and what its rows hold -/
def mg_P0 (M : nt_M) (J : Nat → Nat → Int32) (f : Nat → Int32) (t B Tb Sg Ln : Nat) : Prop := (nt_R M B 0 = some Tb ∧ nt_R M B 3 = some Sg ∧ nt_R M B 4 = some Ln) ∧ (Tb ≠ B ∧ Tb ≠ Sg ∧ Tb ≠ Ln ∧ B ≠ Sg ∧ B ≠ Ln ∧ Sg ≠ Ln) ∧ J B 1 = nI t ∧ (∀ j, J Tb j = f j) ∧ t ≤ 400 ∧ nt_l M Sg = 2400 ∧ Sg ≠ nt_sp ∧ Ln ≠ nt_sp
theorem mg_rule {X : nt_X} {d t n B Tb Sg Ln Op Cl Cs : Nat} {f : Nat → Int32} {M : nt_M} {J : Nat → Nat → Int32} {o : Option Value × nt_M} (hP0 : mg_P0 M J f t B Tb Sg Ln) (hO : md_O M B Tb Sg Ln Op) (hK : md_K M B Tb Sg Ln Cl Cs) (hK2 : mg_K2 Op Cl Cs) (hB : lb_by f t) (hn : J B 2 = nI n) (h6 : n ≤ 6) (k : nt_ev X d 133 [.ref B] (me_w M J) o) : (n = 6 ∧ o = (some (.int (Int32.ofInt (-1))), me_w M J)) ∨ (n < 6 ∧ ∃ r J' cl' cc', mg_c3 f t n (lb_s f t 0, 0, ((0, fun _ => 0), (0, fun _ => 0))) r (J Cl) cl' cc' ∧ ((lb_rc r ≠ 0 ∧ o = (some (.int (Int32.ofInt (-2) - lb_rc r)), me_w M J') ∧ J' B 2 = nI n) ∨ (lb_rc r = 0 ∧ o = (some (.int (nI (n + 1) - Int32.ofInt 1)), me_w M J') ∧ J' B 2 = nI (n + 1))) ∧ J' B 1 = 0 ∧ (∀ a, a ≠ B → a ≠ Sg → a ≠ Ln → a ≠ Op → a ≠ Cl → a ≠ Cs → J' a = J a) ∧ ((∀ j, j < 400 * n → J' Sg j = J Sg j) ∧ (∀ j, j < 48 * n → J' Cl j = J Cl j) ∧ (∀ j, j ≠ n → J' Cs j = J Cs j) ∧ ∀ z, r = .inr z → (∀ j, j < z.2.2.2.1 → J' Sg (400 * n + j) = z.2.2.2.2 j) ∧ (∀ j, J' Cl j = cl' j) ∧ J' Cs n = nI cc' ∧ cc' ≤ 12)) := by
  have k : nt_rn X d 133 (0, [(0, .ref B)], [], me_w M J) o := k
  have k := ly_revb 1 (c' := (1, [(0, .ref B)], [.ref B], me_w M J)) rfl k
  have k := lz_get (a := B) (g := 1102) (M := me_w M J) (v := .int (nI n)) rfl (congrArg Value.int (hn)) k
  have k := ly_revb 2 (c' := (if (nI n) = (Int32.ofInt 6) then 9 else 11, [(0, .ref B)], [], me_w M J)) rfl k
  by_cases h6 : n = 6
  · rw [if_pos (show (nI n) = (Int32.ofInt 6) from show nI n = nI 6 from congrArg nI h6)] at k
    have k := ly_revb 1 (c' := (10, [(0, .ref B)], [.int (Int32.ofInt (-1))], me_w M J)) rfl k
    have k := lz_ri rfl (by decide) k
    exact Or.inl ⟨h6, k⟩
  · rw [if_neg (show ¬ ((nI n) = (Int32.ofInt 6)) from show ¬ nI n = nI 6 from me_ne h6 (by omega) (by omega))] at k
    have k := ly_revb 2 (c' := (13, [(0, .ref B)], [.ref B, .ref B], me_w M J)) rfl k
    have k := lz_get (a := B) (g := 1102) (M := me_w M J) (v := .int (nI n)) rfl (congrArg Value.int (hn)) k
    have k := me_put rfl (by decide) k
    have k : nt_rn X _ 133 (19, [(0, .ref B)], [], me_w M (nt_u J B 18 (nI n))) _ := k
    have k := ly_revb 1 (c' := (20, [(0, .ref B)], [.ref B], me_w M (nt_u J B 18 (nI n)))) rfl k
    have k := lz_get (a := B) (g := 1106) (M := me_w M (nt_u J B 18 (nI n))) (v := .ref Cs) rfl (nt_gfR rfl hK.2.1) k
    have k := ly_revb 1 (c' := (24, [(0, .ref B)], [.ref B, .ref Cs], me_w M (nt_u J B 18 (nI n)))) rfl k
    have k := lz_get (a := B) (g := 1118) (M := me_w M (nt_u J B 18 (nI n))) (v := .int (nI n)) rfl (congrArg Value.int (me_us)) k
    have k := ly_revb 1 (c' := (28, [(0, .ref B)], [.int (Int32.ofInt 0), .int (nI n), .ref Cs], me_w M (nt_u J B 18 (nI n)))) rfl k
    have k := me_iast (q := n) rfl (rfl) (by omega) k
    have k := ly_revb 1 (c' := (30, [(0, .ref B)], [.ref B], me_w M (nt_u (nt_u J B 18 (nI n)) Cs n (Int32.ofInt 0)))) rfl k
    obtain ⟨d1, o1, ed, kc, k⟩ := lz_c (g := 134) (q := 1) (vs := [.ref B]) (rest := []) rfl rfl (by decide) (Or.inr (Or.inl ⟨_, rfl, rfl⟩)) rfl k
    have hP : md_P M (nt_u (nt_u J B 18 (nI n)) Cs n (Int32.ofInt 0)) f t n B Tb Sg Ln := ⟨hP0.1, hP0.2.1, (me_uj (Ne.symm hK.2.2.2.1.1)).trans ((me_uk (by decide)).trans hP0.2.2.1), (me_uj (Ne.symm hK.2.2.2.1.1)).trans me_us, fun j => (me_uj (Ne.symm hK.2.2.2.1.2.1)).trans ((me_uj hP0.2.1.1).trans (hP0.2.2.2.1 j)), hP0.2.2.2.2.1, by omega, hP0.2.2.2.2.2⟩
    have eSg : (nt_u (nt_u J B 18 (nI n)) Cs n (Int32.ofInt 0)) Sg = J Sg := (me_uo (Ne.symm hK.2.2.2.1.2.2.1)).trans (me_uo (Ne.symm hP0.2.1.2.2.2.1))
    have eCl : (nt_u (nt_u J B 18 (nI n)) Cs n (Int32.ofInt 0)) Cl = J Cl := (me_uo hK2.2.2).trans (me_uo hK.2.2.1.1)
    have hG : (∀ j, j < 400 * n → (nt_u (nt_u J B 18 (nI n)) Cs n (Int32.ofInt 0)) Sg j = (fun j => if j < 10000 then J Sg j else if j < 20000 then J Cl (j - 10000) else J Cs (j - 20000)) j) ∧ (∀ j, j < 48 * n → (nt_u (nt_u J B 18 (nI n)) Cs n (Int32.ofInt 0)) Cl j = (fun j => if j < 10000 then J Sg j else if j < 20000 then J Cl (j - 10000) else J Cs (j - 20000)) (10000 + j)) ∧ (∀ j, j ≠ n → (nt_u (nt_u J B 18 (nI n)) Cs n (Int32.ofInt 0)) Cs j = (fun j => if j < 10000 then J Sg j else if j < 20000 then J Cl (j - 10000) else J Cs (j - 20000)) (20000 + j)) ∧ (nt_u (nt_u J B 18 (nI n)) Cs n (Int32.ofInt 0)) Cs n = nI 0 := by
      refine ⟨fun j hj => ?_, fun j hj => ?_, fun j hj => ?_, me_us⟩
      · rw [eSg]
        exact (if_pos (by omega)).symm
      · rw [eCl]
        refine Eq.symm ((if_neg (by omega)).trans ((if_pos (by omega)).trans ?_))
        rw [show 10000 + j - 10000 = j from by omega]
      · rw [me_uk hj, me_uo hK.2.2.2.1.1]
        refine Eq.symm ((if_neg (by omega)).trans ((if_neg (by omega)).trans ?_))
        rw [show 20000 + j - 20000 = j from by omega]
    obtain ⟨r, a, J', cl', cc', e1, hr, ha, w16, w1, w2, w18, fr, qv, wv, mv, ev, lv, clv, ccv, Jv, hV, hJv, hz⟩ := mg_reads (G := (fun j => if j < 10000 then J Sg j else if j < 20000 then J Cl (j - 10000) else J Cs (j - 20000))) hP hO hK hK2 hB (by omega) hG ⟨fun _ _ _ _ _ _ _ _ => rfl, fun _ _ _ _ _ _ _ => rfl⟩ kc
    subst e1
    rw [eCl] at hr
    have hX : ((∀ j, j < 400 * n → J' Sg j = J Sg j) ∧ (∀ j, j < 48 * n → J' Cl j = J Cl j) ∧ (∀ j, j ≠ n → J' Cs j = J Cs j) ∧ ∀ z, r = .inr z → (∀ j, j < z.2.2.2.1 → J' Sg (400 * n + j) = z.2.2.2.2 j) ∧ (∀ j, J' Cl j = cl' j) ∧ J' Cs n = nI cc' ∧ cc' ≤ 12) := by
      obtain ⟨⟨_, _, _, _, a5, _, _, a8, _⟩, _, _, _, u1, u2, u3, u4, u5⟩ := hV
      have jS : J' Sg = Jv Sg := hJv Sg (Ne.symm hP0.2.1.2.2.2.1)
      have jC : J' Cl = Jv Cl := hJv Cl hK.2.2.1.1
      have jD : J' Cs = Jv Cs := hJv Cs hK.2.2.2.1.1
      rw [jS, jC, jD]
      refine ⟨fun j hj => ?_, fun j hj => ?_, fun j hj => ?_, fun z e => ?_⟩
      · have q := a5 (2400 + j) (Or.inr ⟨by omega, by omega⟩)
        rw [show mg_a n (2400 + j) = j from (if_neg (by omega)).trans (by omega)] at q
        rw [q]
        refine (if_neg (by omega)).trans ?_
        rw [show 2400 + j - 2400 = j from by omega]
        exact if_pos (by omega)
      · rw [u1 j, u3 j hj]
        refine (if_neg (by omega)).trans ((if_pos (by omega)).trans ?_)
        rw [show 10000 + j - 10000 = j from by omega]
      · rw [u4 j hj]
        refine (if_neg (by omega)).trans ((if_neg (by omega)).trans ?_)
        rw [show 20000 + j - 20000 = j from by omega]
      · obtain ⟨e1, e2, e3⟩ := hz z e
        subst e1
        subst e2
        subst e3
        refine ⟨fun j hj => ?_, u1, u2, u5⟩
        have q := a5 j (Or.inl hj)
        rw [show mg_a n j = 400 * n + j from if_pos (by omega)] at q
        rw [q]
        exact if_pos (by omega)
    have w2 : J' B 2 = nI n := w2.trans ((me_uj (Ne.symm hK.2.2.2.1.1)).trans ((me_uk (by decide)).trans hn))
    have fr : ∀ a, a ≠ B → a ≠ Sg → a ≠ Ln → a ≠ Op → a ≠ Cl → a ≠ Cs → J' a = J a := fun a q1 q2 q3 q4 q5 q6 => (fr a q1 q2 q3 q4 q5 q6).trans ((me_uo q6).trans (me_uo q1))
    rcases ha with ⟨rfl, ha⟩ | ⟨rfl, ha⟩
    · have k : nt_rn X _ 133 (33, [(0, .ref B)], [.int (Int32.ofInt 1)], me_w M (J')) _ := k
      have k := ly_revb 1 (c' := (if (Int32.ofInt 1) = 0 then 36 else 44, [(0, .ref B)], [], me_w M (J'))) rfl k
      rw [if_neg (show ¬ ((Int32.ofInt 1) = 0) from by decide)] at k
      have k := ly_revb 2 (c' := (46, [(0, .ref B)], [.ref B, .ref B], me_w M (J'))) rfl k
      have k := lz_get (a := B) (g := 1102) (M := me_w M (J')) (v := .int (nI n)) rfl (congrArg Value.int (w2)) k
      have k := ly_revb 2 (c' := (51, [(0, .ref B)], [.int ((nI n) + (Int32.ofInt 1)), .ref B], me_w M (J'))) rfl k
      rw [show ((nI n) + (Int32.ofInt 1) : Int32) = nI (n + 1) from me_add (k := 1)] at k
      have k := me_put rfl (by decide) k
      have k : nt_rn X _ 133 (54, [(0, .ref B)], [], me_w M (nt_u (J') B 2 (nI (n + 1)))) _ := k
      have k := ly_revb 1 (c' := (55, [(0, .ref B)], [.ref B], me_w M (nt_u (J') B 2 (nI (n + 1))))) rfl k
      have k := lz_get (a := B) (g := 1102) (M := me_w M (nt_u (J') B 2 (nI (n + 1)))) (v := .int (nI (n + 1))) rfl (congrArg Value.int (me_us)) k
      have k := ly_revb 2 (c' := (60, [(0, .ref B)], [.int ((nI (n + 1)) - (Int32.ofInt 1))], me_w M (nt_u (J') B 2 (nI (n + 1))))) rfl k
      have k := lz_ri rfl (by decide) k
      refine Or.inr ⟨by omega, r, _, cl', cc', hr, Or.inr ⟨ha, k, me_us⟩, (me_uk (by decide)).trans w1, fun a q1 q2 q3 q4 q5 q6 => (me_uo q1).trans (fr a q1 q2 q3 q4 q5 q6), ?_⟩
      rw [me_uo (Ne.symm hP0.2.1.2.2.2.1), me_uo hK.2.2.1.1, me_uo hK.2.2.2.1.1]
      exact hX
    · have k : nt_rn X _ 133 (33, [(0, .ref B)], [.int (Int32.ofInt 0)], me_w M (J')) _ := k
      have k := ly_revb 1 (c' := (if (Int32.ofInt 0) = 0 then 36 else 44, [(0, .ref B)], [], me_w M (J'))) rfl k
      rw [if_pos (show (Int32.ofInt 0) = 0 from by decide)] at k
      have k := ly_revb 2 (c' := (39, [(0, .ref B)], [.ref B, .int (Int32.ofInt (-2))], me_w M (J'))) rfl k
      have k := lz_get (a := B) (g := 1116) (M := me_w M (J')) (v := .int (lb_rc r)) rfl (congrArg Value.int (w16)) k
      have k := ly_revb 1 (c' := (43, [(0, .ref B)], [.int ((Int32.ofInt (-2)) - (lb_rc r))], me_w M (J'))) rfl k
      have k := lz_ri rfl (by decide) k
      exact Or.inr ⟨by omega, r, J', cl', cc', hr, Or.inl ⟨ha, k, w2⟩, w1, fr, hX⟩
end
section
/-! memories with other longs; reading back with any index -/
def lw (M : nt_M) (L : Nat → Nat → Int64) : nt_M := (M.1, M.2.1, M.2.2.1, M.2.2.2.1, L, M.2.2.2.2.2)
def xs_T : List (Nat × Nat × Nat) := [(0, 0, 1), (1, 5, 2), (1, 6, 3), (1, 7, 4), (1, 8, 5), (1, 9, 6), (1, 10, 7), (1, 11, 8), (1, 12, 9), (0, 7, 10), (0, 8, 11), (0, 9, 12), (0, 10, 13), (0, 11, 14), (0, 12, 15), (0, 13, 16)]
def xs_U : List (Nat × Nat × Nat) := [(0, 3, 1), (0, 5, 2), (0, 6, 3), (0, 27, 4), (0, 24, 5), (0, 26, 6), (0, 28, 7), (0, 0, 8), (0, 4, 10), (0, 12, 11), (0, 13, 12), (0, 14, 13), (0, 29, 14), (0, 30, 15), (16, 0, 17), (16, 3, 23), (16, 5, 24), (16, 6, 28), (16, 7, 31), (16, 8, 48), (16, 9, 65), (24, 0, 25), (25, 0, 26), (25, 1, 27), (28, 2, 29), (28, 3, 30)]
def xs_Q (M : nt_M) (q : Nat → Nat) : Prop := (∀ t ∈ xs_T, nt_R M (q t.1) t.2.1 = some (q t.2.2)) ∧ (∀ i j, i < 17 → j < 17 → i ≠ j → q i ≠ q j) ∧ (∀ i, i < 17 → q i ≠ nt_sp) ∧ nt_k M (q 15) = 15
def xs_P (M : nt_M) (p : Nat → Nat) : Prop := (∀ t ∈ xs_U, nt_R M (p t.1) t.2.1 = some (p t.2.2)) ∧ (∀ i j, i < 66 → j < 66 → i ≠ j → p i ≠ p j) ∧ (∀ i, i < 66 → p i ≠ nt_sp) ∧ nt_l M (p 27) = 60
def xs_X (p q : Nat → Nat) : Prop := ∀ i j, i < 17 → j < 31 → q i ≠ p j
def xs_S (M : nt_M) (p : Nat → Nat) (ru sp ln : Nat) : Prop := nt_R M ru 0 = some sp ∧ (∀ i, i < 66 → sp ≠ p i) ∧ sp ≠ nt_sp ∧ nt_l M sp = ln
theorem xs_lq {M : nt_M} {q : Nat → Nat} {L : Nat → Nat → Int64} (h : xs_Q M q) : xs_Q (lw M L) q := h
theorem xs_lp {M : nt_M} {p : Nat → Nat} {L : Nat → Nat → Int64} (h : xs_P M p) : xs_P (lw M L) p := h
theorem mx_iald {X : nt_X} {d mi pc a g t : Nat} {ls : nt_V} {st : List Value} {M : nt_M} {J : Nat → Nat → Int32} {o : Option Value × nt_M} {i v : Int32} (hat : nt_at mi pc = some (pc, .iaload, g, t)) (ha : a ≠ nt_sp) (hv : J a i.toNatClampNeg = v) (k : nt_rn X d mi (pc, ls, .int i :: .ref a :: st, me_w M J) o) : nt_rn X d mi (pc + 1, ls, .int v :: st, me_w M J) o := by
  have k := lz_iald hat ha k
  have k : nt_rn X d mi (pc + 1, ls, .int (J a i.toNatClampNeg) :: st, me_w M J) o := k
  rw [hv] at k
  exact k
theorem mx_bald {X : nt_X} {d mi pc a g t : Nat} {ls : nt_V} {st : List Value} {M : nt_M} {J : Nat → Nat → Int32} {o : Option Value × nt_M} {i v : Int32} (hat : nt_at mi pc = some (pc, .baload, g, t)) (hv : J a i.toNatClampNeg = v) (k : nt_rn X d mi (pc, ls, .int i :: .ref a :: st, me_w M J) o) : nt_rn X d mi (pc + 1, ls, .int v :: st, me_w M J) o := by
  have k := lz_bald hat k
  have k : nt_rn X d mi (pc + 1, ls, .int (J a i.toNatClampNeg) :: st, me_w M J) o := k
  rw [hv] at k
  exact k
theorem mx_lald {X : nt_X} {d mi pc a g t : Nat} {ls : nt_V} {st : List Value} {M : nt_M} {J : Nat → Nat → Int32} {L : Nat → Nat → Int64} {o : Option Value × nt_M} {i : Int32} {v : Int64} (hat : nt_at mi pc = some (pc, .laload, g, t)) (hv : L a i.toNatClampNeg = v) (k : nt_rn X d mi (pc, ls, .int i :: .ref a :: st, me_w (lw M L) J) o) : nt_rn X d mi (pc + 1, ls, .long v :: st, me_w (lw M L) J) o := by
  obtain ⟨c', hs, k⟩ := lz_s hat rfl k
  have hs : nt_in (me_w (lw M L) J) a 14 i (some (pc + 1, ls, Value.long (L a i.toNatClampNeg) :: st, me_w (lw M L) J)) = some c' := hs
  have e := lz_in (y := none) hs
  cases e
  rw [hv] at k
  exact k
theorem mx_iast {X : nt_X} {d mi pc a g t q : Nat} {ls : nt_V} {st : List Value} {M : nt_M} {J : Nat → Nat → Int32} {o : Option Value × nt_M} {i x : Int32} (hat : nt_at mi pc = some (pc, .iastore, g, t)) (hi : i.toNatClampNeg = q) (k : nt_rn X d mi (pc, ls, .int x :: .int i :: .ref a :: st, me_w M J) o) : nt_rn X d mi (pc + 1, ls, st, me_w M (nt_u J a q x)) o := by
  have k := lz_iast hat k
  rw [hi] at k
  exact k
theorem mx_last {X : nt_X} {d mi pc a g t q : Nat} {ls : nt_V} {st : List Value} {M : nt_M} {J : Nat → Nat → Int32} {L : Nat → Nat → Int64} {o : Option Value × nt_M} {i : Int32} {x : Int64} (hat : nt_at mi pc = some (pc, .lastore, g, t)) (hi : i.toNatClampNeg = q) (k : nt_rn X d mi (pc, ls, .long x :: .int i :: .ref a :: st, me_w (lw M L) J) o) : nt_rn X d mi (pc + 1, ls, st, me_w (lw M (nt_u L a q x)) J) o := by
  obtain ⟨c', hs, k⟩ := lz_s hat rfl k
  have hs : nt_in (me_w (lw M L) J) a 14 i (some (pc + 1, ls, st, nt_sJ (me_w (lw M L) J) a i.toNatClampNeg x)) = some c' := hs
  have e := lz_in (y := none) hs
  cases e
  rw [hi] at k
  exact k
theorem mx_bast {X : nt_X} {d mi pc a g t q : Nat} {ls : nt_V} {st : List Value} {M : nt_M} {J : Nat → Nat → Int32} {o : Option Value × nt_M} {i x : Int32} (hat : nt_at mi pc = some (pc, .bastore, g, t)) (hk : nt_k M a = 15) (hi : i.toNatClampNeg = q) (k : nt_rn X d mi (pc, ls, .int x :: .int i :: .ref a :: st, me_w M J) o) : nt_rn X d mi (pc + 1, ls, st, me_w M (nt_u J a q (vp_nar .boolean x))) o := by
  obtain ⟨c', hs, k⟩ := lz_s hat rfl k
  have hs : (if nt_k M a = 15 then nt_in (me_w M J) a 15 i (some (pc + 1, ls, st, nt_sI (me_w M J) a i.toNatClampNeg (vp_nar .boolean x))) else nt_in (me_w M J) a 12 i (some (pc + 1, ls, st, nt_sI (me_w M J) a i.toNatClampNeg (vp_nar .byte x)))) = some c' := hs
  rw [if_pos hk] at hs
  have e := lz_in (y := none) hs
  cases e
  rw [hi] at k
  exact k
theorem mx_putl {X : nt_X} {d mi pc a g t i : Nat} {ls : nt_V} {st : List Value} {M : nt_M} {J : Nat → Nat → Int32} {L : Nat → Nat → Int64} {o : Option Value × nt_M} {x : Int64} (hat : nt_at mi pc = some (pc, .putfield i, g, t)) (ht : nt_tg (g / 100) (g % 100) = 1) (k : nt_rn X d mi (pc, ls, .long x :: .ref a :: st, me_w (lw M L) J) o) : nt_rn X d mi (pc + 3, ls, st, me_w (lw M (nt_u L a (g % 100) x)) J) o := by
  obtain ⟨c', hs, k⟩ := lz_s hat rfl k
  have hs : (if a < nt_n M ∧ nt_k M a = g / 100 ∧ g / 100 < 12 ∧ g % 100 < nt_N (g / 100) ∧ ((nt_T (g / 100) (g % 100)).2.2.2 = false ∨ (nt_m mi).2.2.2.2.2.2.1 = 2 ∧ (nt_m mi).2.2.2.2.1 = g / 100) then nt_pf (me_w (lw M L) J) a (g / 100) (g % 100) (.long x) (fun M' => some (pc + 3, ls, st, M')) else none) = some c' := hs
  obtain ⟨_, e⟩ := nt_if_some hs
  unfold nt_pf at e
  rw [ht] at e
  have e : some (pc + 3, ls, st, nt_sJ (me_w (lw M L) J) a (g % 100) x) = some c' := e
  cases e
  exact k
theorem mx_idiv {X : nt_X} {d mi pc g t : Nat} {ls : nt_V} {st : List Value} {M : nt_M} {o : Option Value × nt_M} {x y : Int32} (hat : nt_at mi pc = some (pc, .idiv, g, t)) (k : nt_rn X d mi (pc, ls, .int y :: .int x :: st, M) o) : y ≠ 0 ∧ nt_rn X d mi (pc + 1, ls, .int (x / y) :: st, M) o := by
  obtain ⟨c', hs, k⟩ := lz_s hat rfl k
  have hs : (if y = 0 then none else some (pc + 1, ls, Value.int (x / y) :: st, M)) = some c' := hs
  by_cases h : y = 0
  · rw [if_pos h] at hs
    cases hs
  · rw [if_neg h] at hs
    cases hs
    exact ⟨h, k⟩
theorem mx_irem {X : nt_X} {d mi pc g t : Nat} {ls : nt_V} {st : List Value} {M : nt_M} {o : Option Value × nt_M} {x y : Int32} (hat : nt_at mi pc = some (pc, .irem, g, t)) (k : nt_rn X d mi (pc, ls, .int y :: .int x :: st, M) o) : y ≠ 0 ∧ nt_rn X d mi (pc + 1, ls, .int (x - x / y * y) :: st, M) o := by
  obtain ⟨c', hs, k⟩ := lz_s hat rfl k
  have hs : (if y = 0 then none else some (pc + 1, ls, Value.int (x - x / y * y) :: st, M)) = some c' := hs
  by_cases h : y = 0
  · rw [if_pos h] at hs
    cases hs
  · rw [if_neg h] at hs
    cases hs
    exact ⟨h, k⟩
theorem mx_ldiv {X : nt_X} {d mi pc g t : Nat} {ls : nt_V} {st : List Value} {M : nt_M} {o : Option Value × nt_M} {x y : Int64} (hat : nt_at mi pc = some (pc, .ldiv, g, t)) (k : nt_rn X d mi (pc, ls, .long y :: .long x :: st, M) o) : y ≠ 0 ∧ nt_rn X d mi (pc + 1, ls, .long (x / y) :: st, M) o := by
  obtain ⟨c', hs, k⟩ := lz_s hat rfl k
  have hs : (if y = 0 then none else some (pc + 1, ls, Value.long (x / y) :: st, M)) = some c' := hs
  by_cases h : y = 0
  · rw [if_pos h] at hs
    cases hs
  · rw [if_neg h] at hs
    cases hs
    exact ⟨h, k⟩
theorem mx_lrem {X : nt_X} {d mi pc g t : Nat} {ls : nt_V} {st : List Value} {M : nt_M} {o : Option Value × nt_M} {x y : Int64} (hat : nt_at mi pc = some (pc, .lrem, g, t)) (k : nt_rn X d mi (pc, ls, .long y :: .long x :: st, M) o) : y ≠ 0 ∧ nt_rn X d mi (pc + 1, ls, .long (x - x / y * y) :: st, M) o := by
  obtain ⟨c', hs, k⟩ := lz_s hat rfl k
  have hs : (if y = 0 then none else some (pc + 1, ls, Value.long (x - x / y * y) :: st, M)) = some c' := hs
  by_cases h : y = 0
  · rw [if_pos h] at hs
    cases hs
  · rw [if_neg h] at hs
    cases hs
    exact ⟨h, k⟩
theorem mx_rl {X : nt_X} {d mi pc g t : Nat} {ls : nt_V} {x : Int64} {M : nt_M} {o : Option Value × nt_M} (hat : nt_at mi pc = some (pc, .lreturn, g, t)) (hm : (nt_m mi).2.2.2.1 = some .long) (k : nt_rn X d mi (pc, ls, [.long x], M) o) : o = (some (.long x), M) := by
  have h := lz_ret hat (Or.inr (Or.inl rfl)) k
  unfold nt_re at h
  rw [hm] at h
  have h : some (some (Value.long x), M) = some o := h
  cases h
  rfl
theorem mx_max {X : nt_X} {d mi pc i t : Nat} {ls : nt_V} {st : List Value} {M : nt_M} {o : Option Value × nt_M} {x y : Int32} (hat : nt_at mi pc = some (pc, .invokestatic i, 1002, t)) (k : nt_rn X d mi (pc, ls, .int y :: .int x :: st, M) o) : nt_rn X d mi (pc + 3, ls, .int (if x < y then y else x) :: st, M) o := by
  obtain ⟨c', hs, k⟩ := lz_n (g := 1002) hat rfl (by decide) (Or.inl ⟨_, rfl, rfl⟩) k
  have hs : (if 1 ≤ d ∧ nt_ct st ≤ 8 then some (pc + 3, ls, Value.int (if x < y then y else x) :: st, M) else none) = some c' := hs
  obtain ⟨_, e⟩ := nt_if_some hs
  cases e
  exact k
theorem mx_min {X : nt_X} {d mi pc i t : Nat} {ls : nt_V} {st : List Value} {M : nt_M} {o : Option Value × nt_M} {x y : Int32} (hat : nt_at mi pc = some (pc, .invokestatic i, 1003, t)) (k : nt_rn X d mi (pc, ls, .int y :: .int x :: st, M) o) : nt_rn X d mi (pc + 3, ls, .int (if y < x then y else x) :: st, M) o := by
  obtain ⟨c', hs, k⟩ := lz_n (g := 1003) hat rfl (by decide) (Or.inl ⟨_, rfl, rfl⟩) k
  have hs : (if 1 ≤ d ∧ nt_ct st ≤ 8 then some (pc + 3, ls, Value.int (if y < x then y else x) :: st, M) else none) = some c' := hs
  obtain ⟨_, e⟩ := nt_if_some hs
  cases e
  exact k
theorem mx_tsd {X : nt_X} {d mi pc g t q : Nat} {df lo hi : Int} {offs : Array Int} {ls : nt_V} {st : List Value} {M : nt_M} {o : Option Value × nt_M} {x : Int32} (hat : nt_at mi pc = some (pc, .tableswitch df lo hi offs, g, t)) (h : x.toInt < lo ∨ hi < x.toInt) (hq : ((pc : Int) + df) = q) (k : nt_rn X d mi (pc, ls, .int x :: st, M) o) : nt_rn X d mi (q, ls, st, M) o := by
  obtain ⟨c', hs, k⟩ := lz_s hat rfl k
  have hs : (if x.toInt < lo ∨ hi < x.toInt then nt_jp pc df fun q => some (q, ls, st, M) else (match offs[(x.toInt - lo).toNat]? with | some off => nt_jp pc off fun q => some (q, ls, st, M) | none => none)) = some c' := hs
  rw [if_pos h] at hs
  unfold nt_jp at hs
  rw [hq] at hs
  obtain ⟨_, e⟩ := nt_if_some hs
  cases e
  exact k
theorem mx_tsc {X : nt_X} {d mi pc g t q : Nat} {df lo hi off : Int} {offs : Array Int} {ls : nt_V} {st : List Value} {M : nt_M} {o : Option Value × nt_M} {x : Int32} (hat : nt_at mi pc = some (pc, .tableswitch df lo hi offs, g, t)) (h : ¬ (x.toInt < lo ∨ hi < x.toInt)) (ho : offs[(x.toInt - lo).toNat]? = some off) (hq : ((pc : Int) + off) = q) (k : nt_rn X d mi (pc, ls, .int x :: st, M) o) : nt_rn X d mi (q, ls, st, M) o := by
  obtain ⟨c', hs, k⟩ := lz_s hat rfl k
  have hs : (if x.toInt < lo ∨ hi < x.toInt then nt_jp pc df fun q => some (q, ls, st, M) else (match offs[(x.toInt - lo).toNat]? with | some off => nt_jp pc off fun q => some (q, ls, st, M) | none => none)) = some c' := hs
  rw [if_neg h, ho] at hs
  have hs : (nt_jp pc off fun q => some (q, ls, st, M)) = some c' := hs
  unfold nt_jp at hs
  rw [hq] at hs
  obtain ⟨_, e⟩ := nt_if_some hs
  cases e
  exact k
theorem mu_s {α : Type} {J : Nat → Nat → α} {a k : Nat} {v : α} : nt_u J a k v a k = v := by
  show (if a = a then (if k = k then v else J a k) else J a k) = v
  rw [if_pos rfl, if_pos rfl]
theorem mu_k {α : Type} {J : Nat → Nat → α} {a k j : Nat} {v : α} (h : j ≠ k) : nt_u J a k v a j = J a j := by
  show (if a = a then (if j = k then v else J a j) else J a j) = _
  rw [if_pos rfl, if_neg h]
theorem mu_o {α : Type} {J : Nat → Nat → α} {a b k : Nat} {v : α} (h : b ≠ a) : nt_u J a k v b = J b := by
  funext j
  show (if b = a then (if j = k then v else J b j) else J b j) = _
  rw [if_neg h]
theorem mu_j {α : Type} {J : Nat → Nat → α} {a b k j : Nat} {v : α} (h : b ≠ a) : nt_u J a k v b j = J b j := by rw [mu_o h]
theorem lx_bg2 {b i : Int32} : b.toInt - i.toInt ≤ ((b.toInt - i.toInt).toNat : Nat) := by omega
theorem lx_end {b i : Int32} (h : b.toInt - i.toInt ≤ (0 : Nat)) : b ≤ i := Int32.le_iff_toInt_le.mpr (by omega)
theorem lx_inc {b i : Int32} (h : ¬ b ≤ i) : (i + Int32.ofInt 1).toInt = i.toInt + 1 := by
  have h : ¬ b.toInt ≤ i.toInt := fun c => h (Int32.le_iff_toInt_le.mpr c)
  have l1 := i.le_toInt
  have l2 := b.toInt_lt
  rw [Int32.toInt_add, show (Int32.ofInt 1).toInt = 1 from by decide, Int.bmod_eq_of_le (by omega) (by omega)]
theorem lx_dec {b i : Int32} {c : Nat} (h : ¬ b ≤ i) (hc : b.toInt - i.toInt ≤ (c + 1 : Nat)) : b.toInt - (i + Int32.ofInt 1).toInt ≤ c := by
  rw [lx_inc h]
  omega
theorem lx_beg {b i : Int32} (h : 0 ≤ i) : b.toInt - i.toInt ≤ b.toNatClampNeg := by
  have h : (0 : Int32).toInt ≤ i.toInt := Int32.le_iff_toInt_le.mp h
  rw [show (0 : Int32).toInt = 0 from by decide] at h
  have : (b.toNatClampNeg : Int) = max b.toInt 0 := by
    rw [Int32.toNatClampNeg]
    exact Int.toNat_eq_max _
  omega
/-! $State.hasShip -/
def x65 (q : Nat → Nat) (v1 : Int32) (J : Nat → Nat → Int32) : Int32 := if v1 < 0 then (Int32.ofInt 0)
  else if (J (q 1) 1) ≤ v1 then (Int32.ofInt 0)
    else (Int32.ofInt 1)
theorem xt65 {X : nt_X} {d : Nat} {M : nt_M} {o : Option Value × nt_M} {q : Nat → Nat} {v1 : Int32} {J : Nat → Nat → Int32} (hq : xs_Q M q) (k : nt_ev X d 65 [.ref (q 0), .int v1] (me_w M J) o) : o = (some (.int (x65 q v1 J)), me_w M J) := by
  have k : nt_rn X d 65 (0, [(0, .ref (q 0)), (1, .int v1)], [], me_w M J) o := k
  have k := ly_revb 2 (c' := (if v1 < 0 then 19 else 4, [(0, .ref (q 0)), (1, .int v1)], [], me_w M J)) rfl k
  by_cases h1 : v1 < 0
  · rw [if_pos h1] at k
    have k := ly_revb 1 (c' := (20, [(0, .ref (q 0)), (1, .int v1)], [.int (Int32.ofInt 0)], me_w M J)) rfl k
    have k := lz_ri rfl (by decide) k
    rw [k, x65, if_pos h1]
  · rw [if_neg h1] at k
    have k := ly_revb 2 (c' := (6, [(0, .ref (q 0)), (1, .int v1)], [.ref (q 0), .int v1], me_w M J)) rfl k
    have k := lz_get (a := (q 0)) (g := 600) (M := me_w M J) (v := .ref (q 1)) rfl (nt_gfR rfl (hq.1 (0, 0, 1) (by decide))) k
    have k := lz_get (a := (q 1)) (g := 801) (M := me_w M J) (v := .int (J (q 1) 1)) rfl (congrArg Value.int (rfl)) k
    have k := ly_revb 1 (c' := (if (J (q 1) 1) ≤ v1 then 19 else 15, [(0, .ref (q 0)), (1, .int v1)], [], me_w M J)) rfl k
    by_cases h12 : (J (q 1) 1) ≤ v1
    · rw [if_pos h12] at k
      have k := ly_revb 1 (c' := (20, [(0, .ref (q 0)), (1, .int v1)], [.int (Int32.ofInt 0)], me_w M J)) rfl k
      have k := lz_ri rfl (by decide) k
      rw [k, x65, if_neg h1, if_pos h12]
    · rw [if_neg h12] at k
      have k := ly_revb 2 (c' := (20, [(0, .ref (q 0)), (1, .int v1)], [.int (Int32.ofInt 1)], me_w M J)) rfl k
      have k := lz_ri rfl (by decide) k
      rw [k, x65, if_neg h1, if_neg h12]
/-! $State.hasKind -/
/-! $State.hasPlank -/
def x70 (q : Nat → Nat) (v1 : Int32) (J : Nat → Nat → Int32) : Int32 := if v1 < 0 then (Int32.ofInt 0)
  else if (J (q 1) 2) ≤ v1 then (Int32.ofInt 0)
    else (Int32.ofInt 1)
theorem xt70 {X : nt_X} {d : Nat} {M : nt_M} {o : Option Value × nt_M} {q : Nat → Nat} {v1 : Int32} {J : Nat → Nat → Int32} (hq : xs_Q M q) (k : nt_ev X d 70 [.ref (q 0), .int v1] (me_w M J) o) : o = (some (.int (x70 q v1 J)), me_w M J) := by
  have k : nt_rn X d 70 (0, [(0, .ref (q 0)), (1, .int v1)], [], me_w M J) o := k
  have k := ly_revb 2 (c' := (if v1 < 0 then 19 else 4, [(0, .ref (q 0)), (1, .int v1)], [], me_w M J)) rfl k
  by_cases h1 : v1 < 0
  · rw [if_pos h1] at k
    have k := ly_revb 1 (c' := (20, [(0, .ref (q 0)), (1, .int v1)], [.int (Int32.ofInt 0)], me_w M J)) rfl k
    have k := lz_ri rfl (by decide) k
    rw [k, x70, if_pos h1]
  · rw [if_neg h1] at k
    have k := ly_revb 2 (c' := (6, [(0, .ref (q 0)), (1, .int v1)], [.ref (q 0), .int v1], me_w M J)) rfl k
    have k := lz_get (a := (q 0)) (g := 600) (M := me_w M J) (v := .ref (q 1)) rfl (nt_gfR rfl (hq.1 (0, 0, 1) (by decide))) k
    have k := lz_get (a := (q 1)) (g := 802) (M := me_w M J) (v := .int (J (q 1) 2)) rfl (congrArg Value.int (rfl)) k
    have k := ly_revb 1 (c' := (if (J (q 1) 2) ≤ v1 then 19 else 15, [(0, .ref (q 0)), (1, .int v1)], [], me_w M J)) rfl k
    by_cases h12 : (J (q 1) 2) ≤ v1
    · rw [if_pos h12] at k
      have k := ly_revb 1 (c' := (20, [(0, .ref (q 0)), (1, .int v1)], [.int (Int32.ofInt 0)], me_w M J)) rfl k
      have k := lz_ri rfl (by decide) k
      rw [k, x70, if_neg h1, if_pos h12]
    · rw [if_neg h12] at k
      have k := ly_revb 2 (c' := (20, [(0, .ref (q 0)), (1, .int v1)], [.int (Int32.ofInt 1)], me_w M J)) rfl k
      have k := lz_ri rfl (by decide) k
      rw [k, x70, if_neg h1, if_neg h12]
/-! $State.hasVoyage -/
def x71 (q : Nat → Nat) (v1 : Int32) (J : Nat → Nat → Int32) : Int32 := if v1 < 0 then (Int32.ofInt 0)
  else if (J (q 1) 3) ≤ v1 then (Int32.ofInt 0)
    else (Int32.ofInt 1)
theorem xt71 {X : nt_X} {d : Nat} {M : nt_M} {o : Option Value × nt_M} {q : Nat → Nat} {v1 : Int32} {J : Nat → Nat → Int32} (hq : xs_Q M q) (k : nt_ev X d 71 [.ref (q 0), .int v1] (me_w M J) o) : o = (some (.int (x71 q v1 J)), me_w M J) := by
  have k : nt_rn X d 71 (0, [(0, .ref (q 0)), (1, .int v1)], [], me_w M J) o := k
  have k := ly_revb 2 (c' := (if v1 < 0 then 19 else 4, [(0, .ref (q 0)), (1, .int v1)], [], me_w M J)) rfl k
  by_cases h1 : v1 < 0
  · rw [if_pos h1] at k
    have k := ly_revb 1 (c' := (20, [(0, .ref (q 0)), (1, .int v1)], [.int (Int32.ofInt 0)], me_w M J)) rfl k
    have k := lz_ri rfl (by decide) k
    rw [k, x71, if_pos h1]
  · rw [if_neg h1] at k
    have k := ly_revb 2 (c' := (6, [(0, .ref (q 0)), (1, .int v1)], [.ref (q 0), .int v1], me_w M J)) rfl k
    have k := lz_get (a := (q 0)) (g := 600) (M := me_w M J) (v := .ref (q 1)) rfl (nt_gfR rfl (hq.1 (0, 0, 1) (by decide))) k
    have k := lz_get (a := (q 1)) (g := 803) (M := me_w M J) (v := .int (J (q 1) 3)) rfl (congrArg Value.int (rfl)) k
    have k := ly_revb 1 (c' := (if (J (q 1) 3) ≤ v1 then 19 else 15, [(0, .ref (q 0)), (1, .int v1)], [], me_w M J)) rfl k
    by_cases h12 : (J (q 1) 3) ≤ v1
    · rw [if_pos h12] at k
      have k := ly_revb 1 (c' := (20, [(0, .ref (q 0)), (1, .int v1)], [.int (Int32.ofInt 0)], me_w M J)) rfl k
      have k := lz_ri rfl (by decide) k
      rw [k, x71, if_neg h1, if_pos h12]
    · rw [if_neg h12] at k
      have k := ly_revb 2 (c' := (20, [(0, .ref (q 0)), (1, .int v1)], [.int (Int32.ofInt 1)], me_w M J)) rfl k
      have k := lz_ri rfl (by decide) k
      rw [k, x71, if_neg h1, if_neg h12]
/-! $State.handsLeft -/
def x72 (q : Nat → Nat) (J : Nat → Nat → Int32) : Int32 := if (J (q 0) 1) = 0 then (Int32.ofInt 0)
  else ((J (q 1) 4) - (J (q 0) 3))
theorem xt72 {X : nt_X} {d : Nat} {M : nt_M} {o : Option Value × nt_M} {q : Nat → Nat} {J : Nat → Nat → Int32} (hq : xs_Q M q) (k : nt_ev X d 72 [.ref (q 0)] (me_w M J) o) : o = (some (.int (x72 q J)), me_w M J) := by
  have k : nt_rn X d 72 (0, [(0, .ref (q 0))], [], me_w M J) o := k
  have k := ly_revb 1 (c' := (1, [(0, .ref (q 0))], [.ref (q 0)], me_w M J)) rfl k
  have k := lz_get (a := (q 0)) (g := 601) (M := me_w M J) (v := .int (J (q 0) 1)) rfl (congrArg Value.int (rfl)) k
  have k := ly_revb 1 (c' := (if (J (q 0) 1) = 0 then 22 else 7, [(0, .ref (q 0))], [], me_w M J)) rfl k
  by_cases h4 : (J (q 0) 1) = 0
  · rw [if_pos h4] at k
    have k := ly_revb 1 (c' := (23, [(0, .ref (q 0))], [.int (Int32.ofInt 0)], me_w M J)) rfl k
    have k := lz_ri rfl (by decide) k
    rw [k, x72, if_pos h4]
  · rw [if_neg h4] at k
    have k := ly_revb 1 (c' := (8, [(0, .ref (q 0))], [.ref (q 0)], me_w M J)) rfl k
    have k := lz_get (a := (q 0)) (g := 600) (M := me_w M J) (v := .ref (q 1)) rfl (nt_gfR rfl (hq.1 (0, 0, 1) (by decide))) k
    have k := lz_get (a := (q 1)) (g := 804) (M := me_w M J) (v := .int (J (q 1) 4)) rfl (congrArg Value.int (rfl)) k
    have k := ly_revb 1 (c' := (15, [(0, .ref (q 0))], [.ref (q 0), .int (J (q 1) 4)], me_w M J)) rfl k
    have k := lz_get (a := (q 0)) (g := 603) (M := me_w M J) (v := .int (J (q 0) 3)) rfl (congrArg Value.int (rfl)) k
    have k := ly_revb 2 (c' := (23, [(0, .ref (q 0))], [.int ((J (q 1) 4) - (J (q 0) 3))], me_w M J)) rfl k
    have k := lz_ri rfl (by decide) k
    rw [k, x72, if_neg h4]
/-! $State.soundIn -/
def x66_4 (q : Nat → Nat) (v1 : Int32) (J : Nat → Nat → Int32) : Nat → Int32 → Int32 → Int32
  | 0, v2, v3 => v2
  | c + 1, v2, v3 => if (J (q 1) 2) ≤ v3 then v2
    else if (J (q 14) v3.toNatClampNeg) = v1 then if (J (q 13) v3.toNatClampNeg) ≤ 0 then (x66_4 q v1 J c v2 (v3 + (Int32.ofInt 1)))
        else (x66_4 q v1 J c (v2 + (Int32.ofInt 1)) (v3 + (Int32.ofInt 1)))
      else (x66_4 q v1 J c v2 (v3 + (Int32.ofInt 1)))
theorem xt66_4 {X : nt_X} {d : Nat} {M : nt_M} {o : Option Value × nt_M} {q : Nat → Nat} {v1 : Int32} {J : Nat → Nat → Int32} (hq : xs_Q M q) : ∀ (c : Nat) (v2 : Int32) (v3 : Int32), (J (q 1) 2).toInt - v3.toInt ≤ c → nt_rn X d 66 (4, [(0, .ref (q 0)), (1, .int v1), (2, .int v2), (3, .int v3)], [], me_w M J) o → o = (some (.int (x66_4 q v1 J c v2 v3)), me_w M J) := by
  intro c
  induction c with
  | zero =>
    intro v2 v3 hc k
    have k := ly_revb 2 (c' := (6, [(0, .ref (q 0)), (1, .int v1), (2, .int v2), (3, .int v3)], [.ref (q 0), .int v3], me_w M J)) rfl k
    have k := lz_get (a := (q 0)) (g := 600) (M := me_w M J) (v := .ref (q 1)) rfl (nt_gfR rfl (hq.1 (0, 0, 1) (by decide))) k
    have k := lz_get (a := (q 1)) (g := 802) (M := me_w M J) (v := .int (J (q 1) 2)) rfl (congrArg Value.int (rfl)) k
    have k := ly_revb 1 (c' := (if (J (q 1) 2) ≤ v3 then 43 else 15, [(0, .ref (q 0)), (1, .int v1), (2, .int v2), (3, .int v3)], [], me_w M J)) rfl k
    have h12 : (J (q 1) 2) ≤ v3 := lx_end hc
    rw [if_pos h12] at k
    have k := ly_revb 1 (c' := (44, [(0, .ref (q 0)), (1, .int v1), (2, .int v2), (3, .int v3)], [.int v2], me_w M J)) rfl k
    have k := lz_ri rfl (by decide) k
    rw [k, x66_4]
  | succ c ih =>
    intro v2 v3 hc k
    have k := ly_revb 2 (c' := (6, [(0, .ref (q 0)), (1, .int v1), (2, .int v2), (3, .int v3)], [.ref (q 0), .int v3], me_w M J)) rfl k
    have k := lz_get (a := (q 0)) (g := 600) (M := me_w M J) (v := .ref (q 1)) rfl (nt_gfR rfl (hq.1 (0, 0, 1) (by decide))) k
    have k := lz_get (a := (q 1)) (g := 802) (M := me_w M J) (v := .int (J (q 1) 2)) rfl (congrArg Value.int (rfl)) k
    have k := ly_revb 1 (c' := (if (J (q 1) 2) ≤ v3 then 43 else 15, [(0, .ref (q 0)), (1, .int v1), (2, .int v2), (3, .int v3)], [], me_w M J)) rfl k
    by_cases h12 : (J (q 1) 2) ≤ v3
    · rw [if_pos h12] at k
      have k := ly_revb 1 (c' := (44, [(0, .ref (q 0)), (1, .int v1), (2, .int v2), (3, .int v3)], [.int v2], me_w M J)) rfl k
      have k := lz_ri rfl (by decide) k
      rw [k, x66_4, if_pos h12]
    · rw [if_neg h12] at k
      have k := ly_revb 1 (c' := (16, [(0, .ref (q 0)), (1, .int v1), (2, .int v2), (3, .int v3)], [.ref (q 0)], me_w M J)) rfl k
      have k := lz_get (a := (q 0)) (g := 611) (M := me_w M J) (v := .ref (q 14)) rfl (nt_gfR rfl (hq.1 (0, 11, 14) (by decide))) k
      have k := ly_revb 1 (c' := (20, [(0, .ref (q 0)), (1, .int v1), (2, .int v2), (3, .int v3)], [.int v3, .ref (q 14)], me_w M J)) rfl k
      have k := mx_iald (v := J (q 14) v3.toNatClampNeg) rfl (hq.2.2.1 14 (by omega)) (rfl) k
      have k := ly_revb 2 (c' := (if (J (q 14) v3.toNatClampNeg) = v1 then 25 else 37, [(0, .ref (q 0)), (1, .int v1), (2, .int v2), (3, .int v3)], [], me_w M J)) rfl k
      by_cases h22 : (J (q 14) v3.toNatClampNeg) = v1
      · rw [if_pos h22] at k
        have k := ly_revb 1 (c' := (26, [(0, .ref (q 0)), (1, .int v1), (2, .int v2), (3, .int v3)], [.ref (q 0)], me_w M J)) rfl k
        have k := lz_get (a := (q 0)) (g := 610) (M := me_w M J) (v := .ref (q 13)) rfl (nt_gfR rfl (hq.1 (0, 10, 13) (by decide))) k
        have k := ly_revb 1 (c' := (30, [(0, .ref (q 0)), (1, .int v1), (2, .int v2), (3, .int v3)], [.int v3, .ref (q 13)], me_w M J)) rfl k
        have k := mx_iald (v := J (q 13) v3.toNatClampNeg) rfl (hq.2.2.1 13 (by omega)) (rfl) k
        have k := ly_revb 1 (c' := (if (J (q 13) v3.toNatClampNeg) ≤ 0 then 37 else 34, [(0, .ref (q 0)), (1, .int v1), (2, .int v2), (3, .int v3)], [], me_w M J)) rfl k
        by_cases h31 : (J (q 13) v3.toNatClampNeg) ≤ 0
        · rw [if_pos h31] at k
          have k := ly_revb 2 (c' := (4, [(3, .int (v3 + (Int32.ofInt 1))), (0, .ref (q 0)), (1, .int v1), (2, .int v2)], [], me_w M J)) rfl k
          have k := nt_rn_w (a := [(3, .int (v3 + (Int32.ofInt 1))), (0, .ref (q 0)), (1, .int v1), (2, .int v2)]) (b := [(0, .ref (q 0)), (1, .int v1), (2, .int v2), (3, .int (v3 + (Int32.ofInt 1)))]) ⟨rfl, rfl, rfl, rfl, trivial⟩ rfl k
          have k := ih v2 (v3 + (Int32.ofInt 1)) (lx_dec h12 hc) k
          rw [k, x66_4, if_neg h12, if_pos h22, if_pos h31]
        · rw [if_neg h31] at k
          have k := ly_revb 3 (c' := (4, [(3, .int (v3 + (Int32.ofInt 1))), (2, .int (v2 + (Int32.ofInt 1))), (0, .ref (q 0)), (1, .int v1)], [], me_w M J)) rfl k
          have k := nt_rn_w (a := [(3, .int (v3 + (Int32.ofInt 1))), (2, .int (v2 + (Int32.ofInt 1))), (0, .ref (q 0)), (1, .int v1)]) (b := [(0, .ref (q 0)), (1, .int v1), (2, .int (v2 + (Int32.ofInt 1))), (3, .int (v3 + (Int32.ofInt 1)))]) ⟨rfl, rfl, rfl, rfl, trivial⟩ rfl k
          have k := ih (v2 + (Int32.ofInt 1)) (v3 + (Int32.ofInt 1)) (lx_dec h12 hc) k
          rw [k, x66_4, if_neg h12, if_pos h22, if_neg h31]
      · rw [if_neg h22] at k
        have k := ly_revb 2 (c' := (4, [(3, .int (v3 + (Int32.ofInt 1))), (0, .ref (q 0)), (1, .int v1), (2, .int v2)], [], me_w M J)) rfl k
        have k := nt_rn_w (a := [(3, .int (v3 + (Int32.ofInt 1))), (0, .ref (q 0)), (1, .int v1), (2, .int v2)]) (b := [(0, .ref (q 0)), (1, .int v1), (2, .int v2), (3, .int (v3 + (Int32.ofInt 1)))]) ⟨rfl, rfl, rfl, rfl, trivial⟩ rfl k
        have k := ih v2 (v3 + (Int32.ofInt 1)) (lx_dec h12 hc) k
        rw [k, x66_4, if_neg h12, if_neg h22]
def x66 (q : Nat → Nat) (v1 : Int32) (J : Nat → Nat → Int32) : Int32 := (x66_4 q v1 J ((J (q 1) 2).toNatClampNeg) (Int32.ofInt 0) (Int32.ofInt 0))
theorem xt66 {X : nt_X} {d : Nat} {M : nt_M} {o : Option Value × nt_M} {q : Nat → Nat} {v1 : Int32} {J : Nat → Nat → Int32} (hq : xs_Q M q) (k : nt_ev X d 66 [.ref (q 0), .int v1] (me_w M J) o) : o = (some (.int (x66 q v1 J)), me_w M J) := by
  have k : nt_rn X d 66 (0, [(0, .ref (q 0)), (1, .int v1)], [], me_w M J) o := k
  have k := ly_revb 4 (c' := (4, [(3, .int (Int32.ofInt 0)), (2, .int (Int32.ofInt 0)), (0, .ref (q 0)), (1, .int v1)], [], me_w M J)) rfl k
  have k := nt_rn_w (a := [(3, .int (Int32.ofInt 0)), (2, .int (Int32.ofInt 0)), (0, .ref (q 0)), (1, .int v1)]) (b := [(0, .ref (q 0)), (1, .int v1), (2, .int (Int32.ofInt 0)), (3, .int (Int32.ofInt 0))]) ⟨rfl, rfl, rfl, rfl, trivial⟩ rfl k
  have k := xt66_4 hq  ((J (q 1) 2).toNatClampNeg) (Int32.ofInt 0) (Int32.ofInt 0) (lx_beg (by decide)) k
  rw [k, x66]
/-! $State.soundOwnedIn -/
def x75_5 (q : Nat → Nat) (v1 : Int32) (v2 : Int32) (J : Nat → Nat → Int32) : Nat → Int32 → Int32 → Int32
  | 0, v3, v4 => v3
  | c + 1, v3, v4 => if (J (q 1) 2) ≤ v4 then v3
    else if (J (q 14) v4.toNatClampNeg) = v1 then if (J (q 13) v4.toNatClampNeg) ≤ 0 then (x75_5 q v1 v2 J c v3 (v4 + (Int32.ofInt 1)))
        else if (J (q 5) v4.toNatClampNeg) = v2 then (x75_5 q v1 v2 J c (v3 + (Int32.ofInt 1)) (v4 + (Int32.ofInt 1)))
          else (x75_5 q v1 v2 J c v3 (v4 + (Int32.ofInt 1)))
      else (x75_5 q v1 v2 J c v3 (v4 + (Int32.ofInt 1)))
theorem xt75_5 {X : nt_X} {d : Nat} {M : nt_M} {o : Option Value × nt_M} {q : Nat → Nat} {v1 : Int32} {v2 : Int32} {J : Nat → Nat → Int32} (hq : xs_Q M q) : ∀ (c : Nat) (v3 : Int32) (v4 : Int32), (J (q 1) 2).toInt - v4.toInt ≤ c → nt_rn X d 75 (5, [(0, .ref (q 0)), (1, .int v1), (2, .int v2), (3, .int v3), (4, .int v4)], [], me_w M J) o → o = (some (.int (x75_5 q v1 v2 J c v3 v4)), me_w M J) := by
  intro c
  induction c with
  | zero =>
    intro v3 v4 hc k
    have k := ly_revb 2 (c' := (8, [(0, .ref (q 0)), (1, .int v1), (2, .int v2), (3, .int v3), (4, .int v4)], [.ref (q 0), .int v4], me_w M J)) rfl k
    have k := lz_get (a := (q 0)) (g := 600) (M := me_w M J) (v := .ref (q 1)) rfl (nt_gfR rfl (hq.1 (0, 0, 1) (by decide))) k
    have k := lz_get (a := (q 1)) (g := 802) (M := me_w M J) (v := .int (J (q 1) 2)) rfl (congrArg Value.int (rfl)) k
    have k := ly_revb 1 (c' := (if (J (q 1) 2) ≤ v4 then 61 else 17, [(0, .ref (q 0)), (1, .int v1), (2, .int v2), (3, .int v3), (4, .int v4)], [], me_w M J)) rfl k
    have h14 : (J (q 1) 2) ≤ v4 := lx_end hc
    rw [if_pos h14] at k
    have k := ly_revb 1 (c' := (62, [(0, .ref (q 0)), (1, .int v1), (2, .int v2), (3, .int v3), (4, .int v4)], [.int v3], me_w M J)) rfl k
    have k := lz_ri rfl (by decide) k
    rw [k, x75_5]
  | succ c ih =>
    intro v3 v4 hc k
    have k := ly_revb 2 (c' := (8, [(0, .ref (q 0)), (1, .int v1), (2, .int v2), (3, .int v3), (4, .int v4)], [.ref (q 0), .int v4], me_w M J)) rfl k
    have k := lz_get (a := (q 0)) (g := 600) (M := me_w M J) (v := .ref (q 1)) rfl (nt_gfR rfl (hq.1 (0, 0, 1) (by decide))) k
    have k := lz_get (a := (q 1)) (g := 802) (M := me_w M J) (v := .int (J (q 1) 2)) rfl (congrArg Value.int (rfl)) k
    have k := ly_revb 1 (c' := (if (J (q 1) 2) ≤ v4 then 61 else 17, [(0, .ref (q 0)), (1, .int v1), (2, .int v2), (3, .int v3), (4, .int v4)], [], me_w M J)) rfl k
    by_cases h14 : (J (q 1) 2) ≤ v4
    · rw [if_pos h14] at k
      have k := ly_revb 1 (c' := (62, [(0, .ref (q 0)), (1, .int v1), (2, .int v2), (3, .int v3), (4, .int v4)], [.int v3], me_w M J)) rfl k
      have k := lz_ri rfl (by decide) k
      rw [k, x75_5, if_pos h14]
    · rw [if_neg h14] at k
      have k := ly_revb 1 (c' := (18, [(0, .ref (q 0)), (1, .int v1), (2, .int v2), (3, .int v3), (4, .int v4)], [.ref (q 0)], me_w M J)) rfl k
      have k := lz_get (a := (q 0)) (g := 611) (M := me_w M J) (v := .ref (q 14)) rfl (nt_gfR rfl (hq.1 (0, 11, 14) (by decide))) k
      have k := ly_revb 1 (c' := (23, [(0, .ref (q 0)), (1, .int v1), (2, .int v2), (3, .int v3), (4, .int v4)], [.int v4, .ref (q 14)], me_w M J)) rfl k
      have k := mx_iald (v := J (q 14) v4.toNatClampNeg) rfl (hq.2.2.1 14 (by omega)) (rfl) k
      have k := ly_revb 2 (c' := (if (J (q 14) v4.toNatClampNeg) = v1 then 28 else 55, [(0, .ref (q 0)), (1, .int v1), (2, .int v2), (3, .int v3), (4, .int v4)], [], me_w M J)) rfl k
      by_cases h25 : (J (q 14) v4.toNatClampNeg) = v1
      · rw [if_pos h25] at k
        have k := ly_revb 1 (c' := (29, [(0, .ref (q 0)), (1, .int v1), (2, .int v2), (3, .int v3), (4, .int v4)], [.ref (q 0)], me_w M J)) rfl k
        have k := lz_get (a := (q 0)) (g := 610) (M := me_w M J) (v := .ref (q 13)) rfl (nt_gfR rfl (hq.1 (0, 10, 13) (by decide))) k
        have k := ly_revb 1 (c' := (34, [(0, .ref (q 0)), (1, .int v1), (2, .int v2), (3, .int v3), (4, .int v4)], [.int v4, .ref (q 13)], me_w M J)) rfl k
        have k := mx_iald (v := J (q 13) v4.toNatClampNeg) rfl (hq.2.2.1 13 (by omega)) (rfl) k
        have k := ly_revb 1 (c' := (if (J (q 13) v4.toNatClampNeg) ≤ 0 then 55 else 38, [(0, .ref (q 0)), (1, .int v1), (2, .int v2), (3, .int v3), (4, .int v4)], [], me_w M J)) rfl k
        by_cases h35 : (J (q 13) v4.toNatClampNeg) ≤ 0
        · rw [if_pos h35] at k
          have k := ly_revb 2 (c' := (5, [(4, .int (v4 + (Int32.ofInt 1))), (0, .ref (q 0)), (1, .int v1), (2, .int v2), (3, .int v3)], [], me_w M J)) rfl k
          have k := nt_rn_w (a := [(4, .int (v4 + (Int32.ofInt 1))), (0, .ref (q 0)), (1, .int v1), (2, .int v2), (3, .int v3)]) (b := [(0, .ref (q 0)), (1, .int v1), (2, .int v2), (3, .int v3), (4, .int (v4 + (Int32.ofInt 1)))]) ⟨rfl, rfl, rfl, rfl, rfl, trivial⟩ rfl k
          have k := ih v3 (v4 + (Int32.ofInt 1)) (lx_dec h14 hc) k
          rw [k, x75_5, if_neg h14, if_pos h25, if_pos h35]
        · rw [if_neg h35] at k
          have k := ly_revb 1 (c' := (39, [(0, .ref (q 0)), (1, .int v1), (2, .int v2), (3, .int v3), (4, .int v4)], [.ref (q 0)], me_w M J)) rfl k
          have k := lz_get (a := (q 0)) (g := 600) (M := me_w M J) (v := .ref (q 1)) rfl (nt_gfR rfl (hq.1 (0, 0, 1) (by decide))) k
          have k := lz_get (a := (q 1)) (g := 808) (M := me_w M J) (v := .ref (q 5)) rfl (nt_gfR rfl (hq.1 (1, 8, 5) (by decide))) k
          have k := ly_revb 1 (c' := (47, [(0, .ref (q 0)), (1, .int v1), (2, .int v2), (3, .int v3), (4, .int v4)], [.int v4, .ref (q 5)], me_w M J)) rfl k
          have k := mx_iald (v := J (q 5) v4.toNatClampNeg) rfl (hq.2.2.1 5 (by omega)) (rfl) k
          have k := ly_revb 2 (c' := (if (J (q 5) v4.toNatClampNeg) = v2 then 52 else 55, [(0, .ref (q 0)), (1, .int v1), (2, .int v2), (3, .int v3), (4, .int v4)], [], me_w M J)) rfl k
          by_cases h49 : (J (q 5) v4.toNatClampNeg) = v2
          · rw [if_pos h49] at k
            have k := ly_revb 3 (c' := (5, [(4, .int (v4 + (Int32.ofInt 1))), (3, .int (v3 + (Int32.ofInt 1))), (0, .ref (q 0)), (1, .int v1), (2, .int v2)], [], me_w M J)) rfl k
            have k := nt_rn_w (a := [(4, .int (v4 + (Int32.ofInt 1))), (3, .int (v3 + (Int32.ofInt 1))), (0, .ref (q 0)), (1, .int v1), (2, .int v2)]) (b := [(0, .ref (q 0)), (1, .int v1), (2, .int v2), (3, .int (v3 + (Int32.ofInt 1))), (4, .int (v4 + (Int32.ofInt 1)))]) ⟨rfl, rfl, rfl, rfl, rfl, trivial⟩ rfl k
            have k := ih (v3 + (Int32.ofInt 1)) (v4 + (Int32.ofInt 1)) (lx_dec h14 hc) k
            rw [k, x75_5, if_neg h14, if_pos h25, if_neg h35, if_pos h49]
          · rw [if_neg h49] at k
            have k := ly_revb 2 (c' := (5, [(4, .int (v4 + (Int32.ofInt 1))), (0, .ref (q 0)), (1, .int v1), (2, .int v2), (3, .int v3)], [], me_w M J)) rfl k
            have k := nt_rn_w (a := [(4, .int (v4 + (Int32.ofInt 1))), (0, .ref (q 0)), (1, .int v1), (2, .int v2), (3, .int v3)]) (b := [(0, .ref (q 0)), (1, .int v1), (2, .int v2), (3, .int v3), (4, .int (v4 + (Int32.ofInt 1)))]) ⟨rfl, rfl, rfl, rfl, rfl, trivial⟩ rfl k
            have k := ih v3 (v4 + (Int32.ofInt 1)) (lx_dec h14 hc) k
            rw [k, x75_5, if_neg h14, if_pos h25, if_neg h35, if_neg h49]
      · rw [if_neg h25] at k
        have k := ly_revb 2 (c' := (5, [(4, .int (v4 + (Int32.ofInt 1))), (0, .ref (q 0)), (1, .int v1), (2, .int v2), (3, .int v3)], [], me_w M J)) rfl k
        have k := nt_rn_w (a := [(4, .int (v4 + (Int32.ofInt 1))), (0, .ref (q 0)), (1, .int v1), (2, .int v2), (3, .int v3)]) (b := [(0, .ref (q 0)), (1, .int v1), (2, .int v2), (3, .int v3), (4, .int (v4 + (Int32.ofInt 1)))]) ⟨rfl, rfl, rfl, rfl, rfl, trivial⟩ rfl k
        have k := ih v3 (v4 + (Int32.ofInt 1)) (lx_dec h14 hc) k
        rw [k, x75_5, if_neg h14, if_neg h25]
def x75 (q : Nat → Nat) (v1 : Int32) (v2 : Int32) (J : Nat → Nat → Int32) : Int32 := (x75_5 q v1 v2 J ((J (q 1) 2).toNatClampNeg) (Int32.ofInt 0) (Int32.ofInt 0))
theorem xt75 {X : nt_X} {d : Nat} {M : nt_M} {o : Option Value × nt_M} {q : Nat → Nat} {v1 : Int32} {v2 : Int32} {J : Nat → Nat → Int32} (hq : xs_Q M q) (k : nt_ev X d 75 [.ref (q 0), .int v1, .int v2] (me_w M J) o) : o = (some (.int (x75 q v1 v2 J)), me_w M J) := by
  have k : nt_rn X d 75 (0, [(0, .ref (q 0)), (1, .int v1), (2, .int v2)], [], me_w M J) o := k
  have k := ly_revb 4 (c' := (5, [(4, .int (Int32.ofInt 0)), (3, .int (Int32.ofInt 0)), (0, .ref (q 0)), (1, .int v1), (2, .int v2)], [], me_w M J)) rfl k
  have k := nt_rn_w (a := [(4, .int (Int32.ofInt 0)), (3, .int (Int32.ofInt 0)), (0, .ref (q 0)), (1, .int v1), (2, .int v2)]) (b := [(0, .ref (q 0)), (1, .int v1), (2, .int v2), (3, .int (Int32.ofInt 0)), (4, .int (Int32.ofInt 0))]) ⟨rfl, rfl, rfl, rfl, rfl, trivial⟩ rfl k
  have k := xt75_5 hq  ((J (q 1) 2).toNatClampNeg) (Int32.ofInt 0) (Int32.ofInt 0) (lx_beg (by decide)) k
  rw [k, x75]
/-! $Yard.mustHave -/
def x87 (q : Nat → Nat) (v1 : Int32) (v2 : Int32) (J : Nat → Nat → Int32) : Int32 := (J (q 2) (((v1 * (Int32.ofInt 4)) + v2).toNatClampNeg))
theorem xt87 {X : nt_X} {d : Nat} {M : nt_M} {o : Option Value × nt_M} {q : Nat → Nat} {v1 : Int32} {v2 : Int32} {J : Nat → Nat → Int32} (hq : xs_Q M q) (k : nt_ev X d 87 [.ref (q 1), .int v1, .int v2] (me_w M J) o) : o = (some (.int (x87 q v1 v2 J)), me_w M J) := by
  have k : nt_rn X d 87 (0, [(0, .ref (q 1)), (1, .int v1), (2, .int v2)], [], me_w M J) o := k
  have k := ly_revb 1 (c' := (1, [(0, .ref (q 1)), (1, .int v1), (2, .int v2)], [.ref (q 1)], me_w M J)) rfl k
  have k := lz_get (a := (q 1)) (g := 805) (M := me_w M J) (v := .ref (q 2)) rfl (nt_gfR rfl (hq.1 (1, 5, 2) (by decide))) k
  have k := ly_revb 5 (c' := (9, [(0, .ref (q 1)), (1, .int v1), (2, .int v2)], [.int ((v1 * (Int32.ofInt 4)) + v2), .ref (q 2)], me_w M J)) rfl k
  have k := mx_iald (v := J (q 2) (((v1 * (Int32.ofInt 4)) + v2).toNatClampNeg)) rfl (hq.2.2.1 2 (by omega)) (rfl) k
  have k := lz_ri rfl (by decide) k
  rw [k, x87]
/-! $Yard.lengthOf -/
def x89 (q : Nat → Nat) (v1 : Int32) (J : Nat → Nat → Int32) : Int32 := ((J (q 8) v1.toNatClampNeg) - (J (q 7) v1.toNatClampNeg))
theorem xt89 {X : nt_X} {d : Nat} {M : nt_M} {o : Option Value × nt_M} {q : Nat → Nat} {v1 : Int32} {J : Nat → Nat → Int32} (hq : xs_Q M q) (k : nt_ev X d 89 [.ref (q 1), .int v1] (me_w M J) o) : o = (some (.int (x89 q v1 J)), me_w M J) := by
  have k : nt_rn X d 89 (0, [(0, .ref (q 1)), (1, .int v1)], [], me_w M J) o := k
  have k := ly_revb 1 (c' := (1, [(0, .ref (q 1)), (1, .int v1)], [.ref (q 1)], me_w M J)) rfl k
  have k := lz_get (a := (q 1)) (g := 811) (M := me_w M J) (v := .ref (q 8)) rfl (nt_gfR rfl (hq.1 (1, 11, 8) (by decide))) k
  have k := ly_revb 1 (c' := (5, [(0, .ref (q 1)), (1, .int v1)], [.int v1, .ref (q 8)], me_w M J)) rfl k
  have k := mx_iald (v := J (q 8) v1.toNatClampNeg) rfl (hq.2.2.1 8 (by omega)) (rfl) k
  have k := ly_revb 1 (c' := (7, [(0, .ref (q 1)), (1, .int v1)], [.ref (q 1), .int (J (q 8) v1.toNatClampNeg)], me_w M J)) rfl k
  have k := lz_get (a := (q 1)) (g := 810) (M := me_w M J) (v := .ref (q 7)) rfl (nt_gfR rfl (hq.1 (1, 10, 7) (by decide))) k
  have k := ly_revb 1 (c' := (11, [(0, .ref (q 1)), (1, .int v1)], [.int v1, .ref (q 7), .int (J (q 8) v1.toNatClampNeg)], me_w M J)) rfl k
  have k := mx_iald (v := J (q 7) v1.toNatClampNeg) rfl (hq.2.2.1 7 (by omega)) (rfl) k
  have k := ly_revb 1 (c' := (13, [(0, .ref (q 1)), (1, .int v1)], [.int ((J (q 8) v1.toNatClampNeg) - (J (q 7) v1.toNatClampNeg))], me_w M J)) rfl k
  have k := lz_ri rfl (by decide) k
  rw [k, x89]
/-! $Yard.begins -/
def x88_2 (q : Nat → Nat) (v1 : Int32) (v2 : Int32) (J : Nat → Nat → Int32) : Nat → Int32 → Int32
  | 0, v3 => (Int32.ofInt 0)
  | c + 1, v3 => if (J (q 1) 3) ≤ v3 then (Int32.ofInt 0)
    else if (J (q 6) v3.toNatClampNeg) = v1 then if (J (q 7) v3.toNatClampNeg) = v2 then (Int32.ofInt 1)
        else (x88_2 q v1 v2 J c (v3 + (Int32.ofInt 1)))
      else (x88_2 q v1 v2 J c (v3 + (Int32.ofInt 1)))
theorem xt88_2 {X : nt_X} {d : Nat} {M : nt_M} {o : Option Value × nt_M} {q : Nat → Nat} {v1 : Int32} {v2 : Int32} {J : Nat → Nat → Int32} (hq : xs_Q M q) : ∀ (c : Nat) (v3 : Int32), (J (q 1) 3).toInt - v3.toInt ≤ c → nt_rn X d 88 (2, [(0, .ref (q 1)), (1, .int v1), (2, .int v2), (3, .int v3)], [], me_w M J) o → o = (some (.int (x88_2 q v1 v2 J c v3)), me_w M J) := by
  intro c
  induction c with
  | zero =>
    intro v3 hc k
    have k := ly_revb 2 (c' := (4, [(0, .ref (q 1)), (1, .int v1), (2, .int v2), (3, .int v3)], [.ref (q 1), .int v3], me_w M J)) rfl k
    have k := lz_get (a := (q 1)) (g := 803) (M := me_w M J) (v := .int (J (q 1) 3)) rfl (congrArg Value.int (rfl)) k
    have k := ly_revb 1 (c' := (if (J (q 1) 3) ≤ v3 then 38 else 10, [(0, .ref (q 1)), (1, .int v1), (2, .int v2), (3, .int v3)], [], me_w M J)) rfl k
    have h7 : (J (q 1) 3) ≤ v3 := lx_end hc
    rw [if_pos h7] at k
    have k := ly_revb 1 (c' := (39, [(0, .ref (q 1)), (1, .int v1), (2, .int v2), (3, .int v3)], [.int (Int32.ofInt 0)], me_w M J)) rfl k
    have k := lz_ri rfl (by decide) k
    rw [k, x88_2]
  | succ c ih =>
    intro v3 hc k
    have k := ly_revb 2 (c' := (4, [(0, .ref (q 1)), (1, .int v1), (2, .int v2), (3, .int v3)], [.ref (q 1), .int v3], me_w M J)) rfl k
    have k := lz_get (a := (q 1)) (g := 803) (M := me_w M J) (v := .int (J (q 1) 3)) rfl (congrArg Value.int (rfl)) k
    have k := ly_revb 1 (c' := (if (J (q 1) 3) ≤ v3 then 38 else 10, [(0, .ref (q 1)), (1, .int v1), (2, .int v2), (3, .int v3)], [], me_w M J)) rfl k
    by_cases h7 : (J (q 1) 3) ≤ v3
    · rw [if_pos h7] at k
      have k := ly_revb 1 (c' := (39, [(0, .ref (q 1)), (1, .int v1), (2, .int v2), (3, .int v3)], [.int (Int32.ofInt 0)], me_w M J)) rfl k
      have k := lz_ri rfl (by decide) k
      rw [k, x88_2, if_pos h7]
    · rw [if_neg h7] at k
      have k := ly_revb 1 (c' := (11, [(0, .ref (q 1)), (1, .int v1), (2, .int v2), (3, .int v3)], [.ref (q 1)], me_w M J)) rfl k
      have k := lz_get (a := (q 1)) (g := 809) (M := me_w M J) (v := .ref (q 6)) rfl (nt_gfR rfl (hq.1 (1, 9, 6) (by decide))) k
      have k := ly_revb 1 (c' := (15, [(0, .ref (q 1)), (1, .int v1), (2, .int v2), (3, .int v3)], [.int v3, .ref (q 6)], me_w M J)) rfl k
      have k := mx_iald (v := J (q 6) v3.toNatClampNeg) rfl (hq.2.2.1 6 (by omega)) (rfl) k
      have k := ly_revb 2 (c' := (if (J (q 6) v3.toNatClampNeg) = v1 then 20 else 32, [(0, .ref (q 1)), (1, .int v1), (2, .int v2), (3, .int v3)], [], me_w M J)) rfl k
      by_cases h17 : (J (q 6) v3.toNatClampNeg) = v1
      · rw [if_pos h17] at k
        have k := ly_revb 1 (c' := (21, [(0, .ref (q 1)), (1, .int v1), (2, .int v2), (3, .int v3)], [.ref (q 1)], me_w M J)) rfl k
        have k := lz_get (a := (q 1)) (g := 810) (M := me_w M J) (v := .ref (q 7)) rfl (nt_gfR rfl (hq.1 (1, 10, 7) (by decide))) k
        have k := ly_revb 1 (c' := (25, [(0, .ref (q 1)), (1, .int v1), (2, .int v2), (3, .int v3)], [.int v3, .ref (q 7)], me_w M J)) rfl k
        have k := mx_iald (v := J (q 7) v3.toNatClampNeg) rfl (hq.2.2.1 7 (by omega)) (rfl) k
        have k := ly_revb 2 (c' := (if (J (q 7) v3.toNatClampNeg) = v2 then 30 else 32, [(0, .ref (q 1)), (1, .int v1), (2, .int v2), (3, .int v3)], [], me_w M J)) rfl k
        by_cases h27 : (J (q 7) v3.toNatClampNeg) = v2
        · rw [if_pos h27] at k
          have k := ly_revb 1 (c' := (31, [(0, .ref (q 1)), (1, .int v1), (2, .int v2), (3, .int v3)], [.int (Int32.ofInt 1)], me_w M J)) rfl k
          have k := lz_ri rfl (by decide) k
          rw [k, x88_2, if_neg h7, if_pos h17, if_pos h27]
        · rw [if_neg h27] at k
          have k := ly_revb 2 (c' := (2, [(3, .int (v3 + (Int32.ofInt 1))), (0, .ref (q 1)), (1, .int v1), (2, .int v2)], [], me_w M J)) rfl k
          have k := nt_rn_w (a := [(3, .int (v3 + (Int32.ofInt 1))), (0, .ref (q 1)), (1, .int v1), (2, .int v2)]) (b := [(0, .ref (q 1)), (1, .int v1), (2, .int v2), (3, .int (v3 + (Int32.ofInt 1)))]) ⟨rfl, rfl, rfl, rfl, trivial⟩ rfl k
          have k := ih (v3 + (Int32.ofInt 1)) (lx_dec h7 hc) k
          rw [k, x88_2, if_neg h7, if_pos h17, if_neg h27]
      · rw [if_neg h17] at k
        have k := ly_revb 2 (c' := (2, [(3, .int (v3 + (Int32.ofInt 1))), (0, .ref (q 1)), (1, .int v1), (2, .int v2)], [], me_w M J)) rfl k
        have k := nt_rn_w (a := [(3, .int (v3 + (Int32.ofInt 1))), (0, .ref (q 1)), (1, .int v1), (2, .int v2)]) (b := [(0, .ref (q 1)), (1, .int v1), (2, .int v2), (3, .int (v3 + (Int32.ofInt 1)))]) ⟨rfl, rfl, rfl, rfl, trivial⟩ rfl k
        have k := ih (v3 + (Int32.ofInt 1)) (lx_dec h7 hc) k
        rw [k, x88_2, if_neg h7, if_neg h17]
def x88 (q : Nat → Nat) (v1 : Int32) (v2 : Int32) (J : Nat → Nat → Int32) : Int32 := (x88_2 q v1 v2 J ((J (q 1) 3).toNatClampNeg) (Int32.ofInt 0))
theorem xt88 {X : nt_X} {d : Nat} {M : nt_M} {o : Option Value × nt_M} {q : Nat → Nat} {v1 : Int32} {v2 : Int32} {J : Nat → Nat → Int32} (hq : xs_Q M q) (k : nt_ev X d 88 [.ref (q 1), .int v1, .int v2] (me_w M J) o) : o = (some (.int (x88 q v1 v2 J)), me_w M J) := by
  have k : nt_rn X d 88 (0, [(0, .ref (q 1)), (1, .int v1), (2, .int v2)], [], me_w M J) o := k
  have k := ly_revb 2 (c' := (2, [(3, .int (Int32.ofInt 0)), (0, .ref (q 1)), (1, .int v1), (2, .int v2)], [], me_w M J)) rfl k
  have k := nt_rn_w (a := [(3, .int (Int32.ofInt 0)), (0, .ref (q 1)), (1, .int v1), (2, .int v2)]) (b := [(0, .ref (q 1)), (1, .int v1), (2, .int v2), (3, .int (Int32.ofInt 0))]) ⟨rfl, rfl, rfl, rfl, trivial⟩ rfl k
  have k := xt88_2 hq  ((J (q 1) 3).toNatClampNeg) (Int32.ofInt 0) (lx_beg (by decide)) k
  rw [k, x88]
/-! $State.tooFew -/
def x68_13 (q : Nat → Nat) (v1 : Int32) (v2 : Int32) (J : Nat → Nat → Int32) : Nat → Int32 → Int32 → Int32
  | 0, v3, v4 => (if v3 < (Int32.ofInt 0) then (Int32.ofInt 0) else v3)
  | c + 1, v3, v4 => if (J (q 1) 2) ≤ v4 then (if v3 < (Int32.ofInt 0) then (Int32.ofInt 0) else v3)
    else if (J (q 14) v4.toNatClampNeg) = v1 then if (J (q 13) v4.toNatClampNeg) ≤ 0 then (x68_13 q v1 v2 J c v3 (v4 + (Int32.ofInt 1)))
        else if (J (q 3) v4.toNatClampNeg) = v2 then (x68_13 q v1 v2 J c (v3 + (Int32.ofInt (-1))) (v4 + (Int32.ofInt 1)))
          else (x68_13 q v1 v2 J c v3 (v4 + (Int32.ofInt 1)))
      else (x68_13 q v1 v2 J c v3 (v4 + (Int32.ofInt 1)))
theorem xt68_13 {X : nt_X} {d : Nat} {M : nt_M} {o : Option Value × nt_M} {q : Nat → Nat} {v1 : Int32} {v2 : Int32} {J : Nat → Nat → Int32} (hq : xs_Q M q) : ∀ (c : Nat) (v3 : Int32) (v4 : Int32), (J (q 1) 2).toInt - v4.toInt ≤ c → nt_rn X d 68 (13, [(0, .ref (q 0)), (1, .int v1), (2, .int v2), (3, .int v3), (4, .int v4)], [], me_w M J) o → o = (some (.int (x68_13 q v1 v2 J c v3 v4)), me_w M J) := by
  intro c
  induction c with
  | zero =>
    intro v3 v4 hc k
    have k := ly_revb 2 (c' := (16, [(0, .ref (q 0)), (1, .int v1), (2, .int v2), (3, .int v3), (4, .int v4)], [.ref (q 0), .int v4], me_w M J)) rfl k
    have k := lz_get (a := (q 0)) (g := 600) (M := me_w M J) (v := .ref (q 1)) rfl (nt_gfR rfl (hq.1 (0, 0, 1) (by decide))) k
    have k := lz_get (a := (q 1)) (g := 802) (M := me_w M J) (v := .int (J (q 1) 2)) rfl (congrArg Value.int (rfl)) k
    have k := ly_revb 1 (c' := (if (J (q 1) 2) ≤ v4 then 69 else 25, [(0, .ref (q 0)), (1, .int v1), (2, .int v2), (3, .int v3), (4, .int v4)], [], me_w M J)) rfl k
    have h22 : (J (q 1) 2) ≤ v4 := lx_end hc
    rw [if_pos h22] at k
    have k := ly_revb 2 (c' := (71, [(0, .ref (q 0)), (1, .int v1), (2, .int v2), (3, .int v3), (4, .int v4)], [.int (Int32.ofInt 0), .int v3], me_w M J)) rfl k
    have k := mx_max rfl k
    have k := lz_ri rfl (by decide) k
    rw [k, x68_13]
  | succ c ih =>
    intro v3 v4 hc k
    have k := ly_revb 2 (c' := (16, [(0, .ref (q 0)), (1, .int v1), (2, .int v2), (3, .int v3), (4, .int v4)], [.ref (q 0), .int v4], me_w M J)) rfl k
    have k := lz_get (a := (q 0)) (g := 600) (M := me_w M J) (v := .ref (q 1)) rfl (nt_gfR rfl (hq.1 (0, 0, 1) (by decide))) k
    have k := lz_get (a := (q 1)) (g := 802) (M := me_w M J) (v := .int (J (q 1) 2)) rfl (congrArg Value.int (rfl)) k
    have k := ly_revb 1 (c' := (if (J (q 1) 2) ≤ v4 then 69 else 25, [(0, .ref (q 0)), (1, .int v1), (2, .int v2), (3, .int v3), (4, .int v4)], [], me_w M J)) rfl k
    by_cases h22 : (J (q 1) 2) ≤ v4
    · rw [if_pos h22] at k
      have k := ly_revb 2 (c' := (71, [(0, .ref (q 0)), (1, .int v1), (2, .int v2), (3, .int v3), (4, .int v4)], [.int (Int32.ofInt 0), .int v3], me_w M J)) rfl k
      have k := mx_max rfl k
      have k := lz_ri rfl (by decide) k
      rw [k, x68_13, if_pos h22]
    · rw [if_neg h22] at k
      have k := ly_revb 1 (c' := (26, [(0, .ref (q 0)), (1, .int v1), (2, .int v2), (3, .int v3), (4, .int v4)], [.ref (q 0)], me_w M J)) rfl k
      have k := lz_get (a := (q 0)) (g := 611) (M := me_w M J) (v := .ref (q 14)) rfl (nt_gfR rfl (hq.1 (0, 11, 14) (by decide))) k
      have k := ly_revb 1 (c' := (31, [(0, .ref (q 0)), (1, .int v1), (2, .int v2), (3, .int v3), (4, .int v4)], [.int v4, .ref (q 14)], me_w M J)) rfl k
      have k := mx_iald (v := J (q 14) v4.toNatClampNeg) rfl (hq.2.2.1 14 (by omega)) (rfl) k
      have k := ly_revb 2 (c' := (if (J (q 14) v4.toNatClampNeg) = v1 then 36 else 63, [(0, .ref (q 0)), (1, .int v1), (2, .int v2), (3, .int v3), (4, .int v4)], [], me_w M J)) rfl k
      by_cases h33 : (J (q 14) v4.toNatClampNeg) = v1
      · rw [if_pos h33] at k
        have k := ly_revb 1 (c' := (37, [(0, .ref (q 0)), (1, .int v1), (2, .int v2), (3, .int v3), (4, .int v4)], [.ref (q 0)], me_w M J)) rfl k
        have k := lz_get (a := (q 0)) (g := 610) (M := me_w M J) (v := .ref (q 13)) rfl (nt_gfR rfl (hq.1 (0, 10, 13) (by decide))) k
        have k := ly_revb 1 (c' := (42, [(0, .ref (q 0)), (1, .int v1), (2, .int v2), (3, .int v3), (4, .int v4)], [.int v4, .ref (q 13)], me_w M J)) rfl k
        have k := mx_iald (v := J (q 13) v4.toNatClampNeg) rfl (hq.2.2.1 13 (by omega)) (rfl) k
        have k := ly_revb 1 (c' := (if (J (q 13) v4.toNatClampNeg) ≤ 0 then 63 else 46, [(0, .ref (q 0)), (1, .int v1), (2, .int v2), (3, .int v3), (4, .int v4)], [], me_w M J)) rfl k
        by_cases h43 : (J (q 13) v4.toNatClampNeg) ≤ 0
        · rw [if_pos h43] at k
          have k := ly_revb 2 (c' := (13, [(4, .int (v4 + (Int32.ofInt 1))), (0, .ref (q 0)), (1, .int v1), (2, .int v2), (3, .int v3)], [], me_w M J)) rfl k
          have k := nt_rn_w (a := [(4, .int (v4 + (Int32.ofInt 1))), (0, .ref (q 0)), (1, .int v1), (2, .int v2), (3, .int v3)]) (b := [(0, .ref (q 0)), (1, .int v1), (2, .int v2), (3, .int v3), (4, .int (v4 + (Int32.ofInt 1)))]) ⟨rfl, rfl, rfl, rfl, rfl, trivial⟩ rfl k
          have k := ih v3 (v4 + (Int32.ofInt 1)) (lx_dec h22 hc) k
          rw [k, x68_13, if_neg h22, if_pos h33, if_pos h43]
        · rw [if_neg h43] at k
          have k := ly_revb 1 (c' := (47, [(0, .ref (q 0)), (1, .int v1), (2, .int v2), (3, .int v3), (4, .int v4)], [.ref (q 0)], me_w M J)) rfl k
          have k := lz_get (a := (q 0)) (g := 600) (M := me_w M J) (v := .ref (q 1)) rfl (nt_gfR rfl (hq.1 (0, 0, 1) (by decide))) k
          have k := lz_get (a := (q 1)) (g := 806) (M := me_w M J) (v := .ref (q 3)) rfl (nt_gfR rfl (hq.1 (1, 6, 3) (by decide))) k
          have k := ly_revb 1 (c' := (55, [(0, .ref (q 0)), (1, .int v1), (2, .int v2), (3, .int v3), (4, .int v4)], [.int v4, .ref (q 3)], me_w M J)) rfl k
          have k := mx_iald (v := J (q 3) v4.toNatClampNeg) rfl (hq.2.2.1 3 (by omega)) (rfl) k
          have k := ly_revb 2 (c' := (if (J (q 3) v4.toNatClampNeg) = v2 then 60 else 63, [(0, .ref (q 0)), (1, .int v1), (2, .int v2), (3, .int v3), (4, .int v4)], [], me_w M J)) rfl k
          by_cases h57 : (J (q 3) v4.toNatClampNeg) = v2
          · rw [if_pos h57] at k
            have k := ly_revb 3 (c' := (13, [(4, .int (v4 + (Int32.ofInt 1))), (3, .int (v3 + (Int32.ofInt (-1)))), (0, .ref (q 0)), (1, .int v1), (2, .int v2)], [], me_w M J)) rfl k
            have k := nt_rn_w (a := [(4, .int (v4 + (Int32.ofInt 1))), (3, .int (v3 + (Int32.ofInt (-1)))), (0, .ref (q 0)), (1, .int v1), (2, .int v2)]) (b := [(0, .ref (q 0)), (1, .int v1), (2, .int v2), (3, .int (v3 + (Int32.ofInt (-1)))), (4, .int (v4 + (Int32.ofInt 1)))]) ⟨rfl, rfl, rfl, rfl, rfl, trivial⟩ rfl k
            have k := ih (v3 + (Int32.ofInt (-1))) (v4 + (Int32.ofInt 1)) (lx_dec h22 hc) k
            rw [k, x68_13, if_neg h22, if_pos h33, if_neg h43, if_pos h57]
          · rw [if_neg h57] at k
            have k := ly_revb 2 (c' := (13, [(4, .int (v4 + (Int32.ofInt 1))), (0, .ref (q 0)), (1, .int v1), (2, .int v2), (3, .int v3)], [], me_w M J)) rfl k
            have k := nt_rn_w (a := [(4, .int (v4 + (Int32.ofInt 1))), (0, .ref (q 0)), (1, .int v1), (2, .int v2), (3, .int v3)]) (b := [(0, .ref (q 0)), (1, .int v1), (2, .int v2), (3, .int v3), (4, .int (v4 + (Int32.ofInt 1)))]) ⟨rfl, rfl, rfl, rfl, rfl, trivial⟩ rfl k
            have k := ih v3 (v4 + (Int32.ofInt 1)) (lx_dec h22 hc) k
            rw [k, x68_13, if_neg h22, if_pos h33, if_neg h43, if_neg h57]
      · rw [if_neg h33] at k
        have k := ly_revb 2 (c' := (13, [(4, .int (v4 + (Int32.ofInt 1))), (0, .ref (q 0)), (1, .int v1), (2, .int v2), (3, .int v3)], [], me_w M J)) rfl k
        have k := nt_rn_w (a := [(4, .int (v4 + (Int32.ofInt 1))), (0, .ref (q 0)), (1, .int v1), (2, .int v2), (3, .int v3)]) (b := [(0, .ref (q 0)), (1, .int v1), (2, .int v2), (3, .int v3), (4, .int (v4 + (Int32.ofInt 1)))]) ⟨rfl, rfl, rfl, rfl, rfl, trivial⟩ rfl k
        have k := ih v3 (v4 + (Int32.ofInt 1)) (lx_dec h22 hc) k
        rw [k, x68_13, if_neg h22, if_neg h33]
def x68 (q : Nat → Nat) (v1 : Int32) (v2 : Int32) (J : Nat → Nat → Int32) : Int32 := (x68_13 q v1 v2 J ((J (q 1) 2).toNatClampNeg) (x87 q v1 v2 J) (Int32.ofInt 0))
theorem xt68 {X : nt_X} {d : Nat} {M : nt_M} {o : Option Value × nt_M} {q : Nat → Nat} {v1 : Int32} {v2 : Int32} {J : Nat → Nat → Int32} (hq : xs_Q M q) (k : nt_ev X d 68 [.ref (q 0), .int v1, .int v2] (me_w M J) o) : o = (some (.int (x68 q v1 v2 J)), me_w M J) := by
  have k : nt_rn X d 68 (0, [(0, .ref (q 0)), (1, .int v1), (2, .int v2)], [], me_w M J) o := k
  have k := ly_revb 1 (c' := (1, [(0, .ref (q 0)), (1, .int v1), (2, .int v2)], [.ref (q 0)], me_w M J)) rfl k
  have k := lz_get (a := (q 0)) (g := 600) (M := me_w M J) (v := .ref (q 1)) rfl (nt_gfR rfl (hq.1 (0, 0, 1) (by decide))) k
  have k := ly_revb 2 (c' := (6, [(0, .ref (q 0)), (1, .int v1), (2, .int v2)], [.int v2, .int v1, .ref (q 1)], me_w M J)) rfl k
  obtain ⟨d1, o1, ed, kc, k⟩ := lz_c (g := 87) (q := 1) (vs := [.ref (q 1), .int v1, .int v2]) (rest := []) rfl rfl (by decide) (Or.inr (Or.inl ⟨_, rfl, rfl⟩)) rfl k
  have e1 := xt87 hq kc
  subst e1
  have k : nt_rn X _ 68 (9, [(0, .ref (q 0)), (1, .int v1), (2, .int v2)], [.int (x87 q v1 v2 J)], me_w M J) _ := k
  have k := ly_revb 3 (c' := (13, [(4, .int (Int32.ofInt 0)), (3, .int (x87 q v1 v2 J)), (0, .ref (q 0)), (1, .int v1), (2, .int v2)], [], me_w M J)) rfl k
  have k := nt_rn_w (a := [(4, .int (Int32.ofInt 0)), (3, .int (x87 q v1 v2 J)), (0, .ref (q 0)), (1, .int v1), (2, .int v2)]) (b := [(0, .ref (q 0)), (1, .int v1), (2, .int v2), (3, .int (x87 q v1 v2 J)), (4, .int (Int32.ofInt 0))]) ⟨rfl, rfl, rfl, rfl, rfl, trivial⟩ rfl k
  have k := xt68_13 hq  ((J (q 1) 2).toNatClampNeg) (x87 q v1 v2 J) (Int32.ofInt 0) (lx_beg (by decide)) k
  rw [k, x68]
/-! $State.isWhole -/
def x67_2 (q : Nat → Nat) (v1 : Int32) (J : Nat → Nat → Int32) : Nat → Int32 → Int32
  | 0, v2 => (Int32.ofInt 1)
  | c + 1, v2 => if (J (q 1) 0) ≤ v2 then (Int32.ofInt 1)
    else if (x68 q v1 v2 J) ≤ 0 then (x67_2 q v1 J c (v2 + (Int32.ofInt 1)))
      else (Int32.ofInt 0)
theorem xt67_2 {X : nt_X} {d : Nat} {M : nt_M} {o : Option Value × nt_M} {q : Nat → Nat} {v1 : Int32} {J : Nat → Nat → Int32} (hq : xs_Q M q) : ∀ (c : Nat) (v2 : Int32), (J (q 1) 0).toInt - v2.toInt ≤ c → nt_rn X d 67 (2, [(0, .ref (q 0)), (1, .int v1), (2, .int v2)], [], me_w M J) o → o = (some (.int (x67_2 q v1 J c v2)), me_w M J) := by
  intro c
  induction c with
  | zero =>
    intro v2 hc k
    have k := ly_revb 2 (c' := (4, [(0, .ref (q 0)), (1, .int v1), (2, .int v2)], [.ref (q 0), .int v2], me_w M J)) rfl k
    have k := lz_get (a := (q 0)) (g := 600) (M := me_w M J) (v := .ref (q 1)) rfl (nt_gfR rfl (hq.1 (0, 0, 1) (by decide))) k
    have k := lz_get (a := (q 1)) (g := 800) (M := me_w M J) (v := .int (J (q 1) 0)) rfl (congrArg Value.int (rfl)) k
    have k := ly_revb 1 (c' := (if (J (q 1) 0) ≤ v2 then 30 else 13, [(0, .ref (q 0)), (1, .int v1), (2, .int v2)], [], me_w M J)) rfl k
    have h10 : (J (q 1) 0) ≤ v2 := lx_end hc
    rw [if_pos h10] at k
    have k := ly_revb 1 (c' := (31, [(0, .ref (q 0)), (1, .int v1), (2, .int v2)], [.int (Int32.ofInt 1)], me_w M J)) rfl k
    have k := lz_ri rfl (by decide) k
    rw [k, x67_2]
  | succ c ih =>
    intro v2 hc k
    have k := ly_revb 2 (c' := (4, [(0, .ref (q 0)), (1, .int v1), (2, .int v2)], [.ref (q 0), .int v2], me_w M J)) rfl k
    have k := lz_get (a := (q 0)) (g := 600) (M := me_w M J) (v := .ref (q 1)) rfl (nt_gfR rfl (hq.1 (0, 0, 1) (by decide))) k
    have k := lz_get (a := (q 1)) (g := 800) (M := me_w M J) (v := .int (J (q 1) 0)) rfl (congrArg Value.int (rfl)) k
    have k := ly_revb 1 (c' := (if (J (q 1) 0) ≤ v2 then 30 else 13, [(0, .ref (q 0)), (1, .int v1), (2, .int v2)], [], me_w M J)) rfl k
    by_cases h10 : (J (q 1) 0) ≤ v2
    · rw [if_pos h10] at k
      have k := ly_revb 1 (c' := (31, [(0, .ref (q 0)), (1, .int v1), (2, .int v2)], [.int (Int32.ofInt 1)], me_w M J)) rfl k
      have k := lz_ri rfl (by decide) k
      rw [k, x67_2, if_pos h10]
    · rw [if_neg h10] at k
      have k := ly_revb 3 (c' := (16, [(0, .ref (q 0)), (1, .int v1), (2, .int v2)], [.int v2, .int v1, .ref (q 0)], me_w M J)) rfl k
      obtain ⟨d1, o1, ed, kc, k⟩ := lz_c (g := 68) (q := 1) (vs := [.ref (q 0), .int v1, .int v2]) (rest := []) rfl rfl (by decide) (Or.inr (Or.inl ⟨_, rfl, rfl⟩)) rfl k
      have e1 := xt68 hq kc
      subst e1
      have k : nt_rn X _ 67 (19, [(0, .ref (q 0)), (1, .int v1), (2, .int v2)], [.int (x68 q v1 v2 J)], me_w M J) _ := k
      have k := ly_revb 1 (c' := (if (x68 q v1 v2 J) ≤ 0 then 24 else 22, [(0, .ref (q 0)), (1, .int v1), (2, .int v2)], [], me_w M J)) rfl k
      by_cases h19 : (x68 q v1 v2 J) ≤ 0
      · rw [if_pos h19] at k
        have k := ly_revb 2 (c' := (2, [(2, .int (v2 + (Int32.ofInt 1))), (0, .ref (q 0)), (1, .int v1)], [], me_w M J)) rfl k
        have k := nt_rn_w (a := [(2, .int (v2 + (Int32.ofInt 1))), (0, .ref (q 0)), (1, .int v1)]) (b := [(0, .ref (q 0)), (1, .int v1), (2, .int (v2 + (Int32.ofInt 1)))]) ⟨rfl, rfl, rfl, trivial⟩ rfl k
        have k := ih (v2 + (Int32.ofInt 1)) (lx_dec h10 hc) k
        rw [k, x67_2, if_neg h10, if_pos h19]
      · rw [if_neg h19] at k
        have k := ly_revb 1 (c' := (23, [(0, .ref (q 0)), (1, .int v1), (2, .int v2)], [.int (Int32.ofInt 0)], me_w M J)) rfl k
        have k := lz_ri rfl (by decide) k
        rw [k, x67_2, if_neg h10, if_neg h19]
def x67 (q : Nat → Nat) (v1 : Int32) (J : Nat → Nat → Int32) : Int32 := (x67_2 q v1 J ((J (q 1) 0).toNatClampNeg) (Int32.ofInt 0))
theorem xt67 {X : nt_X} {d : Nat} {M : nt_M} {o : Option Value × nt_M} {q : Nat → Nat} {v1 : Int32} {J : Nat → Nat → Int32} (hq : xs_Q M q) (k : nt_ev X d 67 [.ref (q 0), .int v1] (me_w M J) o) : o = (some (.int (x67 q v1 J)), me_w M J) := by
  have k : nt_rn X d 67 (0, [(0, .ref (q 0)), (1, .int v1)], [], me_w M J) o := k
  have k := ly_revb 2 (c' := (2, [(2, .int (Int32.ofInt 0)), (0, .ref (q 0)), (1, .int v1)], [], me_w M J)) rfl k
  have k := nt_rn_w (a := [(2, .int (Int32.ofInt 0)), (0, .ref (q 0)), (1, .int v1)]) (b := [(0, .ref (q 0)), (1, .int v1), (2, .int (Int32.ofInt 0))]) ⟨rfl, rfl, rfl, trivial⟩ rfl k
  have k := xt67_2 hq  ((J (q 1) 0).toNatClampNeg) (Int32.ofInt 0) (lx_beg (by decide)) k
  rw [k, x67]
/-! $State.isFree -/
def x73 (q : Nat → Nat) (v1 : Int32) (J : Nat → Nat → Int32) : Int32 := if (x65 q (J (q 14) v1.toNatClampNeg) J) = 0 then if (J (q 13) v1.toNatClampNeg) ≤ 0 then (Int32.ofInt 0)
    else if (J (q 15) v1.toNatClampNeg) = 0 then (Int32.ofInt 1)
      else (Int32.ofInt 0)
  else if (J (q 10) ((J (q 14) v1.toNatClampNeg).toNatClampNeg)) = (Int32.ofInt 1) then if (J (q 13) v1.toNatClampNeg) ≤ 0 then (Int32.ofInt 0)
      else if (J (q 15) v1.toNatClampNeg) = 0 then (Int32.ofInt 0)
        else (Int32.ofInt 0)
    else if (J (q 13) v1.toNatClampNeg) ≤ 0 then (Int32.ofInt 0)
      else if (J (q 15) v1.toNatClampNeg) = 0 then (Int32.ofInt 1)
        else (Int32.ofInt 0)
theorem xt73 {X : nt_X} {d : Nat} {M : nt_M} {o : Option Value × nt_M} {q : Nat → Nat} {v1 : Int32} {J : Nat → Nat → Int32} (hq : xs_Q M q) (k : nt_ev X d 73 [.ref (q 0), .int v1] (me_w M J) o) : o = (some (.int (x73 q v1 J)), me_w M J) := by
  have k : nt_rn X d 73 (0, [(0, .ref (q 0)), (1, .int v1)], [], me_w M J) o := k
  have k := ly_revb 2 (c' := (2, [(0, .ref (q 0)), (1, .int v1)], [.ref (q 0), .ref (q 0)], me_w M J)) rfl k
  have k := lz_get (a := (q 0)) (g := 611) (M := me_w M J) (v := .ref (q 14)) rfl (nt_gfR rfl (hq.1 (0, 11, 14) (by decide))) k
  have k := ly_revb 1 (c' := (6, [(0, .ref (q 0)), (1, .int v1)], [.int v1, .ref (q 14), .ref (q 0)], me_w M J)) rfl k
  have k := mx_iald (v := J (q 14) v1.toNatClampNeg) rfl (hq.2.2.1 14 (by omega)) (rfl) k
  obtain ⟨d1, o1, ed, kc, k⟩ := lz_c (g := 65) (q := 1) (vs := [.ref (q 0), .int (J (q 14) v1.toNatClampNeg)]) (rest := []) rfl rfl (by decide) (Or.inr (Or.inl ⟨_, rfl, rfl⟩)) rfl k
  have e1 := xt65 hq kc
  subst e1
  have k : nt_rn X _ 73 (10, [(0, .ref (q 0)), (1, .int v1)], [.int (x65 q (J (q 14) v1.toNatClampNeg) J)], me_w M J) _ := k
  have k := ly_revb 1 (c' := (if (x65 q (J (q 14) v1.toNatClampNeg) J) = 0 then 32 else 13, [(0, .ref (q 0)), (1, .int v1)], [], me_w M J)) rfl k
  by_cases h10 : (x65 q (J (q 14) v1.toNatClampNeg) J) = 0
  · rw [if_pos h10] at k
    have k := ly_revb 3 (c' := (35, [(2, .int (Int32.ofInt 0)), (0, .ref (q 0)), (1, .int v1)], [.ref (q 0)], me_w M J)) rfl k
    have k := lz_get (a := (q 0)) (g := 610) (M := me_w M J) (v := .ref (q 13)) rfl (nt_gfR rfl (hq.1 (0, 10, 13) (by decide))) k
    have k := ly_revb 1 (c' := (39, [(2, .int (Int32.ofInt 0)), (0, .ref (q 0)), (1, .int v1)], [.int v1, .ref (q 13)], me_w M J)) rfl k
    have k := mx_iald (v := J (q 13) v1.toNatClampNeg) rfl (hq.2.2.1 13 (by omega)) (rfl) k
    have k := ly_revb 1 (c' := (if (J (q 13) v1.toNatClampNeg) ≤ 0 then 60 else 43, [(2, .int (Int32.ofInt 0)), (0, .ref (q 0)), (1, .int v1)], [], me_w M J)) rfl k
    by_cases h40 : (J (q 13) v1.toNatClampNeg) ≤ 0
    · rw [if_pos h40] at k
      have k := ly_revb 1 (c' := (61, [(2, .int (Int32.ofInt 0)), (0, .ref (q 0)), (1, .int v1)], [.int (Int32.ofInt 0)], me_w M J)) rfl k
      have k := lz_ri rfl (by decide) k
      rw [k, x73, if_pos h10, if_pos h40]
    · rw [if_neg h40] at k
      have k := ly_revb 1 (c' := (44, [(2, .int (Int32.ofInt 0)), (0, .ref (q 0)), (1, .int v1)], [.ref (q 0)], me_w M J)) rfl k
      have k := lz_get (a := (q 0)) (g := 612) (M := me_w M J) (v := .ref (q 15)) rfl (nt_gfR rfl (hq.1 (0, 12, 15) (by decide))) k
      have k := ly_revb 1 (c' := (48, [(2, .int (Int32.ofInt 0)), (0, .ref (q 0)), (1, .int v1)], [.int v1, .ref (q 15)], me_w M J)) rfl k
      have k := mx_bald (v := J (q 15) v1.toNatClampNeg) rfl (rfl) k
      have k := ly_revb 1 (c' := (if (J (q 15) v1.toNatClampNeg) = 0 then 52 else 60, [(2, .int (Int32.ofInt 0)), (0, .ref (q 0)), (1, .int v1)], [], me_w M J)) rfl k
      by_cases h49 : (J (q 15) v1.toNatClampNeg) = 0
      · rw [if_pos h49] at k
        have k := ly_revb 2 (c' := (if (Int32.ofInt 0) = 0 then 56 else 60, [(2, .int (Int32.ofInt 0)), (0, .ref (q 0)), (1, .int v1)], [], me_w M J)) rfl k
        rw [if_pos (show (Int32.ofInt 0) = 0 from by decide)] at k
        have k := ly_revb 2 (c' := (61, [(2, .int (Int32.ofInt 0)), (0, .ref (q 0)), (1, .int v1)], [.int (Int32.ofInt 1)], me_w M J)) rfl k
        have k := lz_ri rfl (by decide) k
        rw [k, x73, if_pos h10, if_neg h40, if_pos h49]
      · rw [if_neg h49] at k
        have k := ly_revb 1 (c' := (61, [(2, .int (Int32.ofInt 0)), (0, .ref (q 0)), (1, .int v1)], [.int (Int32.ofInt 0)], me_w M J)) rfl k
        have k := lz_ri rfl (by decide) k
        rw [k, x73, if_pos h10, if_neg h40, if_neg h49]
  · rw [if_neg h10] at k
    have k := ly_revb 1 (c' := (14, [(0, .ref (q 0)), (1, .int v1)], [.ref (q 0)], me_w M J)) rfl k
    have k := lz_get (a := (q 0)) (g := 607) (M := me_w M J) (v := .ref (q 10)) rfl (nt_gfR rfl (hq.1 (0, 7, 10) (by decide))) k
    have k := ly_revb 1 (c' := (18, [(0, .ref (q 0)), (1, .int v1)], [.ref (q 0), .ref (q 10)], me_w M J)) rfl k
    have k := lz_get (a := (q 0)) (g := 611) (M := me_w M J) (v := .ref (q 14)) rfl (nt_gfR rfl (hq.1 (0, 11, 14) (by decide))) k
    have k := ly_revb 1 (c' := (22, [(0, .ref (q 0)), (1, .int v1)], [.int v1, .ref (q 14), .ref (q 10)], me_w M J)) rfl k
    have k := mx_iald (v := J (q 14) v1.toNatClampNeg) rfl (hq.2.2.1 14 (by omega)) (rfl) k
    have k := mx_iald (v := J (q 10) ((J (q 14) v1.toNatClampNeg).toNatClampNeg)) rfl (hq.2.2.1 10 (by omega)) (rfl) k
    have k := ly_revb 2 (c' := (if (J (q 10) ((J (q 14) v1.toNatClampNeg).toNatClampNeg)) = (Int32.ofInt 1) then 28 else 32, [(0, .ref (q 0)), (1, .int v1)], [], me_w M J)) rfl k
    by_cases h25 : (J (q 10) ((J (q 14) v1.toNatClampNeg).toNatClampNeg)) = (Int32.ofInt 1)
    · rw [if_pos h25] at k
      have k := ly_revb 4 (c' := (35, [(2, .int (Int32.ofInt 1)), (0, .ref (q 0)), (1, .int v1)], [.ref (q 0)], me_w M J)) rfl k
      have k := lz_get (a := (q 0)) (g := 610) (M := me_w M J) (v := .ref (q 13)) rfl (nt_gfR rfl (hq.1 (0, 10, 13) (by decide))) k
      have k := ly_revb 1 (c' := (39, [(2, .int (Int32.ofInt 1)), (0, .ref (q 0)), (1, .int v1)], [.int v1, .ref (q 13)], me_w M J)) rfl k
      have k := mx_iald (v := J (q 13) v1.toNatClampNeg) rfl (hq.2.2.1 13 (by omega)) (rfl) k
      have k := ly_revb 1 (c' := (if (J (q 13) v1.toNatClampNeg) ≤ 0 then 60 else 43, [(2, .int (Int32.ofInt 1)), (0, .ref (q 0)), (1, .int v1)], [], me_w M J)) rfl k
      by_cases h40 : (J (q 13) v1.toNatClampNeg) ≤ 0
      · rw [if_pos h40] at k
        have k := ly_revb 1 (c' := (61, [(2, .int (Int32.ofInt 1)), (0, .ref (q 0)), (1, .int v1)], [.int (Int32.ofInt 0)], me_w M J)) rfl k
        have k := lz_ri rfl (by decide) k
        rw [k, x73, if_neg h10, if_pos h25, if_pos h40]
      · rw [if_neg h40] at k
        have k := ly_revb 1 (c' := (44, [(2, .int (Int32.ofInt 1)), (0, .ref (q 0)), (1, .int v1)], [.ref (q 0)], me_w M J)) rfl k
        have k := lz_get (a := (q 0)) (g := 612) (M := me_w M J) (v := .ref (q 15)) rfl (nt_gfR rfl (hq.1 (0, 12, 15) (by decide))) k
        have k := ly_revb 1 (c' := (48, [(2, .int (Int32.ofInt 1)), (0, .ref (q 0)), (1, .int v1)], [.int v1, .ref (q 15)], me_w M J)) rfl k
        have k := mx_bald (v := J (q 15) v1.toNatClampNeg) rfl (rfl) k
        have k := ly_revb 1 (c' := (if (J (q 15) v1.toNatClampNeg) = 0 then 52 else 60, [(2, .int (Int32.ofInt 1)), (0, .ref (q 0)), (1, .int v1)], [], me_w M J)) rfl k
        by_cases h49 : (J (q 15) v1.toNatClampNeg) = 0
        · rw [if_pos h49] at k
          have k := ly_revb 2 (c' := (if (Int32.ofInt 1) = 0 then 56 else 60, [(2, .int (Int32.ofInt 1)), (0, .ref (q 0)), (1, .int v1)], [], me_w M J)) rfl k
          rw [if_neg (show ¬ ((Int32.ofInt 1) = 0) from by decide)] at k
          have k := ly_revb 1 (c' := (61, [(2, .int (Int32.ofInt 1)), (0, .ref (q 0)), (1, .int v1)], [.int (Int32.ofInt 0)], me_w M J)) rfl k
          have k := lz_ri rfl (by decide) k
          rw [k, x73, if_neg h10, if_pos h25, if_neg h40, if_pos h49]
        · rw [if_neg h49] at k
          have k := ly_revb 1 (c' := (61, [(2, .int (Int32.ofInt 1)), (0, .ref (q 0)), (1, .int v1)], [.int (Int32.ofInt 0)], me_w M J)) rfl k
          have k := lz_ri rfl (by decide) k
          rw [k, x73, if_neg h10, if_pos h25, if_neg h40, if_neg h49]
    · rw [if_neg h25] at k
      have k := ly_revb 3 (c' := (35, [(2, .int (Int32.ofInt 0)), (0, .ref (q 0)), (1, .int v1)], [.ref (q 0)], me_w M J)) rfl k
      have k := lz_get (a := (q 0)) (g := 610) (M := me_w M J) (v := .ref (q 13)) rfl (nt_gfR rfl (hq.1 (0, 10, 13) (by decide))) k
      have k := ly_revb 1 (c' := (39, [(2, .int (Int32.ofInt 0)), (0, .ref (q 0)), (1, .int v1)], [.int v1, .ref (q 13)], me_w M J)) rfl k
      have k := mx_iald (v := J (q 13) v1.toNatClampNeg) rfl (hq.2.2.1 13 (by omega)) (rfl) k
      have k := ly_revb 1 (c' := (if (J (q 13) v1.toNatClampNeg) ≤ 0 then 60 else 43, [(2, .int (Int32.ofInt 0)), (0, .ref (q 0)), (1, .int v1)], [], me_w M J)) rfl k
      by_cases h40 : (J (q 13) v1.toNatClampNeg) ≤ 0
      · rw [if_pos h40] at k
        have k := ly_revb 1 (c' := (61, [(2, .int (Int32.ofInt 0)), (0, .ref (q 0)), (1, .int v1)], [.int (Int32.ofInt 0)], me_w M J)) rfl k
        have k := lz_ri rfl (by decide) k
        rw [k, x73, if_neg h10, if_neg h25, if_pos h40]
      · rw [if_neg h40] at k
        have k := ly_revb 1 (c' := (44, [(2, .int (Int32.ofInt 0)), (0, .ref (q 0)), (1, .int v1)], [.ref (q 0)], me_w M J)) rfl k
        have k := lz_get (a := (q 0)) (g := 612) (M := me_w M J) (v := .ref (q 15)) rfl (nt_gfR rfl (hq.1 (0, 12, 15) (by decide))) k
        have k := ly_revb 1 (c' := (48, [(2, .int (Int32.ofInt 0)), (0, .ref (q 0)), (1, .int v1)], [.int v1, .ref (q 15)], me_w M J)) rfl k
        have k := mx_bald (v := J (q 15) v1.toNatClampNeg) rfl (rfl) k
        have k := ly_revb 1 (c' := (if (J (q 15) v1.toNatClampNeg) = 0 then 52 else 60, [(2, .int (Int32.ofInt 0)), (0, .ref (q 0)), (1, .int v1)], [], me_w M J)) rfl k
        by_cases h49 : (J (q 15) v1.toNatClampNeg) = 0
        · rw [if_pos h49] at k
          have k := ly_revb 2 (c' := (if (Int32.ofInt 0) = 0 then 56 else 60, [(2, .int (Int32.ofInt 0)), (0, .ref (q 0)), (1, .int v1)], [], me_w M J)) rfl k
          rw [if_pos (show (Int32.ofInt 0) = 0 from by decide)] at k
          have k := ly_revb 2 (c' := (61, [(2, .int (Int32.ofInt 0)), (0, .ref (q 0)), (1, .int v1)], [.int (Int32.ofInt 1)], me_w M J)) rfl k
          have k := lz_ri rfl (by decide) k
          rw [k, x73, if_neg h10, if_neg h25, if_neg h40, if_pos h49]
        · rw [if_neg h49] at k
          have k := ly_revb 1 (c' := (61, [(2, .int (Int32.ofInt 0)), (0, .ref (q 0)), (1, .int v1)], [.int (Int32.ofInt 0)], me_w M J)) rfl k
          have k := lz_ri rfl (by decide) k
          rw [k, x73, if_neg h10, if_neg h25, if_neg h40, if_neg h49]
/-! $State.put -/
def x74 (q : Nat → Nat) (v1 : Int32) (v2 : Int32) (J : Nat → Nat → Int32) : (Nat → Nat → Int32) := (nt_u (nt_u (nt_u J (q 14) v1.toNatClampNeg v2) (q 0) 3 ((J (q 0) 3) + (Int32.ofInt 1))) (q 0) 4 ((J (q 0) 4) + (Int32.ofInt 1)))
theorem xt74 {X : nt_X} {d : Nat} {M : nt_M} {o : Option Value × nt_M} {q : Nat → Nat} {v1 : Int32} {v2 : Int32} {J : Nat → Nat → Int32} (hq : xs_Q M q) (k : nt_ev X d 74 [.ref (q 0), .int v1, .int v2] (me_w M J) o) : o = (none, me_w M (x74 q v1 v2 J)) := by
  have k : nt_rn X d 74 (0, [(0, .ref (q 0)), (1, .int v1), (2, .int v2)], [], me_w M J) o := k
  have k := ly_revb 1 (c' := (1, [(0, .ref (q 0)), (1, .int v1), (2, .int v2)], [.ref (q 0)], me_w M J)) rfl k
  have k := lz_get (a := (q 0)) (g := 611) (M := me_w M J) (v := .ref (q 14)) rfl (nt_gfR rfl (hq.1 (0, 11, 14) (by decide))) k
  have k := ly_revb 2 (c' := (6, [(0, .ref (q 0)), (1, .int v1), (2, .int v2)], [.int v2, .int v1, .ref (q 14)], me_w M J)) rfl k
  have k := mx_iast (q := v1.toNatClampNeg) rfl rfl k
  have k : nt_rn X _ 74 (7, [(0, .ref (q 0)), (1, .int v1), (2, .int v2)], [], me_w M (nt_u J (q 14) v1.toNatClampNeg v2)) _ := k
  have k := ly_revb 2 (c' := (9, [(0, .ref (q 0)), (1, .int v1), (2, .int v2)], [.ref (q 0), .ref (q 0)], me_w M (nt_u J (q 14) v1.toNatClampNeg v2))) rfl k
  have k := lz_get (a := (q 0)) (g := 603) (M := me_w M (nt_u J (q 14) v1.toNatClampNeg v2)) (v := .int (J (q 0) 3)) rfl (congrArg Value.int (mu_j (hq.2.1 0 14 (by omega) (by omega) (by decide)))) k
  have k := ly_revb 2 (c' := (14, [(0, .ref (q 0)), (1, .int v1), (2, .int v2)], [.int ((J (q 0) 3) + (Int32.ofInt 1)), .ref (q 0)], me_w M (nt_u J (q 14) v1.toNatClampNeg v2))) rfl k
  have k := me_put rfl (by decide) k
  have k : nt_rn X _ 74 (17, [(0, .ref (q 0)), (1, .int v1), (2, .int v2)], [], me_w M (nt_u (nt_u J (q 14) v1.toNatClampNeg v2) (q 0) 3 ((J (q 0) 3) + (Int32.ofInt 1)))) _ := k
  have k := ly_revb 2 (c' := (19, [(0, .ref (q 0)), (1, .int v1), (2, .int v2)], [.ref (q 0), .ref (q 0)], me_w M (nt_u (nt_u J (q 14) v1.toNatClampNeg v2) (q 0) 3 ((J (q 0) 3) + (Int32.ofInt 1))))) rfl k
  have k := lz_get (a := (q 0)) (g := 604) (M := me_w M (nt_u (nt_u J (q 14) v1.toNatClampNeg v2) (q 0) 3 ((J (q 0) 3) + (Int32.ofInt 1)))) (v := .int (J (q 0) 4)) rfl (congrArg Value.int ((mu_k (by decide)).trans (mu_j (hq.2.1 0 14 (by omega) (by omega) (by decide))))) k
  have k := ly_revb 2 (c' := (24, [(0, .ref (q 0)), (1, .int v1), (2, .int v2)], [.int ((J (q 0) 4) + (Int32.ofInt 1)), .ref (q 0)], me_w M (nt_u (nt_u J (q 14) v1.toNatClampNeg v2) (q 0) 3 ((J (q 0) 3) + (Int32.ofInt 1))))) rfl k
  have k := me_put rfl (by decide) k
  have k : nt_rn X _ 74 (27, [(0, .ref (q 0)), (1, .int v1), (2, .int v2)], [], me_w M (nt_u (nt_u (nt_u J (q 14) v1.toNatClampNeg v2) (q 0) 3 ((J (q 0) 3) + (Int32.ofInt 1))) (q 0) 4 ((J (q 0) 4) + (Int32.ofInt 1)))) _ := k
  have k := lz_rv rfl rfl k
  rw [k, x74]
theorem x74_frJ {q : Nat → Nat} {v1 : Int32} {v2 : Int32} {J : Nat → Nat → Int32} {b : Nat} (n0 : b ≠ q 0) (n1 : b ≠ q 14) : x74 q v1 v2 J b = J b := by
  unfold x74
  all_goals first | (dsimp only; exact (show (nt_u (nt_u (nt_u J (q 14) v1.toNatClampNeg v2) (q 0) 3 ((J (q 0) 3) + (Int32.ofInt 1))) (q 0) 4 ((J (q 0) 4) + (Int32.ofInt 1))) b = J b from (mu_o n0).trans ((mu_o n0).trans (mu_o n1)))) | exact (show (nt_u (nt_u (nt_u J (q 14) v1.toNatClampNeg v2) (q 0) 3 ((J (q 0) 3) + (Int32.ofInt 1))) (q 0) 4 ((J (q 0) 4) + (Int32.ofInt 1))) b = J b from (mu_o n0).trans ((mu_o n0).trans (mu_o n1)))
end
section
/-! the said row: what lies where -/
def xr_b (j : Nat) : Int × Int := if j = 0 then (0, 4) else if j = 1 then (0, 6) else if j = 2 then (0, 24) else if j = 3 then (0, 8) else if 10 ≤ j ∧ j < 52 ∧ (j - 10) % 7 = 5 then (-1, 7) else if 52 ≤ j ∧ j < 172 ∧ (j - 52) % 5 = 2 then (0, 5) else if 52 ≤ j ∧ j < 172 ∧ (j - 52) % 5 = 3 then (-1, 5) else if 172 ≤ j ∧ j < 212 ∧ (j - 172) % 5 = 0 then (0, 5) else (-2147483648, 2147483647)
def xr_W (e : Nat → Int32) : Prop := ∀ j, (xr_b j).1 ≤ (e j).toInt ∧ (e j).toInt ≤ (xr_b j).2
theorem xr_up {J : Nat → Nat → Int32} {a j : Nat} {v : Int32} (h : xr_W (J a)) (hv : (xr_b j).1 ≤ v.toInt ∧ v.toInt ≤ (xr_b j).2) : xr_W (nt_u J a j v a) := by
  intro i
  by_cases e : i = j
  · subst e
    rw [me_us]
    exact hv
  · rw [me_uk e]
    exact h i
theorem xr_any {j : Nat} {v : Int32} (h : xr_b j = (-2147483648, 2147483647)) : (xr_b j).1 ≤ v.toInt ∧ v.toInt ≤ (xr_b j).2 := by
  rw [h]
  have l1 := v.le_toInt
  have l2 := v.toInt_lt
  exact ⟨l1, by omega⟩
theorem xr_0 {e : Nat → Int32} (h : xr_W e) : 0 ≤ (e 0).toInt ∧ (e 0).toInt ≤ 4 := h 0
theorem xr_1 {e : Nat → Int32} (h : xr_W e) : 0 ≤ (e 1).toInt ∧ (e 1).toInt ≤ 6 := h 1
theorem xr_2 {e : Nat → Int32} (h : xr_W e) : 0 ≤ (e 2).toInt ∧ (e 2).toInt ≤ 24 := h 2
theorem xr_3 {e : Nat → Int32} (h : xr_W e) : 0 ≤ (e 3).toInt ∧ (e 3).toInt ≤ 8 := h 3
theorem xr_on {e : Nat → Int32} (h : xr_W e) {s : Nat} (hs : s < 6) : -1 ≤ (e (10 + 7 * s + 5)).toInt ∧ (e (10 + 7 * s + 5)).toInt ≤ 7 := by
  have q := h (10 + 7 * s + 5)
  rw [show xr_b (10 + 7 * s + 5) = (-1, 7) from by rcases (by omega : s = 0 ∨ s = 1 ∨ s = 2 ∨ s = 3 ∨ s = 4 ∨ s = 5) with rfl | rfl | rfl | rfl | rfl | rfl <;> rfl] at q
  exact q
theorem xr_b2 {p : Nat} (hp : p < 24) : xr_b (52 + 5 * p + 2) = (0, 5) := by
  unfold xr_b
  rw [if_neg (by omega), if_neg (by omega), if_neg (by omega), if_neg (by omega), if_neg (by omega), if_pos (by omega)]
theorem xr_b3 {p : Nat} (hp : p < 24) : xr_b (52 + 5 * p + 3) = (-1, 5) := by
  unfold xr_b
  rw [if_neg (by omega), if_neg (by omega), if_neg (by omega), if_neg (by omega), if_neg (by omega), if_neg (by omega), if_pos (by omega)]
theorem xr_b5 {s : Nat} (hs : s < 6) : xr_b (10 + 7 * s + 5) = (-1, 7) := by
  unfold xr_b
  rw [if_neg (by omega), if_neg (by omega), if_neg (by omega), if_neg (by omega), if_pos (by omega)]
theorem xr_bp {p k : Nat} (hp : p < 24) (hk : k < 5) (h2 : k ≠ 2) (h3 : k ≠ 3) : xr_b (52 + 5 * p + k) = (-2147483648, 2147483647) := by
  unfold xr_b
  rw [if_neg (by omega), if_neg (by omega), if_neg (by omega), if_neg (by omega), if_neg (by omega), if_neg (by omega), if_neg (by omega), if_neg (by omega)]
theorem xr_bs {s k : Nat} (hs : s < 6) (hk : k < 7) (h5 : k ≠ 5) : xr_b (10 + 7 * s + k) = (-2147483648, 2147483647) := by
  unfold xr_b
  rw [if_neg (by omega), if_neg (by omega), if_neg (by omega), if_neg (by omega), if_neg (by omega), if_neg (by omega), if_neg (by omega), if_neg (by omega)]
theorem xr_bv {v k : Nat} (hv : v < 8) (hk : k < 5) (h0 : k ≠ 0) : xr_b (172 + 5 * v + k) = (-2147483648, 2147483647) := by
  unfold xr_b
  rw [if_neg (by omega), if_neg (by omega), if_neg (by omega), if_neg (by omega), if_neg (by omega), if_neg (by omega), if_neg (by omega), if_neg (by omega)]
theorem xr_ow {e : Nat → Int32} (h : xr_W e) {p : Nat} (hp : p < 24) : 0 ≤ (e (52 + 5 * p + 2)).toInt ∧ (e (52 + 5 * p + 2)).toInt ≤ 5 := by
  have q := h (52 + 5 * p + 2)
  rw [xr_b2 hp] at q
  exact q
theorem xr_sh {e : Nat → Int32} (h : xr_W e) {v : Nat} (hv : v < 8) : 0 ≤ (e (172 + 5 * v)).toInt ∧ (e (172 + 5 * v)).toInt ≤ 5 := by
  have q := h (172 + 5 * v)
  rw [show xr_b (172 + 5 * v) = (0, 5) from by
    unfold xr_b
    rw [if_neg (by omega), if_neg (by omega), if_neg (by omega), if_neg (by omega), if_neg (by omega), if_neg (by omega), if_neg (by omega), if_pos (by omega)]] at q
  exact q
theorem xi_k {k : Nat} (h : k < 1000) : (Int32.ofInt (k : Int)).toInt = k := by
  have z : Int32.size = 4294967296 := rfl
  rw [Int32.toInt_ofInt, Int.bmod_eq_of_le (by omega) (by omega)]
theorem xi_3 {a m b : Nat} {x : Int32} (ha : a < 1000) (hm : m < 1000) (hb : b < 1000) (hx : 0 ≤ x.toInt) (h2 : x.toInt ≤ 1000) : ((Int32.ofInt (a : Int) + Int32.ofInt (m : Int) * x) + Int32.ofInt (b : Int)).toNatClampNeg = a + m * x.toInt.toNat + b := by
  have e1 : (Int32.ofInt (m : Int) * x).toInt = (m : Int) * x.toInt := by
    have : (m : Int) * x.toInt ≤ 999 * 1000 := Int.mul_le_mul (by omega) h2 hx (by omega)
    have : 0 ≤ (m : Int) * x.toInt := Int.mul_nonneg (by omega) hx
    rw [Int32.toInt_mul, xi_k hm, Int.bmod_eq_of_le (by omega) (by omega)]
  have l1 : (m : Int) * x.toInt ≤ 999 * 1000 := Int.mul_le_mul (by omega) h2 hx (by omega)
  have l2 : 0 ≤ (m : Int) * x.toInt := Int.mul_nonneg (by omega) hx
  have e2 : (Int32.ofInt (a : Int) + Int32.ofInt (m : Int) * x).toInt = a + (m : Int) * x.toInt := by
    rw [Int32.toInt_add, e1, xi_k ha, Int.bmod_eq_of_le (by omega) (by omega)]
  have e3 : ((Int32.ofInt (a : Int) + Int32.ofInt (m : Int) * x) + Int32.ofInt (b : Int)).toInt = a + (m : Int) * x.toInt + b := by
    rw [Int32.toInt_add, e2, xi_k hb, Int.bmod_eq_of_le (by omega) (by omega)]
  show Int.toNat _ = _
  rw [e3]
  obtain ⟨n, hn⟩ := Int.eq_ofNat_of_zero_le hx
  rw [hn, show (m : Int) * (n : Int) = ((m * n : Nat) : Int) from (Int.natCast_mul m n).symm, show ((n : Int)).toNat = n from by omega]
  omega
/-! $Calendar.endsOn -/
def x2 (q : Nat → Nat) (v1 : Int32) (v2 : Int32) (J : Nat → Nat → Int32) : Int32 := if (x71 q (J (q 12) v1.toNatClampNeg) J) = 0 then (Int32.ofInt 0)
  else if (J (q 8) ((J (q 12) v1.toNatClampNeg).toNatClampNeg)) = v2 then (Int32.ofInt 1)
    else (Int32.ofInt 0)
theorem xt2 {X : nt_X} {d : Nat} {M : nt_M} {o : Option Value × nt_M} {q : Nat → Nat} {v1 : Int32} {v2 : Int32} {J : Nat → Nat → Int32} (hq : xs_Q M q) (k : nt_ev X d 2 [.ref (q 0), .int v1, .int v2] (me_w M J) o) : o = (some (.int (x2 q v1 v2 J)), me_w M J) := by
  have k : nt_rn X d 2 (0, [(0, .ref (q 0)), (1, .int v1), (2, .int v2)], [], me_w M J) o := k
  have k := ly_revb 1 (c' := (1, [(0, .ref (q 0)), (1, .int v1), (2, .int v2)], [.ref (q 0)], me_w M J)) rfl k
  have k := lz_get (a := (q 0)) (g := 609) (M := me_w M J) (v := .ref (q 12)) rfl (nt_gfR rfl (hq.1 (0, 9, 12) (by decide))) k
  have k := ly_revb 1 (c' := (5, [(0, .ref (q 0)), (1, .int v1), (2, .int v2)], [.int v1, .ref (q 12)], me_w M J)) rfl k
  have k := mx_iald (v := J (q 12) v1.toNatClampNeg) rfl (hq.2.2.1 12 (by omega)) (rfl) k
  have k := ly_revb 3 (c' := (9, [(3, .int (J (q 12) v1.toNatClampNeg)), (0, .ref (q 0)), (1, .int v1), (2, .int v2)], [.int (J (q 12) v1.toNatClampNeg), .ref (q 0)], me_w M J)) rfl k
  obtain ⟨d1, o1, ed, kc, k⟩ := lz_c (g := 71) (q := 1) (vs := [.ref (q 0), .int (J (q 12) v1.toNatClampNeg)]) (rest := []) rfl rfl (by decide) (Or.inr (Or.inl ⟨_, rfl, rfl⟩)) rfl k
  have e1 := xt71 hq kc
  subst e1
  have k : nt_rn X _ 2 (12, [(3, .int (J (q 12) v1.toNatClampNeg)), (0, .ref (q 0)), (1, .int v1), (2, .int v2)], [.int (x71 q (J (q 12) v1.toNatClampNeg) J)], me_w M J) _ := k
  have k := ly_revb 1 (c' := (if (x71 q (J (q 12) v1.toNatClampNeg) J) = 0 then 32 else 15, [(3, .int (J (q 12) v1.toNatClampNeg)), (0, .ref (q 0)), (1, .int v1), (2, .int v2)], [], me_w M J)) rfl k
  by_cases h12 : (x71 q (J (q 12) v1.toNatClampNeg) J) = 0
  · rw [if_pos h12] at k
    have k := ly_revb 1 (c' := (33, [(3, .int (J (q 12) v1.toNatClampNeg)), (0, .ref (q 0)), (1, .int v1), (2, .int v2)], [.int (Int32.ofInt 0)], me_w M J)) rfl k
    have k := lz_ri rfl (by decide) k
    rw [k, x2, if_pos h12]
  · rw [if_neg h12] at k
    have k := ly_revb 1 (c' := (16, [(3, .int (J (q 12) v1.toNatClampNeg)), (0, .ref (q 0)), (1, .int v1), (2, .int v2)], [.ref (q 0)], me_w M J)) rfl k
    have k := lz_get (a := (q 0)) (g := 600) (M := me_w M J) (v := .ref (q 1)) rfl (nt_gfR rfl (hq.1 (0, 0, 1) (by decide))) k
    have k := lz_get (a := (q 1)) (g := 811) (M := me_w M J) (v := .ref (q 8)) rfl (nt_gfR rfl (hq.1 (1, 11, 8) (by decide))) k
    have k := ly_revb 1 (c' := (23, [(3, .int (J (q 12) v1.toNatClampNeg)), (0, .ref (q 0)), (1, .int v1), (2, .int v2)], [.int (J (q 12) v1.toNatClampNeg), .ref (q 8)], me_w M J)) rfl k
    have k := mx_iald (v := J (q 8) ((J (q 12) v1.toNatClampNeg).toNatClampNeg)) rfl (hq.2.2.1 8 (by omega)) (rfl) k
    have k := ly_revb 2 (c' := (if (J (q 8) ((J (q 12) v1.toNatClampNeg).toNatClampNeg)) = v2 then 28 else 32, [(3, .int (J (q 12) v1.toNatClampNeg)), (0, .ref (q 0)), (1, .int v1), (2, .int v2)], [], me_w M J)) rfl k
    by_cases h25 : (J (q 8) ((J (q 12) v1.toNatClampNeg).toNatClampNeg)) = v2
    · rw [if_pos h25] at k
      have k := ly_revb 2 (c' := (33, [(3, .int (J (q 12) v1.toNatClampNeg)), (0, .ref (q 0)), (1, .int v1), (2, .int v2)], [.int (Int32.ofInt 1)], me_w M J)) rfl k
      have k := lz_ri rfl (by decide) k
      rw [k, x2, if_neg h12, if_pos h25]
    · rw [if_neg h25] at k
      have k := ly_revb 1 (c' := (33, [(3, .int (J (q 12) v1.toNatClampNeg)), (0, .ref (q 0)), (1, .int v1), (2, .int v2)], [.int (Int32.ofInt 0)], me_w M J)) rfl k
      have k := lz_ri rfl (by decide) k
      rw [k, x2, if_neg h12, if_neg h25]
/-! $Calendar.comeHome -/
def x3_34 (q : Nat → Nat) (v1 : Int32) (v2 : Int32) (v3 : Int32) (v4 : Int32) : Nat → Int32 → Int32 → (Nat → Nat → Int32) → (Nat → Nat → Int32)
  | 0, v5, v6, J => (nt_u (nt_u (nt_u (nt_u (nt_u J (q 11) v1.toNatClampNeg ((J (q 11) v1.toNatClampNeg) + v5)) (q 0) 5 ((J (q 0) 5) + v3)) (q 16) v2.toNatClampNeg (Int32.ofInt 2)) (q 10) v1.toNatClampNeg (Int32.ofInt 0)) (q 12) v1.toNatClampNeg (Int32.ofInt (-1)))
  | c + 1, v5, v6, J => if (J (q 1) 1) ≤ v6 then (nt_u (nt_u (nt_u (nt_u (nt_u J (q 11) v1.toNatClampNeg ((J (q 11) v1.toNatClampNeg) + v5)) (q 0) 5 ((J (q 0) 5) + v3)) (q 16) v2.toNatClampNeg (Int32.ofInt 2)) (q 10) v1.toNatClampNeg (Int32.ofInt 0)) (q 12) v1.toNatClampNeg (Int32.ofInt (-1)))
    else (x3_34 q v1 v2 v3 v4 c (v5 - (v4 * (x75 q v1 v6 J))) (v6 + (Int32.ofInt 1)) (nt_u J (q 11) v6.toNatClampNeg ((J (q 11) v6.toNatClampNeg) + (v4 * (x75 q v1 v6 J)))))
theorem xt3_34 {X : nt_X} {d : Nat} {M : nt_M} {o : Option Value × nt_M} {q : Nat → Nat} {v1 : Int32} {v2 : Int32} {v3 : Int32} {v4 : Int32} (hq : xs_Q M q) : ∀ (c : Nat) (v5 : Int32) (v6 : Int32) (v7 : Int32) (J : Nat → Nat → Int32), (J (q 1) 1).toInt - v6.toInt ≤ c → nt_rn X d 3 (34, [(0, .ref (q 0)), (1, .int v1), (2, .int v2), (3, .int v3), (4, .int v4), (5, .int v5), (6, .int v6), (7, .int v7)], [], me_w M J) o → o = (none, me_w M (x3_34 q v1 v2 v3 v4 c v5 v6 J)) := by
  intro c
  induction c with
  | zero =>
    intro v5 v6 v7 J hc k
    have k := ly_revb 2 (c' := (37, [(0, .ref (q 0)), (1, .int v1), (2, .int v2), (3, .int v3), (4, .int v4), (5, .int v5), (6, .int v6), (7, .int v7)], [.ref (q 0), .int v6], me_w M J)) rfl k
    have k := lz_get (a := (q 0)) (g := 600) (M := me_w M J) (v := .ref (q 1)) rfl (nt_gfR rfl (hq.1 (0, 0, 1) (by decide))) k
    have k := lz_get (a := (q 1)) (g := 801) (M := me_w M J) (v := .int (J (q 1) 1)) rfl (congrArg Value.int (rfl)) k
    have k := ly_revb 1 (c' := (if (J (q 1) 1) ≤ v6 then 83 else 46, [(0, .ref (q 0)), (1, .int v1), (2, .int v2), (3, .int v3), (4, .int v4), (5, .int v5), (6, .int v6), (7, .int v7)], [], me_w M J)) rfl k
    have h43 : (J (q 1) 1) ≤ v6 := lx_end hc
    rw [if_pos h43] at k
    have k := ly_revb 1 (c' := (84, [(0, .ref (q 0)), (1, .int v1), (2, .int v2), (3, .int v3), (4, .int v4), (5, .int v5), (6, .int v6), (7, .int v7)], [.ref (q 0)], me_w M J)) rfl k
    have k := lz_get (a := (q 0)) (g := 608) (M := me_w M J) (v := .ref (q 11)) rfl (nt_gfR rfl (hq.1 (0, 8, 11) (by decide))) k
    have k := ly_revb 2 (c' := (89, [(0, .ref (q 0)), (1, .int v1), (2, .int v2), (3, .int v3), (4, .int v4), (5, .int v5), (6, .int v6), (7, .int v7)], [.int v1, .ref (q 11), .int v1, .ref (q 11)], me_w M J)) rfl k
    have k := mx_iald (v := J (q 11) v1.toNatClampNeg) rfl (hq.2.2.1 11 (by omega)) (rfl) k
    have k := ly_revb 2 (c' := (93, [(0, .ref (q 0)), (1, .int v1), (2, .int v2), (3, .int v3), (4, .int v4), (5, .int v5), (6, .int v6), (7, .int v7)], [.int ((J (q 11) v1.toNatClampNeg) + v5), .int v1, .ref (q 11)], me_w M J)) rfl k
    have k := mx_iast (q := v1.toNatClampNeg) rfl rfl k
    have k : nt_rn X _ 3 (94, [(0, .ref (q 0)), (1, .int v1), (2, .int v2), (3, .int v3), (4, .int v4), (5, .int v5), (6, .int v6), (7, .int v7)], [], me_w M (nt_u J (q 11) v1.toNatClampNeg ((J (q 11) v1.toNatClampNeg) + v5))) _ := k
    have k := ly_revb 2 (c' := (96, [(0, .ref (q 0)), (1, .int v1), (2, .int v2), (3, .int v3), (4, .int v4), (5, .int v5), (6, .int v6), (7, .int v7)], [.ref (q 0), .ref (q 0)], me_w M (nt_u J (q 11) v1.toNatClampNeg ((J (q 11) v1.toNatClampNeg) + v5)))) rfl k
    have k := lz_get (a := (q 0)) (g := 605) (M := me_w M (nt_u J (q 11) v1.toNatClampNeg ((J (q 11) v1.toNatClampNeg) + v5))) (v := .int (J (q 0) 5)) rfl (congrArg Value.int (mu_j (hq.2.1 0 11 (by omega) (by omega) (by decide)))) k
    have k := ly_revb 2 (c' := (101, [(0, .ref (q 0)), (1, .int v1), (2, .int v2), (3, .int v3), (4, .int v4), (5, .int v5), (6, .int v6), (7, .int v7)], [.int ((J (q 0) 5) + v3), .ref (q 0)], me_w M (nt_u J (q 11) v1.toNatClampNeg ((J (q 11) v1.toNatClampNeg) + v5)))) rfl k
    have k := me_put rfl (by decide) k
    have k : nt_rn X _ 3 (104, [(0, .ref (q 0)), (1, .int v1), (2, .int v2), (3, .int v3), (4, .int v4), (5, .int v5), (6, .int v6), (7, .int v7)], [], me_w M (nt_u (nt_u J (q 11) v1.toNatClampNeg ((J (q 11) v1.toNatClampNeg) + v5)) (q 0) 5 ((J (q 0) 5) + v3))) _ := k
    have k := ly_revb 1 (c' := (105, [(0, .ref (q 0)), (1, .int v1), (2, .int v2), (3, .int v3), (4, .int v4), (5, .int v5), (6, .int v6), (7, .int v7)], [.ref (q 0)], me_w M (nt_u (nt_u J (q 11) v1.toNatClampNeg ((J (q 11) v1.toNatClampNeg) + v5)) (q 0) 5 ((J (q 0) 5) + v3)))) rfl k
    have k := lz_get (a := (q 0)) (g := 613) (M := me_w M (nt_u (nt_u J (q 11) v1.toNatClampNeg ((J (q 11) v1.toNatClampNeg) + v5)) (q 0) 5 ((J (q 0) 5) + v3))) (v := .ref (q 16)) rfl (nt_gfR rfl (hq.1 (0, 13, 16) (by decide))) k
    have k := ly_revb 2 (c' := (110, [(0, .ref (q 0)), (1, .int v1), (2, .int v2), (3, .int v3), (4, .int v4), (5, .int v5), (6, .int v6), (7, .int v7)], [.int (Int32.ofInt 2), .int v2, .ref (q 16)], me_w M (nt_u (nt_u J (q 11) v1.toNatClampNeg ((J (q 11) v1.toNatClampNeg) + v5)) (q 0) 5 ((J (q 0) 5) + v3)))) rfl k
    have k := mx_iast (q := v2.toNatClampNeg) rfl rfl k
    have k : nt_rn X _ 3 (111, [(0, .ref (q 0)), (1, .int v1), (2, .int v2), (3, .int v3), (4, .int v4), (5, .int v5), (6, .int v6), (7, .int v7)], [], me_w M (nt_u (nt_u (nt_u J (q 11) v1.toNatClampNeg ((J (q 11) v1.toNatClampNeg) + v5)) (q 0) 5 ((J (q 0) 5) + v3)) (q 16) v2.toNatClampNeg (Int32.ofInt 2))) _ := k
    have k := ly_revb 1 (c' := (112, [(0, .ref (q 0)), (1, .int v1), (2, .int v2), (3, .int v3), (4, .int v4), (5, .int v5), (6, .int v6), (7, .int v7)], [.ref (q 0)], me_w M (nt_u (nt_u (nt_u J (q 11) v1.toNatClampNeg ((J (q 11) v1.toNatClampNeg) + v5)) (q 0) 5 ((J (q 0) 5) + v3)) (q 16) v2.toNatClampNeg (Int32.ofInt 2)))) rfl k
    have k := lz_get (a := (q 0)) (g := 607) (M := me_w M (nt_u (nt_u (nt_u J (q 11) v1.toNatClampNeg ((J (q 11) v1.toNatClampNeg) + v5)) (q 0) 5 ((J (q 0) 5) + v3)) (q 16) v2.toNatClampNeg (Int32.ofInt 2))) (v := .ref (q 10)) rfl (nt_gfR rfl (hq.1 (0, 7, 10) (by decide))) k
    have k := ly_revb 2 (c' := (117, [(0, .ref (q 0)), (1, .int v1), (2, .int v2), (3, .int v3), (4, .int v4), (5, .int v5), (6, .int v6), (7, .int v7)], [.int (Int32.ofInt 0), .int v1, .ref (q 10)], me_w M (nt_u (nt_u (nt_u J (q 11) v1.toNatClampNeg ((J (q 11) v1.toNatClampNeg) + v5)) (q 0) 5 ((J (q 0) 5) + v3)) (q 16) v2.toNatClampNeg (Int32.ofInt 2)))) rfl k
    have k := mx_iast (q := v1.toNatClampNeg) rfl rfl k
    have k : nt_rn X _ 3 (118, [(0, .ref (q 0)), (1, .int v1), (2, .int v2), (3, .int v3), (4, .int v4), (5, .int v5), (6, .int v6), (7, .int v7)], [], me_w M (nt_u (nt_u (nt_u (nt_u J (q 11) v1.toNatClampNeg ((J (q 11) v1.toNatClampNeg) + v5)) (q 0) 5 ((J (q 0) 5) + v3)) (q 16) v2.toNatClampNeg (Int32.ofInt 2)) (q 10) v1.toNatClampNeg (Int32.ofInt 0))) _ := k
    have k := ly_revb 1 (c' := (119, [(0, .ref (q 0)), (1, .int v1), (2, .int v2), (3, .int v3), (4, .int v4), (5, .int v5), (6, .int v6), (7, .int v7)], [.ref (q 0)], me_w M (nt_u (nt_u (nt_u (nt_u J (q 11) v1.toNatClampNeg ((J (q 11) v1.toNatClampNeg) + v5)) (q 0) 5 ((J (q 0) 5) + v3)) (q 16) v2.toNatClampNeg (Int32.ofInt 2)) (q 10) v1.toNatClampNeg (Int32.ofInt 0)))) rfl k
    have k := lz_get (a := (q 0)) (g := 609) (M := me_w M (nt_u (nt_u (nt_u (nt_u J (q 11) v1.toNatClampNeg ((J (q 11) v1.toNatClampNeg) + v5)) (q 0) 5 ((J (q 0) 5) + v3)) (q 16) v2.toNatClampNeg (Int32.ofInt 2)) (q 10) v1.toNatClampNeg (Int32.ofInt 0))) (v := .ref (q 12)) rfl (nt_gfR rfl (hq.1 (0, 9, 12) (by decide))) k
    have k := ly_revb 2 (c' := (124, [(0, .ref (q 0)), (1, .int v1), (2, .int v2), (3, .int v3), (4, .int v4), (5, .int v5), (6, .int v6), (7, .int v7)], [.int (Int32.ofInt (-1)), .int v1, .ref (q 12)], me_w M (nt_u (nt_u (nt_u (nt_u J (q 11) v1.toNatClampNeg ((J (q 11) v1.toNatClampNeg) + v5)) (q 0) 5 ((J (q 0) 5) + v3)) (q 16) v2.toNatClampNeg (Int32.ofInt 2)) (q 10) v1.toNatClampNeg (Int32.ofInt 0)))) rfl k
    have k := mx_iast (q := v1.toNatClampNeg) rfl rfl k
    have k : nt_rn X _ 3 (125, [(0, .ref (q 0)), (1, .int v1), (2, .int v2), (3, .int v3), (4, .int v4), (5, .int v5), (6, .int v6), (7, .int v7)], [], me_w M (nt_u (nt_u (nt_u (nt_u (nt_u J (q 11) v1.toNatClampNeg ((J (q 11) v1.toNatClampNeg) + v5)) (q 0) 5 ((J (q 0) 5) + v3)) (q 16) v2.toNatClampNeg (Int32.ofInt 2)) (q 10) v1.toNatClampNeg (Int32.ofInt 0)) (q 12) v1.toNatClampNeg (Int32.ofInt (-1)))) _ := k
    have k := lz_rv rfl rfl k
    rw [k, x3_34]
  | succ c ih =>
    intro v5 v6 v7 J hc k
    have k := ly_revb 2 (c' := (37, [(0, .ref (q 0)), (1, .int v1), (2, .int v2), (3, .int v3), (4, .int v4), (5, .int v5), (6, .int v6), (7, .int v7)], [.ref (q 0), .int v6], me_w M J)) rfl k
    have k := lz_get (a := (q 0)) (g := 600) (M := me_w M J) (v := .ref (q 1)) rfl (nt_gfR rfl (hq.1 (0, 0, 1) (by decide))) k
    have k := lz_get (a := (q 1)) (g := 801) (M := me_w M J) (v := .int (J (q 1) 1)) rfl (congrArg Value.int (rfl)) k
    have k := ly_revb 1 (c' := (if (J (q 1) 1) ≤ v6 then 83 else 46, [(0, .ref (q 0)), (1, .int v1), (2, .int v2), (3, .int v3), (4, .int v4), (5, .int v5), (6, .int v6), (7, .int v7)], [], me_w M J)) rfl k
    by_cases h43 : (J (q 1) 1) ≤ v6
    · rw [if_pos h43] at k
      have k := ly_revb 1 (c' := (84, [(0, .ref (q 0)), (1, .int v1), (2, .int v2), (3, .int v3), (4, .int v4), (5, .int v5), (6, .int v6), (7, .int v7)], [.ref (q 0)], me_w M J)) rfl k
      have k := lz_get (a := (q 0)) (g := 608) (M := me_w M J) (v := .ref (q 11)) rfl (nt_gfR rfl (hq.1 (0, 8, 11) (by decide))) k
      have k := ly_revb 2 (c' := (89, [(0, .ref (q 0)), (1, .int v1), (2, .int v2), (3, .int v3), (4, .int v4), (5, .int v5), (6, .int v6), (7, .int v7)], [.int v1, .ref (q 11), .int v1, .ref (q 11)], me_w M J)) rfl k
      have k := mx_iald (v := J (q 11) v1.toNatClampNeg) rfl (hq.2.2.1 11 (by omega)) (rfl) k
      have k := ly_revb 2 (c' := (93, [(0, .ref (q 0)), (1, .int v1), (2, .int v2), (3, .int v3), (4, .int v4), (5, .int v5), (6, .int v6), (7, .int v7)], [.int ((J (q 11) v1.toNatClampNeg) + v5), .int v1, .ref (q 11)], me_w M J)) rfl k
      have k := mx_iast (q := v1.toNatClampNeg) rfl rfl k
      have k : nt_rn X _ 3 (94, [(0, .ref (q 0)), (1, .int v1), (2, .int v2), (3, .int v3), (4, .int v4), (5, .int v5), (6, .int v6), (7, .int v7)], [], me_w M (nt_u J (q 11) v1.toNatClampNeg ((J (q 11) v1.toNatClampNeg) + v5))) _ := k
      have k := ly_revb 2 (c' := (96, [(0, .ref (q 0)), (1, .int v1), (2, .int v2), (3, .int v3), (4, .int v4), (5, .int v5), (6, .int v6), (7, .int v7)], [.ref (q 0), .ref (q 0)], me_w M (nt_u J (q 11) v1.toNatClampNeg ((J (q 11) v1.toNatClampNeg) + v5)))) rfl k
      have k := lz_get (a := (q 0)) (g := 605) (M := me_w M (nt_u J (q 11) v1.toNatClampNeg ((J (q 11) v1.toNatClampNeg) + v5))) (v := .int (J (q 0) 5)) rfl (congrArg Value.int (mu_j (hq.2.1 0 11 (by omega) (by omega) (by decide)))) k
      have k := ly_revb 2 (c' := (101, [(0, .ref (q 0)), (1, .int v1), (2, .int v2), (3, .int v3), (4, .int v4), (5, .int v5), (6, .int v6), (7, .int v7)], [.int ((J (q 0) 5) + v3), .ref (q 0)], me_w M (nt_u J (q 11) v1.toNatClampNeg ((J (q 11) v1.toNatClampNeg) + v5)))) rfl k
      have k := me_put rfl (by decide) k
      have k : nt_rn X _ 3 (104, [(0, .ref (q 0)), (1, .int v1), (2, .int v2), (3, .int v3), (4, .int v4), (5, .int v5), (6, .int v6), (7, .int v7)], [], me_w M (nt_u (nt_u J (q 11) v1.toNatClampNeg ((J (q 11) v1.toNatClampNeg) + v5)) (q 0) 5 ((J (q 0) 5) + v3))) _ := k
      have k := ly_revb 1 (c' := (105, [(0, .ref (q 0)), (1, .int v1), (2, .int v2), (3, .int v3), (4, .int v4), (5, .int v5), (6, .int v6), (7, .int v7)], [.ref (q 0)], me_w M (nt_u (nt_u J (q 11) v1.toNatClampNeg ((J (q 11) v1.toNatClampNeg) + v5)) (q 0) 5 ((J (q 0) 5) + v3)))) rfl k
      have k := lz_get (a := (q 0)) (g := 613) (M := me_w M (nt_u (nt_u J (q 11) v1.toNatClampNeg ((J (q 11) v1.toNatClampNeg) + v5)) (q 0) 5 ((J (q 0) 5) + v3))) (v := .ref (q 16)) rfl (nt_gfR rfl (hq.1 (0, 13, 16) (by decide))) k
      have k := ly_revb 2 (c' := (110, [(0, .ref (q 0)), (1, .int v1), (2, .int v2), (3, .int v3), (4, .int v4), (5, .int v5), (6, .int v6), (7, .int v7)], [.int (Int32.ofInt 2), .int v2, .ref (q 16)], me_w M (nt_u (nt_u J (q 11) v1.toNatClampNeg ((J (q 11) v1.toNatClampNeg) + v5)) (q 0) 5 ((J (q 0) 5) + v3)))) rfl k
      have k := mx_iast (q := v2.toNatClampNeg) rfl rfl k
      have k : nt_rn X _ 3 (111, [(0, .ref (q 0)), (1, .int v1), (2, .int v2), (3, .int v3), (4, .int v4), (5, .int v5), (6, .int v6), (7, .int v7)], [], me_w M (nt_u (nt_u (nt_u J (q 11) v1.toNatClampNeg ((J (q 11) v1.toNatClampNeg) + v5)) (q 0) 5 ((J (q 0) 5) + v3)) (q 16) v2.toNatClampNeg (Int32.ofInt 2))) _ := k
      have k := ly_revb 1 (c' := (112, [(0, .ref (q 0)), (1, .int v1), (2, .int v2), (3, .int v3), (4, .int v4), (5, .int v5), (6, .int v6), (7, .int v7)], [.ref (q 0)], me_w M (nt_u (nt_u (nt_u J (q 11) v1.toNatClampNeg ((J (q 11) v1.toNatClampNeg) + v5)) (q 0) 5 ((J (q 0) 5) + v3)) (q 16) v2.toNatClampNeg (Int32.ofInt 2)))) rfl k
      have k := lz_get (a := (q 0)) (g := 607) (M := me_w M (nt_u (nt_u (nt_u J (q 11) v1.toNatClampNeg ((J (q 11) v1.toNatClampNeg) + v5)) (q 0) 5 ((J (q 0) 5) + v3)) (q 16) v2.toNatClampNeg (Int32.ofInt 2))) (v := .ref (q 10)) rfl (nt_gfR rfl (hq.1 (0, 7, 10) (by decide))) k
      have k := ly_revb 2 (c' := (117, [(0, .ref (q 0)), (1, .int v1), (2, .int v2), (3, .int v3), (4, .int v4), (5, .int v5), (6, .int v6), (7, .int v7)], [.int (Int32.ofInt 0), .int v1, .ref (q 10)], me_w M (nt_u (nt_u (nt_u J (q 11) v1.toNatClampNeg ((J (q 11) v1.toNatClampNeg) + v5)) (q 0) 5 ((J (q 0) 5) + v3)) (q 16) v2.toNatClampNeg (Int32.ofInt 2)))) rfl k
      have k := mx_iast (q := v1.toNatClampNeg) rfl rfl k
      have k : nt_rn X _ 3 (118, [(0, .ref (q 0)), (1, .int v1), (2, .int v2), (3, .int v3), (4, .int v4), (5, .int v5), (6, .int v6), (7, .int v7)], [], me_w M (nt_u (nt_u (nt_u (nt_u J (q 11) v1.toNatClampNeg ((J (q 11) v1.toNatClampNeg) + v5)) (q 0) 5 ((J (q 0) 5) + v3)) (q 16) v2.toNatClampNeg (Int32.ofInt 2)) (q 10) v1.toNatClampNeg (Int32.ofInt 0))) _ := k
      have k := ly_revb 1 (c' := (119, [(0, .ref (q 0)), (1, .int v1), (2, .int v2), (3, .int v3), (4, .int v4), (5, .int v5), (6, .int v6), (7, .int v7)], [.ref (q 0)], me_w M (nt_u (nt_u (nt_u (nt_u J (q 11) v1.toNatClampNeg ((J (q 11) v1.toNatClampNeg) + v5)) (q 0) 5 ((J (q 0) 5) + v3)) (q 16) v2.toNatClampNeg (Int32.ofInt 2)) (q 10) v1.toNatClampNeg (Int32.ofInt 0)))) rfl k
      have k := lz_get (a := (q 0)) (g := 609) (M := me_w M (nt_u (nt_u (nt_u (nt_u J (q 11) v1.toNatClampNeg ((J (q 11) v1.toNatClampNeg) + v5)) (q 0) 5 ((J (q 0) 5) + v3)) (q 16) v2.toNatClampNeg (Int32.ofInt 2)) (q 10) v1.toNatClampNeg (Int32.ofInt 0))) (v := .ref (q 12)) rfl (nt_gfR rfl (hq.1 (0, 9, 12) (by decide))) k
      have k := ly_revb 2 (c' := (124, [(0, .ref (q 0)), (1, .int v1), (2, .int v2), (3, .int v3), (4, .int v4), (5, .int v5), (6, .int v6), (7, .int v7)], [.int (Int32.ofInt (-1)), .int v1, .ref (q 12)], me_w M (nt_u (nt_u (nt_u (nt_u J (q 11) v1.toNatClampNeg ((J (q 11) v1.toNatClampNeg) + v5)) (q 0) 5 ((J (q 0) 5) + v3)) (q 16) v2.toNatClampNeg (Int32.ofInt 2)) (q 10) v1.toNatClampNeg (Int32.ofInt 0)))) rfl k
      have k := mx_iast (q := v1.toNatClampNeg) rfl rfl k
      have k : nt_rn X _ 3 (125, [(0, .ref (q 0)), (1, .int v1), (2, .int v2), (3, .int v3), (4, .int v4), (5, .int v5), (6, .int v6), (7, .int v7)], [], me_w M (nt_u (nt_u (nt_u (nt_u (nt_u J (q 11) v1.toNatClampNeg ((J (q 11) v1.toNatClampNeg) + v5)) (q 0) 5 ((J (q 0) 5) + v3)) (q 16) v2.toNatClampNeg (Int32.ofInt 2)) (q 10) v1.toNatClampNeg (Int32.ofInt 0)) (q 12) v1.toNatClampNeg (Int32.ofInt (-1)))) _ := k
      have k := lz_rv rfl rfl k
      rw [k, x3_34, if_pos h43]
    · rw [if_neg h43] at k
      have k := ly_revb 4 (c' := (52, [(0, .ref (q 0)), (1, .int v1), (2, .int v2), (3, .int v3), (4, .int v4), (5, .int v5), (6, .int v6), (7, .int v7)], [.int v6, .int v1, .ref (q 0), .int v4], me_w M J)) rfl k
      obtain ⟨d1, o1, ed, kc, k⟩ := lz_c (g := 75) (q := 1) (vs := [.ref (q 0), .int v1, .int v6]) (rest := [.int v4]) rfl rfl (by decide) (Or.inr (Or.inl ⟨_, rfl, rfl⟩)) rfl k
      have e1 := xt75 hq kc
      subst e1
      have k : nt_rn X _ 3 (55, [(0, .ref (q 0)), (1, .int v1), (2, .int v2), (3, .int v3), (4, .int v4), (5, .int v5), (6, .int v6), (7, .int v7)], [.int (x75 q v1 v6 J), .int v4], me_w M J) _ := k
      have k := ly_revb 3 (c' := (59, [(7, .int (v4 * (x75 q v1 v6 J))), (0, .ref (q 0)), (1, .int v1), (2, .int v2), (3, .int v3), (4, .int v4), (5, .int v5), (6, .int v6)], [.ref (q 0)], me_w M J)) rfl k
      have k := lz_get (a := (q 0)) (g := 608) (M := me_w M J) (v := .ref (q 11)) rfl (nt_gfR rfl (hq.1 (0, 8, 11) (by decide))) k
      have k := ly_revb 2 (c' := (65, [(7, .int (v4 * (x75 q v1 v6 J))), (0, .ref (q 0)), (1, .int v1), (2, .int v2), (3, .int v3), (4, .int v4), (5, .int v5), (6, .int v6)], [.int v6, .ref (q 11), .int v6, .ref (q 11)], me_w M J)) rfl k
      have k := mx_iald (v := J (q 11) v6.toNatClampNeg) rfl (hq.2.2.1 11 (by omega)) (rfl) k
      have k := ly_revb 2 (c' := (69, [(7, .int (v4 * (x75 q v1 v6 J))), (0, .ref (q 0)), (1, .int v1), (2, .int v2), (3, .int v3), (4, .int v4), (5, .int v5), (6, .int v6)], [.int ((J (q 11) v6.toNatClampNeg) + (v4 * (x75 q v1 v6 J))), .int v6, .ref (q 11)], me_w M J)) rfl k
      have k := mx_iast (q := v6.toNatClampNeg) rfl rfl k
      have k : nt_rn X _ 3 (70, [(7, .int (v4 * (x75 q v1 v6 J))), (0, .ref (q 0)), (1, .int v1), (2, .int v2), (3, .int v3), (4, .int v4), (5, .int v5), (6, .int v6)], [], me_w M (nt_u J (q 11) v6.toNatClampNeg ((J (q 11) v6.toNatClampNeg) + (v4 * (x75 q v1 v6 J))))) _ := k
      have k := ly_revb 6 (c' := (34, [(6, .int (v6 + (Int32.ofInt 1))), (5, .int (v5 - (v4 * (x75 q v1 v6 J)))), (7, .int (v4 * (x75 q v1 v6 J))), (0, .ref (q 0)), (1, .int v1), (2, .int v2), (3, .int v3), (4, .int v4)], [], me_w M (nt_u J (q 11) v6.toNatClampNeg ((J (q 11) v6.toNatClampNeg) + (v4 * (x75 q v1 v6 J)))))) rfl k
      have k := nt_rn_w (a := [(6, .int (v6 + (Int32.ofInt 1))), (5, .int (v5 - (v4 * (x75 q v1 v6 J)))), (7, .int (v4 * (x75 q v1 v6 J))), (0, .ref (q 0)), (1, .int v1), (2, .int v2), (3, .int v3), (4, .int v4)]) (b := [(0, .ref (q 0)), (1, .int v1), (2, .int v2), (3, .int v3), (4, .int v4), (5, .int (v5 - (v4 * (x75 q v1 v6 J)))), (6, .int (v6 + (Int32.ofInt 1))), (7, .int (v4 * (x75 q v1 v6 J)))]) ⟨rfl, rfl, rfl, rfl, rfl, rfl, rfl, rfl, trivial⟩ rfl k
      have k := ih (v5 - (v4 * (x75 q v1 v6 J))) (v6 + (Int32.ofInt 1)) (v4 * (x75 q v1 v6 J)) (nt_u J (q 11) v6.toNatClampNeg ((J (q 11) v6.toNatClampNeg) + (v4 * (x75 q v1 v6 J)))) (by rw [show (nt_u J (q 11) v6.toNatClampNeg ((J (q 11) v6.toNatClampNeg) + (v4 * (x75 q v1 v6 J)))) (q 1) 1 = J (q 1) 1 from mu_j (hq.2.1 1 11 (by omega) (by omega) (by decide))]; exact lx_dec h43 hc) k
      rw [k, x3_34, if_neg h43]
theorem x3_34_rule {q : Nat → Nat} {v1 : Int32} {v2 : Int32} {v3 : Int32} {v4 : Int32} {I : Nat → Int32 → Int32 → (Nat → Nat → Int32) → Prop} {Q : (Nat → Nat → Int32) → Prop} (h0 : ∀ (v5 : Int32) (v6 : Int32) (J : Nat → Nat → Int32), I 0 v5 v6 J → Q (nt_u (nt_u (nt_u (nt_u (nt_u J (q 11) v1.toNatClampNeg ((J (q 11) v1.toNatClampNeg) + v5)) (q 0) 5 ((J (q 0) 5) + v3)) (q 16) v2.toNatClampNeg (Int32.ofInt 2)) (q 10) v1.toNatClampNeg (Int32.ofInt 0)) (q 12) v1.toNatClampNeg (Int32.ofInt (-1)))) (h1 : ∀ (c : Nat) (v5 : Int32) (v6 : Int32) (J : Nat → Nat → Int32), I (c + 1) v5 v6 J →
    if (J (q 1) 1) ≤ v6 then (Q (nt_u (nt_u (nt_u (nt_u (nt_u J (q 11) v1.toNatClampNeg ((J (q 11) v1.toNatClampNeg) + v5)) (q 0) 5 ((J (q 0) 5) + v3)) (q 16) v2.toNatClampNeg (Int32.ofInt 2)) (q 10) v1.toNatClampNeg (Int32.ofInt 0)) (q 12) v1.toNatClampNeg (Int32.ofInt (-1))))
    else (I c (v5 - (v4 * (x75 q v1 v6 J))) (v6 + (Int32.ofInt 1)) (nt_u J (q 11) v6.toNatClampNeg ((J (q 11) v6.toNatClampNeg) + (v4 * (x75 q v1 v6 J)))))) : ∀ (c : Nat) (v5 : Int32) (v6 : Int32) (J : Nat → Nat → Int32), I c v5 v6 J → Q (x3_34 q v1 v2 v3 v4 c v5 v6 J) := by
  intro c
  induction c with
  | zero =>
    intro v5 v6 J hi
    rw [x3_34]
    exact h0 v5 v6 J hi
  | succ c ih =>
    intro v5 v6 J hi
    have hi := h1 c v5 v6 J hi
    rw [x3_34]
    by_cases h : (J (q 1) 1) ≤ v6
    · rw [if_pos h] at hi ⊢
      exact hi
    · rw [if_neg h] at hi ⊢
      exact ih _ _ _ hi
def x3 (q : Nat → Nat) (v1 : Int32) (J : Nat → Nat → Int32) : (Nat → Nat → Int32) := (x3_34 q v1 (J (q 12) v1.toNatClampNeg) (J (q 9) ((J (q 12) v1.toNatClampNeg).toNatClampNeg)) ((J (q 9) ((J (q 12) v1.toNatClampNeg).toNatClampNeg)) / ((x66 q v1 J) + (Int32.ofInt 1))) ((J (q 1) 1).toNatClampNeg) (J (q 9) ((J (q 12) v1.toNatClampNeg).toNatClampNeg)) (Int32.ofInt 0) J)
theorem xt3 {X : nt_X} {d : Nat} {M : nt_M} {o : Option Value × nt_M} {q : Nat → Nat} {v1 : Int32} {J : Nat → Nat → Int32} (hq : xs_Q M q) (k : nt_ev X d 3 [.ref (q 0), .int v1] (me_w M J) o) : o = (none, me_w M (x3 q v1 J)) := by
  have k : nt_rn X d 3 (0, [(0, .ref (q 0)), (1, .int v1)], [], me_w M J) o := k
  have k := ly_revb 1 (c' := (1, [(0, .ref (q 0)), (1, .int v1)], [.ref (q 0)], me_w M J)) rfl k
  have k := lz_get (a := (q 0)) (g := 609) (M := me_w M J) (v := .ref (q 12)) rfl (nt_gfR rfl (hq.1 (0, 9, 12) (by decide))) k
  have k := ly_revb 1 (c' := (5, [(0, .ref (q 0)), (1, .int v1)], [.int v1, .ref (q 12)], me_w M J)) rfl k
  have k := mx_iald (v := J (q 12) v1.toNatClampNeg) rfl (hq.2.2.1 12 (by omega)) (rfl) k
  have k := ly_revb 2 (c' := (8, [(2, .int (J (q 12) v1.toNatClampNeg)), (0, .ref (q 0)), (1, .int v1)], [.ref (q 0)], me_w M J)) rfl k
  have k := lz_get (a := (q 0)) (g := 600) (M := me_w M J) (v := .ref (q 1)) rfl (nt_gfR rfl (hq.1 (0, 0, 1) (by decide))) k
  have k := lz_get (a := (q 1)) (g := 812) (M := me_w M J) (v := .ref (q 9)) rfl (nt_gfR rfl (hq.1 (1, 12, 9) (by decide))) k
  have k := ly_revb 1 (c' := (15, [(2, .int (J (q 12) v1.toNatClampNeg)), (0, .ref (q 0)), (1, .int v1)], [.int (J (q 12) v1.toNatClampNeg), .ref (q 9)], me_w M J)) rfl k
  have k := mx_iald (v := J (q 9) ((J (q 12) v1.toNatClampNeg).toNatClampNeg)) rfl (hq.2.2.1 9 (by omega)) (rfl) k
  have k := ly_revb 4 (c' := (20, [(3, .int (J (q 9) ((J (q 12) v1.toNatClampNeg).toNatClampNeg))), (2, .int (J (q 12) v1.toNatClampNeg)), (0, .ref (q 0)), (1, .int v1)], [.int v1, .ref (q 0), .int (J (q 9) ((J (q 12) v1.toNatClampNeg).toNatClampNeg))], me_w M J)) rfl k
  obtain ⟨d1, o1, ed, kc, k⟩ := lz_c (g := 66) (q := 1) (vs := [.ref (q 0), .int v1]) (rest := [.int (J (q 9) ((J (q 12) v1.toNatClampNeg).toNatClampNeg))]) rfl rfl (by decide) (Or.inr (Or.inl ⟨_, rfl, rfl⟩)) rfl k
  have e1 := xt66 hq kc
  subst e1
  have k : nt_rn X _ 3 (23, [(3, .int (J (q 9) ((J (q 12) v1.toNatClampNeg).toNatClampNeg))), (2, .int (J (q 12) v1.toNatClampNeg)), (0, .ref (q 0)), (1, .int v1)], [.int (x66 q v1 J), .int (J (q 9) ((J (q 12) v1.toNatClampNeg).toNatClampNeg))], me_w M J) _ := k
  have k := ly_revb 2 (c' := (25, [(3, .int (J (q 9) ((J (q 12) v1.toNatClampNeg).toNatClampNeg))), (2, .int (J (q 12) v1.toNatClampNeg)), (0, .ref (q 0)), (1, .int v1)], [.int ((x66 q v1 J) + (Int32.ofInt 1)), .int (J (q 9) ((J (q 12) v1.toNatClampNeg).toNatClampNeg))], me_w M J)) rfl k
  obtain ⟨hd25, k⟩ := mx_idiv rfl k
  have k := ly_revb 5 (c' := (34, [(6, .int (Int32.ofInt 0)), (5, .int (J (q 9) ((J (q 12) v1.toNatClampNeg).toNatClampNeg))), (4, .int ((J (q 9) ((J (q 12) v1.toNatClampNeg).toNatClampNeg)) / ((x66 q v1 J) + (Int32.ofInt 1)))), (3, .int (J (q 9) ((J (q 12) v1.toNatClampNeg).toNatClampNeg))), (2, .int (J (q 12) v1.toNatClampNeg)), (0, .ref (q 0)), (1, .int v1)], [], me_w M J)) rfl k
  have k := nt_rn_w (a := [(6, .int (Int32.ofInt 0)), (5, .int (J (q 9) ((J (q 12) v1.toNatClampNeg).toNatClampNeg))), (4, .int ((J (q 9) ((J (q 12) v1.toNatClampNeg).toNatClampNeg)) / ((x66 q v1 J) + (Int32.ofInt 1)))), (3, .int (J (q 9) ((J (q 12) v1.toNatClampNeg).toNatClampNeg))), (2, .int (J (q 12) v1.toNatClampNeg)), (0, .ref (q 0)), (1, .int v1)]) (b := [(0, .ref (q 0)), (1, .int v1), (2, .int (J (q 12) v1.toNatClampNeg)), (3, .int (J (q 9) ((J (q 12) v1.toNatClampNeg).toNatClampNeg))), (4, .int ((J (q 9) ((J (q 12) v1.toNatClampNeg).toNatClampNeg)) / ((x66 q v1 J) + (Int32.ofInt 1)))), (5, .int (J (q 9) ((J (q 12) v1.toNatClampNeg).toNatClampNeg))), (6, .int (Int32.ofInt 0)), (7, .int (Int32.ofInt 0))]) ⟨rfl, rfl, rfl, rfl, rfl, rfl, rfl, trivial⟩ rfl k
  have k := xt3_34 hq  ((J (q 1) 1).toNatClampNeg) (J (q 9) ((J (q 12) v1.toNatClampNeg).toNatClampNeg)) (Int32.ofInt 0) (Int32.ofInt 0) J (lx_beg (by decide)) k
  rw [k, x3]
theorem x3_34_frJ {q : Nat → Nat} {v1 : Int32} {v2 : Int32} {v3 : Int32} {v4 : Int32} {b : Nat} : ∀ (c : Nat) (v5 : Int32) (v6 : Int32) (J : Nat → Nat → Int32), b ≠ q 0 → b ≠ q 10 → b ≠ q 11 → b ≠ q 12 → b ≠ q 16 → x3_34 q v1 v2 v3 v4 c v5 v6 J b = J b := by
  intro c
  induction c with
  | zero =>
    intro v5 v6 J n0 n1 n2 n3 n4
    rw [x3_34]
    all_goals first | (dsimp only; exact (show (nt_u (nt_u (nt_u (nt_u (nt_u J (q 11) v1.toNatClampNeg ((J (q 11) v1.toNatClampNeg) + v5)) (q 0) 5 ((J (q 0) 5) + v3)) (q 16) v2.toNatClampNeg (Int32.ofInt 2)) (q 10) v1.toNatClampNeg (Int32.ofInt 0)) (q 12) v1.toNatClampNeg (Int32.ofInt (-1))) b = J b from (mu_o n3).trans ((mu_o n1).trans ((mu_o n4).trans ((mu_o n0).trans (mu_o n2)))))) | exact (show (nt_u (nt_u (nt_u (nt_u (nt_u J (q 11) v1.toNatClampNeg ((J (q 11) v1.toNatClampNeg) + v5)) (q 0) 5 ((J (q 0) 5) + v3)) (q 16) v2.toNatClampNeg (Int32.ofInt 2)) (q 10) v1.toNatClampNeg (Int32.ofInt 0)) (q 12) v1.toNatClampNeg (Int32.ofInt (-1))) b = J b from (mu_o n3).trans ((mu_o n1).trans ((mu_o n4).trans ((mu_o n0).trans (mu_o n2)))))
  | succ c ih =>
    intro v5 v6 J n0 n1 n2 n3 n4
    rw [x3_34]
    by_cases h : (J (q 1) 1) ≤ v6
    · rw [if_pos h]
      all_goals first | (dsimp only; exact (show (nt_u (nt_u (nt_u (nt_u (nt_u J (q 11) v1.toNatClampNeg ((J (q 11) v1.toNatClampNeg) + v5)) (q 0) 5 ((J (q 0) 5) + v3)) (q 16) v2.toNatClampNeg (Int32.ofInt 2)) (q 10) v1.toNatClampNeg (Int32.ofInt 0)) (q 12) v1.toNatClampNeg (Int32.ofInt (-1))) b = J b from (mu_o n3).trans ((mu_o n1).trans ((mu_o n4).trans ((mu_o n0).trans (mu_o n2)))))) | exact (show (nt_u (nt_u (nt_u (nt_u (nt_u J (q 11) v1.toNatClampNeg ((J (q 11) v1.toNatClampNeg) + v5)) (q 0) 5 ((J (q 0) 5) + v3)) (q 16) v2.toNatClampNeg (Int32.ofInt 2)) (q 10) v1.toNatClampNeg (Int32.ofInt 0)) (q 12) v1.toNatClampNeg (Int32.ofInt (-1))) b = J b from (mu_o n3).trans ((mu_o n1).trans ((mu_o n4).trans ((mu_o n0).trans (mu_o n2)))))
    · rw [if_neg h]
      exact (ih _ _ _ n0 n1 n2 n3 n4).trans (mu_o n2)
theorem x3_frJ {q : Nat → Nat} {v1 : Int32} {J : Nat → Nat → Int32} {b : Nat} (n0 : b ≠ q 0) (n1 : b ≠ q 10) (n2 : b ≠ q 11) (n3 : b ≠ q 12) (n4 : b ≠ q 16) : x3 q v1 J b = J b := by
  unfold x3
  exact (x3_34_frJ _ _ _ _ n0 n1 n2 n3 n4).trans (rfl)
/-! $Calendar.lose -/
def x10_38 (q : Nat → Nat) (v1 : Int32) : Nat → Int32 → (Nat → Nat → Int32) → (Nat → Nat → Int32)
  | 0, v3, J => J
  | c + 1, v3, J => if (J (q 1) 2) ≤ v3 then J
    else if (J (q 14) v3.toNatClampNeg) = v1 then (x10_38 q v1 c (v3 + (Int32.ofInt 1)) (nt_u J (q 15) v3.toNatClampNeg (vp_nar .boolean (Int32.ofInt 1))))
      else (x10_38 q v1 c (v3 + (Int32.ofInt 1)) J)
theorem xt10_38 {X : nt_X} {d : Nat} {M : nt_M} {o : Option Value × nt_M} {q : Nat → Nat} {v1 : Int32} {v2 : Int32} (hq : xs_Q M q) : ∀ (c : Nat) (v3 : Int32) (J : Nat → Nat → Int32), (J (q 1) 2).toInt - v3.toInt ≤ c → nt_rn X d 10 (38, [(0, .ref (q 0)), (1, .int v1), (2, .int v2), (3, .int v3)], [], me_w M J) o → o = (none, me_w M (x10_38 q v1 c v3 J)) := by
  intro c
  induction c with
  | zero =>
    intro v3 J hc k
    have k := ly_revb 2 (c' := (40, [(0, .ref (q 0)), (1, .int v1), (2, .int v2), (3, .int v3)], [.ref (q 0), .int v3], me_w M J)) rfl k
    have k := lz_get (a := (q 0)) (g := 600) (M := me_w M J) (v := .ref (q 1)) rfl (nt_gfR rfl (hq.1 (0, 0, 1) (by decide))) k
    have k := lz_get (a := (q 1)) (g := 802) (M := me_w M J) (v := .int (J (q 1) 2)) rfl (congrArg Value.int (rfl)) k
    have k := ly_revb 1 (c' := (if (J (q 1) 2) ≤ v3 then 72 else 49, [(0, .ref (q 0)), (1, .int v1), (2, .int v2), (3, .int v3)], [], me_w M J)) rfl k
    have h46 : (J (q 1) 2) ≤ v3 := lx_end hc
    rw [if_pos h46] at k
    have k := lz_rv rfl rfl k
    rw [k, x10_38]
  | succ c ih =>
    intro v3 J hc k
    have k := ly_revb 2 (c' := (40, [(0, .ref (q 0)), (1, .int v1), (2, .int v2), (3, .int v3)], [.ref (q 0), .int v3], me_w M J)) rfl k
    have k := lz_get (a := (q 0)) (g := 600) (M := me_w M J) (v := .ref (q 1)) rfl (nt_gfR rfl (hq.1 (0, 0, 1) (by decide))) k
    have k := lz_get (a := (q 1)) (g := 802) (M := me_w M J) (v := .int (J (q 1) 2)) rfl (congrArg Value.int (rfl)) k
    have k := ly_revb 1 (c' := (if (J (q 1) 2) ≤ v3 then 72 else 49, [(0, .ref (q 0)), (1, .int v1), (2, .int v2), (3, .int v3)], [], me_w M J)) rfl k
    by_cases h46 : (J (q 1) 2) ≤ v3
    · rw [if_pos h46] at k
      have k := lz_rv rfl rfl k
      rw [k, x10_38, if_pos h46]
    · rw [if_neg h46] at k
      have k := ly_revb 1 (c' := (50, [(0, .ref (q 0)), (1, .int v1), (2, .int v2), (3, .int v3)], [.ref (q 0)], me_w M J)) rfl k
      have k := lz_get (a := (q 0)) (g := 611) (M := me_w M J) (v := .ref (q 14)) rfl (nt_gfR rfl (hq.1 (0, 11, 14) (by decide))) k
      have k := ly_revb 1 (c' := (54, [(0, .ref (q 0)), (1, .int v1), (2, .int v2), (3, .int v3)], [.int v3, .ref (q 14)], me_w M J)) rfl k
      have k := mx_iald (v := J (q 14) v3.toNatClampNeg) rfl (hq.2.2.1 14 (by omega)) (rfl) k
      have k := ly_revb 2 (c' := (if (J (q 14) v3.toNatClampNeg) = v1 then 59 else 66, [(0, .ref (q 0)), (1, .int v1), (2, .int v2), (3, .int v3)], [], me_w M J)) rfl k
      by_cases h56 : (J (q 14) v3.toNatClampNeg) = v1
      · rw [if_pos h56] at k
        have k := ly_revb 1 (c' := (60, [(0, .ref (q 0)), (1, .int v1), (2, .int v2), (3, .int v3)], [.ref (q 0)], me_w M J)) rfl k
        have k := lz_get (a := (q 0)) (g := 612) (M := me_w M J) (v := .ref (q 15)) rfl (nt_gfR rfl (hq.1 (0, 12, 15) (by decide))) k
        have k := ly_revb 2 (c' := (65, [(0, .ref (q 0)), (1, .int v1), (2, .int v2), (3, .int v3)], [.int (Int32.ofInt 1), .int v3, .ref (q 15)], me_w M J)) rfl k
        have k := mx_bast (q := v3.toNatClampNeg) rfl hq.2.2.2 rfl k
        have k : nt_rn X _ 10 (66, [(0, .ref (q 0)), (1, .int v1), (2, .int v2), (3, .int v3)], [], me_w M (nt_u J (q 15) v3.toNatClampNeg (vp_nar .boolean (Int32.ofInt 1)))) _ := k
        have k := ly_revb 2 (c' := (38, [(3, .int (v3 + (Int32.ofInt 1))), (0, .ref (q 0)), (1, .int v1), (2, .int v2)], [], me_w M (nt_u J (q 15) v3.toNatClampNeg (vp_nar .boolean (Int32.ofInt 1))))) rfl k
        have k := nt_rn_w (a := [(3, .int (v3 + (Int32.ofInt 1))), (0, .ref (q 0)), (1, .int v1), (2, .int v2)]) (b := [(0, .ref (q 0)), (1, .int v1), (2, .int v2), (3, .int (v3 + (Int32.ofInt 1)))]) ⟨rfl, rfl, rfl, rfl, trivial⟩ rfl k
        have k := ih (v3 + (Int32.ofInt 1)) (nt_u J (q 15) v3.toNatClampNeg (vp_nar .boolean (Int32.ofInt 1))) (by rw [show (nt_u J (q 15) v3.toNatClampNeg (vp_nar .boolean (Int32.ofInt 1))) (q 1) 2 = J (q 1) 2 from mu_j (hq.2.1 1 15 (by omega) (by omega) (by decide))]; exact lx_dec h46 hc) k
        rw [k, x10_38, if_neg h46, if_pos h56]
      · rw [if_neg h56] at k
        have k := ly_revb 2 (c' := (38, [(3, .int (v3 + (Int32.ofInt 1))), (0, .ref (q 0)), (1, .int v1), (2, .int v2)], [], me_w M J)) rfl k
        have k := nt_rn_w (a := [(3, .int (v3 + (Int32.ofInt 1))), (0, .ref (q 0)), (1, .int v1), (2, .int v2)]) (b := [(0, .ref (q 0)), (1, .int v1), (2, .int v2), (3, .int (v3 + (Int32.ofInt 1)))]) ⟨rfl, rfl, rfl, rfl, trivial⟩ rfl k
        have k := ih (v3 + (Int32.ofInt 1)) J (lx_dec h46 hc) k
        rw [k, x10_38, if_neg h46, if_neg h56]
def x10 (q : Nat → Nat) (v1 : Int32) (J : Nat → Nat → Int32) : (Nat → Nat → Int32) := if (x71 q (J (q 12) v1.toNatClampNeg) J) = 0 then (x10_38 q v1 (((nt_u (nt_u J (q 10) v1.toNatClampNeg (Int32.ofInt 2)) (q 12) v1.toNatClampNeg (Int32.ofInt (-1))) (q 1) 2).toNatClampNeg) (Int32.ofInt 0) (nt_u (nt_u J (q 10) v1.toNatClampNeg (Int32.ofInt 2)) (q 12) v1.toNatClampNeg (Int32.ofInt (-1))))
  else (x10_38 q v1 (((nt_u (nt_u (nt_u J (q 16) ((J (q 12) v1.toNatClampNeg).toNatClampNeg) (Int32.ofInt 3)) (q 10) v1.toNatClampNeg (Int32.ofInt 2)) (q 12) v1.toNatClampNeg (Int32.ofInt (-1))) (q 1) 2).toNatClampNeg) (Int32.ofInt 0) (nt_u (nt_u (nt_u J (q 16) ((J (q 12) v1.toNatClampNeg).toNatClampNeg) (Int32.ofInt 3)) (q 10) v1.toNatClampNeg (Int32.ofInt 2)) (q 12) v1.toNatClampNeg (Int32.ofInt (-1))))
theorem xt10 {X : nt_X} {d : Nat} {M : nt_M} {o : Option Value × nt_M} {q : Nat → Nat} {v1 : Int32} {J : Nat → Nat → Int32} (hq : xs_Q M q) (k : nt_ev X d 10 [.ref (q 0), .int v1] (me_w M J) o) : o = (none, me_w M (x10 q v1 J)) := by
  have k : nt_rn X d 10 (0, [(0, .ref (q 0)), (1, .int v1)], [], me_w M J) o := k
  have k := ly_revb 1 (c' := (1, [(0, .ref (q 0)), (1, .int v1)], [.ref (q 0)], me_w M J)) rfl k
  have k := lz_get (a := (q 0)) (g := 609) (M := me_w M J) (v := .ref (q 12)) rfl (nt_gfR rfl (hq.1 (0, 9, 12) (by decide))) k
  have k := ly_revb 1 (c' := (5, [(0, .ref (q 0)), (1, .int v1)], [.int v1, .ref (q 12)], me_w M J)) rfl k
  have k := mx_iald (v := J (q 12) v1.toNatClampNeg) rfl (hq.2.2.1 12 (by omega)) (rfl) k
  have k := ly_revb 3 (c' := (9, [(2, .int (J (q 12) v1.toNatClampNeg)), (0, .ref (q 0)), (1, .int v1)], [.int (J (q 12) v1.toNatClampNeg), .ref (q 0)], me_w M J)) rfl k
  obtain ⟨d1, o1, ed, kc, k⟩ := lz_c (g := 71) (q := 1) (vs := [.ref (q 0), .int (J (q 12) v1.toNatClampNeg)]) (rest := []) rfl rfl (by decide) (Or.inr (Or.inl ⟨_, rfl, rfl⟩)) rfl k
  have e1 := xt71 hq kc
  subst e1
  have k : nt_rn X _ 10 (12, [(2, .int (J (q 12) v1.toNatClampNeg)), (0, .ref (q 0)), (1, .int v1)], [.int (x71 q (J (q 12) v1.toNatClampNeg) J)], me_w M J) _ := k
  have k := ly_revb 1 (c' := (if (x71 q (J (q 12) v1.toNatClampNeg) J) = 0 then 22 else 15, [(2, .int (J (q 12) v1.toNatClampNeg)), (0, .ref (q 0)), (1, .int v1)], [], me_w M J)) rfl k
  by_cases h12 : (x71 q (J (q 12) v1.toNatClampNeg) J) = 0
  · rw [if_pos h12] at k
    have k := ly_revb 1 (c' := (23, [(2, .int (J (q 12) v1.toNatClampNeg)), (0, .ref (q 0)), (1, .int v1)], [.ref (q 0)], me_w M J)) rfl k
    have k := lz_get (a := (q 0)) (g := 607) (M := me_w M J) (v := .ref (q 10)) rfl (nt_gfR rfl (hq.1 (0, 7, 10) (by decide))) k
    have k := ly_revb 2 (c' := (28, [(2, .int (J (q 12) v1.toNatClampNeg)), (0, .ref (q 0)), (1, .int v1)], [.int (Int32.ofInt 2), .int v1, .ref (q 10)], me_w M J)) rfl k
    have k := mx_iast (q := v1.toNatClampNeg) rfl rfl k
    have k : nt_rn X _ 10 (29, [(2, .int (J (q 12) v1.toNatClampNeg)), (0, .ref (q 0)), (1, .int v1)], [], me_w M (nt_u J (q 10) v1.toNatClampNeg (Int32.ofInt 2))) _ := k
    have k := ly_revb 1 (c' := (30, [(2, .int (J (q 12) v1.toNatClampNeg)), (0, .ref (q 0)), (1, .int v1)], [.ref (q 0)], me_w M (nt_u J (q 10) v1.toNatClampNeg (Int32.ofInt 2)))) rfl k
    have k := lz_get (a := (q 0)) (g := 609) (M := me_w M (nt_u J (q 10) v1.toNatClampNeg (Int32.ofInt 2))) (v := .ref (q 12)) rfl (nt_gfR rfl (hq.1 (0, 9, 12) (by decide))) k
    have k := ly_revb 2 (c' := (35, [(2, .int (J (q 12) v1.toNatClampNeg)), (0, .ref (q 0)), (1, .int v1)], [.int (Int32.ofInt (-1)), .int v1, .ref (q 12)], me_w M (nt_u J (q 10) v1.toNatClampNeg (Int32.ofInt 2)))) rfl k
    have k := mx_iast (q := v1.toNatClampNeg) rfl rfl k
    have k : nt_rn X _ 10 (36, [(2, .int (J (q 12) v1.toNatClampNeg)), (0, .ref (q 0)), (1, .int v1)], [], me_w M (nt_u (nt_u J (q 10) v1.toNatClampNeg (Int32.ofInt 2)) (q 12) v1.toNatClampNeg (Int32.ofInt (-1)))) _ := k
    have k := ly_revb 2 (c' := (38, [(3, .int (Int32.ofInt 0)), (2, .int (J (q 12) v1.toNatClampNeg)), (0, .ref (q 0)), (1, .int v1)], [], me_w M (nt_u (nt_u J (q 10) v1.toNatClampNeg (Int32.ofInt 2)) (q 12) v1.toNatClampNeg (Int32.ofInt (-1))))) rfl k
    have k := nt_rn_w (a := [(3, .int (Int32.ofInt 0)), (2, .int (J (q 12) v1.toNatClampNeg)), (0, .ref (q 0)), (1, .int v1)]) (b := [(0, .ref (q 0)), (1, .int v1), (2, .int (J (q 12) v1.toNatClampNeg)), (3, .int (Int32.ofInt 0))]) ⟨rfl, rfl, rfl, rfl, trivial⟩ rfl k
    have k := xt10_38 hq  (((nt_u (nt_u J (q 10) v1.toNatClampNeg (Int32.ofInt 2)) (q 12) v1.toNatClampNeg (Int32.ofInt (-1))) (q 1) 2).toNatClampNeg) (Int32.ofInt 0) (nt_u (nt_u J (q 10) v1.toNatClampNeg (Int32.ofInt 2)) (q 12) v1.toNatClampNeg (Int32.ofInt (-1))) (lx_beg (by decide)) k
    rw [k, x10, if_pos h12]
  · rw [if_neg h12] at k
    have k := ly_revb 1 (c' := (16, [(2, .int (J (q 12) v1.toNatClampNeg)), (0, .ref (q 0)), (1, .int v1)], [.ref (q 0)], me_w M J)) rfl k
    have k := lz_get (a := (q 0)) (g := 613) (M := me_w M J) (v := .ref (q 16)) rfl (nt_gfR rfl (hq.1 (0, 13, 16) (by decide))) k
    have k := ly_revb 2 (c' := (21, [(2, .int (J (q 12) v1.toNatClampNeg)), (0, .ref (q 0)), (1, .int v1)], [.int (Int32.ofInt 3), .int (J (q 12) v1.toNatClampNeg), .ref (q 16)], me_w M J)) rfl k
    have k := mx_iast (q := (J (q 12) v1.toNatClampNeg).toNatClampNeg) rfl rfl k
    have k : nt_rn X _ 10 (22, [(2, .int (J (q 12) v1.toNatClampNeg)), (0, .ref (q 0)), (1, .int v1)], [], me_w M (nt_u J (q 16) ((J (q 12) v1.toNatClampNeg).toNatClampNeg) (Int32.ofInt 3))) _ := k
    have k := ly_revb 1 (c' := (23, [(2, .int (J (q 12) v1.toNatClampNeg)), (0, .ref (q 0)), (1, .int v1)], [.ref (q 0)], me_w M (nt_u J (q 16) ((J (q 12) v1.toNatClampNeg).toNatClampNeg) (Int32.ofInt 3)))) rfl k
    have k := lz_get (a := (q 0)) (g := 607) (M := me_w M (nt_u J (q 16) ((J (q 12) v1.toNatClampNeg).toNatClampNeg) (Int32.ofInt 3))) (v := .ref (q 10)) rfl (nt_gfR rfl (hq.1 (0, 7, 10) (by decide))) k
    have k := ly_revb 2 (c' := (28, [(2, .int (J (q 12) v1.toNatClampNeg)), (0, .ref (q 0)), (1, .int v1)], [.int (Int32.ofInt 2), .int v1, .ref (q 10)], me_w M (nt_u J (q 16) ((J (q 12) v1.toNatClampNeg).toNatClampNeg) (Int32.ofInt 3)))) rfl k
    have k := mx_iast (q := v1.toNatClampNeg) rfl rfl k
    have k : nt_rn X _ 10 (29, [(2, .int (J (q 12) v1.toNatClampNeg)), (0, .ref (q 0)), (1, .int v1)], [], me_w M (nt_u (nt_u J (q 16) ((J (q 12) v1.toNatClampNeg).toNatClampNeg) (Int32.ofInt 3)) (q 10) v1.toNatClampNeg (Int32.ofInt 2))) _ := k
    have k := ly_revb 1 (c' := (30, [(2, .int (J (q 12) v1.toNatClampNeg)), (0, .ref (q 0)), (1, .int v1)], [.ref (q 0)], me_w M (nt_u (nt_u J (q 16) ((J (q 12) v1.toNatClampNeg).toNatClampNeg) (Int32.ofInt 3)) (q 10) v1.toNatClampNeg (Int32.ofInt 2)))) rfl k
    have k := lz_get (a := (q 0)) (g := 609) (M := me_w M (nt_u (nt_u J (q 16) ((J (q 12) v1.toNatClampNeg).toNatClampNeg) (Int32.ofInt 3)) (q 10) v1.toNatClampNeg (Int32.ofInt 2))) (v := .ref (q 12)) rfl (nt_gfR rfl (hq.1 (0, 9, 12) (by decide))) k
    have k := ly_revb 2 (c' := (35, [(2, .int (J (q 12) v1.toNatClampNeg)), (0, .ref (q 0)), (1, .int v1)], [.int (Int32.ofInt (-1)), .int v1, .ref (q 12)], me_w M (nt_u (nt_u J (q 16) ((J (q 12) v1.toNatClampNeg).toNatClampNeg) (Int32.ofInt 3)) (q 10) v1.toNatClampNeg (Int32.ofInt 2)))) rfl k
    have k := mx_iast (q := v1.toNatClampNeg) rfl rfl k
    have k : nt_rn X _ 10 (36, [(2, .int (J (q 12) v1.toNatClampNeg)), (0, .ref (q 0)), (1, .int v1)], [], me_w M (nt_u (nt_u (nt_u J (q 16) ((J (q 12) v1.toNatClampNeg).toNatClampNeg) (Int32.ofInt 3)) (q 10) v1.toNatClampNeg (Int32.ofInt 2)) (q 12) v1.toNatClampNeg (Int32.ofInt (-1)))) _ := k
    have k := ly_revb 2 (c' := (38, [(3, .int (Int32.ofInt 0)), (2, .int (J (q 12) v1.toNatClampNeg)), (0, .ref (q 0)), (1, .int v1)], [], me_w M (nt_u (nt_u (nt_u J (q 16) ((J (q 12) v1.toNatClampNeg).toNatClampNeg) (Int32.ofInt 3)) (q 10) v1.toNatClampNeg (Int32.ofInt 2)) (q 12) v1.toNatClampNeg (Int32.ofInt (-1))))) rfl k
    have k := nt_rn_w (a := [(3, .int (Int32.ofInt 0)), (2, .int (J (q 12) v1.toNatClampNeg)), (0, .ref (q 0)), (1, .int v1)]) (b := [(0, .ref (q 0)), (1, .int v1), (2, .int (J (q 12) v1.toNatClampNeg)), (3, .int (Int32.ofInt 0))]) ⟨rfl, rfl, rfl, rfl, trivial⟩ rfl k
    have k := xt10_38 hq  (((nt_u (nt_u (nt_u J (q 16) ((J (q 12) v1.toNatClampNeg).toNatClampNeg) (Int32.ofInt 3)) (q 10) v1.toNatClampNeg (Int32.ofInt 2)) (q 12) v1.toNatClampNeg (Int32.ofInt (-1))) (q 1) 2).toNatClampNeg) (Int32.ofInt 0) (nt_u (nt_u (nt_u J (q 16) ((J (q 12) v1.toNatClampNeg).toNatClampNeg) (Int32.ofInt 3)) (q 10) v1.toNatClampNeg (Int32.ofInt 2)) (q 12) v1.toNatClampNeg (Int32.ofInt (-1))) (lx_beg (by decide)) k
    rw [k, x10, if_neg h12]
theorem x10_38_frJ {q : Nat → Nat} {v1 : Int32} {b : Nat} : ∀ (c : Nat) (v3 : Int32) (J : Nat → Nat → Int32), b ≠ q 10 → b ≠ q 12 → b ≠ q 15 → b ≠ q 16 → x10_38 q v1 c v3 J b = J b := by
  intro c
  induction c with
  | zero =>
    intro v3 J n0 n1 n2 n3
    rw [x10_38]
    all_goals first | (dsimp only; exact (show J b = J b from rfl)) | exact (show J b = J b from rfl)
  | succ c ih =>
    intro v3 J n0 n1 n2 n3
    rw [x10_38]
    by_cases h : (J (q 1) 2) ≤ v3
    · rw [if_pos h]
      all_goals first | (dsimp only; exact (show J b = J b from rfl)) | exact (show J b = J b from rfl)
    · rw [if_neg h]
      by_cases h : (J (q 14) v3.toNatClampNeg) = v1
      · rw [if_pos h]
        exact (ih _ _ n0 n1 n2 n3).trans (mu_o n2)
      · rw [if_neg h]
        exact (ih _ _ n0 n1 n2 n3).trans (rfl)
theorem x10_frJ {q : Nat → Nat} {v1 : Int32} {J : Nat → Nat → Int32} {b : Nat} (n0 : b ≠ q 10) (n1 : b ≠ q 12) (n2 : b ≠ q 15) (n3 : b ≠ q 16) : x10 q v1 J b = J b := by
  unfold x10
  by_cases h : (x71 q (J (q 12) v1.toNatClampNeg) J) = 0
  · rw [if_pos h]
    exact (x10_38_frJ _ _ _ n0 n1 n2 n3).trans ((mu_o n1).trans (mu_o n0))
  · rw [if_neg h]
    exact (x10_38_frJ _ _ _ n0 n1 n2 n3).trans ((mu_o n1).trans ((mu_o n0).trans (mu_o n3)))
/-! $Calendar.rotAway -/
def x9_4 (q : Nat → Nat) (v1 : Int32) : Nat → Int32 → Int32 → (Nat → Nat → Int32) → (Nat → Nat → Int32)
  | 0, v2, v3, J => if v2 = 0 then J
    else if (x2 q v1 ((J (q 0) 2) + (Int32.ofInt 1)) J) = 0 then (x10 q v1 J)
      else J
  | c + 1, v2, v3, J => if (J (q 1) 2) ≤ v3 then if v2 = 0 then J
      else if (x2 q v1 ((J (q 0) 2) + (Int32.ofInt 1)) J) = 0 then (x10 q v1 J)
        else J
    else if (J (q 14) v3.toNatClampNeg) = v1 then if (J (q 13) v3.toNatClampNeg) ≤ 0 then (x9_4 q v1 c v2 (v3 + (Int32.ofInt 1)) J)
        else if ((J (q 13) v3.toNatClampNeg) - (Int32.ofInt 1)) = 0 then (x9_4 q v1 c (v2 ||| (Int32.ofInt 1)) (v3 + (Int32.ofInt 1)) (nt_u J (q 13) v3.toNatClampNeg ((J (q 13) v3.toNatClampNeg) - (Int32.ofInt 1))))
          else (x9_4 q v1 c (v2 ||| (Int32.ofInt 0)) (v3 + (Int32.ofInt 1)) (nt_u J (q 13) v3.toNatClampNeg ((J (q 13) v3.toNatClampNeg) - (Int32.ofInt 1))))
      else (x9_4 q v1 c v2 (v3 + (Int32.ofInt 1)) J)
theorem xt9_4 {X : nt_X} {d : Nat} {M : nt_M} {o : Option Value × nt_M} {q : Nat → Nat} {v1 : Int32} (hq : xs_Q M q) : ∀ (c : Nat) (v2 : Int32) (v3 : Int32) (J : Nat → Nat → Int32), (J (q 1) 2).toInt - v3.toInt ≤ c → nt_rn X d 9 (4, [(0, .ref (q 0)), (1, .int v1), (2, .int v2), (3, .int v3)], [], me_w M J) o → o = (none, me_w M (x9_4 q v1 c v2 v3 J)) := by
  intro c
  induction c with
  | zero =>
    intro v2 v3 J hc k
    have k := ly_revb 2 (c' := (6, [(0, .ref (q 0)), (1, .int v1), (2, .int v2), (3, .int v3)], [.ref (q 0), .int v3], me_w M J)) rfl k
    have k := lz_get (a := (q 0)) (g := 600) (M := me_w M J) (v := .ref (q 1)) rfl (nt_gfR rfl (hq.1 (0, 0, 1) (by decide))) k
    have k := lz_get (a := (q 1)) (g := 802) (M := me_w M J) (v := .int (J (q 1) 2)) rfl (congrArg Value.int (rfl)) k
    have k := ly_revb 1 (c' := (if (J (q 1) 2) ≤ v3 then 67 else 15, [(0, .ref (q 0)), (1, .int v1), (2, .int v2), (3, .int v3)], [], me_w M J)) rfl k
    have h12 : (J (q 1) 2) ≤ v3 := lx_end hc
    rw [if_pos h12] at k
    have k := ly_revb 2 (c' := (if v2 = 0 then 90 else 71, [(0, .ref (q 0)), (1, .int v1), (2, .int v2), (3, .int v3)], [], me_w M J)) rfl k
    by_cases h68 : v2 = 0
    · rw [if_pos h68] at k
      have k := lz_rv rfl rfl k
      rw [k, x9_4, if_pos h68]
    · rw [if_neg h68] at k
      have k := ly_revb 3 (c' := (74, [(0, .ref (q 0)), (1, .int v1), (2, .int v2), (3, .int v3)], [.ref (q 0), .int v1, .ref (q 0)], me_w M J)) rfl k
      have k := lz_get (a := (q 0)) (g := 602) (M := me_w M J) (v := .int (J (q 0) 2)) rfl (congrArg Value.int (rfl)) k
      have k := ly_revb 2 (c' := (79, [(0, .ref (q 0)), (1, .int v1), (2, .int v2), (3, .int v3)], [.int ((J (q 0) 2) + (Int32.ofInt 1)), .int v1, .ref (q 0)], me_w M J)) rfl k
      obtain ⟨d1, o1, ed, kc, k⟩ := lz_c (g := 2) (q := 0) (vs := [.ref (q 0), .int v1, .int ((J (q 0) 2) + (Int32.ofInt 1))]) (rest := []) rfl rfl (by decide) (Or.inl ⟨_, rfl, rfl⟩) rfl k
      have e1 := xt2 hq kc
      subst e1
      have k : nt_rn X _ 9 (82, [(0, .ref (q 0)), (1, .int v1), (2, .int v2), (3, .int v3)], [.int (x2 q v1 ((J (q 0) 2) + (Int32.ofInt 1)) J)], me_w M J) _ := k
      have k := ly_revb 1 (c' := (if (x2 q v1 ((J (q 0) 2) + (Int32.ofInt 1)) J) = 0 then 85 else 90, [(0, .ref (q 0)), (1, .int v1), (2, .int v2), (3, .int v3)], [], me_w M J)) rfl k
      by_cases h82 : (x2 q v1 ((J (q 0) 2) + (Int32.ofInt 1)) J) = 0
      · rw [if_pos h82] at k
        have k := ly_revb 2 (c' := (87, [(0, .ref (q 0)), (1, .int v1), (2, .int v2), (3, .int v3)], [.int v1, .ref (q 0)], me_w M J)) rfl k
        obtain ⟨d1, o1, ed, kc, k⟩ := lz_c (g := 10) (q := 0) (vs := [.ref (q 0), .int v1]) (rest := []) rfl rfl (by decide) (Or.inl ⟨_, rfl, rfl⟩) rfl k
        have e1 := xt10 hq kc
        subst e1
        have k : nt_rn X _ 9 (90, [(0, .ref (q 0)), (1, .int v1), (2, .int v2), (3, .int v3)], [], me_w M (x10 q v1 J)) _ := k
        have k := lz_rv rfl rfl k
        rw [k, x9_4, if_neg h68, if_pos h82]
      · rw [if_neg h82] at k
        have k := lz_rv rfl rfl k
        rw [k, x9_4, if_neg h68, if_neg h82]
  | succ c ih =>
    intro v2 v3 J hc k
    have k := ly_revb 2 (c' := (6, [(0, .ref (q 0)), (1, .int v1), (2, .int v2), (3, .int v3)], [.ref (q 0), .int v3], me_w M J)) rfl k
    have k := lz_get (a := (q 0)) (g := 600) (M := me_w M J) (v := .ref (q 1)) rfl (nt_gfR rfl (hq.1 (0, 0, 1) (by decide))) k
    have k := lz_get (a := (q 1)) (g := 802) (M := me_w M J) (v := .int (J (q 1) 2)) rfl (congrArg Value.int (rfl)) k
    have k := ly_revb 1 (c' := (if (J (q 1) 2) ≤ v3 then 67 else 15, [(0, .ref (q 0)), (1, .int v1), (2, .int v2), (3, .int v3)], [], me_w M J)) rfl k
    by_cases h12 : (J (q 1) 2) ≤ v3
    · rw [if_pos h12] at k
      have k := ly_revb 2 (c' := (if v2 = 0 then 90 else 71, [(0, .ref (q 0)), (1, .int v1), (2, .int v2), (3, .int v3)], [], me_w M J)) rfl k
      by_cases h68 : v2 = 0
      · rw [if_pos h68] at k
        have k := lz_rv rfl rfl k
        rw [k, x9_4, if_pos h12, if_pos h68]
      · rw [if_neg h68] at k
        have k := ly_revb 3 (c' := (74, [(0, .ref (q 0)), (1, .int v1), (2, .int v2), (3, .int v3)], [.ref (q 0), .int v1, .ref (q 0)], me_w M J)) rfl k
        have k := lz_get (a := (q 0)) (g := 602) (M := me_w M J) (v := .int (J (q 0) 2)) rfl (congrArg Value.int (rfl)) k
        have k := ly_revb 2 (c' := (79, [(0, .ref (q 0)), (1, .int v1), (2, .int v2), (3, .int v3)], [.int ((J (q 0) 2) + (Int32.ofInt 1)), .int v1, .ref (q 0)], me_w M J)) rfl k
        obtain ⟨d1, o1, ed, kc, k⟩ := lz_c (g := 2) (q := 0) (vs := [.ref (q 0), .int v1, .int ((J (q 0) 2) + (Int32.ofInt 1))]) (rest := []) rfl rfl (by decide) (Or.inl ⟨_, rfl, rfl⟩) rfl k
        have e1 := xt2 hq kc
        subst e1
        have k : nt_rn X _ 9 (82, [(0, .ref (q 0)), (1, .int v1), (2, .int v2), (3, .int v3)], [.int (x2 q v1 ((J (q 0) 2) + (Int32.ofInt 1)) J)], me_w M J) _ := k
        have k := ly_revb 1 (c' := (if (x2 q v1 ((J (q 0) 2) + (Int32.ofInt 1)) J) = 0 then 85 else 90, [(0, .ref (q 0)), (1, .int v1), (2, .int v2), (3, .int v3)], [], me_w M J)) rfl k
        by_cases h82 : (x2 q v1 ((J (q 0) 2) + (Int32.ofInt 1)) J) = 0
        · rw [if_pos h82] at k
          have k := ly_revb 2 (c' := (87, [(0, .ref (q 0)), (1, .int v1), (2, .int v2), (3, .int v3)], [.int v1, .ref (q 0)], me_w M J)) rfl k
          obtain ⟨d1, o1, ed, kc, k⟩ := lz_c (g := 10) (q := 0) (vs := [.ref (q 0), .int v1]) (rest := []) rfl rfl (by decide) (Or.inl ⟨_, rfl, rfl⟩) rfl k
          have e1 := xt10 hq kc
          subst e1
          have k : nt_rn X _ 9 (90, [(0, .ref (q 0)), (1, .int v1), (2, .int v2), (3, .int v3)], [], me_w M (x10 q v1 J)) _ := k
          have k := lz_rv rfl rfl k
          rw [k, x9_4, if_pos h12, if_neg h68, if_pos h82]
        · rw [if_neg h82] at k
          have k := lz_rv rfl rfl k
          rw [k, x9_4, if_pos h12, if_neg h68, if_neg h82]
    · rw [if_neg h12] at k
      have k := ly_revb 1 (c' := (16, [(0, .ref (q 0)), (1, .int v1), (2, .int v2), (3, .int v3)], [.ref (q 0)], me_w M J)) rfl k
      have k := lz_get (a := (q 0)) (g := 611) (M := me_w M J) (v := .ref (q 14)) rfl (nt_gfR rfl (hq.1 (0, 11, 14) (by decide))) k
      have k := ly_revb 1 (c' := (20, [(0, .ref (q 0)), (1, .int v1), (2, .int v2), (3, .int v3)], [.int v3, .ref (q 14)], me_w M J)) rfl k
      have k := mx_iald (v := J (q 14) v3.toNatClampNeg) rfl (hq.2.2.1 14 (by omega)) (rfl) k
      have k := ly_revb 2 (c' := (if (J (q 14) v3.toNatClampNeg) = v1 then 25 else 61, [(0, .ref (q 0)), (1, .int v1), (2, .int v2), (3, .int v3)], [], me_w M J)) rfl k
      by_cases h22 : (J (q 14) v3.toNatClampNeg) = v1
      · rw [if_pos h22] at k
        have k := ly_revb 1 (c' := (26, [(0, .ref (q 0)), (1, .int v1), (2, .int v2), (3, .int v3)], [.ref (q 0)], me_w M J)) rfl k
        have k := lz_get (a := (q 0)) (g := 610) (M := me_w M J) (v := .ref (q 13)) rfl (nt_gfR rfl (hq.1 (0, 10, 13) (by decide))) k
        have k := ly_revb 1 (c' := (30, [(0, .ref (q 0)), (1, .int v1), (2, .int v2), (3, .int v3)], [.int v3, .ref (q 13)], me_w M J)) rfl k
        have k := mx_iald (v := J (q 13) v3.toNatClampNeg) rfl (hq.2.2.1 13 (by omega)) (rfl) k
        have k := ly_revb 1 (c' := (if (J (q 13) v3.toNatClampNeg) ≤ 0 then 61 else 34, [(0, .ref (q 0)), (1, .int v1), (2, .int v2), (3, .int v3)], [], me_w M J)) rfl k
        by_cases h31 : (J (q 13) v3.toNatClampNeg) ≤ 0
        · rw [if_pos h31] at k
          have k := ly_revb 2 (c' := (4, [(3, .int (v3 + (Int32.ofInt 1))), (0, .ref (q 0)), (1, .int v1), (2, .int v2)], [], me_w M J)) rfl k
          have k := nt_rn_w (a := [(3, .int (v3 + (Int32.ofInt 1))), (0, .ref (q 0)), (1, .int v1), (2, .int v2)]) (b := [(0, .ref (q 0)), (1, .int v1), (2, .int v2), (3, .int (v3 + (Int32.ofInt 1)))]) ⟨rfl, rfl, rfl, rfl, trivial⟩ rfl k
          have k := ih v2 (v3 + (Int32.ofInt 1)) J (lx_dec h12 hc) k
          rw [k, x9_4, if_neg h12, if_pos h22, if_pos h31]
        · rw [if_neg h31] at k
          have k := ly_revb 1 (c' := (35, [(0, .ref (q 0)), (1, .int v1), (2, .int v2), (3, .int v3)], [.ref (q 0)], me_w M J)) rfl k
          have k := lz_get (a := (q 0)) (g := 610) (M := me_w M J) (v := .ref (q 13)) rfl (nt_gfR rfl (hq.1 (0, 10, 13) (by decide))) k
          have k := ly_revb 2 (c' := (40, [(0, .ref (q 0)), (1, .int v1), (2, .int v2), (3, .int v3)], [.int v3, .ref (q 13), .int v3, .ref (q 13)], me_w M J)) rfl k
          have k := mx_iald (v := J (q 13) v3.toNatClampNeg) rfl (hq.2.2.1 13 (by omega)) (rfl) k
          have k := ly_revb 2 (c' := (43, [(0, .ref (q 0)), (1, .int v1), (2, .int v2), (3, .int v3)], [.int ((J (q 13) v3.toNatClampNeg) - (Int32.ofInt 1)), .int v3, .ref (q 13)], me_w M J)) rfl k
          have k := mx_iast (q := v3.toNatClampNeg) rfl rfl k
          have k : nt_rn X _ 9 (44, [(0, .ref (q 0)), (1, .int v1), (2, .int v2), (3, .int v3)], [], me_w M (nt_u J (q 13) v3.toNatClampNeg ((J (q 13) v3.toNatClampNeg) - (Int32.ofInt 1)))) _ := k
          have k := ly_revb 2 (c' := (46, [(0, .ref (q 0)), (1, .int v1), (2, .int v2), (3, .int v3)], [.ref (q 0), .int v2], me_w M (nt_u J (q 13) v3.toNatClampNeg ((J (q 13) v3.toNatClampNeg) - (Int32.ofInt 1))))) rfl k
          have k := lz_get (a := (q 0)) (g := 610) (M := me_w M (nt_u J (q 13) v3.toNatClampNeg ((J (q 13) v3.toNatClampNeg) - (Int32.ofInt 1)))) (v := .ref (q 13)) rfl (nt_gfR rfl (hq.1 (0, 10, 13) (by decide))) k
          have k := ly_revb 1 (c' := (50, [(0, .ref (q 0)), (1, .int v1), (2, .int v2), (3, .int v3)], [.int v3, .ref (q 13), .int v2], me_w M (nt_u J (q 13) v3.toNatClampNeg ((J (q 13) v3.toNatClampNeg) - (Int32.ofInt 1))))) rfl k
          have k := mx_iald (v := (J (q 13) v3.toNatClampNeg) - (Int32.ofInt 1)) rfl (hq.2.2.1 13 (by omega)) (mu_s) k
          have k := ly_revb 1 (c' := (if ((J (q 13) v3.toNatClampNeg) - (Int32.ofInt 1)) = 0 then 54 else 58, [(0, .ref (q 0)), (1, .int v1), (2, .int v2), (3, .int v3)], [.int v2], me_w M (nt_u J (q 13) v3.toNatClampNeg ((J (q 13) v3.toNatClampNeg) - (Int32.ofInt 1))))) rfl k
          by_cases h51 : ((J (q 13) v3.toNatClampNeg) - (Int32.ofInt 1)) = 0
          · rw [if_pos h51] at k
            have k := ly_revb 6 (c' := (4, [(3, .int (v3 + (Int32.ofInt 1))), (2, .int (v2 ||| (Int32.ofInt 1))), (0, .ref (q 0)), (1, .int v1)], [], me_w M (nt_u J (q 13) v3.toNatClampNeg ((J (q 13) v3.toNatClampNeg) - (Int32.ofInt 1))))) rfl k
            have k := nt_rn_w (a := [(3, .int (v3 + (Int32.ofInt 1))), (2, .int (v2 ||| (Int32.ofInt 1))), (0, .ref (q 0)), (1, .int v1)]) (b := [(0, .ref (q 0)), (1, .int v1), (2, .int (v2 ||| (Int32.ofInt 1))), (3, .int (v3 + (Int32.ofInt 1)))]) ⟨rfl, rfl, rfl, rfl, trivial⟩ rfl k
            have k := ih (v2 ||| (Int32.ofInt 1)) (v3 + (Int32.ofInt 1)) (nt_u J (q 13) v3.toNatClampNeg ((J (q 13) v3.toNatClampNeg) - (Int32.ofInt 1))) (by rw [show (nt_u J (q 13) v3.toNatClampNeg ((J (q 13) v3.toNatClampNeg) - (Int32.ofInt 1))) (q 1) 2 = J (q 1) 2 from mu_j (hq.2.1 1 13 (by omega) (by omega) (by decide))]; exact lx_dec h12 hc) k
            rw [k, x9_4, if_neg h12, if_pos h22, if_neg h31, if_pos h51]
          · rw [if_neg h51] at k
            have k := ly_revb 5 (c' := (4, [(3, .int (v3 + (Int32.ofInt 1))), (2, .int (v2 ||| (Int32.ofInt 0))), (0, .ref (q 0)), (1, .int v1)], [], me_w M (nt_u J (q 13) v3.toNatClampNeg ((J (q 13) v3.toNatClampNeg) - (Int32.ofInt 1))))) rfl k
            have k := nt_rn_w (a := [(3, .int (v3 + (Int32.ofInt 1))), (2, .int (v2 ||| (Int32.ofInt 0))), (0, .ref (q 0)), (1, .int v1)]) (b := [(0, .ref (q 0)), (1, .int v1), (2, .int (v2 ||| (Int32.ofInt 0))), (3, .int (v3 + (Int32.ofInt 1)))]) ⟨rfl, rfl, rfl, rfl, trivial⟩ rfl k
            have k := ih (v2 ||| (Int32.ofInt 0)) (v3 + (Int32.ofInt 1)) (nt_u J (q 13) v3.toNatClampNeg ((J (q 13) v3.toNatClampNeg) - (Int32.ofInt 1))) (by rw [show (nt_u J (q 13) v3.toNatClampNeg ((J (q 13) v3.toNatClampNeg) - (Int32.ofInt 1))) (q 1) 2 = J (q 1) 2 from mu_j (hq.2.1 1 13 (by omega) (by omega) (by decide))]; exact lx_dec h12 hc) k
            rw [k, x9_4, if_neg h12, if_pos h22, if_neg h31, if_neg h51]
      · rw [if_neg h22] at k
        have k := ly_revb 2 (c' := (4, [(3, .int (v3 + (Int32.ofInt 1))), (0, .ref (q 0)), (1, .int v1), (2, .int v2)], [], me_w M J)) rfl k
        have k := nt_rn_w (a := [(3, .int (v3 + (Int32.ofInt 1))), (0, .ref (q 0)), (1, .int v1), (2, .int v2)]) (b := [(0, .ref (q 0)), (1, .int v1), (2, .int v2), (3, .int (v3 + (Int32.ofInt 1)))]) ⟨rfl, rfl, rfl, rfl, trivial⟩ rfl k
        have k := ih v2 (v3 + (Int32.ofInt 1)) J (lx_dec h12 hc) k
        rw [k, x9_4, if_neg h12, if_neg h22]
def x9 (q : Nat → Nat) (v1 : Int32) (J : Nat → Nat → Int32) : (Nat → Nat → Int32) := (x9_4 q v1 ((J (q 1) 2).toNatClampNeg) (Int32.ofInt 0) (Int32.ofInt 0) J)
theorem xt9 {X : nt_X} {d : Nat} {M : nt_M} {o : Option Value × nt_M} {q : Nat → Nat} {v1 : Int32} {J : Nat → Nat → Int32} (hq : xs_Q M q) (k : nt_ev X d 9 [.ref (q 0), .int v1] (me_w M J) o) : o = (none, me_w M (x9 q v1 J)) := by
  have k : nt_rn X d 9 (0, [(0, .ref (q 0)), (1, .int v1)], [], me_w M J) o := k
  have k := ly_revb 4 (c' := (4, [(3, .int (Int32.ofInt 0)), (2, .int (Int32.ofInt 0)), (0, .ref (q 0)), (1, .int v1)], [], me_w M J)) rfl k
  have k := nt_rn_w (a := [(3, .int (Int32.ofInt 0)), (2, .int (Int32.ofInt 0)), (0, .ref (q 0)), (1, .int v1)]) (b := [(0, .ref (q 0)), (1, .int v1), (2, .int (Int32.ofInt 0)), (3, .int (Int32.ofInt 0))]) ⟨rfl, rfl, rfl, rfl, trivial⟩ rfl k
  have k := xt9_4 hq  ((J (q 1) 2).toNatClampNeg) (Int32.ofInt 0) (Int32.ofInt 0) J (lx_beg (by decide)) k
  rw [k, x9]
theorem x9_4_frJ {q : Nat → Nat} {v1 : Int32} {b : Nat} : ∀ (c : Nat) (v2 : Int32) (v3 : Int32) (J : Nat → Nat → Int32), b ≠ q 10 → b ≠ q 12 → b ≠ q 13 → b ≠ q 15 → b ≠ q 16 → x9_4 q v1 c v2 v3 J b = J b := by
  intro c
  induction c with
  | zero =>
    intro v2 v3 J n0 n1 n2 n3 n4
    rw [x9_4]
    by_cases h : v2 = 0
    · rw [if_pos h]
      all_goals first | (dsimp only; exact (show J b = J b from rfl)) | exact (show J b = J b from rfl)
    · rw [if_neg h]
      by_cases h : (x2 q v1 ((J (q 0) 2) + (Int32.ofInt 1)) J) = 0
      · rw [if_pos h]
        all_goals first | (dsimp only; exact (show (x10 q v1 J) b = J b from x10_frJ  n0 n1 n3 n4)) | exact (show (x10 q v1 J) b = J b from x10_frJ  n0 n1 n3 n4)
      · rw [if_neg h]
        all_goals first | (dsimp only; exact (show J b = J b from rfl)) | exact (show J b = J b from rfl)
  | succ c ih =>
    intro v2 v3 J n0 n1 n2 n3 n4
    rw [x9_4]
    by_cases h : (J (q 1) 2) ≤ v3
    · rw [if_pos h]
      by_cases h : v2 = 0
      · rw [if_pos h]
        all_goals first | (dsimp only; exact (show J b = J b from rfl)) | exact (show J b = J b from rfl)
      · rw [if_neg h]
        by_cases h : (x2 q v1 ((J (q 0) 2) + (Int32.ofInt 1)) J) = 0
        · rw [if_pos h]
          all_goals first | (dsimp only; exact (show (x10 q v1 J) b = J b from x10_frJ  n0 n1 n3 n4)) | exact (show (x10 q v1 J) b = J b from x10_frJ  n0 n1 n3 n4)
        · rw [if_neg h]
          all_goals first | (dsimp only; exact (show J b = J b from rfl)) | exact (show J b = J b from rfl)
    · rw [if_neg h]
      by_cases h : (J (q 14) v3.toNatClampNeg) = v1
      · rw [if_pos h]
        by_cases h : (J (q 13) v3.toNatClampNeg) ≤ 0
        · rw [if_pos h]
          exact (ih _ _ _ n0 n1 n2 n3 n4).trans (rfl)
        · rw [if_neg h]
          by_cases h : ((J (q 13) v3.toNatClampNeg) - (Int32.ofInt 1)) = 0
          · rw [if_pos h]
            exact (ih _ _ _ n0 n1 n2 n3 n4).trans (mu_o n2)
          · rw [if_neg h]
            exact (ih _ _ _ n0 n1 n2 n3 n4).trans (mu_o n2)
      · rw [if_neg h]
        exact (ih _ _ _ n0 n1 n2 n3 n4).trans (rfl)
theorem x9_frJ {q : Nat → Nat} {v1 : Int32} {J : Nat → Nat → Int32} {b : Nat} (n0 : b ≠ q 10) (n1 : b ≠ q 12) (n2 : b ≠ q 13) (n3 : b ≠ q 15) (n4 : b ≠ q 16) : x9 q v1 J b = J b := by
  unfold x9
  exact (x9_4_frJ _ _ _ _ n0 n1 n2 n3 n4).trans (rfl)
/-! $Calendar.canBeTaken -/
def x7 (q : Nat → Nat) (v1 : Int32) (v2 : Int32) (J : Nat → Nat → Int32) : Int32 := if (J (q 14) v1.toNatClampNeg) = v2 then (Int32.ofInt 0)
  else if (x73 q v1 J) = 0 then (Int32.ofInt 0)
    else if (J (q 14) v1.toNatClampNeg) = (Int32.ofInt (-1)) then (Int32.ofInt 1)
      else if (x88 q (J (q 14) v1.toNatClampNeg) (J (q 0) 2) J) = 0 then (Int32.ofInt 1)
        else (Int32.ofInt 0)
theorem xt7 {X : nt_X} {d : Nat} {M : nt_M} {o : Option Value × nt_M} {q : Nat → Nat} {v1 : Int32} {v2 : Int32} {J : Nat → Nat → Int32} (hq : xs_Q M q) (k : nt_ev X d 7 [.ref (q 0), .int v1, .int v2] (me_w M J) o) : o = (some (.int (x7 q v1 v2 J)), me_w M J) := by
  have k : nt_rn X d 7 (0, [(0, .ref (q 0)), (1, .int v1), (2, .int v2)], [], me_w M J) o := k
  have k := ly_revb 1 (c' := (1, [(0, .ref (q 0)), (1, .int v1), (2, .int v2)], [.ref (q 0)], me_w M J)) rfl k
  have k := lz_get (a := (q 0)) (g := 611) (M := me_w M J) (v := .ref (q 14)) rfl (nt_gfR rfl (hq.1 (0, 11, 14) (by decide))) k
  have k := ly_revb 1 (c' := (5, [(0, .ref (q 0)), (1, .int v1), (2, .int v2)], [.int v1, .ref (q 14)], me_w M J)) rfl k
  have k := mx_iald (v := J (q 14) v1.toNatClampNeg) rfl (hq.2.2.1 14 (by omega)) (rfl) k
  have k := ly_revb 4 (c' := (if (J (q 14) v1.toNatClampNeg) = v2 then 20 else 12, [(3, .int (J (q 14) v1.toNatClampNeg)), (0, .ref (q 0)), (1, .int v1), (2, .int v2)], [], me_w M J)) rfl k
  by_cases h9 : (J (q 14) v1.toNatClampNeg) = v2
  · rw [if_pos h9] at k
    have k := ly_revb 1 (c' := (21, [(3, .int (J (q 14) v1.toNatClampNeg)), (0, .ref (q 0)), (1, .int v1), (2, .int v2)], [.int (Int32.ofInt 0)], me_w M J)) rfl k
    have k := lz_ri rfl (by decide) k
    rw [k, x7, if_pos h9]
  · rw [if_neg h9] at k
    have k := ly_revb 2 (c' := (14, [(3, .int (J (q 14) v1.toNatClampNeg)), (0, .ref (q 0)), (1, .int v1), (2, .int v2)], [.int v1, .ref (q 0)], me_w M J)) rfl k
    obtain ⟨d1, o1, ed, kc, k⟩ := lz_c (g := 73) (q := 1) (vs := [.ref (q 0), .int v1]) (rest := []) rfl rfl (by decide) (Or.inr (Or.inl ⟨_, rfl, rfl⟩)) rfl k
    have e1 := xt73 hq kc
    subst e1
    have k : nt_rn X _ 7 (17, [(3, .int (J (q 14) v1.toNatClampNeg)), (0, .ref (q 0)), (1, .int v1), (2, .int v2)], [.int (x73 q v1 J)], me_w M J) _ := k
    have k := ly_revb 1 (c' := (if (x73 q v1 J) = 0 then 20 else 22, [(3, .int (J (q 14) v1.toNatClampNeg)), (0, .ref (q 0)), (1, .int v1), (2, .int v2)], [], me_w M J)) rfl k
    by_cases h17 : (x73 q v1 J) = 0
    · rw [if_pos h17] at k
      have k := ly_revb 1 (c' := (21, [(3, .int (J (q 14) v1.toNatClampNeg)), (0, .ref (q 0)), (1, .int v1), (2, .int v2)], [.int (Int32.ofInt 0)], me_w M J)) rfl k
      have k := lz_ri rfl (by decide) k
      rw [k, x7, if_neg h9, if_pos h17]
    · rw [if_neg h17] at k
      have k := ly_revb 3 (c' := (if (J (q 14) v1.toNatClampNeg) = (Int32.ofInt (-1)) then 42 else 27, [(3, .int (J (q 14) v1.toNatClampNeg)), (0, .ref (q 0)), (1, .int v1), (2, .int v2)], [], me_w M J)) rfl k
      by_cases h24 : (J (q 14) v1.toNatClampNeg) = (Int32.ofInt (-1))
      · rw [if_pos h24] at k
        have k := ly_revb 2 (c' := (47, [(3, .int (J (q 14) v1.toNatClampNeg)), (0, .ref (q 0)), (1, .int v1), (2, .int v2)], [.int (Int32.ofInt 1)], me_w M J)) rfl k
        have k := lz_ri rfl (by decide) k
        rw [k, x7, if_neg h9, if_neg h17, if_pos h24]
      · rw [if_neg h24] at k
        have k := ly_revb 1 (c' := (28, [(3, .int (J (q 14) v1.toNatClampNeg)), (0, .ref (q 0)), (1, .int v1), (2, .int v2)], [.ref (q 0)], me_w M J)) rfl k
        have k := lz_get (a := (q 0)) (g := 600) (M := me_w M J) (v := .ref (q 1)) rfl (nt_gfR rfl (hq.1 (0, 0, 1) (by decide))) k
        have k := ly_revb 2 (c' := (33, [(3, .int (J (q 14) v1.toNatClampNeg)), (0, .ref (q 0)), (1, .int v1), (2, .int v2)], [.ref (q 0), .int (J (q 14) v1.toNatClampNeg), .ref (q 1)], me_w M J)) rfl k
        have k := lz_get (a := (q 0)) (g := 602) (M := me_w M J) (v := .int (J (q 0) 2)) rfl (congrArg Value.int (rfl)) k
        obtain ⟨d1, o1, ed, kc, k⟩ := lz_c (g := 88) (q := 1) (vs := [.ref (q 1), .int (J (q 14) v1.toNatClampNeg), .int (J (q 0) 2)]) (rest := []) rfl rfl (by decide) (Or.inr (Or.inl ⟨_, rfl, rfl⟩)) rfl k
        have e1 := xt88 hq kc
        subst e1
        have k : nt_rn X _ 7 (39, [(3, .int (J (q 14) v1.toNatClampNeg)), (0, .ref (q 0)), (1, .int v1), (2, .int v2)], [.int (x88 q (J (q 14) v1.toNatClampNeg) (J (q 0) 2) J)], me_w M J) _ := k
        have k := ly_revb 1 (c' := (if (x88 q (J (q 14) v1.toNatClampNeg) (J (q 0) 2) J) = 0 then 42 else 46, [(3, .int (J (q 14) v1.toNatClampNeg)), (0, .ref (q 0)), (1, .int v1), (2, .int v2)], [], me_w M J)) rfl k
        by_cases h39 : (x88 q (J (q 14) v1.toNatClampNeg) (J (q 0) 2) J) = 0
        · rw [if_pos h39] at k
          have k := ly_revb 2 (c' := (47, [(3, .int (J (q 14) v1.toNatClampNeg)), (0, .ref (q 0)), (1, .int v1), (2, .int v2)], [.int (Int32.ofInt 1)], me_w M J)) rfl k
          have k := lz_ri rfl (by decide) k
          rw [k, x7, if_neg h9, if_neg h17, if_neg h24, if_pos h39]
        · rw [if_neg h39] at k
          have k := ly_revb 1 (c' := (47, [(3, .int (J (q 14) v1.toNatClampNeg)), (0, .ref (q 0)), (1, .int v1), (2, .int v2)], [.int (Int32.ofInt 0)], me_w M J)) rfl k
          have k := lz_ri rfl (by decide) k
          rw [k, x7, if_neg h9, if_neg h17, if_neg h24, if_neg h39]
/-! Model.shipOf -/
def x169 (p : Nat → Nat) (v1 : Int32) (v2 : Int32) (J : Nat → Nat → Int32) : Int32 := (J (p 4) ((((Int32.ofInt 10) + ((Int32.ofInt 7) * v1)) + v2).toNatClampNeg))
theorem xt169 {X : nt_X} {d : Nat} {M : nt_M} {o : Option Value × nt_M} {p : Nat → Nat} {v1 : Int32} {v2 : Int32} {J : Nat → Nat → Int32} (hp : xs_P M p) (k : nt_ev X d 169 [.ref (p 0), .int v1, .int v2] (me_w M J) o) : o = (some (.int (x169 p v1 v2 J)), me_w M J) := by
  have k : nt_rn X d 169 (0, [(0, .ref (p 0)), (1, .int v1), (2, .int v2)], [], me_w M J) o := k
  have k := ly_revb 1 (c' := (1, [(0, .ref (p 0)), (1, .int v1), (2, .int v2)], [.ref (p 0)], me_w M J)) rfl k
  have k := lz_get (a := (p 0)) (g := 1127) (M := me_w M J) (v := .ref (p 4)) rfl (nt_gfR rfl (hp.1 (0, 27, 4) (by decide))) k
  have k := ly_revb 7 (c' := (13, [(0, .ref (p 0)), (1, .int v1), (2, .int v2)], [.int (((Int32.ofInt 10) + ((Int32.ofInt 7) * v1)) + v2), .ref (p 4)], me_w M J)) rfl k
  have k := mx_iald (v := J (p 4) ((((Int32.ofInt 10) + ((Int32.ofInt 7) * v1)) + v2).toNatClampNeg)) rfl (hp.2.2.1 4 (by omega)) (rfl) k
  have k := lz_ri rfl (by decide) k
  rw [k, x169]
/-! Model.plankOf -/
def x173 (p : Nat → Nat) (v1 : Int32) (v2 : Int32) (J : Nat → Nat → Int32) : Int32 := (J (p 4) ((((Int32.ofInt 52) + ((Int32.ofInt 5) * v1)) + v2).toNatClampNeg))
theorem xt173 {X : nt_X} {d : Nat} {M : nt_M} {o : Option Value × nt_M} {p : Nat → Nat} {v1 : Int32} {v2 : Int32} {J : Nat → Nat → Int32} (hp : xs_P M p) (k : nt_ev X d 173 [.ref (p 0), .int v1, .int v2] (me_w M J) o) : o = (some (.int (x173 p v1 v2 J)), me_w M J) := by
  have k : nt_rn X d 173 (0, [(0, .ref (p 0)), (1, .int v1), (2, .int v2)], [], me_w M J) o := k
  have k := ly_revb 1 (c' := (1, [(0, .ref (p 0)), (1, .int v1), (2, .int v2)], [.ref (p 0)], me_w M J)) rfl k
  have k := lz_get (a := (p 0)) (g := 1127) (M := me_w M J) (v := .ref (p 4)) rfl (nt_gfR rfl (hp.1 (0, 27, 4) (by decide))) k
  have k := ly_revb 7 (c' := (12, [(0, .ref (p 0)), (1, .int v1), (2, .int v2)], [.int (((Int32.ofInt 52) + ((Int32.ofInt 5) * v1)) + v2), .ref (p 4)], me_w M J)) rfl k
  have k := mx_iald (v := J (p 4) ((((Int32.ofInt 52) + ((Int32.ofInt 5) * v1)) + v2).toNatClampNeg)) rfl (hp.2.2.1 4 (by omega)) (rfl) k
  have k := lz_ri rfl (by decide) k
  rw [k, x173]
/-! Model.voyageOf -/
def x180 (p : Nat → Nat) (v1 : Int32) (v2 : Int32) (J : Nat → Nat → Int32) : Int32 := (J (p 4) ((((Int32.ofInt 172) + ((Int32.ofInt 5) * v1)) + v2).toNatClampNeg))
theorem xt180 {X : nt_X} {d : Nat} {M : nt_M} {o : Option Value × nt_M} {p : Nat → Nat} {v1 : Int32} {v2 : Int32} {J : Nat → Nat → Int32} (hp : xs_P M p) (k : nt_ev X d 180 [.ref (p 0), .int v1, .int v2] (me_w M J) o) : o = (some (.int (x180 p v1 v2 J)), me_w M J) := by
  have k : nt_rn X d 180 (0, [(0, .ref (p 0)), (1, .int v1), (2, .int v2)], [], me_w M J) o := k
  have k := ly_revb 1 (c' := (1, [(0, .ref (p 0)), (1, .int v1), (2, .int v2)], [.ref (p 0)], me_w M J)) rfl k
  have k := lz_get (a := (p 0)) (g := 1127) (M := me_w M J) (v := .ref (p 4)) rfl (nt_gfR rfl (hp.1 (0, 27, 4) (by decide))) k
  have k := ly_revb 7 (c' := (13, [(0, .ref (p 0)), (1, .int v1), (2, .int v2)], [.int (((Int32.ofInt 172) + ((Int32.ofInt 5) * v1)) + v2), .ref (p 4)], me_w M J)) rfl k
  have k := mx_iald (v := J (p 4) ((((Int32.ofInt 172) + ((Int32.ofInt 5) * v1)) + v2).toNatClampNeg)) rfl (hp.2.2.1 4 (by omega)) (rfl) k
  have k := lz_ri rfl (by decide) k
  rw [k, x180]
/-! Model.isSound -/
def x172 (p : Nat → Nat) (v1 : Int32) (J : Nat → Nat → Int32) : Int32 := if (x173 p v1 (Int32.ofInt 1) J) ≤ 0 then (Int32.ofInt 0)
  else if (x173 p v1 (Int32.ofInt 4) J) = 0 then (Int32.ofInt 1)
    else (Int32.ofInt 0)
theorem xt172 {X : nt_X} {d : Nat} {M : nt_M} {o : Option Value × nt_M} {p : Nat → Nat} {v1 : Int32} {J : Nat → Nat → Int32} (hp : xs_P M p) (k : nt_ev X d 172 [.ref (p 0), .int v1] (me_w M J) o) : o = (some (.int (x172 p v1 J)), me_w M J) := by
  have k : nt_rn X d 172 (0, [(0, .ref (p 0)), (1, .int v1)], [], me_w M J) o := k
  have k := ly_revb 3 (c' := (3, [(0, .ref (p 0)), (1, .int v1)], [.int (Int32.ofInt 1), .int v1, .ref (p 0)], me_w M J)) rfl k
  obtain ⟨d1, o1, ed, kc, k⟩ := lz_c (g := 173) (q := 1) (vs := [.ref (p 0), .int v1, .int (Int32.ofInt 1)]) (rest := []) rfl rfl (by decide) (Or.inr (Or.inl ⟨_, rfl, rfl⟩)) rfl k
  have e1 := xt173 hp kc
  subst e1
  have k : nt_rn X _ 172 (6, [(0, .ref (p 0)), (1, .int v1)], [.int (x173 p v1 (Int32.ofInt 1) J)], me_w M J) _ := k
  have k := ly_revb 1 (c' := (if (x173 p v1 (Int32.ofInt 1) J) ≤ 0 then 22 else 9, [(0, .ref (p 0)), (1, .int v1)], [], me_w M J)) rfl k
  by_cases h6 : (x173 p v1 (Int32.ofInt 1) J) ≤ 0
  · rw [if_pos h6] at k
    have k := ly_revb 1 (c' := (23, [(0, .ref (p 0)), (1, .int v1)], [.int (Int32.ofInt 0)], me_w M J)) rfl k
    have k := lz_ri rfl (by decide) k
    rw [k, x172, if_pos h6]
  · rw [if_neg h6] at k
    have k := ly_revb 3 (c' := (12, [(0, .ref (p 0)), (1, .int v1)], [.int (Int32.ofInt 4), .int v1, .ref (p 0)], me_w M J)) rfl k
    obtain ⟨d1, o1, ed, kc, k⟩ := lz_c (g := 173) (q := 1) (vs := [.ref (p 0), .int v1, .int (Int32.ofInt 4)]) (rest := []) rfl rfl (by decide) (Or.inr (Or.inl ⟨_, rfl, rfl⟩)) rfl k
    have e1 := xt173 hp kc
    subst e1
    have k : nt_rn X _ 172 (15, [(0, .ref (p 0)), (1, .int v1)], [.int (x173 p v1 (Int32.ofInt 4) J)], me_w M J) _ := k
    have k := ly_revb 1 (c' := (if (x173 p v1 (Int32.ofInt 4) J) = 0 then 18 else 22, [(0, .ref (p 0)), (1, .int v1)], [], me_w M J)) rfl k
    by_cases h15 : (x173 p v1 (Int32.ofInt 4) J) = 0
    · rw [if_pos h15] at k
      have k := ly_revb 2 (c' := (23, [(0, .ref (p 0)), (1, .int v1)], [.int (Int32.ofInt 1)], me_w M J)) rfl k
      have k := lz_ri rfl (by decide) k
      rw [k, x172, if_neg h6, if_pos h15]
    · rw [if_neg h15] at k
      have k := ly_revb 1 (c' := (23, [(0, .ref (p 0)), (1, .int v1)], [.int (Int32.ofInt 0)], me_w M J)) rfl k
      have k := lz_ri rfl (by decide) k
      rw [k, x172, if_neg h6, if_neg h15]
/-! Model.isIn -/
def x171 (p : Nat → Nat) (v1 : Int32) (v2 : Int32) (J : Nat → Nat → Int32) : Int32 := if (x172 p v1 J) = 0 then (Int32.ofInt 0)
  else if (x173 p v1 (Int32.ofInt 3) J) = v2 then (Int32.ofInt 1)
    else (Int32.ofInt 0)
theorem xt171 {X : nt_X} {d : Nat} {M : nt_M} {o : Option Value × nt_M} {p : Nat → Nat} {v1 : Int32} {v2 : Int32} {J : Nat → Nat → Int32} (hp : xs_P M p) (k : nt_ev X d 171 [.ref (p 0), .int v1, .int v2] (me_w M J) o) : o = (some (.int (x171 p v1 v2 J)), me_w M J) := by
  have k : nt_rn X d 171 (0, [(0, .ref (p 0)), (1, .int v1), (2, .int v2)], [], me_w M J) o := k
  have k := ly_revb 2 (c' := (2, [(0, .ref (p 0)), (1, .int v1), (2, .int v2)], [.int v1, .ref (p 0)], me_w M J)) rfl k
  obtain ⟨d1, o1, ed, kc, k⟩ := lz_c (g := 172) (q := 1) (vs := [.ref (p 0), .int v1]) (rest := []) rfl rfl (by decide) (Or.inr (Or.inl ⟨_, rfl, rfl⟩)) rfl k
  have e1 := xt172 hp kc
  subst e1
  have k : nt_rn X _ 171 (5, [(0, .ref (p 0)), (1, .int v1), (2, .int v2)], [.int (x172 p v1 J)], me_w M J) _ := k
  have k := ly_revb 1 (c' := (if (x172 p v1 J) = 0 then 22 else 8, [(0, .ref (p 0)), (1, .int v1), (2, .int v2)], [], me_w M J)) rfl k
  by_cases h5 : (x172 p v1 J) = 0
  · rw [if_pos h5] at k
    have k := ly_revb 1 (c' := (23, [(0, .ref (p 0)), (1, .int v1), (2, .int v2)], [.int (Int32.ofInt 0)], me_w M J)) rfl k
    have k := lz_ri rfl (by decide) k
    rw [k, x171, if_pos h5]
  · rw [if_neg h5] at k
    have k := ly_revb 3 (c' := (11, [(0, .ref (p 0)), (1, .int v1), (2, .int v2)], [.int (Int32.ofInt 3), .int v1, .ref (p 0)], me_w M J)) rfl k
    obtain ⟨d1, o1, ed, kc, k⟩ := lz_c (g := 173) (q := 1) (vs := [.ref (p 0), .int v1, .int (Int32.ofInt 3)]) (rest := []) rfl rfl (by decide) (Or.inr (Or.inl ⟨_, rfl, rfl⟩)) rfl k
    have e1 := xt173 hp kc
    subst e1
    have k : nt_rn X _ 171 (14, [(0, .ref (p 0)), (1, .int v1), (2, .int v2)], [.int (x173 p v1 (Int32.ofInt 3) J)], me_w M J) _ := k
    have k := ly_revb 2 (c' := (if (x173 p v1 (Int32.ofInt 3) J) = v2 then 18 else 22, [(0, .ref (p 0)), (1, .int v1), (2, .int v2)], [], me_w M J)) rfl k
    by_cases h15 : (x173 p v1 (Int32.ofInt 3) J) = v2
    · rw [if_pos h15] at k
      have k := ly_revb 2 (c' := (23, [(0, .ref (p 0)), (1, .int v1), (2, .int v2)], [.int (Int32.ofInt 1)], me_w M J)) rfl k
      have k := lz_ri rfl (by decide) k
      rw [k, x171, if_neg h5, if_pos h15]
    · rw [if_neg h15] at k
      have k := ly_revb 1 (c' := (23, [(0, .ref (p 0)), (1, .int v1), (2, .int v2)], [.int (Int32.ofInt 0)], me_w M J)) rfl k
      have k := lz_ri rfl (by decide) k
      rw [k, x171, if_neg h5, if_neg h15]
/-! Model.soundIn -/
def x170_4 (p : Nat → Nat) (v1 : Int32) (J : Nat → Nat → Int32) : Nat → Int32 → Int32 → Int32
  | 0, v2, v3 => v2
  | c + 1, v2, v3 => if (J (p 4) 2) ≤ v3 then v2
    else if (x171 p v3 v1 J) = 0 then (x170_4 p v1 J c (v2 + (Int32.ofInt 0)) (v3 + (Int32.ofInt 1)))
      else (x170_4 p v1 J c (v2 + (Int32.ofInt 1)) (v3 + (Int32.ofInt 1)))
theorem xt170_4 {X : nt_X} {d : Nat} {M : nt_M} {o : Option Value × nt_M} {p : Nat → Nat} {v1 : Int32} {J : Nat → Nat → Int32} (hp : xs_P M p) : ∀ (c : Nat) (v2 : Int32) (v3 : Int32), (J (p 4) 2).toInt - v3.toInt ≤ c → nt_rn X d 170 (4, [(0, .ref (p 0)), (1, .int v1), (2, .int v2), (3, .int v3)], [], me_w M J) o → o = (some (.int (x170_4 p v1 J c v2 v3)), me_w M J) := by
  intro c
  induction c with
  | zero =>
    intro v2 v3 hc k
    have k := ly_revb 2 (c' := (6, [(0, .ref (p 0)), (1, .int v1), (2, .int v2), (3, .int v3)], [.ref (p 0), .int v3], me_w M J)) rfl k
    have k := lz_get (a := (p 0)) (g := 1127) (M := me_w M J) (v := .ref (p 4)) rfl (nt_gfR rfl (hp.1 (0, 27, 4) (by decide))) k
    have k := ly_revb 1 (c' := (10, [(0, .ref (p 0)), (1, .int v1), (2, .int v2), (3, .int v3)], [.int (Int32.ofInt 2), .ref (p 4), .int v3], me_w M J)) rfl k
    have k := mx_iald (v := J (p 4) 2) rfl (hp.2.2.1 4 (by omega)) ((congrArg (J (p 4)) (show (Int32.ofInt 2).toNatClampNeg = 2 from rfl)).trans (rfl)) k
    have k := ly_revb 1 (c' := (if (J (p 4) 2) ≤ v3 then 37 else 14, [(0, .ref (p 0)), (1, .int v1), (2, .int v2), (3, .int v3)], [], me_w M J)) rfl k
    have h11 : (J (p 4) 2) ≤ v3 := lx_end hc
    rw [if_pos h11] at k
    have k := ly_revb 1 (c' := (38, [(0, .ref (p 0)), (1, .int v1), (2, .int v2), (3, .int v3)], [.int v2], me_w M J)) rfl k
    have k := lz_ri rfl (by decide) k
    rw [k, x170_4]
  | succ c ih =>
    intro v2 v3 hc k
    have k := ly_revb 2 (c' := (6, [(0, .ref (p 0)), (1, .int v1), (2, .int v2), (3, .int v3)], [.ref (p 0), .int v3], me_w M J)) rfl k
    have k := lz_get (a := (p 0)) (g := 1127) (M := me_w M J) (v := .ref (p 4)) rfl (nt_gfR rfl (hp.1 (0, 27, 4) (by decide))) k
    have k := ly_revb 1 (c' := (10, [(0, .ref (p 0)), (1, .int v1), (2, .int v2), (3, .int v3)], [.int (Int32.ofInt 2), .ref (p 4), .int v3], me_w M J)) rfl k
    have k := mx_iald (v := J (p 4) 2) rfl (hp.2.2.1 4 (by omega)) ((congrArg (J (p 4)) (show (Int32.ofInt 2).toNatClampNeg = 2 from rfl)).trans (rfl)) k
    have k := ly_revb 1 (c' := (if (J (p 4) 2) ≤ v3 then 37 else 14, [(0, .ref (p 0)), (1, .int v1), (2, .int v2), (3, .int v3)], [], me_w M J)) rfl k
    by_cases h11 : (J (p 4) 2) ≤ v3
    · rw [if_pos h11] at k
      have k := ly_revb 1 (c' := (38, [(0, .ref (p 0)), (1, .int v1), (2, .int v2), (3, .int v3)], [.int v2], me_w M J)) rfl k
      have k := lz_ri rfl (by decide) k
      rw [k, x170_4, if_pos h11]
    · rw [if_neg h11] at k
      have k := ly_revb 4 (c' := (18, [(0, .ref (p 0)), (1, .int v1), (2, .int v2), (3, .int v3)], [.int v1, .int v3, .ref (p 0), .int v2], me_w M J)) rfl k
      obtain ⟨d1, o1, ed, kc, k⟩ := lz_c (g := 171) (q := 1) (vs := [.ref (p 0), .int v3, .int v1]) (rest := [.int v2]) rfl rfl (by decide) (Or.inr (Or.inl ⟨_, rfl, rfl⟩)) rfl k
      have e1 := xt171 hp kc
      subst e1
      have k : nt_rn X _ 170 (21, [(0, .ref (p 0)), (1, .int v1), (2, .int v2), (3, .int v3)], [.int (x171 p v3 v1 J), .int v2], me_w M J) _ := k
      have k := ly_revb 1 (c' := (if (x171 p v3 v1 J) = 0 then 28 else 24, [(0, .ref (p 0)), (1, .int v1), (2, .int v2), (3, .int v3)], [.int v2], me_w M J)) rfl k
      by_cases h21 : (x171 p v3 v1 J) = 0
      · rw [if_pos h21] at k
        have k := ly_revb 5 (c' := (4, [(3, .int (v3 + (Int32.ofInt 1))), (2, .int (v2 + (Int32.ofInt 0))), (0, .ref (p 0)), (1, .int v1)], [], me_w M J)) rfl k
        have k := nt_rn_w (a := [(3, .int (v3 + (Int32.ofInt 1))), (2, .int (v2 + (Int32.ofInt 0))), (0, .ref (p 0)), (1, .int v1)]) (b := [(0, .ref (p 0)), (1, .int v1), (2, .int (v2 + (Int32.ofInt 0))), (3, .int (v3 + (Int32.ofInt 1)))]) ⟨rfl, rfl, rfl, rfl, trivial⟩ rfl k
        have k := ih (v2 + (Int32.ofInt 0)) (v3 + (Int32.ofInt 1)) (lx_dec h11 hc) k
        rw [k, x170_4, if_neg h11, if_pos h21]
      · rw [if_neg h21] at k
        have k := ly_revb 6 (c' := (4, [(3, .int (v3 + (Int32.ofInt 1))), (2, .int (v2 + (Int32.ofInt 1))), (0, .ref (p 0)), (1, .int v1)], [], me_w M J)) rfl k
        have k := nt_rn_w (a := [(3, .int (v3 + (Int32.ofInt 1))), (2, .int (v2 + (Int32.ofInt 1))), (0, .ref (p 0)), (1, .int v1)]) (b := [(0, .ref (p 0)), (1, .int v1), (2, .int (v2 + (Int32.ofInt 1))), (3, .int (v3 + (Int32.ofInt 1)))]) ⟨rfl, rfl, rfl, rfl, trivial⟩ rfl k
        have k := ih (v2 + (Int32.ofInt 1)) (v3 + (Int32.ofInt 1)) (lx_dec h11 hc) k
        rw [k, x170_4, if_neg h11, if_neg h21]
def x170 (p : Nat → Nat) (v1 : Int32) (J : Nat → Nat → Int32) : Int32 := (x170_4 p v1 J ((J (p 4) 2).toNatClampNeg) (Int32.ofInt 0) (Int32.ofInt 0))
theorem xt170 {X : nt_X} {d : Nat} {M : nt_M} {o : Option Value × nt_M} {p : Nat → Nat} {v1 : Int32} {J : Nat → Nat → Int32} (hp : xs_P M p) (k : nt_ev X d 170 [.ref (p 0), .int v1] (me_w M J) o) : o = (some (.int (x170 p v1 J)), me_w M J) := by
  have k : nt_rn X d 170 (0, [(0, .ref (p 0)), (1, .int v1)], [], me_w M J) o := k
  have k := ly_revb 4 (c' := (4, [(3, .int (Int32.ofInt 0)), (2, .int (Int32.ofInt 0)), (0, .ref (p 0)), (1, .int v1)], [], me_w M J)) rfl k
  have k := nt_rn_w (a := [(3, .int (Int32.ofInt 0)), (2, .int (Int32.ofInt 0)), (0, .ref (p 0)), (1, .int v1)]) (b := [(0, .ref (p 0)), (1, .int v1), (2, .int (Int32.ofInt 0)), (3, .int (Int32.ofInt 0))]) ⟨rfl, rfl, rfl, rfl, trivial⟩ rfl k
  have k := xt170_4 hp  ((J (p 4) 2).toNatClampNeg) (Int32.ofInt 0) (Int32.ofInt 0) (lx_beg (by decide)) k
  rw [k, x170]
/-! Model.lacksOf -/
def x175_10 (p : Nat → Nat) (v1 : Int32) (v2 : Int32) (J : Nat → Nat → Int32) : Nat → Int32 → Int32 → Int32
  | 0, v3, v4 => if 0 ≤ v3 then v3
    else (Int32.ofInt 0)
  | c + 1, v3, v4 => if (J (p 4) 2) ≤ v4 then if 0 ≤ v3 then v3
      else (Int32.ofInt 0)
    else if (x171 p v4 v1 J) = 0 then (x175_10 p v1 v2 J c (v3 - (Int32.ofInt 0)) (v4 + (Int32.ofInt 1)))
      else if (x173 p v4 (Int32.ofInt 0) J) = v2 then (x175_10 p v1 v2 J c (v3 - (Int32.ofInt 1)) (v4 + (Int32.ofInt 1)))
        else (x175_10 p v1 v2 J c (v3 - (Int32.ofInt 0)) (v4 + (Int32.ofInt 1)))
theorem xt175_10 {X : nt_X} {d : Nat} {M : nt_M} {o : Option Value × nt_M} {p : Nat → Nat} {v1 : Int32} {v2 : Int32} {J : Nat → Nat → Int32} (hp : xs_P M p) : ∀ (c : Nat) (v3 : Int32) (v4 : Int32), (J (p 4) 2).toInt - v4.toInt ≤ c → nt_rn X d 175 (10, [(0, .ref (p 0)), (1, .int v1), (2, .int v2), (3, .int v3), (4, .int v4)], [], me_w M J) o → o = (some (.int (x175_10 p v1 v2 J c v3 v4)), me_w M J) := by
  intro c
  induction c with
  | zero =>
    intro v3 v4 hc k
    have k := ly_revb 2 (c' := (13, [(0, .ref (p 0)), (1, .int v1), (2, .int v2), (3, .int v3), (4, .int v4)], [.ref (p 0), .int v4], me_w M J)) rfl k
    have k := lz_get (a := (p 0)) (g := 1127) (M := me_w M J) (v := .ref (p 4)) rfl (nt_gfR rfl (hp.1 (0, 27, 4) (by decide))) k
    have k := ly_revb 1 (c' := (17, [(0, .ref (p 0)), (1, .int v1), (2, .int v2), (3, .int v3), (4, .int v4)], [.int (Int32.ofInt 2), .ref (p 4), .int v4], me_w M J)) rfl k
    have k := mx_iald (v := J (p 4) 2) rfl (hp.2.2.1 4 (by omega)) ((congrArg (J (p 4)) (show (Int32.ofInt 2).toNatClampNeg = 2 from rfl)).trans (rfl)) k
    have k := ly_revb 1 (c' := (if (J (p 4) 2) ≤ v4 then 56 else 21, [(0, .ref (p 0)), (1, .int v1), (2, .int v2), (3, .int v3), (4, .int v4)], [], me_w M J)) rfl k
    have h18 : (J (p 4) 2) ≤ v4 := lx_end hc
    rw [if_pos h18] at k
    have k := ly_revb 2 (c' := (if 0 ≤ v3 then 64 else 60, [(0, .ref (p 0)), (1, .int v1), (2, .int v2), (3, .int v3), (4, .int v4)], [], me_w M J)) rfl k
    by_cases h57 : 0 ≤ v3
    · rw [if_pos h57] at k
      have k := ly_revb 1 (c' := (65, [(0, .ref (p 0)), (1, .int v1), (2, .int v2), (3, .int v3), (4, .int v4)], [.int v3], me_w M J)) rfl k
      have k := lz_ri rfl (by decide) k
      rw [k, x175_10, if_pos h57]
    · rw [if_neg h57] at k
      have k := ly_revb 2 (c' := (65, [(0, .ref (p 0)), (1, .int v1), (2, .int v2), (3, .int v3), (4, .int v4)], [.int (Int32.ofInt 0)], me_w M J)) rfl k
      have k := lz_ri rfl (by decide) k
      rw [k, x175_10, if_neg h57]
  | succ c ih =>
    intro v3 v4 hc k
    have k := ly_revb 2 (c' := (13, [(0, .ref (p 0)), (1, .int v1), (2, .int v2), (3, .int v3), (4, .int v4)], [.ref (p 0), .int v4], me_w M J)) rfl k
    have k := lz_get (a := (p 0)) (g := 1127) (M := me_w M J) (v := .ref (p 4)) rfl (nt_gfR rfl (hp.1 (0, 27, 4) (by decide))) k
    have k := ly_revb 1 (c' := (17, [(0, .ref (p 0)), (1, .int v1), (2, .int v2), (3, .int v3), (4, .int v4)], [.int (Int32.ofInt 2), .ref (p 4), .int v4], me_w M J)) rfl k
    have k := mx_iald (v := J (p 4) 2) rfl (hp.2.2.1 4 (by omega)) ((congrArg (J (p 4)) (show (Int32.ofInt 2).toNatClampNeg = 2 from rfl)).trans (rfl)) k
    have k := ly_revb 1 (c' := (if (J (p 4) 2) ≤ v4 then 56 else 21, [(0, .ref (p 0)), (1, .int v1), (2, .int v2), (3, .int v3), (4, .int v4)], [], me_w M J)) rfl k
    by_cases h18 : (J (p 4) 2) ≤ v4
    · rw [if_pos h18] at k
      have k := ly_revb 2 (c' := (if 0 ≤ v3 then 64 else 60, [(0, .ref (p 0)), (1, .int v1), (2, .int v2), (3, .int v3), (4, .int v4)], [], me_w M J)) rfl k
      by_cases h57 : 0 ≤ v3
      · rw [if_pos h57] at k
        have k := ly_revb 1 (c' := (65, [(0, .ref (p 0)), (1, .int v1), (2, .int v2), (3, .int v3), (4, .int v4)], [.int v3], me_w M J)) rfl k
        have k := lz_ri rfl (by decide) k
        rw [k, x175_10, if_pos h18, if_pos h57]
      · rw [if_neg h57] at k
        have k := ly_revb 2 (c' := (65, [(0, .ref (p 0)), (1, .int v1), (2, .int v2), (3, .int v3), (4, .int v4)], [.int (Int32.ofInt 0)], me_w M J)) rfl k
        have k := lz_ri rfl (by decide) k
        rw [k, x175_10, if_pos h18, if_neg h57]
    · rw [if_neg h18] at k
      have k := ly_revb 4 (c' := (26, [(0, .ref (p 0)), (1, .int v1), (2, .int v2), (3, .int v3), (4, .int v4)], [.int v1, .int v4, .ref (p 0), .int v3], me_w M J)) rfl k
      obtain ⟨d1, o1, ed, kc, k⟩ := lz_c (g := 171) (q := 1) (vs := [.ref (p 0), .int v4, .int v1]) (rest := [.int v3]) rfl rfl (by decide) (Or.inr (Or.inl ⟨_, rfl, rfl⟩)) rfl k
      have e1 := xt171 hp kc
      subst e1
      have k : nt_rn X _ 175 (29, [(0, .ref (p 0)), (1, .int v1), (2, .int v2), (3, .int v3), (4, .int v4)], [.int (x171 p v4 v1 J), .int v3], me_w M J) _ := k
      have k := ly_revb 1 (c' := (if (x171 p v4 v1 J) = 0 then 47 else 32, [(0, .ref (p 0)), (1, .int v1), (2, .int v2), (3, .int v3), (4, .int v4)], [.int v3], me_w M J)) rfl k
      by_cases h29 : (x171 p v4 v1 J) = 0
      · rw [if_pos h29] at k
        have k := ly_revb 5 (c' := (10, [(4, .int (v4 + (Int32.ofInt 1))), (3, .int (v3 - (Int32.ofInt 0))), (0, .ref (p 0)), (1, .int v1), (2, .int v2)], [], me_w M J)) rfl k
        have k := nt_rn_w (a := [(4, .int (v4 + (Int32.ofInt 1))), (3, .int (v3 - (Int32.ofInt 0))), (0, .ref (p 0)), (1, .int v1), (2, .int v2)]) (b := [(0, .ref (p 0)), (1, .int v1), (2, .int v2), (3, .int (v3 - (Int32.ofInt 0))), (4, .int (v4 + (Int32.ofInt 1)))]) ⟨rfl, rfl, rfl, rfl, rfl, trivial⟩ rfl k
        have k := ih (v3 - (Int32.ofInt 0)) (v4 + (Int32.ofInt 1)) (lx_dec h18 hc) k
        rw [k, x175_10, if_neg h18, if_pos h29]
      · rw [if_neg h29] at k
        have k := ly_revb 3 (c' := (36, [(0, .ref (p 0)), (1, .int v1), (2, .int v2), (3, .int v3), (4, .int v4)], [.int (Int32.ofInt 0), .int v4, .ref (p 0), .int v3], me_w M J)) rfl k
        obtain ⟨d1, o1, ed, kc, k⟩ := lz_c (g := 173) (q := 1) (vs := [.ref (p 0), .int v4, .int (Int32.ofInt 0)]) (rest := [.int v3]) rfl rfl (by decide) (Or.inr (Or.inl ⟨_, rfl, rfl⟩)) rfl k
        have e1 := xt173 hp kc
        subst e1
        have k : nt_rn X _ 175 (39, [(0, .ref (p 0)), (1, .int v1), (2, .int v2), (3, .int v3), (4, .int v4)], [.int (x173 p v4 (Int32.ofInt 0) J), .int v3], me_w M J) _ := k
        have k := ly_revb 2 (c' := (if (x173 p v4 (Int32.ofInt 0) J) = v2 then 43 else 47, [(0, .ref (p 0)), (1, .int v1), (2, .int v2), (3, .int v3), (4, .int v4)], [.int v3], me_w M J)) rfl k
        by_cases h40 : (x173 p v4 (Int32.ofInt 0) J) = v2
        · rw [if_pos h40] at k
          have k := ly_revb 6 (c' := (10, [(4, .int (v4 + (Int32.ofInt 1))), (3, .int (v3 - (Int32.ofInt 1))), (0, .ref (p 0)), (1, .int v1), (2, .int v2)], [], me_w M J)) rfl k
          have k := nt_rn_w (a := [(4, .int (v4 + (Int32.ofInt 1))), (3, .int (v3 - (Int32.ofInt 1))), (0, .ref (p 0)), (1, .int v1), (2, .int v2)]) (b := [(0, .ref (p 0)), (1, .int v1), (2, .int v2), (3, .int (v3 - (Int32.ofInt 1))), (4, .int (v4 + (Int32.ofInt 1)))]) ⟨rfl, rfl, rfl, rfl, rfl, trivial⟩ rfl k
          have k := ih (v3 - (Int32.ofInt 1)) (v4 + (Int32.ofInt 1)) (lx_dec h18 hc) k
          rw [k, x175_10, if_neg h18, if_neg h29, if_pos h40]
        · rw [if_neg h40] at k
          have k := ly_revb 5 (c' := (10, [(4, .int (v4 + (Int32.ofInt 1))), (3, .int (v3 - (Int32.ofInt 0))), (0, .ref (p 0)), (1, .int v1), (2, .int v2)], [], me_w M J)) rfl k
          have k := nt_rn_w (a := [(4, .int (v4 + (Int32.ofInt 1))), (3, .int (v3 - (Int32.ofInt 0))), (0, .ref (p 0)), (1, .int v1), (2, .int v2)]) (b := [(0, .ref (p 0)), (1, .int v1), (2, .int v2), (3, .int (v3 - (Int32.ofInt 0))), (4, .int (v4 + (Int32.ofInt 1)))]) ⟨rfl, rfl, rfl, rfl, rfl, trivial⟩ rfl k
          have k := ih (v3 - (Int32.ofInt 0)) (v4 + (Int32.ofInt 1)) (lx_dec h18 hc) k
          rw [k, x175_10, if_neg h18, if_neg h29, if_neg h40]
def x175 (p : Nat → Nat) (v1 : Int32) (v2 : Int32) (J : Nat → Nat → Int32) : Int32 := (x175_10 p v1 v2 J ((J (p 4) 2).toNatClampNeg) (x169 p v1 v2 J) (Int32.ofInt 0))
theorem xt175 {X : nt_X} {d : Nat} {M : nt_M} {o : Option Value × nt_M} {p : Nat → Nat} {v1 : Int32} {v2 : Int32} {J : Nat → Nat → Int32} (hp : xs_P M p) (k : nt_ev X d 175 [.ref (p 0), .int v1, .int v2] (me_w M J) o) : o = (some (.int (x175 p v1 v2 J)), me_w M J) := by
  have k : nt_rn X d 175 (0, [(0, .ref (p 0)), (1, .int v1), (2, .int v2)], [], me_w M J) o := k
  have k := ly_revb 3 (c' := (3, [(0, .ref (p 0)), (1, .int v1), (2, .int v2)], [.int v2, .int v1, .ref (p 0)], me_w M J)) rfl k
  obtain ⟨d1, o1, ed, kc, k⟩ := lz_c (g := 169) (q := 1) (vs := [.ref (p 0), .int v1, .int v2]) (rest := []) rfl rfl (by decide) (Or.inr (Or.inl ⟨_, rfl, rfl⟩)) rfl k
  have e1 := xt169 hp kc
  subst e1
  have k : nt_rn X _ 175 (6, [(0, .ref (p 0)), (1, .int v1), (2, .int v2)], [.int (x169 p v1 v2 J)], me_w M J) _ := k
  have k := ly_revb 3 (c' := (10, [(4, .int (Int32.ofInt 0)), (3, .int (x169 p v1 v2 J)), (0, .ref (p 0)), (1, .int v1), (2, .int v2)], [], me_w M J)) rfl k
  have k := nt_rn_w (a := [(4, .int (Int32.ofInt 0)), (3, .int (x169 p v1 v2 J)), (0, .ref (p 0)), (1, .int v1), (2, .int v2)]) (b := [(0, .ref (p 0)), (1, .int v1), (2, .int v2), (3, .int (x169 p v1 v2 J)), (4, .int (Int32.ofInt 0))]) ⟨rfl, rfl, rfl, rfl, rfl, trivial⟩ rfl k
  have k := xt175_10 hp  ((J (p 4) 2).toNatClampNeg) (x169 p v1 v2 J) (Int32.ofInt 0) (lx_beg (by decide)) k
  rw [k, x175]
/-! Model.isWhole -/
def x174_2 (p : Nat → Nat) (v1 : Int32) (J : Nat → Nat → Int32) : Nat → Int32 → Int32
  | 0, v2 => (Int32.ofInt 1)
  | c + 1, v2 => if (J (p 4) 0) ≤ v2 then (Int32.ofInt 1)
    else if (x175 p v1 v2 J) ≤ 0 then (x174_2 p v1 J c (v2 + (Int32.ofInt 1)))
      else (Int32.ofInt 0)
theorem xt174_2 {X : nt_X} {d : Nat} {M : nt_M} {o : Option Value × nt_M} {p : Nat → Nat} {v1 : Int32} {J : Nat → Nat → Int32} (hp : xs_P M p) : ∀ (c : Nat) (v2 : Int32), (J (p 4) 0).toInt - v2.toInt ≤ c → nt_rn X d 174 (2, [(0, .ref (p 0)), (1, .int v1), (2, .int v2)], [], me_w M J) o → o = (some (.int (x174_2 p v1 J c v2)), me_w M J) := by
  intro c
  induction c with
  | zero =>
    intro v2 hc k
    have k := ly_revb 2 (c' := (4, [(0, .ref (p 0)), (1, .int v1), (2, .int v2)], [.ref (p 0), .int v2], me_w M J)) rfl k
    have k := lz_get (a := (p 0)) (g := 1127) (M := me_w M J) (v := .ref (p 4)) rfl (nt_gfR rfl (hp.1 (0, 27, 4) (by decide))) k
    have k := ly_revb 1 (c' := (8, [(0, .ref (p 0)), (1, .int v1), (2, .int v2)], [.int (Int32.ofInt 0), .ref (p 4), .int v2], me_w M J)) rfl k
    have k := mx_iald (v := J (p 4) 0) rfl (hp.2.2.1 4 (by omega)) ((congrArg (J (p 4)) (show (Int32.ofInt 0).toNatClampNeg = 0 from rfl)).trans (rfl)) k
    have k := ly_revb 1 (c' := (if (J (p 4) 0) ≤ v2 then 29 else 12, [(0, .ref (p 0)), (1, .int v1), (2, .int v2)], [], me_w M J)) rfl k
    have h9 : (J (p 4) 0) ≤ v2 := lx_end hc
    rw [if_pos h9] at k
    have k := ly_revb 1 (c' := (30, [(0, .ref (p 0)), (1, .int v1), (2, .int v2)], [.int (Int32.ofInt 1)], me_w M J)) rfl k
    have k := lz_ri rfl (by decide) k
    rw [k, x174_2]
  | succ c ih =>
    intro v2 hc k
    have k := ly_revb 2 (c' := (4, [(0, .ref (p 0)), (1, .int v1), (2, .int v2)], [.ref (p 0), .int v2], me_w M J)) rfl k
    have k := lz_get (a := (p 0)) (g := 1127) (M := me_w M J) (v := .ref (p 4)) rfl (nt_gfR rfl (hp.1 (0, 27, 4) (by decide))) k
    have k := ly_revb 1 (c' := (8, [(0, .ref (p 0)), (1, .int v1), (2, .int v2)], [.int (Int32.ofInt 0), .ref (p 4), .int v2], me_w M J)) rfl k
    have k := mx_iald (v := J (p 4) 0) rfl (hp.2.2.1 4 (by omega)) ((congrArg (J (p 4)) (show (Int32.ofInt 0).toNatClampNeg = 0 from rfl)).trans (rfl)) k
    have k := ly_revb 1 (c' := (if (J (p 4) 0) ≤ v2 then 29 else 12, [(0, .ref (p 0)), (1, .int v1), (2, .int v2)], [], me_w M J)) rfl k
    by_cases h9 : (J (p 4) 0) ≤ v2
    · rw [if_pos h9] at k
      have k := ly_revb 1 (c' := (30, [(0, .ref (p 0)), (1, .int v1), (2, .int v2)], [.int (Int32.ofInt 1)], me_w M J)) rfl k
      have k := lz_ri rfl (by decide) k
      rw [k, x174_2, if_pos h9]
    · rw [if_neg h9] at k
      have k := ly_revb 3 (c' := (15, [(0, .ref (p 0)), (1, .int v1), (2, .int v2)], [.int v2, .int v1, .ref (p 0)], me_w M J)) rfl k
      obtain ⟨d1, o1, ed, kc, k⟩ := lz_c (g := 175) (q := 1) (vs := [.ref (p 0), .int v1, .int v2]) (rest := []) rfl rfl (by decide) (Or.inr (Or.inl ⟨_, rfl, rfl⟩)) rfl k
      have e1 := xt175 hp kc
      subst e1
      have k : nt_rn X _ 174 (18, [(0, .ref (p 0)), (1, .int v1), (2, .int v2)], [.int (x175 p v1 v2 J)], me_w M J) _ := k
      have k := ly_revb 1 (c' := (if (x175 p v1 v2 J) ≤ 0 then 23 else 21, [(0, .ref (p 0)), (1, .int v1), (2, .int v2)], [], me_w M J)) rfl k
      by_cases h18 : (x175 p v1 v2 J) ≤ 0
      · rw [if_pos h18] at k
        have k := ly_revb 2 (c' := (2, [(2, .int (v2 + (Int32.ofInt 1))), (0, .ref (p 0)), (1, .int v1)], [], me_w M J)) rfl k
        have k := nt_rn_w (a := [(2, .int (v2 + (Int32.ofInt 1))), (0, .ref (p 0)), (1, .int v1)]) (b := [(0, .ref (p 0)), (1, .int v1), (2, .int (v2 + (Int32.ofInt 1)))]) ⟨rfl, rfl, rfl, trivial⟩ rfl k
        have k := ih (v2 + (Int32.ofInt 1)) (lx_dec h9 hc) k
        rw [k, x174_2, if_neg h9, if_pos h18]
      · rw [if_neg h18] at k
        have k := ly_revb 1 (c' := (22, [(0, .ref (p 0)), (1, .int v1), (2, .int v2)], [.int (Int32.ofInt 0)], me_w M J)) rfl k
        have k := lz_ri rfl (by decide) k
        rw [k, x174_2, if_neg h9, if_neg h18]
def x174 (p : Nat → Nat) (v1 : Int32) (J : Nat → Nat → Int32) : Int32 := (x174_2 p v1 J ((J (p 4) 0).toNatClampNeg) (Int32.ofInt 0))
theorem xt174 {X : nt_X} {d : Nat} {M : nt_M} {o : Option Value × nt_M} {p : Nat → Nat} {v1 : Int32} {J : Nat → Nat → Int32} (hp : xs_P M p) (k : nt_ev X d 174 [.ref (p 0), .int v1] (me_w M J) o) : o = (some (.int (x174 p v1 J)), me_w M J) := by
  have k : nt_rn X d 174 (0, [(0, .ref (p 0)), (1, .int v1)], [], me_w M J) o := k
  have k := ly_revb 2 (c' := (2, [(2, .int (Int32.ofInt 0)), (0, .ref (p 0)), (1, .int v1)], [], me_w M J)) rfl k
  have k := nt_rn_w (a := [(2, .int (Int32.ofInt 0)), (0, .ref (p 0)), (1, .int v1)]) (b := [(0, .ref (p 0)), (1, .int v1), (2, .int (Int32.ofInt 0))]) ⟨rfl, rfl, rfl, trivial⟩ rfl k
  have k := xt174_2 hp  ((J (p 4) 0).toNatClampNeg) (Int32.ofInt 0) (lx_beg (by decide)) k
  rw [k, x174]
/-! Model.areHands -/
def x184 (p : Nat → Nat) (J : Nat → Nat → Int32) : Int32 := if (J (p 4) 5) ≤ (J (p 4) 6) then (Int32.ofInt 0)
  else (Int32.ofInt 1)
theorem xt184 {X : nt_X} {d : Nat} {M : nt_M} {o : Option Value × nt_M} {p : Nat → Nat} {J : Nat → Nat → Int32} (hp : xs_P M p) (k : nt_ev X d 184 [.ref (p 0)] (me_w M J) o) : o = (some (.int (x184 p J)), me_w M J) := by
  have k : nt_rn X d 184 (0, [(0, .ref (p 0))], [], me_w M J) o := k
  have k := ly_revb 1 (c' := (1, [(0, .ref (p 0))], [.ref (p 0)], me_w M J)) rfl k
  have k := lz_get (a := (p 0)) (g := 1127) (M := me_w M J) (v := .ref (p 4)) rfl (nt_gfR rfl (hp.1 (0, 27, 4) (by decide))) k
  have k := ly_revb 1 (c' := (6, [(0, .ref (p 0))], [.int (Int32.ofInt 6), .ref (p 4)], me_w M J)) rfl k
  have k := mx_iald (v := J (p 4) 6) rfl (hp.2.2.1 4 (by omega)) ((congrArg (J (p 4)) (show (Int32.ofInt 6).toNatClampNeg = 6 from rfl)).trans (rfl)) k
  have k := ly_revb 1 (c' := (8, [(0, .ref (p 0))], [.ref (p 0), .int (J (p 4) 6)], me_w M J)) rfl k
  have k := lz_get (a := (p 0)) (g := 1127) (M := me_w M J) (v := .ref (p 4)) rfl (nt_gfR rfl (hp.1 (0, 27, 4) (by decide))) k
  have k := ly_revb 1 (c' := (12, [(0, .ref (p 0))], [.int (Int32.ofInt 5), .ref (p 4), .int (J (p 4) 6)], me_w M J)) rfl k
  have k := mx_iald (v := J (p 4) 5) rfl (hp.2.2.1 4 (by omega)) ((congrArg (J (p 4)) (show (Int32.ofInt 5).toNatClampNeg = 5 from rfl)).trans (rfl)) k
  have k := ly_revb 1 (c' := (if (J (p 4) 5) ≤ (J (p 4) 6) then 20 else 16, [(0, .ref (p 0))], [], me_w M J)) rfl k
  by_cases h13 : (J (p 4) 5) ≤ (J (p 4) 6)
  · rw [if_pos h13] at k
    have k := ly_revb 1 (c' := (21, [(0, .ref (p 0))], [.int (Int32.ofInt 0)], me_w M J)) rfl k
    have k := lz_ri rfl (by decide) k
    rw [k, x184, if_pos h13]
  · rw [if_neg h13] at k
    have k := ly_revb 2 (c' := (21, [(0, .ref (p 0))], [.int (Int32.ofInt 1)], me_w M J)) rfl k
    have k := lz_ri rfl (by decide) k
    rw [k, x184, if_neg h13]
/-! Model.moves -/
def x185 (p : Nat → Nat) (v1 : Int32) (v2 : Int32) (J : Nat → Nat → Int32) : (Nat → Nat → Int32) := (nt_u (nt_u (nt_u J (p 4) ((((Int32.ofInt 52) + ((Int32.ofInt 5) * v1)) + (Int32.ofInt 3)).toNatClampNeg) v2) (p 4) 6 (((nt_u J (p 4) ((((Int32.ofInt 52) + ((Int32.ofInt 5) * v1)) + (Int32.ofInt 3)).toNatClampNeg) v2) (p 4) 6) + (Int32.ofInt 1))) (p 4) 8 (((nt_u J (p 4) ((((Int32.ofInt 52) + ((Int32.ofInt 5) * v1)) + (Int32.ofInt 3)).toNatClampNeg) v2) (p 4) 8) + (Int32.ofInt 1)))
theorem xt185 {X : nt_X} {d : Nat} {M : nt_M} {o : Option Value × nt_M} {p : Nat → Nat} {v1 : Int32} {v2 : Int32} {J : Nat → Nat → Int32} (hp : xs_P M p) (k : nt_ev X d 185 [.ref (p 0), .int v1, .int v2] (me_w M J) o) : o = (none, me_w M (x185 p v1 v2 J)) := by
  have k : nt_rn X d 185 (0, [(0, .ref (p 0)), (1, .int v1), (2, .int v2)], [], me_w M J) o := k
  have k := ly_revb 1 (c' := (1, [(0, .ref (p 0)), (1, .int v1), (2, .int v2)], [.ref (p 0)], me_w M J)) rfl k
  have k := lz_get (a := (p 0)) (g := 1127) (M := me_w M J) (v := .ref (p 4)) rfl (nt_gfR rfl (hp.1 (0, 27, 4) (by decide))) k
  have k := ly_revb 8 (c' := (13, [(0, .ref (p 0)), (1, .int v1), (2, .int v2)], [.int v2, .int (((Int32.ofInt 52) + ((Int32.ofInt 5) * v1)) + (Int32.ofInt 3)), .ref (p 4)], me_w M J)) rfl k
  have k := mx_iast (q := (((Int32.ofInt 52) + ((Int32.ofInt 5) * v1)) + (Int32.ofInt 3)).toNatClampNeg) rfl rfl k
  have k : nt_rn X _ 185 (14, [(0, .ref (p 0)), (1, .int v1), (2, .int v2)], [], me_w M (nt_u J (p 4) ((((Int32.ofInt 52) + ((Int32.ofInt 5) * v1)) + (Int32.ofInt 3)).toNatClampNeg) v2)) _ := k
  have k := ly_revb 1 (c' := (15, [(0, .ref (p 0)), (1, .int v1), (2, .int v2)], [.ref (p 0)], me_w M (nt_u J (p 4) ((((Int32.ofInt 52) + ((Int32.ofInt 5) * v1)) + (Int32.ofInt 3)).toNatClampNeg) v2))) rfl k
  have k := lz_get (a := (p 0)) (g := 1127) (M := me_w M (nt_u J (p 4) ((((Int32.ofInt 52) + ((Int32.ofInt 5) * v1)) + (Int32.ofInt 3)).toNatClampNeg) v2)) (v := .ref (p 4)) rfl (nt_gfR rfl (hp.1 (0, 27, 4) (by decide))) k
  have k := ly_revb 2 (c' := (21, [(0, .ref (p 0)), (1, .int v1), (2, .int v2)], [.int (Int32.ofInt 6), .ref (p 4), .int (Int32.ofInt 6), .ref (p 4)], me_w M (nt_u J (p 4) ((((Int32.ofInt 52) + ((Int32.ofInt 5) * v1)) + (Int32.ofInt 3)).toNatClampNeg) v2))) rfl k
  have k := mx_iald (v := (nt_u J (p 4) ((((Int32.ofInt 52) + ((Int32.ofInt 5) * v1)) + (Int32.ofInt 3)).toNatClampNeg) v2) (p 4) 6) rfl (hp.2.2.1 4 (by omega)) ((congrArg ((nt_u J (p 4) ((((Int32.ofInt 52) + ((Int32.ofInt 5) * v1)) + (Int32.ofInt 3)).toNatClampNeg) v2) (p 4)) (show (Int32.ofInt 6).toNatClampNeg = 6 from rfl)).trans (rfl)) k
  have k := ly_revb 2 (c' := (24, [(0, .ref (p 0)), (1, .int v1), (2, .int v2)], [.int (((nt_u J (p 4) ((((Int32.ofInt 52) + ((Int32.ofInt 5) * v1)) + (Int32.ofInt 3)).toNatClampNeg) v2) (p 4) 6) + (Int32.ofInt 1)), .int (Int32.ofInt 6), .ref (p 4)], me_w M (nt_u J (p 4) ((((Int32.ofInt 52) + ((Int32.ofInt 5) * v1)) + (Int32.ofInt 3)).toNatClampNeg) v2))) rfl k
  have k := mx_iast (q := 6) rfl (show (Int32.ofInt 6).toNatClampNeg = 6 from rfl) k
  have k : nt_rn X _ 185 (25, [(0, .ref (p 0)), (1, .int v1), (2, .int v2)], [], me_w M (nt_u (nt_u J (p 4) ((((Int32.ofInt 52) + ((Int32.ofInt 5) * v1)) + (Int32.ofInt 3)).toNatClampNeg) v2) (p 4) 6 (((nt_u J (p 4) ((((Int32.ofInt 52) + ((Int32.ofInt 5) * v1)) + (Int32.ofInt 3)).toNatClampNeg) v2) (p 4) 6) + (Int32.ofInt 1)))) _ := k
  have k := ly_revb 1 (c' := (26, [(0, .ref (p 0)), (1, .int v1), (2, .int v2)], [.ref (p 0)], me_w M (nt_u (nt_u J (p 4) ((((Int32.ofInt 52) + ((Int32.ofInt 5) * v1)) + (Int32.ofInt 3)).toNatClampNeg) v2) (p 4) 6 (((nt_u J (p 4) ((((Int32.ofInt 52) + ((Int32.ofInt 5) * v1)) + (Int32.ofInt 3)).toNatClampNeg) v2) (p 4) 6) + (Int32.ofInt 1))))) rfl k
  have k := lz_get (a := (p 0)) (g := 1127) (M := me_w M (nt_u (nt_u J (p 4) ((((Int32.ofInt 52) + ((Int32.ofInt 5) * v1)) + (Int32.ofInt 3)).toNatClampNeg) v2) (p 4) 6 (((nt_u J (p 4) ((((Int32.ofInt 52) + ((Int32.ofInt 5) * v1)) + (Int32.ofInt 3)).toNatClampNeg) v2) (p 4) 6) + (Int32.ofInt 1)))) (v := .ref (p 4)) rfl (nt_gfR rfl (hp.1 (0, 27, 4) (by decide))) k
  have k := ly_revb 2 (c' := (32, [(0, .ref (p 0)), (1, .int v1), (2, .int v2)], [.int (Int32.ofInt 8), .ref (p 4), .int (Int32.ofInt 8), .ref (p 4)], me_w M (nt_u (nt_u J (p 4) ((((Int32.ofInt 52) + ((Int32.ofInt 5) * v1)) + (Int32.ofInt 3)).toNatClampNeg) v2) (p 4) 6 (((nt_u J (p 4) ((((Int32.ofInt 52) + ((Int32.ofInt 5) * v1)) + (Int32.ofInt 3)).toNatClampNeg) v2) (p 4) 6) + (Int32.ofInt 1))))) rfl k
  have k := mx_iald (v := (nt_u J (p 4) ((((Int32.ofInt 52) + ((Int32.ofInt 5) * v1)) + (Int32.ofInt 3)).toNatClampNeg) v2) (p 4) 8) rfl (hp.2.2.1 4 (by omega)) ((congrArg ((nt_u (nt_u J (p 4) ((((Int32.ofInt 52) + ((Int32.ofInt 5) * v1)) + (Int32.ofInt 3)).toNatClampNeg) v2) (p 4) 6 (((nt_u J (p 4) ((((Int32.ofInt 52) + ((Int32.ofInt 5) * v1)) + (Int32.ofInt 3)).toNatClampNeg) v2) (p 4) 6) + (Int32.ofInt 1))) (p 4)) (show (Int32.ofInt 8).toNatClampNeg = 8 from rfl)).trans (mu_k (by decide))) k
  have k := ly_revb 2 (c' := (35, [(0, .ref (p 0)), (1, .int v1), (2, .int v2)], [.int (((nt_u J (p 4) ((((Int32.ofInt 52) + ((Int32.ofInt 5) * v1)) + (Int32.ofInt 3)).toNatClampNeg) v2) (p 4) 8) + (Int32.ofInt 1)), .int (Int32.ofInt 8), .ref (p 4)], me_w M (nt_u (nt_u J (p 4) ((((Int32.ofInt 52) + ((Int32.ofInt 5) * v1)) + (Int32.ofInt 3)).toNatClampNeg) v2) (p 4) 6 (((nt_u J (p 4) ((((Int32.ofInt 52) + ((Int32.ofInt 5) * v1)) + (Int32.ofInt 3)).toNatClampNeg) v2) (p 4) 6) + (Int32.ofInt 1))))) rfl k
  have k := mx_iast (q := 8) rfl (show (Int32.ofInt 8).toNatClampNeg = 8 from rfl) k
  have k : nt_rn X _ 185 (36, [(0, .ref (p 0)), (1, .int v1), (2, .int v2)], [], me_w M (nt_u (nt_u (nt_u J (p 4) ((((Int32.ofInt 52) + ((Int32.ofInt 5) * v1)) + (Int32.ofInt 3)).toNatClampNeg) v2) (p 4) 6 (((nt_u J (p 4) ((((Int32.ofInt 52) + ((Int32.ofInt 5) * v1)) + (Int32.ofInt 3)).toNatClampNeg) v2) (p 4) 6) + (Int32.ofInt 1))) (p 4) 8 (((nt_u J (p 4) ((((Int32.ofInt 52) + ((Int32.ofInt 5) * v1)) + (Int32.ofInt 3)).toNatClampNeg) v2) (p 4) 8) + (Int32.ofInt 1)))) _ := k
  have k := lz_rv rfl rfl k
  rw [k, x185]
theorem x185_frJ {p : Nat → Nat} {v1 : Int32} {v2 : Int32} {J : Nat → Nat → Int32} {b : Nat} (n0 : b ≠ p 4) : x185 p v1 v2 J b = J b := by
  unfold x185
  all_goals first | (dsimp only; exact (show (nt_u (nt_u (nt_u J (p 4) ((((Int32.ofInt 52) + ((Int32.ofInt 5) * v1)) + (Int32.ofInt 3)).toNatClampNeg) v2) (p 4) 6 (((nt_u J (p 4) ((((Int32.ofInt 52) + ((Int32.ofInt 5) * v1)) + (Int32.ofInt 3)).toNatClampNeg) v2) (p 4) 6) + (Int32.ofInt 1))) (p 4) 8 (((nt_u J (p 4) ((((Int32.ofInt 52) + ((Int32.ofInt 5) * v1)) + (Int32.ofInt 3)).toNatClampNeg) v2) (p 4) 8) + (Int32.ofInt 1))) b = J b from (mu_o n0).trans ((mu_o n0).trans (mu_o n0)))) | exact (show (nt_u (nt_u (nt_u J (p 4) ((((Int32.ofInt 52) + ((Int32.ofInt 5) * v1)) + (Int32.ofInt 3)).toNatClampNeg) v2) (p 4) 6 (((nt_u J (p 4) ((((Int32.ofInt 52) + ((Int32.ofInt 5) * v1)) + (Int32.ofInt 3)).toNatClampNeg) v2) (p 4) 6) + (Int32.ofInt 1))) (p 4) 8 (((nt_u J (p 4) ((((Int32.ofInt 52) + ((Int32.ofInt 5) * v1)) + (Int32.ofInt 3)).toNatClampNeg) v2) (p 4) 8) + (Int32.ofInt 1))) b = J b from (mu_o n0).trans ((mu_o n0).trans (mu_o n0)))
/-! Model.isAshore -/
def x182 (p : Nat → Nat) (v1 : Int32) (J : Nat → Nat → Int32) : Int32 := if (x169 p v1 (Int32.ofInt 4) J) = 0 then (Int32.ofInt 1)
  else (Int32.ofInt 0)
theorem xt182 {X : nt_X} {d : Nat} {M : nt_M} {o : Option Value × nt_M} {p : Nat → Nat} {v1 : Int32} {J : Nat → Nat → Int32} (hp : xs_P M p) (k : nt_ev X d 182 [.ref (p 0), .int v1] (me_w M J) o) : o = (some (.int (x182 p v1 J)), me_w M J) := by
  have k : nt_rn X d 182 (0, [(0, .ref (p 0)), (1, .int v1)], [], me_w M J) o := k
  have k := ly_revb 3 (c' := (3, [(0, .ref (p 0)), (1, .int v1)], [.int (Int32.ofInt 4), .int v1, .ref (p 0)], me_w M J)) rfl k
  obtain ⟨d1, o1, ed, kc, k⟩ := lz_c (g := 169) (q := 1) (vs := [.ref (p 0), .int v1, .int (Int32.ofInt 4)]) (rest := []) rfl rfl (by decide) (Or.inr (Or.inl ⟨_, rfl, rfl⟩)) rfl k
  have e1 := xt169 hp kc
  subst e1
  have k : nt_rn X _ 182 (6, [(0, .ref (p 0)), (1, .int v1)], [.int (x169 p v1 (Int32.ofInt 4) J)], me_w M J) _ := k
  have k := ly_revb 1 (c' := (if (x169 p v1 (Int32.ofInt 4) J) = 0 then 9 else 13, [(0, .ref (p 0)), (1, .int v1)], [], me_w M J)) rfl k
  by_cases h6 : (x169 p v1 (Int32.ofInt 4) J) = 0
  · rw [if_pos h6] at k
    have k := ly_revb 2 (c' := (14, [(0, .ref (p 0)), (1, .int v1)], [.int (Int32.ofInt 1)], me_w M J)) rfl k
    have k := lz_ri rfl (by decide) k
    rw [k, x182, if_pos h6]
  · rw [if_neg h6] at k
    have k := ly_revb 1 (c' := (14, [(0, .ref (p 0)), (1, .int v1)], [.int (Int32.ofInt 0)], me_w M J)) rfl k
    have k := lz_ri rfl (by decide) k
    rw [k, x182, if_neg h6]
/-! Model.isAtHand -/
def x183 (p : Nat → Nat) (v1 : Int32) (J : Nat → Nat → Int32) : Int32 := if (x172 p v1 J) = 0 then (Int32.ofInt 0)
  else if (x173 p v1 (Int32.ofInt 3) J) < 0 then (Int32.ofInt 1)
    else if (x182 p (x173 p v1 (Int32.ofInt 3) J) J) = 0 then (Int32.ofInt 0)
      else (Int32.ofInt 1)
theorem xt183 {X : nt_X} {d : Nat} {M : nt_M} {o : Option Value × nt_M} {p : Nat → Nat} {v1 : Int32} {J : Nat → Nat → Int32} (hp : xs_P M p) (k : nt_ev X d 183 [.ref (p 0), .int v1] (me_w M J) o) : o = (some (.int (x183 p v1 J)), me_w M J) := by
  have k : nt_rn X d 183 (0, [(0, .ref (p 0)), (1, .int v1)], [], me_w M J) o := k
  have k := ly_revb 2 (c' := (2, [(0, .ref (p 0)), (1, .int v1)], [.int v1, .ref (p 0)], me_w M J)) rfl k
  obtain ⟨d1, o1, ed, kc, k⟩ := lz_c (g := 172) (q := 1) (vs := [.ref (p 0), .int v1]) (rest := []) rfl rfl (by decide) (Or.inr (Or.inl ⟨_, rfl, rfl⟩)) rfl k
  have e1 := xt172 hp kc
  subst e1
  have k : nt_rn X _ 183 (5, [(0, .ref (p 0)), (1, .int v1)], [.int (x172 p v1 J)], me_w M J) _ := k
  have k := ly_revb 1 (c' := (if (x172 p v1 J) = 0 then 34 else 8, [(0, .ref (p 0)), (1, .int v1)], [], me_w M J)) rfl k
  by_cases h5 : (x172 p v1 J) = 0
  · rw [if_pos h5] at k
    have k := ly_revb 1 (c' := (35, [(0, .ref (p 0)), (1, .int v1)], [.int (Int32.ofInt 0)], me_w M J)) rfl k
    have k := lz_ri rfl (by decide) k
    rw [k, x183, if_pos h5]
  · rw [if_neg h5] at k
    have k := ly_revb 3 (c' := (11, [(0, .ref (p 0)), (1, .int v1)], [.int (Int32.ofInt 3), .int v1, .ref (p 0)], me_w M J)) rfl k
    obtain ⟨d1, o1, ed, kc, k⟩ := lz_c (g := 173) (q := 1) (vs := [.ref (p 0), .int v1, .int (Int32.ofInt 3)]) (rest := []) rfl rfl (by decide) (Or.inr (Or.inl ⟨_, rfl, rfl⟩)) rfl k
    have e1 := xt173 hp kc
    subst e1
    have k : nt_rn X _ 183 (14, [(0, .ref (p 0)), (1, .int v1)], [.int (x173 p v1 (Int32.ofInt 3) J)], me_w M J) _ := k
    have k := ly_revb 1 (c' := (if (x173 p v1 (Int32.ofInt 3) J) < 0 then 30 else 17, [(0, .ref (p 0)), (1, .int v1)], [], me_w M J)) rfl k
    by_cases h14 : (x173 p v1 (Int32.ofInt 3) J) < 0
    · rw [if_pos h14] at k
      have k := ly_revb 2 (c' := (35, [(0, .ref (p 0)), (1, .int v1)], [.int (Int32.ofInt 1)], me_w M J)) rfl k
      have k := lz_ri rfl (by decide) k
      rw [k, x183, if_neg h5, if_pos h14]
    · rw [if_neg h14] at k
      have k := ly_revb 4 (c' := (21, [(0, .ref (p 0)), (1, .int v1)], [.int (Int32.ofInt 3), .int v1, .ref (p 0), .ref (p 0)], me_w M J)) rfl k
      obtain ⟨d1, o1, ed, kc, k⟩ := lz_c (g := 173) (q := 1) (vs := [.ref (p 0), .int v1, .int (Int32.ofInt 3)]) (rest := [.ref (p 0)]) rfl rfl (by decide) (Or.inr (Or.inl ⟨_, rfl, rfl⟩)) rfl k
      have e1 := xt173 hp kc
      subst e1
      have k : nt_rn X _ 183 (24, [(0, .ref (p 0)), (1, .int v1)], [.int (x173 p v1 (Int32.ofInt 3) J), .ref (p 0)], me_w M J) _ := k
      obtain ⟨d1, o1, ed, kc, k⟩ := lz_c (g := 182) (q := 1) (vs := [.ref (p 0), .int (x173 p v1 (Int32.ofInt 3) J)]) (rest := []) rfl rfl (by decide) (Or.inr (Or.inl ⟨_, rfl, rfl⟩)) rfl k
      have e1 := xt182 hp kc
      subst e1
      have k : nt_rn X _ 183 (27, [(0, .ref (p 0)), (1, .int v1)], [.int (x182 p (x173 p v1 (Int32.ofInt 3) J) J)], me_w M J) _ := k
      have k := ly_revb 1 (c' := (if (x182 p (x173 p v1 (Int32.ofInt 3) J) J) = 0 then 34 else 30, [(0, .ref (p 0)), (1, .int v1)], [], me_w M J)) rfl k
      by_cases h27 : (x182 p (x173 p v1 (Int32.ofInt 3) J) J) = 0
      · rw [if_pos h27] at k
        have k := ly_revb 1 (c' := (35, [(0, .ref (p 0)), (1, .int v1)], [.int (Int32.ofInt 0)], me_w M J)) rfl k
        have k := lz_ri rfl (by decide) k
        rw [k, x183, if_neg h5, if_neg h14, if_pos h27]
      · rw [if_neg h27] at k
        have k := ly_revb 2 (c' := (35, [(0, .ref (p 0)), (1, .int v1)], [.int (Int32.ofInt 1)], me_w M J)) rfl k
        have k := lz_ri rfl (by decide) k
        rw [k, x183, if_neg h5, if_neg h14, if_neg h27]
/-! Model.beginsToday -/
def x195_2 (p : Nat → Nat) (v1 : Int32) (J : Nat → Nat → Int32) : Nat → Int32 → Int32
  | 0, v2 => (Int32.ofInt 0)
  | c + 1, v2 => if (J (p 4) 3) ≤ v2 then (Int32.ofInt 0)
    else if (x180 p v2 (Int32.ofInt 0) J) = v1 then if (x180 p v2 (Int32.ofInt 1) J) = (J (p 4) 4) then (Int32.ofInt 1)
        else (x195_2 p v1 J c (v2 + (Int32.ofInt 1)))
      else (x195_2 p v1 J c (v2 + (Int32.ofInt 1)))
theorem xt195_2 {X : nt_X} {d : Nat} {M : nt_M} {o : Option Value × nt_M} {p : Nat → Nat} {v1 : Int32} {J : Nat → Nat → Int32} (hp : xs_P M p) : ∀ (c : Nat) (v2 : Int32), (J (p 4) 3).toInt - v2.toInt ≤ c → nt_rn X d 195 (2, [(0, .ref (p 0)), (1, .int v1), (2, .int v2)], [], me_w M J) o → o = (some (.int (x195_2 p v1 J c v2)), me_w M J) := by
  intro c
  induction c with
  | zero =>
    intro v2 hc k
    have k := ly_revb 2 (c' := (4, [(0, .ref (p 0)), (1, .int v1), (2, .int v2)], [.ref (p 0), .int v2], me_w M J)) rfl k
    have k := lz_get (a := (p 0)) (g := 1127) (M := me_w M J) (v := .ref (p 4)) rfl (nt_gfR rfl (hp.1 (0, 27, 4) (by decide))) k
    have k := ly_revb 1 (c' := (8, [(0, .ref (p 0)), (1, .int v1), (2, .int v2)], [.int (Int32.ofInt 3), .ref (p 4), .int v2], me_w M J)) rfl k
    have k := mx_iald (v := J (p 4) 3) rfl (hp.2.2.1 4 (by omega)) ((congrArg (J (p 4)) (show (Int32.ofInt 3).toNatClampNeg = 3 from rfl)).trans (rfl)) k
    have k := ly_revb 1 (c' := (if (J (p 4) 3) ≤ v2 then 45 else 12, [(0, .ref (p 0)), (1, .int v1), (2, .int v2)], [], me_w M J)) rfl k
    have h9 : (J (p 4) 3) ≤ v2 := lx_end hc
    rw [if_pos h9] at k
    have k := ly_revb 1 (c' := (46, [(0, .ref (p 0)), (1, .int v1), (2, .int v2)], [.int (Int32.ofInt 0)], me_w M J)) rfl k
    have k := lz_ri rfl (by decide) k
    rw [k, x195_2]
  | succ c ih =>
    intro v2 hc k
    have k := ly_revb 2 (c' := (4, [(0, .ref (p 0)), (1, .int v1), (2, .int v2)], [.ref (p 0), .int v2], me_w M J)) rfl k
    have k := lz_get (a := (p 0)) (g := 1127) (M := me_w M J) (v := .ref (p 4)) rfl (nt_gfR rfl (hp.1 (0, 27, 4) (by decide))) k
    have k := ly_revb 1 (c' := (8, [(0, .ref (p 0)), (1, .int v1), (2, .int v2)], [.int (Int32.ofInt 3), .ref (p 4), .int v2], me_w M J)) rfl k
    have k := mx_iald (v := J (p 4) 3) rfl (hp.2.2.1 4 (by omega)) ((congrArg (J (p 4)) (show (Int32.ofInt 3).toNatClampNeg = 3 from rfl)).trans (rfl)) k
    have k := ly_revb 1 (c' := (if (J (p 4) 3) ≤ v2 then 45 else 12, [(0, .ref (p 0)), (1, .int v1), (2, .int v2)], [], me_w M J)) rfl k
    by_cases h9 : (J (p 4) 3) ≤ v2
    · rw [if_pos h9] at k
      have k := ly_revb 1 (c' := (46, [(0, .ref (p 0)), (1, .int v1), (2, .int v2)], [.int (Int32.ofInt 0)], me_w M J)) rfl k
      have k := lz_ri rfl (by decide) k
      rw [k, x195_2, if_pos h9]
    · rw [if_neg h9] at k
      have k := ly_revb 3 (c' := (15, [(0, .ref (p 0)), (1, .int v1), (2, .int v2)], [.int (Int32.ofInt 0), .int v2, .ref (p 0)], me_w M J)) rfl k
      obtain ⟨d1, o1, ed, kc, k⟩ := lz_c (g := 180) (q := 1) (vs := [.ref (p 0), .int v2, .int (Int32.ofInt 0)]) (rest := []) rfl rfl (by decide) (Or.inr (Or.inl ⟨_, rfl, rfl⟩)) rfl k
      have e1 := xt180 hp kc
      subst e1
      have k : nt_rn X _ 195 (18, [(0, .ref (p 0)), (1, .int v1), (2, .int v2)], [.int (x180 p v2 (Int32.ofInt 0) J)], me_w M J) _ := k
      have k := ly_revb 2 (c' := (if (x180 p v2 (Int32.ofInt 0) J) = v1 then 22 else 39, [(0, .ref (p 0)), (1, .int v1), (2, .int v2)], [], me_w M J)) rfl k
      by_cases h19 : (x180 p v2 (Int32.ofInt 0) J) = v1
      · rw [if_pos h19] at k
        have k := ly_revb 3 (c' := (25, [(0, .ref (p 0)), (1, .int v1), (2, .int v2)], [.int (Int32.ofInt 1), .int v2, .ref (p 0)], me_w M J)) rfl k
        obtain ⟨d1, o1, ed, kc, k⟩ := lz_c (g := 180) (q := 1) (vs := [.ref (p 0), .int v2, .int (Int32.ofInt 1)]) (rest := []) rfl rfl (by decide) (Or.inr (Or.inl ⟨_, rfl, rfl⟩)) rfl k
        have e1 := xt180 hp kc
        subst e1
        have k : nt_rn X _ 195 (28, [(0, .ref (p 0)), (1, .int v1), (2, .int v2)], [.int (x180 p v2 (Int32.ofInt 1) J)], me_w M J) _ := k
        have k := ly_revb 1 (c' := (29, [(0, .ref (p 0)), (1, .int v1), (2, .int v2)], [.ref (p 0), .int (x180 p v2 (Int32.ofInt 1) J)], me_w M J)) rfl k
        have k := lz_get (a := (p 0)) (g := 1127) (M := me_w M J) (v := .ref (p 4)) rfl (nt_gfR rfl (hp.1 (0, 27, 4) (by decide))) k
        have k := ly_revb 1 (c' := (33, [(0, .ref (p 0)), (1, .int v1), (2, .int v2)], [.int (Int32.ofInt 4), .ref (p 4), .int (x180 p v2 (Int32.ofInt 1) J)], me_w M J)) rfl k
        have k := mx_iald (v := J (p 4) 4) rfl (hp.2.2.1 4 (by omega)) ((congrArg (J (p 4)) (show (Int32.ofInt 4).toNatClampNeg = 4 from rfl)).trans (rfl)) k
        have k := ly_revb 1 (c' := (if (x180 p v2 (Int32.ofInt 1) J) = (J (p 4) 4) then 37 else 39, [(0, .ref (p 0)), (1, .int v1), (2, .int v2)], [], me_w M J)) rfl k
        by_cases h34 : (x180 p v2 (Int32.ofInt 1) J) = (J (p 4) 4)
        · rw [if_pos h34] at k
          have k := ly_revb 1 (c' := (38, [(0, .ref (p 0)), (1, .int v1), (2, .int v2)], [.int (Int32.ofInt 1)], me_w M J)) rfl k
          have k := lz_ri rfl (by decide) k
          rw [k, x195_2, if_neg h9, if_pos h19, if_pos h34]
        · rw [if_neg h34] at k
          have k := ly_revb 2 (c' := (2, [(2, .int (v2 + (Int32.ofInt 1))), (0, .ref (p 0)), (1, .int v1)], [], me_w M J)) rfl k
          have k := nt_rn_w (a := [(2, .int (v2 + (Int32.ofInt 1))), (0, .ref (p 0)), (1, .int v1)]) (b := [(0, .ref (p 0)), (1, .int v1), (2, .int (v2 + (Int32.ofInt 1)))]) ⟨rfl, rfl, rfl, trivial⟩ rfl k
          have k := ih (v2 + (Int32.ofInt 1)) (lx_dec h9 hc) k
          rw [k, x195_2, if_neg h9, if_pos h19, if_neg h34]
      · rw [if_neg h19] at k
        have k := ly_revb 2 (c' := (2, [(2, .int (v2 + (Int32.ofInt 1))), (0, .ref (p 0)), (1, .int v1)], [], me_w M J)) rfl k
        have k := nt_rn_w (a := [(2, .int (v2 + (Int32.ofInt 1))), (0, .ref (p 0)), (1, .int v1)]) (b := [(0, .ref (p 0)), (1, .int v1), (2, .int (v2 + (Int32.ofInt 1)))]) ⟨rfl, rfl, rfl, trivial⟩ rfl k
        have k := ih (v2 + (Int32.ofInt 1)) (lx_dec h9 hc) k
        rw [k, x195_2, if_neg h9, if_neg h19]
def x195 (p : Nat → Nat) (v1 : Int32) (J : Nat → Nat → Int32) : Int32 := (x195_2 p v1 J ((J (p 4) 3).toNatClampNeg) (Int32.ofInt 0))
theorem xt195 {X : nt_X} {d : Nat} {M : nt_M} {o : Option Value × nt_M} {p : Nat → Nat} {v1 : Int32} {J : Nat → Nat → Int32} (hp : xs_P M p) (k : nt_ev X d 195 [.ref (p 0), .int v1] (me_w M J) o) : o = (some (.int (x195 p v1 J)), me_w M J) := by
  have k : nt_rn X d 195 (0, [(0, .ref (p 0)), (1, .int v1)], [], me_w M J) o := k
  have k := ly_revb 2 (c' := (2, [(2, .int (Int32.ofInt 0)), (0, .ref (p 0)), (1, .int v1)], [], me_w M J)) rfl k
  have k := nt_rn_w (a := [(2, .int (Int32.ofInt 0)), (0, .ref (p 0)), (1, .int v1)]) (b := [(0, .ref (p 0)), (1, .int v1), (2, .int (Int32.ofInt 0))]) ⟨rfl, rfl, rfl, trivial⟩ rfl k
  have k := xt195_2 hp  ((J (p 4) 3).toNatClampNeg) (Int32.ofInt 0) (lx_beg (by decide)) k
  rw [k, x195]
/-! Model.canTake -/
def x194 (p : Nat → Nat) (v1 : Int32) (v2 : Int32) (v3 : Int32) (J : Nat → Nat → Int32) : Int32 := if (x183 p v1 J) = 0 then (Int32.ofInt 0)
  else if (x173 p v1 (Int32.ofInt 0) J) = v3 then if (x173 p v1 (Int32.ofInt 3) J) = v2 then (Int32.ofInt 0)
      else if (x173 p v1 (Int32.ofInt 3) J) < 0 then (Int32.ofInt 1)
        else if (x195 p (x173 p v1 (Int32.ofInt 3) J) J) = 0 then (Int32.ofInt 1)
          else (Int32.ofInt 0)
    else (Int32.ofInt 0)
theorem xt194 {X : nt_X} {d : Nat} {M : nt_M} {o : Option Value × nt_M} {p : Nat → Nat} {v1 : Int32} {v2 : Int32} {v3 : Int32} {J : Nat → Nat → Int32} (hp : xs_P M p) (k : nt_ev X d 194 [.ref (p 0), .int v1, .int v2, .int v3] (me_w M J) o) : o = (some (.int (x194 p v1 v2 v3 J)), me_w M J) := by
  have k : nt_rn X d 194 (0, [(0, .ref (p 0)), (1, .int v1), (2, .int v2), (3, .int v3)], [], me_w M J) o := k
  have k := ly_revb 3 (c' := (3, [(0, .ref (p 0)), (1, .int v1), (2, .int v2), (3, .int v3)], [.int (Int32.ofInt 3), .int v1, .ref (p 0)], me_w M J)) rfl k
  obtain ⟨d1, o1, ed, kc, k⟩ := lz_c (g := 173) (q := 1) (vs := [.ref (p 0), .int v1, .int (Int32.ofInt 3)]) (rest := []) rfl rfl (by decide) (Or.inr (Or.inl ⟨_, rfl, rfl⟩)) rfl k
  have e1 := xt173 hp kc
  subst e1
  have k : nt_rn X _ 194 (6, [(0, .ref (p 0)), (1, .int v1), (2, .int v2), (3, .int v3)], [.int (x173 p v1 (Int32.ofInt 3) J)], me_w M J) _ := k
  have k := ly_revb 3 (c' := (10, [(4, .int (x173 p v1 (Int32.ofInt 3) J)), (0, .ref (p 0)), (1, .int v1), (2, .int v2), (3, .int v3)], [.int v1, .ref (p 0)], me_w M J)) rfl k
  obtain ⟨d1, o1, ed, kc, k⟩ := lz_c (g := 183) (q := 1) (vs := [.ref (p 0), .int v1]) (rest := []) rfl rfl (by decide) (Or.inr (Or.inl ⟨_, rfl, rfl⟩)) rfl k
  have e1 := xt183 hp kc
  subst e1
  have k : nt_rn X _ 194 (13, [(4, .int (x173 p v1 (Int32.ofInt 3) J)), (0, .ref (p 0)), (1, .int v1), (2, .int v2), (3, .int v3)], [.int (x183 p v1 J)], me_w M J) _ := k
  have k := ly_revb 1 (c' := (if (x183 p v1 J) = 0 then 50 else 16, [(4, .int (x173 p v1 (Int32.ofInt 3) J)), (0, .ref (p 0)), (1, .int v1), (2, .int v2), (3, .int v3)], [], me_w M J)) rfl k
  by_cases h13 : (x183 p v1 J) = 0
  · rw [if_pos h13] at k
    have k := ly_revb 1 (c' := (51, [(4, .int (x173 p v1 (Int32.ofInt 3) J)), (0, .ref (p 0)), (1, .int v1), (2, .int v2), (3, .int v3)], [.int (Int32.ofInt 0)], me_w M J)) rfl k
    have k := lz_ri rfl (by decide) k
    rw [k, x194, if_pos h13]
  · rw [if_neg h13] at k
    have k := ly_revb 3 (c' := (19, [(4, .int (x173 p v1 (Int32.ofInt 3) J)), (0, .ref (p 0)), (1, .int v1), (2, .int v2), (3, .int v3)], [.int (Int32.ofInt 0), .int v1, .ref (p 0)], me_w M J)) rfl k
    obtain ⟨d1, o1, ed, kc, k⟩ := lz_c (g := 173) (q := 1) (vs := [.ref (p 0), .int v1, .int (Int32.ofInt 0)]) (rest := []) rfl rfl (by decide) (Or.inr (Or.inl ⟨_, rfl, rfl⟩)) rfl k
    have e1 := xt173 hp kc
    subst e1
    have k : nt_rn X _ 194 (22, [(4, .int (x173 p v1 (Int32.ofInt 3) J)), (0, .ref (p 0)), (1, .int v1), (2, .int v2), (3, .int v3)], [.int (x173 p v1 (Int32.ofInt 0) J)], me_w M J) _ := k
    have k := ly_revb 2 (c' := (if (x173 p v1 (Int32.ofInt 0) J) = v3 then 26 else 50, [(4, .int (x173 p v1 (Int32.ofInt 3) J)), (0, .ref (p 0)), (1, .int v1), (2, .int v2), (3, .int v3)], [], me_w M J)) rfl k
    by_cases h23 : (x173 p v1 (Int32.ofInt 0) J) = v3
    · rw [if_pos h23] at k
      have k := ly_revb 3 (c' := (if (x173 p v1 (Int32.ofInt 3) J) = v2 then 50 else 32, [(4, .int (x173 p v1 (Int32.ofInt 3) J)), (0, .ref (p 0)), (1, .int v1), (2, .int v2), (3, .int v3)], [], me_w M J)) rfl k
      by_cases h29 : (x173 p v1 (Int32.ofInt 3) J) = v2
      · rw [if_pos h29] at k
        have k := ly_revb 1 (c' := (51, [(4, .int (x173 p v1 (Int32.ofInt 3) J)), (0, .ref (p 0)), (1, .int v1), (2, .int v2), (3, .int v3)], [.int (Int32.ofInt 0)], me_w M J)) rfl k
        have k := lz_ri rfl (by decide) k
        rw [k, x194, if_neg h13, if_pos h23, if_pos h29]
      · rw [if_neg h29] at k
        have k := ly_revb 2 (c' := (if (x173 p v1 (Int32.ofInt 3) J) < 0 then 46 else 37, [(4, .int (x173 p v1 (Int32.ofInt 3) J)), (0, .ref (p 0)), (1, .int v1), (2, .int v2), (3, .int v3)], [], me_w M J)) rfl k
        by_cases h34 : (x173 p v1 (Int32.ofInt 3) J) < 0
        · rw [if_pos h34] at k
          have k := ly_revb 2 (c' := (51, [(4, .int (x173 p v1 (Int32.ofInt 3) J)), (0, .ref (p 0)), (1, .int v1), (2, .int v2), (3, .int v3)], [.int (Int32.ofInt 1)], me_w M J)) rfl k
          have k := lz_ri rfl (by decide) k
          rw [k, x194, if_neg h13, if_pos h23, if_neg h29, if_pos h34]
        · rw [if_neg h34] at k
          have k := ly_revb 2 (c' := (40, [(4, .int (x173 p v1 (Int32.ofInt 3) J)), (0, .ref (p 0)), (1, .int v1), (2, .int v2), (3, .int v3)], [.int (x173 p v1 (Int32.ofInt 3) J), .ref (p 0)], me_w M J)) rfl k
          obtain ⟨d1, o1, ed, kc, k⟩ := lz_c (g := 195) (q := 1) (vs := [.ref (p 0), .int (x173 p v1 (Int32.ofInt 3) J)]) (rest := []) rfl rfl (by decide) (Or.inr (Or.inl ⟨_, rfl, rfl⟩)) rfl k
          have e1 := xt195 hp kc
          subst e1
          have k : nt_rn X _ 194 (43, [(4, .int (x173 p v1 (Int32.ofInt 3) J)), (0, .ref (p 0)), (1, .int v1), (2, .int v2), (3, .int v3)], [.int (x195 p (x173 p v1 (Int32.ofInt 3) J) J)], me_w M J) _ := k
          have k := ly_revb 1 (c' := (if (x195 p (x173 p v1 (Int32.ofInt 3) J) J) = 0 then 46 else 50, [(4, .int (x173 p v1 (Int32.ofInt 3) J)), (0, .ref (p 0)), (1, .int v1), (2, .int v2), (3, .int v3)], [], me_w M J)) rfl k
          by_cases h43 : (x195 p (x173 p v1 (Int32.ofInt 3) J) J) = 0
          · rw [if_pos h43] at k
            have k := ly_revb 2 (c' := (51, [(4, .int (x173 p v1 (Int32.ofInt 3) J)), (0, .ref (p 0)), (1, .int v1), (2, .int v2), (3, .int v3)], [.int (Int32.ofInt 1)], me_w M J)) rfl k
            have k := lz_ri rfl (by decide) k
            rw [k, x194, if_neg h13, if_pos h23, if_neg h29, if_neg h34, if_pos h43]
          · rw [if_neg h43] at k
            have k := ly_revb 1 (c' := (51, [(4, .int (x173 p v1 (Int32.ofInt 3) J)), (0, .ref (p 0)), (1, .int v1), (2, .int v2), (3, .int v3)], [.int (Int32.ofInt 0)], me_w M J)) rfl k
            have k := lz_ri rfl (by decide) k
            rw [k, x194, if_neg h13, if_pos h23, if_neg h29, if_neg h34, if_neg h43]
    · rw [if_neg h23] at k
      have k := ly_revb 1 (c' := (51, [(4, .int (x173 p v1 (Int32.ofInt 3) J)), (0, .ref (p 0)), (1, .int v1), (2, .int v2), (3, .int v3)], [.int (Int32.ofInt 0)], me_w M J)) rfl k
      have k := lz_ri rfl (by decide) k
      rw [k, x194, if_neg h13, if_neg h23]
end
section
/-! the reference's writers -/
theorem xk_dec {J : Nat → Nat → Int32} {a k c : Nat} {i : Int32} (hW : xr_W (J a)) (n : ¬ J a k ≤ i) (h0 : 0 ≤ i.toInt) (hc : (J a k).toInt - i.toInt ≤ (c + 1 : Nat)) : xr_W (J a) ∧ 0 ≤ (i + Int32.ofInt 1).toInt ∧ (J a k).toInt - (i + Int32.ofInt 1).toInt ≤ c := ⟨hW, by rw [lx_inc n]; omega, lx_dec n hc⟩
theorem xk_decw {J : Nat → Nat → Int32} {a k c j : Nat} {i v : Int32} (hW : xr_W (J a)) (hj : xr_b j = (-2147483648, 2147483647)) (hk : k < 4) (hj4 : 4 ≤ j) (n : ¬ J a k ≤ i) (h0 : 0 ≤ i.toInt) (hc : (J a k).toInt - i.toInt ≤ (c + 1 : Nat)) : xr_W (nt_u J a j v a) ∧ 0 ≤ (i + Int32.ofInt 1).toInt ∧ (nt_u J a j v a k).toInt - (i + Int32.ofInt 1).toInt ≤ c := ⟨xr_up hW (xr_any hj), by rw [lx_inc n]; omega, by rw [me_uk (by omega)]; exact lx_dec n hc⟩
theorem xi_lt {b i : Int32} {n : Int} (n1 : ¬ b ≤ i) (h : b.toInt ≤ n) : i.toInt < n := by
  have : ¬ b.toInt ≤ i.toInt := fun c => n1 (Int32.le_iff_toInt_le.mpr c)
  omega
theorem xi_p1 {x : Int32} (hx : 0 ≤ x.toInt) (h2 : x.toInt ≤ 1000) : ((Int32.ofInt 52 + Int32.ofInt 5 * x) + Int32.ofInt 1).toNatClampNeg = 52 + 5 * x.toInt.toNat + 1 := xi_3 (a := 52) (m := 5) (b := 1) (by omega) (by omega) (by omega) hx h2
theorem xi_p2 {x : Int32} (hx : 0 ≤ x.toInt) (h2 : x.toInt ≤ 1000) : ((Int32.ofInt 52 + Int32.ofInt 5 * x) + Int32.ofInt 2).toNatClampNeg = 52 + 5 * x.toInt.toNat + 2 := xi_3 (a := 52) (m := 5) (b := 2) (by omega) (by omega) (by omega) hx h2
theorem xi_p3 {x : Int32} (hx : 0 ≤ x.toInt) (h2 : x.toInt ≤ 1000) : ((Int32.ofInt 52 + Int32.ofInt 5 * x) + Int32.ofInt 3).toNatClampNeg = 52 + 5 * x.toInt.toNat + 3 := xi_3 (a := 52) (m := 5) (b := 3) (by omega) (by omega) (by omega) hx h2
theorem xi_p4 {x : Int32} (hx : 0 ≤ x.toInt) (h2 : x.toInt ≤ 1000) : ((Int32.ofInt 52 + Int32.ofInt 5 * x) + Int32.ofInt 4).toNatClampNeg = 52 + 5 * x.toInt.toNat + 4 := xi_3 (a := 52) (m := 5) (b := 4) (by omega) (by omega) (by omega) hx h2
theorem xi_s4 {x : Int32} (hx : 0 ≤ x.toInt) (h2 : x.toInt ≤ 1000) : ((Int32.ofInt 10 + Int32.ofInt 7 * x) + Int32.ofInt 4).toNatClampNeg = 10 + 7 * x.toInt.toNat + 4 := xi_3 (a := 10) (m := 7) (b := 4) (by omega) (by omega) (by omega) hx h2
theorem xi_s5 {x : Int32} (hx : 0 ≤ x.toInt) (h2 : x.toInt ≤ 1000) : ((Int32.ofInt 10 + Int32.ofInt 7 * x) + Int32.ofInt 5).toNatClampNeg = 10 + 7 * x.toInt.toNat + 5 := xi_3 (a := 10) (m := 7) (b := 5) (by omega) (by omega) (by omega) hx h2
theorem xi_s6 {x : Int32} (hx : 0 ≤ x.toInt) (h2 : x.toInt ≤ 1000) : ((Int32.ofInt 10 + Int32.ofInt 7 * x) + Int32.ofInt 6).toNatClampNeg = 10 + 7 * x.toInt.toNat + 6 := xi_3 (a := 10) (m := 7) (b := 6) (by omega) (by omega) (by omega) hx h2
theorem xi_v4 {x : Int32} (hx : 0 ≤ x.toInt) (h2 : x.toInt ≤ 1000) : ((Int32.ofInt 172 + Int32.ofInt 5 * x) + Int32.ofInt 4).toNatClampNeg = 172 + 5 * x.toInt.toNat + 4 := xi_3 (a := 172) (m := 5) (b := 4) (by omega) (by omega) (by omega) hx h2
theorem xi_ow {p : Nat → Nat} {J : Nat → Nat → Int32} {i : Int32} (hW : xr_W (J (p 4))) (h0 : 0 ≤ i.toInt) (h1 : i.toInt < 24) : 0 ≤ (x173 p i (Int32.ofInt 2) J).toInt ∧ (x173 p i (Int32.ofInt 2) J).toInt ≤ 5 := by
  unfold x173
  rw [xi_p2 h0 (by omega)]
  exact xr_ow hW (by omega)
theorem xk_ow {p : Nat → Nat} {J : Nat → Nat → Int32} {i : Int32} (hW : xr_W (J (p 4))) (n : ¬ J (p 4) 2 ≤ i) (h0 : 0 ≤ i.toInt) : ∃ s, s < 6 ∧ ((Int32.ofInt 10 + Int32.ofInt 7 * x173 p i (Int32.ofInt 2) J) + Int32.ofInt 6).toNatClampNeg = 10 + 7 * s + 6 := by
  have o := xi_ow hW h0 (xi_lt n (xr_2 hW).2)
  exact ⟨_, by omega, xi_s6 o.1 (by omega)⟩
/-! Model.comesHome -/
def x191_31 (p : Nat → Nat) (v1 : Int32) (v2 : Int32) (v3 : Int32) (v4 : Int32) : Nat → Int32 → Int32 → (Nat → Nat → Int32) → (Nat → Nat → Int32)
  | 0, v5, v6, J => (nt_u (nt_u (nt_u (nt_u (nt_u J (p 4) ((((Int32.ofInt 10) + ((Int32.ofInt 7) * v2)) + (Int32.ofInt 6)).toNatClampNeg) ((J (p 4) ((((Int32.ofInt 10) + ((Int32.ofInt 7) * v2)) + (Int32.ofInt 6)).toNatClampNeg)) + v5)) (p 4) 7 (((nt_u J (p 4) ((((Int32.ofInt 10) + ((Int32.ofInt 7) * v2)) + (Int32.ofInt 6)).toNatClampNeg) ((J (p 4) ((((Int32.ofInt 10) + ((Int32.ofInt 7) * v2)) + (Int32.ofInt 6)).toNatClampNeg)) + v5)) (p 4) 7) + v3)) (p 4) ((((Int32.ofInt 10) + ((Int32.ofInt 7) * v2)) + (Int32.ofInt 4)).toNatClampNeg) (Int32.ofInt 0)) (p 4) ((((Int32.ofInt 10) + ((Int32.ofInt 7) * v2)) + (Int32.ofInt 5)).toNatClampNeg) (Int32.ofInt (-1))) (p 4) ((((Int32.ofInt 172) + ((Int32.ofInt 5) * v1)) + (Int32.ofInt 4)).toNatClampNeg) (Int32.ofInt 2))
  | c + 1, v5, v6, J => if (J (p 4) 2) ≤ v6 then (nt_u (nt_u (nt_u (nt_u (nt_u J (p 4) ((((Int32.ofInt 10) + ((Int32.ofInt 7) * v2)) + (Int32.ofInt 6)).toNatClampNeg) ((J (p 4) ((((Int32.ofInt 10) + ((Int32.ofInt 7) * v2)) + (Int32.ofInt 6)).toNatClampNeg)) + v5)) (p 4) 7 (((nt_u J (p 4) ((((Int32.ofInt 10) + ((Int32.ofInt 7) * v2)) + (Int32.ofInt 6)).toNatClampNeg) ((J (p 4) ((((Int32.ofInt 10) + ((Int32.ofInt 7) * v2)) + (Int32.ofInt 6)).toNatClampNeg)) + v5)) (p 4) 7) + v3)) (p 4) ((((Int32.ofInt 10) + ((Int32.ofInt 7) * v2)) + (Int32.ofInt 4)).toNatClampNeg) (Int32.ofInt 0)) (p 4) ((((Int32.ofInt 10) + ((Int32.ofInt 7) * v2)) + (Int32.ofInt 5)).toNatClampNeg) (Int32.ofInt (-1))) (p 4) ((((Int32.ofInt 172) + ((Int32.ofInt 5) * v1)) + (Int32.ofInt 4)).toNatClampNeg) (Int32.ofInt 2))
    else if (x171 p v6 v2 J) = 0 then (x191_31 p v1 v2 v3 v4 c v5 (v6 + (Int32.ofInt 1)) J)
      else (x191_31 p v1 v2 v3 v4 c (v5 - v4) (v6 + (Int32.ofInt 1)) (nt_u J (p 4) ((((Int32.ofInt 10) + ((Int32.ofInt 7) * (x173 p v6 (Int32.ofInt 2) J))) + (Int32.ofInt 6)).toNatClampNeg) ((J (p 4) ((((Int32.ofInt 10) + ((Int32.ofInt 7) * (x173 p v6 (Int32.ofInt 2) J))) + (Int32.ofInt 6)).toNatClampNeg)) + v4)))
theorem xt191_31 {X : nt_X} {d : Nat} {M : nt_M} {o : Option Value × nt_M} {p : Nat → Nat} {v1 : Int32} {v2 : Int32} {v3 : Int32} {v4 : Int32} (hp : xs_P M p) : ∀ (c : Nat) (v5 : Int32) (v6 : Int32) (J : Nat → Nat → Int32), (xr_W (J (p 4)) ∧ 0 ≤ v6.toInt ∧ (J (p 4) 2).toInt - v6.toInt ≤ c) → nt_rn X d 191 (31, [(0, .ref (p 0)), (1, .int v1), (2, .int v2), (3, .int v3), (4, .int v4), (5, .int v5), (6, .int v6)], [], me_w M J) o → o = (none, me_w M (x191_31 p v1 v2 v3 v4 c v5 v6 J)) := by
  intro c
  induction c with
  | zero =>
    intro v5 v6 J hc k
    have k := ly_revb 2 (c' := (34, [(0, .ref (p 0)), (1, .int v1), (2, .int v2), (3, .int v3), (4, .int v4), (5, .int v5), (6, .int v6)], [.ref (p 0), .int v6], me_w M J)) rfl k
    have k := lz_get (a := (p 0)) (g := 1127) (M := me_w M J) (v := .ref (p 4)) rfl (nt_gfR rfl (hp.1 (0, 27, 4) (by decide))) k
    have k := ly_revb 1 (c' := (38, [(0, .ref (p 0)), (1, .int v1), (2, .int v2), (3, .int v3), (4, .int v4), (5, .int v5), (6, .int v6)], [.int (Int32.ofInt 2), .ref (p 4), .int v6], me_w M J)) rfl k
    have k := mx_iald (v := J (p 4) 2) rfl (hp.2.2.1 4 (by omega)) ((congrArg (J (p 4)) (show (Int32.ofInt 2).toNatClampNeg = 2 from rfl)).trans (rfl)) k
    have k := ly_revb 1 (c' := (if (J (p 4) 2) ≤ v6 then 94 else 42, [(0, .ref (p 0)), (1, .int v1), (2, .int v2), (3, .int v3), (4, .int v4), (5, .int v5), (6, .int v6)], [], me_w M J)) rfl k
    have h39 : (J (p 4) 2) ≤ v6 := lx_end hc.2.2
    rw [if_pos h39] at k
    have k := ly_revb 1 (c' := (95, [(0, .ref (p 0)), (1, .int v1), (2, .int v2), (3, .int v3), (4, .int v4), (5, .int v5), (6, .int v6)], [.ref (p 0)], me_w M J)) rfl k
    have k := lz_get (a := (p 0)) (g := 1127) (M := me_w M J) (v := .ref (p 4)) rfl (nt_gfR rfl (hp.1 (0, 27, 4) (by decide))) k
    have k := ly_revb 8 (c' := (109, [(0, .ref (p 0)), (1, .int v1), (2, .int v2), (3, .int v3), (4, .int v4), (5, .int v5), (6, .int v6)], [.int (((Int32.ofInt 10) + ((Int32.ofInt 7) * v2)) + (Int32.ofInt 6)), .ref (p 4), .int (((Int32.ofInt 10) + ((Int32.ofInt 7) * v2)) + (Int32.ofInt 6)), .ref (p 4)], me_w M J)) rfl k
    have k := mx_iald (v := J (p 4) ((((Int32.ofInt 10) + ((Int32.ofInt 7) * v2)) + (Int32.ofInt 6)).toNatClampNeg)) rfl (hp.2.2.1 4 (by omega)) (rfl) k
    have k := ly_revb 2 (c' := (113, [(0, .ref (p 0)), (1, .int v1), (2, .int v2), (3, .int v3), (4, .int v4), (5, .int v5), (6, .int v6)], [.int ((J (p 4) ((((Int32.ofInt 10) + ((Int32.ofInt 7) * v2)) + (Int32.ofInt 6)).toNatClampNeg)) + v5), .int (((Int32.ofInt 10) + ((Int32.ofInt 7) * v2)) + (Int32.ofInt 6)), .ref (p 4)], me_w M J)) rfl k
    have k := mx_iast (q := (((Int32.ofInt 10) + ((Int32.ofInt 7) * v2)) + (Int32.ofInt 6)).toNatClampNeg) rfl rfl k
    have k : nt_rn X _ 191 (114, [(0, .ref (p 0)), (1, .int v1), (2, .int v2), (3, .int v3), (4, .int v4), (5, .int v5), (6, .int v6)], [], me_w M (nt_u J (p 4) ((((Int32.ofInt 10) + ((Int32.ofInt 7) * v2)) + (Int32.ofInt 6)).toNatClampNeg) ((J (p 4) ((((Int32.ofInt 10) + ((Int32.ofInt 7) * v2)) + (Int32.ofInt 6)).toNatClampNeg)) + v5))) _ := k
    have k := ly_revb 1 (c' := (115, [(0, .ref (p 0)), (1, .int v1), (2, .int v2), (3, .int v3), (4, .int v4), (5, .int v5), (6, .int v6)], [.ref (p 0)], me_w M (nt_u J (p 4) ((((Int32.ofInt 10) + ((Int32.ofInt 7) * v2)) + (Int32.ofInt 6)).toNatClampNeg) ((J (p 4) ((((Int32.ofInt 10) + ((Int32.ofInt 7) * v2)) + (Int32.ofInt 6)).toNatClampNeg)) + v5)))) rfl k
    have k := lz_get (a := (p 0)) (g := 1127) (M := me_w M (nt_u J (p 4) ((((Int32.ofInt 10) + ((Int32.ofInt 7) * v2)) + (Int32.ofInt 6)).toNatClampNeg) ((J (p 4) ((((Int32.ofInt 10) + ((Int32.ofInt 7) * v2)) + (Int32.ofInt 6)).toNatClampNeg)) + v5))) (v := .ref (p 4)) rfl (nt_gfR rfl (hp.1 (0, 27, 4) (by decide))) k
    have k := ly_revb 2 (c' := (121, [(0, .ref (p 0)), (1, .int v1), (2, .int v2), (3, .int v3), (4, .int v4), (5, .int v5), (6, .int v6)], [.int (Int32.ofInt 7), .ref (p 4), .int (Int32.ofInt 7), .ref (p 4)], me_w M (nt_u J (p 4) ((((Int32.ofInt 10) + ((Int32.ofInt 7) * v2)) + (Int32.ofInt 6)).toNatClampNeg) ((J (p 4) ((((Int32.ofInt 10) + ((Int32.ofInt 7) * v2)) + (Int32.ofInt 6)).toNatClampNeg)) + v5)))) rfl k
    have k := mx_iald (v := (nt_u J (p 4) ((((Int32.ofInt 10) + ((Int32.ofInt 7) * v2)) + (Int32.ofInt 6)).toNatClampNeg) ((J (p 4) ((((Int32.ofInt 10) + ((Int32.ofInt 7) * v2)) + (Int32.ofInt 6)).toNatClampNeg)) + v5)) (p 4) 7) rfl (hp.2.2.1 4 (by omega)) ((congrArg ((nt_u J (p 4) ((((Int32.ofInt 10) + ((Int32.ofInt 7) * v2)) + (Int32.ofInt 6)).toNatClampNeg) ((J (p 4) ((((Int32.ofInt 10) + ((Int32.ofInt 7) * v2)) + (Int32.ofInt 6)).toNatClampNeg)) + v5)) (p 4)) (show (Int32.ofInt 7).toNatClampNeg = 7 from rfl)).trans (rfl)) k
    have k := ly_revb 2 (c' := (124, [(0, .ref (p 0)), (1, .int v1), (2, .int v2), (3, .int v3), (4, .int v4), (5, .int v5), (6, .int v6)], [.int (((nt_u J (p 4) ((((Int32.ofInt 10) + ((Int32.ofInt 7) * v2)) + (Int32.ofInt 6)).toNatClampNeg) ((J (p 4) ((((Int32.ofInt 10) + ((Int32.ofInt 7) * v2)) + (Int32.ofInt 6)).toNatClampNeg)) + v5)) (p 4) 7) + v3), .int (Int32.ofInt 7), .ref (p 4)], me_w M (nt_u J (p 4) ((((Int32.ofInt 10) + ((Int32.ofInt 7) * v2)) + (Int32.ofInt 6)).toNatClampNeg) ((J (p 4) ((((Int32.ofInt 10) + ((Int32.ofInt 7) * v2)) + (Int32.ofInt 6)).toNatClampNeg)) + v5)))) rfl k
    have k := mx_iast (q := 7) rfl (show (Int32.ofInt 7).toNatClampNeg = 7 from rfl) k
    have k : nt_rn X _ 191 (125, [(0, .ref (p 0)), (1, .int v1), (2, .int v2), (3, .int v3), (4, .int v4), (5, .int v5), (6, .int v6)], [], me_w M (nt_u (nt_u J (p 4) ((((Int32.ofInt 10) + ((Int32.ofInt 7) * v2)) + (Int32.ofInt 6)).toNatClampNeg) ((J (p 4) ((((Int32.ofInt 10) + ((Int32.ofInt 7) * v2)) + (Int32.ofInt 6)).toNatClampNeg)) + v5)) (p 4) 7 (((nt_u J (p 4) ((((Int32.ofInt 10) + ((Int32.ofInt 7) * v2)) + (Int32.ofInt 6)).toNatClampNeg) ((J (p 4) ((((Int32.ofInt 10) + ((Int32.ofInt 7) * v2)) + (Int32.ofInt 6)).toNatClampNeg)) + v5)) (p 4) 7) + v3))) _ := k
    have k := ly_revb 1 (c' := (126, [(0, .ref (p 0)), (1, .int v1), (2, .int v2), (3, .int v3), (4, .int v4), (5, .int v5), (6, .int v6)], [.ref (p 0)], me_w M (nt_u (nt_u J (p 4) ((((Int32.ofInt 10) + ((Int32.ofInt 7) * v2)) + (Int32.ofInt 6)).toNatClampNeg) ((J (p 4) ((((Int32.ofInt 10) + ((Int32.ofInt 7) * v2)) + (Int32.ofInt 6)).toNatClampNeg)) + v5)) (p 4) 7 (((nt_u J (p 4) ((((Int32.ofInt 10) + ((Int32.ofInt 7) * v2)) + (Int32.ofInt 6)).toNatClampNeg) ((J (p 4) ((((Int32.ofInt 10) + ((Int32.ofInt 7) * v2)) + (Int32.ofInt 6)).toNatClampNeg)) + v5)) (p 4) 7) + v3)))) rfl k
    have k := lz_get (a := (p 0)) (g := 1127) (M := me_w M (nt_u (nt_u J (p 4) ((((Int32.ofInt 10) + ((Int32.ofInt 7) * v2)) + (Int32.ofInt 6)).toNatClampNeg) ((J (p 4) ((((Int32.ofInt 10) + ((Int32.ofInt 7) * v2)) + (Int32.ofInt 6)).toNatClampNeg)) + v5)) (p 4) 7 (((nt_u J (p 4) ((((Int32.ofInt 10) + ((Int32.ofInt 7) * v2)) + (Int32.ofInt 6)).toNatClampNeg) ((J (p 4) ((((Int32.ofInt 10) + ((Int32.ofInt 7) * v2)) + (Int32.ofInt 6)).toNatClampNeg)) + v5)) (p 4) 7) + v3))) (v := .ref (p 4)) rfl (nt_gfR rfl (hp.1 (0, 27, 4) (by decide))) k
    have k := ly_revb 8 (c' := (139, [(0, .ref (p 0)), (1, .int v1), (2, .int v2), (3, .int v3), (4, .int v4), (5, .int v5), (6, .int v6)], [.int (Int32.ofInt 0), .int (((Int32.ofInt 10) + ((Int32.ofInt 7) * v2)) + (Int32.ofInt 4)), .ref (p 4)], me_w M (nt_u (nt_u J (p 4) ((((Int32.ofInt 10) + ((Int32.ofInt 7) * v2)) + (Int32.ofInt 6)).toNatClampNeg) ((J (p 4) ((((Int32.ofInt 10) + ((Int32.ofInt 7) * v2)) + (Int32.ofInt 6)).toNatClampNeg)) + v5)) (p 4) 7 (((nt_u J (p 4) ((((Int32.ofInt 10) + ((Int32.ofInt 7) * v2)) + (Int32.ofInt 6)).toNatClampNeg) ((J (p 4) ((((Int32.ofInt 10) + ((Int32.ofInt 7) * v2)) + (Int32.ofInt 6)).toNatClampNeg)) + v5)) (p 4) 7) + v3)))) rfl k
    have k := mx_iast (q := (((Int32.ofInt 10) + ((Int32.ofInt 7) * v2)) + (Int32.ofInt 4)).toNatClampNeg) rfl rfl k
    have k : nt_rn X _ 191 (140, [(0, .ref (p 0)), (1, .int v1), (2, .int v2), (3, .int v3), (4, .int v4), (5, .int v5), (6, .int v6)], [], me_w M (nt_u (nt_u (nt_u J (p 4) ((((Int32.ofInt 10) + ((Int32.ofInt 7) * v2)) + (Int32.ofInt 6)).toNatClampNeg) ((J (p 4) ((((Int32.ofInt 10) + ((Int32.ofInt 7) * v2)) + (Int32.ofInt 6)).toNatClampNeg)) + v5)) (p 4) 7 (((nt_u J (p 4) ((((Int32.ofInt 10) + ((Int32.ofInt 7) * v2)) + (Int32.ofInt 6)).toNatClampNeg) ((J (p 4) ((((Int32.ofInt 10) + ((Int32.ofInt 7) * v2)) + (Int32.ofInt 6)).toNatClampNeg)) + v5)) (p 4) 7) + v3)) (p 4) ((((Int32.ofInt 10) + ((Int32.ofInt 7) * v2)) + (Int32.ofInt 4)).toNatClampNeg) (Int32.ofInt 0))) _ := k
    have k := ly_revb 1 (c' := (141, [(0, .ref (p 0)), (1, .int v1), (2, .int v2), (3, .int v3), (4, .int v4), (5, .int v5), (6, .int v6)], [.ref (p 0)], me_w M (nt_u (nt_u (nt_u J (p 4) ((((Int32.ofInt 10) + ((Int32.ofInt 7) * v2)) + (Int32.ofInt 6)).toNatClampNeg) ((J (p 4) ((((Int32.ofInt 10) + ((Int32.ofInt 7) * v2)) + (Int32.ofInt 6)).toNatClampNeg)) + v5)) (p 4) 7 (((nt_u J (p 4) ((((Int32.ofInt 10) + ((Int32.ofInt 7) * v2)) + (Int32.ofInt 6)).toNatClampNeg) ((J (p 4) ((((Int32.ofInt 10) + ((Int32.ofInt 7) * v2)) + (Int32.ofInt 6)).toNatClampNeg)) + v5)) (p 4) 7) + v3)) (p 4) ((((Int32.ofInt 10) + ((Int32.ofInt 7) * v2)) + (Int32.ofInt 4)).toNatClampNeg) (Int32.ofInt 0)))) rfl k
    have k := lz_get (a := (p 0)) (g := 1127) (M := me_w M (nt_u (nt_u (nt_u J (p 4) ((((Int32.ofInt 10) + ((Int32.ofInt 7) * v2)) + (Int32.ofInt 6)).toNatClampNeg) ((J (p 4) ((((Int32.ofInt 10) + ((Int32.ofInt 7) * v2)) + (Int32.ofInt 6)).toNatClampNeg)) + v5)) (p 4) 7 (((nt_u J (p 4) ((((Int32.ofInt 10) + ((Int32.ofInt 7) * v2)) + (Int32.ofInt 6)).toNatClampNeg) ((J (p 4) ((((Int32.ofInt 10) + ((Int32.ofInt 7) * v2)) + (Int32.ofInt 6)).toNatClampNeg)) + v5)) (p 4) 7) + v3)) (p 4) ((((Int32.ofInt 10) + ((Int32.ofInt 7) * v2)) + (Int32.ofInt 4)).toNatClampNeg) (Int32.ofInt 0))) (v := .ref (p 4)) rfl (nt_gfR rfl (hp.1 (0, 27, 4) (by decide))) k
    have k := ly_revb 8 (c' := (154, [(0, .ref (p 0)), (1, .int v1), (2, .int v2), (3, .int v3), (4, .int v4), (5, .int v5), (6, .int v6)], [.int (Int32.ofInt (-1)), .int (((Int32.ofInt 10) + ((Int32.ofInt 7) * v2)) + (Int32.ofInt 5)), .ref (p 4)], me_w M (nt_u (nt_u (nt_u J (p 4) ((((Int32.ofInt 10) + ((Int32.ofInt 7) * v2)) + (Int32.ofInt 6)).toNatClampNeg) ((J (p 4) ((((Int32.ofInt 10) + ((Int32.ofInt 7) * v2)) + (Int32.ofInt 6)).toNatClampNeg)) + v5)) (p 4) 7 (((nt_u J (p 4) ((((Int32.ofInt 10) + ((Int32.ofInt 7) * v2)) + (Int32.ofInt 6)).toNatClampNeg) ((J (p 4) ((((Int32.ofInt 10) + ((Int32.ofInt 7) * v2)) + (Int32.ofInt 6)).toNatClampNeg)) + v5)) (p 4) 7) + v3)) (p 4) ((((Int32.ofInt 10) + ((Int32.ofInt 7) * v2)) + (Int32.ofInt 4)).toNatClampNeg) (Int32.ofInt 0)))) rfl k
    have k := mx_iast (q := (((Int32.ofInt 10) + ((Int32.ofInt 7) * v2)) + (Int32.ofInt 5)).toNatClampNeg) rfl rfl k
    have k : nt_rn X _ 191 (155, [(0, .ref (p 0)), (1, .int v1), (2, .int v2), (3, .int v3), (4, .int v4), (5, .int v5), (6, .int v6)], [], me_w M (nt_u (nt_u (nt_u (nt_u J (p 4) ((((Int32.ofInt 10) + ((Int32.ofInt 7) * v2)) + (Int32.ofInt 6)).toNatClampNeg) ((J (p 4) ((((Int32.ofInt 10) + ((Int32.ofInt 7) * v2)) + (Int32.ofInt 6)).toNatClampNeg)) + v5)) (p 4) 7 (((nt_u J (p 4) ((((Int32.ofInt 10) + ((Int32.ofInt 7) * v2)) + (Int32.ofInt 6)).toNatClampNeg) ((J (p 4) ((((Int32.ofInt 10) + ((Int32.ofInt 7) * v2)) + (Int32.ofInt 6)).toNatClampNeg)) + v5)) (p 4) 7) + v3)) (p 4) ((((Int32.ofInt 10) + ((Int32.ofInt 7) * v2)) + (Int32.ofInt 4)).toNatClampNeg) (Int32.ofInt 0)) (p 4) ((((Int32.ofInt 10) + ((Int32.ofInt 7) * v2)) + (Int32.ofInt 5)).toNatClampNeg) (Int32.ofInt (-1)))) _ := k
    have k := ly_revb 1 (c' := (156, [(0, .ref (p 0)), (1, .int v1), (2, .int v2), (3, .int v3), (4, .int v4), (5, .int v5), (6, .int v6)], [.ref (p 0)], me_w M (nt_u (nt_u (nt_u (nt_u J (p 4) ((((Int32.ofInt 10) + ((Int32.ofInt 7) * v2)) + (Int32.ofInt 6)).toNatClampNeg) ((J (p 4) ((((Int32.ofInt 10) + ((Int32.ofInt 7) * v2)) + (Int32.ofInt 6)).toNatClampNeg)) + v5)) (p 4) 7 (((nt_u J (p 4) ((((Int32.ofInt 10) + ((Int32.ofInt 7) * v2)) + (Int32.ofInt 6)).toNatClampNeg) ((J (p 4) ((((Int32.ofInt 10) + ((Int32.ofInt 7) * v2)) + (Int32.ofInt 6)).toNatClampNeg)) + v5)) (p 4) 7) + v3)) (p 4) ((((Int32.ofInt 10) + ((Int32.ofInt 7) * v2)) + (Int32.ofInt 4)).toNatClampNeg) (Int32.ofInt 0)) (p 4) ((((Int32.ofInt 10) + ((Int32.ofInt 7) * v2)) + (Int32.ofInt 5)).toNatClampNeg) (Int32.ofInt (-1))))) rfl k
    have k := lz_get (a := (p 0)) (g := 1127) (M := me_w M (nt_u (nt_u (nt_u (nt_u J (p 4) ((((Int32.ofInt 10) + ((Int32.ofInt 7) * v2)) + (Int32.ofInt 6)).toNatClampNeg) ((J (p 4) ((((Int32.ofInt 10) + ((Int32.ofInt 7) * v2)) + (Int32.ofInt 6)).toNatClampNeg)) + v5)) (p 4) 7 (((nt_u J (p 4) ((((Int32.ofInt 10) + ((Int32.ofInt 7) * v2)) + (Int32.ofInt 6)).toNatClampNeg) ((J (p 4) ((((Int32.ofInt 10) + ((Int32.ofInt 7) * v2)) + (Int32.ofInt 6)).toNatClampNeg)) + v5)) (p 4) 7) + v3)) (p 4) ((((Int32.ofInt 10) + ((Int32.ofInt 7) * v2)) + (Int32.ofInt 4)).toNatClampNeg) (Int32.ofInt 0)) (p 4) ((((Int32.ofInt 10) + ((Int32.ofInt 7) * v2)) + (Int32.ofInt 5)).toNatClampNeg) (Int32.ofInt (-1)))) (v := .ref (p 4)) rfl (nt_gfR rfl (hp.1 (0, 27, 4) (by decide))) k
    have k := ly_revb 8 (c' := (169, [(0, .ref (p 0)), (1, .int v1), (2, .int v2), (3, .int v3), (4, .int v4), (5, .int v5), (6, .int v6)], [.int (Int32.ofInt 2), .int (((Int32.ofInt 172) + ((Int32.ofInt 5) * v1)) + (Int32.ofInt 4)), .ref (p 4)], me_w M (nt_u (nt_u (nt_u (nt_u J (p 4) ((((Int32.ofInt 10) + ((Int32.ofInt 7) * v2)) + (Int32.ofInt 6)).toNatClampNeg) ((J (p 4) ((((Int32.ofInt 10) + ((Int32.ofInt 7) * v2)) + (Int32.ofInt 6)).toNatClampNeg)) + v5)) (p 4) 7 (((nt_u J (p 4) ((((Int32.ofInt 10) + ((Int32.ofInt 7) * v2)) + (Int32.ofInt 6)).toNatClampNeg) ((J (p 4) ((((Int32.ofInt 10) + ((Int32.ofInt 7) * v2)) + (Int32.ofInt 6)).toNatClampNeg)) + v5)) (p 4) 7) + v3)) (p 4) ((((Int32.ofInt 10) + ((Int32.ofInt 7) * v2)) + (Int32.ofInt 4)).toNatClampNeg) (Int32.ofInt 0)) (p 4) ((((Int32.ofInt 10) + ((Int32.ofInt 7) * v2)) + (Int32.ofInt 5)).toNatClampNeg) (Int32.ofInt (-1))))) rfl k
    have k := mx_iast (q := (((Int32.ofInt 172) + ((Int32.ofInt 5) * v1)) + (Int32.ofInt 4)).toNatClampNeg) rfl rfl k
    have k : nt_rn X _ 191 (170, [(0, .ref (p 0)), (1, .int v1), (2, .int v2), (3, .int v3), (4, .int v4), (5, .int v5), (6, .int v6)], [], me_w M (nt_u (nt_u (nt_u (nt_u (nt_u J (p 4) ((((Int32.ofInt 10) + ((Int32.ofInt 7) * v2)) + (Int32.ofInt 6)).toNatClampNeg) ((J (p 4) ((((Int32.ofInt 10) + ((Int32.ofInt 7) * v2)) + (Int32.ofInt 6)).toNatClampNeg)) + v5)) (p 4) 7 (((nt_u J (p 4) ((((Int32.ofInt 10) + ((Int32.ofInt 7) * v2)) + (Int32.ofInt 6)).toNatClampNeg) ((J (p 4) ((((Int32.ofInt 10) + ((Int32.ofInt 7) * v2)) + (Int32.ofInt 6)).toNatClampNeg)) + v5)) (p 4) 7) + v3)) (p 4) ((((Int32.ofInt 10) + ((Int32.ofInt 7) * v2)) + (Int32.ofInt 4)).toNatClampNeg) (Int32.ofInt 0)) (p 4) ((((Int32.ofInt 10) + ((Int32.ofInt 7) * v2)) + (Int32.ofInt 5)).toNatClampNeg) (Int32.ofInt (-1))) (p 4) ((((Int32.ofInt 172) + ((Int32.ofInt 5) * v1)) + (Int32.ofInt 4)).toNatClampNeg) (Int32.ofInt 2))) _ := k
    have k := lz_rv rfl rfl k
    rw [k, x191_31]
  | succ c ih =>
    intro v5 v6 J hc k
    have k := ly_revb 2 (c' := (34, [(0, .ref (p 0)), (1, .int v1), (2, .int v2), (3, .int v3), (4, .int v4), (5, .int v5), (6, .int v6)], [.ref (p 0), .int v6], me_w M J)) rfl k
    have k := lz_get (a := (p 0)) (g := 1127) (M := me_w M J) (v := .ref (p 4)) rfl (nt_gfR rfl (hp.1 (0, 27, 4) (by decide))) k
    have k := ly_revb 1 (c' := (38, [(0, .ref (p 0)), (1, .int v1), (2, .int v2), (3, .int v3), (4, .int v4), (5, .int v5), (6, .int v6)], [.int (Int32.ofInt 2), .ref (p 4), .int v6], me_w M J)) rfl k
    have k := mx_iald (v := J (p 4) 2) rfl (hp.2.2.1 4 (by omega)) ((congrArg (J (p 4)) (show (Int32.ofInt 2).toNatClampNeg = 2 from rfl)).trans (rfl)) k
    have k := ly_revb 1 (c' := (if (J (p 4) 2) ≤ v6 then 94 else 42, [(0, .ref (p 0)), (1, .int v1), (2, .int v2), (3, .int v3), (4, .int v4), (5, .int v5), (6, .int v6)], [], me_w M J)) rfl k
    by_cases h39 : (J (p 4) 2) ≤ v6
    · rw [if_pos h39] at k
      have k := ly_revb 1 (c' := (95, [(0, .ref (p 0)), (1, .int v1), (2, .int v2), (3, .int v3), (4, .int v4), (5, .int v5), (6, .int v6)], [.ref (p 0)], me_w M J)) rfl k
      have k := lz_get (a := (p 0)) (g := 1127) (M := me_w M J) (v := .ref (p 4)) rfl (nt_gfR rfl (hp.1 (0, 27, 4) (by decide))) k
      have k := ly_revb 8 (c' := (109, [(0, .ref (p 0)), (1, .int v1), (2, .int v2), (3, .int v3), (4, .int v4), (5, .int v5), (6, .int v6)], [.int (((Int32.ofInt 10) + ((Int32.ofInt 7) * v2)) + (Int32.ofInt 6)), .ref (p 4), .int (((Int32.ofInt 10) + ((Int32.ofInt 7) * v2)) + (Int32.ofInt 6)), .ref (p 4)], me_w M J)) rfl k
      have k := mx_iald (v := J (p 4) ((((Int32.ofInt 10) + ((Int32.ofInt 7) * v2)) + (Int32.ofInt 6)).toNatClampNeg)) rfl (hp.2.2.1 4 (by omega)) (rfl) k
      have k := ly_revb 2 (c' := (113, [(0, .ref (p 0)), (1, .int v1), (2, .int v2), (3, .int v3), (4, .int v4), (5, .int v5), (6, .int v6)], [.int ((J (p 4) ((((Int32.ofInt 10) + ((Int32.ofInt 7) * v2)) + (Int32.ofInt 6)).toNatClampNeg)) + v5), .int (((Int32.ofInt 10) + ((Int32.ofInt 7) * v2)) + (Int32.ofInt 6)), .ref (p 4)], me_w M J)) rfl k
      have k := mx_iast (q := (((Int32.ofInt 10) + ((Int32.ofInt 7) * v2)) + (Int32.ofInt 6)).toNatClampNeg) rfl rfl k
      have k : nt_rn X _ 191 (114, [(0, .ref (p 0)), (1, .int v1), (2, .int v2), (3, .int v3), (4, .int v4), (5, .int v5), (6, .int v6)], [], me_w M (nt_u J (p 4) ((((Int32.ofInt 10) + ((Int32.ofInt 7) * v2)) + (Int32.ofInt 6)).toNatClampNeg) ((J (p 4) ((((Int32.ofInt 10) + ((Int32.ofInt 7) * v2)) + (Int32.ofInt 6)).toNatClampNeg)) + v5))) _ := k
      have k := ly_revb 1 (c' := (115, [(0, .ref (p 0)), (1, .int v1), (2, .int v2), (3, .int v3), (4, .int v4), (5, .int v5), (6, .int v6)], [.ref (p 0)], me_w M (nt_u J (p 4) ((((Int32.ofInt 10) + ((Int32.ofInt 7) * v2)) + (Int32.ofInt 6)).toNatClampNeg) ((J (p 4) ((((Int32.ofInt 10) + ((Int32.ofInt 7) * v2)) + (Int32.ofInt 6)).toNatClampNeg)) + v5)))) rfl k
      have k := lz_get (a := (p 0)) (g := 1127) (M := me_w M (nt_u J (p 4) ((((Int32.ofInt 10) + ((Int32.ofInt 7) * v2)) + (Int32.ofInt 6)).toNatClampNeg) ((J (p 4) ((((Int32.ofInt 10) + ((Int32.ofInt 7) * v2)) + (Int32.ofInt 6)).toNatClampNeg)) + v5))) (v := .ref (p 4)) rfl (nt_gfR rfl (hp.1 (0, 27, 4) (by decide))) k
      have k := ly_revb 2 (c' := (121, [(0, .ref (p 0)), (1, .int v1), (2, .int v2), (3, .int v3), (4, .int v4), (5, .int v5), (6, .int v6)], [.int (Int32.ofInt 7), .ref (p 4), .int (Int32.ofInt 7), .ref (p 4)], me_w M (nt_u J (p 4) ((((Int32.ofInt 10) + ((Int32.ofInt 7) * v2)) + (Int32.ofInt 6)).toNatClampNeg) ((J (p 4) ((((Int32.ofInt 10) + ((Int32.ofInt 7) * v2)) + (Int32.ofInt 6)).toNatClampNeg)) + v5)))) rfl k
      have k := mx_iald (v := (nt_u J (p 4) ((((Int32.ofInt 10) + ((Int32.ofInt 7) * v2)) + (Int32.ofInt 6)).toNatClampNeg) ((J (p 4) ((((Int32.ofInt 10) + ((Int32.ofInt 7) * v2)) + (Int32.ofInt 6)).toNatClampNeg)) + v5)) (p 4) 7) rfl (hp.2.2.1 4 (by omega)) ((congrArg ((nt_u J (p 4) ((((Int32.ofInt 10) + ((Int32.ofInt 7) * v2)) + (Int32.ofInt 6)).toNatClampNeg) ((J (p 4) ((((Int32.ofInt 10) + ((Int32.ofInt 7) * v2)) + (Int32.ofInt 6)).toNatClampNeg)) + v5)) (p 4)) (show (Int32.ofInt 7).toNatClampNeg = 7 from rfl)).trans (rfl)) k
      have k := ly_revb 2 (c' := (124, [(0, .ref (p 0)), (1, .int v1), (2, .int v2), (3, .int v3), (4, .int v4), (5, .int v5), (6, .int v6)], [.int (((nt_u J (p 4) ((((Int32.ofInt 10) + ((Int32.ofInt 7) * v2)) + (Int32.ofInt 6)).toNatClampNeg) ((J (p 4) ((((Int32.ofInt 10) + ((Int32.ofInt 7) * v2)) + (Int32.ofInt 6)).toNatClampNeg)) + v5)) (p 4) 7) + v3), .int (Int32.ofInt 7), .ref (p 4)], me_w M (nt_u J (p 4) ((((Int32.ofInt 10) + ((Int32.ofInt 7) * v2)) + (Int32.ofInt 6)).toNatClampNeg) ((J (p 4) ((((Int32.ofInt 10) + ((Int32.ofInt 7) * v2)) + (Int32.ofInt 6)).toNatClampNeg)) + v5)))) rfl k
      have k := mx_iast (q := 7) rfl (show (Int32.ofInt 7).toNatClampNeg = 7 from rfl) k
      have k : nt_rn X _ 191 (125, [(0, .ref (p 0)), (1, .int v1), (2, .int v2), (3, .int v3), (4, .int v4), (5, .int v5), (6, .int v6)], [], me_w M (nt_u (nt_u J (p 4) ((((Int32.ofInt 10) + ((Int32.ofInt 7) * v2)) + (Int32.ofInt 6)).toNatClampNeg) ((J (p 4) ((((Int32.ofInt 10) + ((Int32.ofInt 7) * v2)) + (Int32.ofInt 6)).toNatClampNeg)) + v5)) (p 4) 7 (((nt_u J (p 4) ((((Int32.ofInt 10) + ((Int32.ofInt 7) * v2)) + (Int32.ofInt 6)).toNatClampNeg) ((J (p 4) ((((Int32.ofInt 10) + ((Int32.ofInt 7) * v2)) + (Int32.ofInt 6)).toNatClampNeg)) + v5)) (p 4) 7) + v3))) _ := k
      have k := ly_revb 1 (c' := (126, [(0, .ref (p 0)), (1, .int v1), (2, .int v2), (3, .int v3), (4, .int v4), (5, .int v5), (6, .int v6)], [.ref (p 0)], me_w M (nt_u (nt_u J (p 4) ((((Int32.ofInt 10) + ((Int32.ofInt 7) * v2)) + (Int32.ofInt 6)).toNatClampNeg) ((J (p 4) ((((Int32.ofInt 10) + ((Int32.ofInt 7) * v2)) + (Int32.ofInt 6)).toNatClampNeg)) + v5)) (p 4) 7 (((nt_u J (p 4) ((((Int32.ofInt 10) + ((Int32.ofInt 7) * v2)) + (Int32.ofInt 6)).toNatClampNeg) ((J (p 4) ((((Int32.ofInt 10) + ((Int32.ofInt 7) * v2)) + (Int32.ofInt 6)).toNatClampNeg)) + v5)) (p 4) 7) + v3)))) rfl k
      have k := lz_get (a := (p 0)) (g := 1127) (M := me_w M (nt_u (nt_u J (p 4) ((((Int32.ofInt 10) + ((Int32.ofInt 7) * v2)) + (Int32.ofInt 6)).toNatClampNeg) ((J (p 4) ((((Int32.ofInt 10) + ((Int32.ofInt 7) * v2)) + (Int32.ofInt 6)).toNatClampNeg)) + v5)) (p 4) 7 (((nt_u J (p 4) ((((Int32.ofInt 10) + ((Int32.ofInt 7) * v2)) + (Int32.ofInt 6)).toNatClampNeg) ((J (p 4) ((((Int32.ofInt 10) + ((Int32.ofInt 7) * v2)) + (Int32.ofInt 6)).toNatClampNeg)) + v5)) (p 4) 7) + v3))) (v := .ref (p 4)) rfl (nt_gfR rfl (hp.1 (0, 27, 4) (by decide))) k
      have k := ly_revb 8 (c' := (139, [(0, .ref (p 0)), (1, .int v1), (2, .int v2), (3, .int v3), (4, .int v4), (5, .int v5), (6, .int v6)], [.int (Int32.ofInt 0), .int (((Int32.ofInt 10) + ((Int32.ofInt 7) * v2)) + (Int32.ofInt 4)), .ref (p 4)], me_w M (nt_u (nt_u J (p 4) ((((Int32.ofInt 10) + ((Int32.ofInt 7) * v2)) + (Int32.ofInt 6)).toNatClampNeg) ((J (p 4) ((((Int32.ofInt 10) + ((Int32.ofInt 7) * v2)) + (Int32.ofInt 6)).toNatClampNeg)) + v5)) (p 4) 7 (((nt_u J (p 4) ((((Int32.ofInt 10) + ((Int32.ofInt 7) * v2)) + (Int32.ofInt 6)).toNatClampNeg) ((J (p 4) ((((Int32.ofInt 10) + ((Int32.ofInt 7) * v2)) + (Int32.ofInt 6)).toNatClampNeg)) + v5)) (p 4) 7) + v3)))) rfl k
      have k := mx_iast (q := (((Int32.ofInt 10) + ((Int32.ofInt 7) * v2)) + (Int32.ofInt 4)).toNatClampNeg) rfl rfl k
      have k : nt_rn X _ 191 (140, [(0, .ref (p 0)), (1, .int v1), (2, .int v2), (3, .int v3), (4, .int v4), (5, .int v5), (6, .int v6)], [], me_w M (nt_u (nt_u (nt_u J (p 4) ((((Int32.ofInt 10) + ((Int32.ofInt 7) * v2)) + (Int32.ofInt 6)).toNatClampNeg) ((J (p 4) ((((Int32.ofInt 10) + ((Int32.ofInt 7) * v2)) + (Int32.ofInt 6)).toNatClampNeg)) + v5)) (p 4) 7 (((nt_u J (p 4) ((((Int32.ofInt 10) + ((Int32.ofInt 7) * v2)) + (Int32.ofInt 6)).toNatClampNeg) ((J (p 4) ((((Int32.ofInt 10) + ((Int32.ofInt 7) * v2)) + (Int32.ofInt 6)).toNatClampNeg)) + v5)) (p 4) 7) + v3)) (p 4) ((((Int32.ofInt 10) + ((Int32.ofInt 7) * v2)) + (Int32.ofInt 4)).toNatClampNeg) (Int32.ofInt 0))) _ := k
      have k := ly_revb 1 (c' := (141, [(0, .ref (p 0)), (1, .int v1), (2, .int v2), (3, .int v3), (4, .int v4), (5, .int v5), (6, .int v6)], [.ref (p 0)], me_w M (nt_u (nt_u (nt_u J (p 4) ((((Int32.ofInt 10) + ((Int32.ofInt 7) * v2)) + (Int32.ofInt 6)).toNatClampNeg) ((J (p 4) ((((Int32.ofInt 10) + ((Int32.ofInt 7) * v2)) + (Int32.ofInt 6)).toNatClampNeg)) + v5)) (p 4) 7 (((nt_u J (p 4) ((((Int32.ofInt 10) + ((Int32.ofInt 7) * v2)) + (Int32.ofInt 6)).toNatClampNeg) ((J (p 4) ((((Int32.ofInt 10) + ((Int32.ofInt 7) * v2)) + (Int32.ofInt 6)).toNatClampNeg)) + v5)) (p 4) 7) + v3)) (p 4) ((((Int32.ofInt 10) + ((Int32.ofInt 7) * v2)) + (Int32.ofInt 4)).toNatClampNeg) (Int32.ofInt 0)))) rfl k
      have k := lz_get (a := (p 0)) (g := 1127) (M := me_w M (nt_u (nt_u (nt_u J (p 4) ((((Int32.ofInt 10) + ((Int32.ofInt 7) * v2)) + (Int32.ofInt 6)).toNatClampNeg) ((J (p 4) ((((Int32.ofInt 10) + ((Int32.ofInt 7) * v2)) + (Int32.ofInt 6)).toNatClampNeg)) + v5)) (p 4) 7 (((nt_u J (p 4) ((((Int32.ofInt 10) + ((Int32.ofInt 7) * v2)) + (Int32.ofInt 6)).toNatClampNeg) ((J (p 4) ((((Int32.ofInt 10) + ((Int32.ofInt 7) * v2)) + (Int32.ofInt 6)).toNatClampNeg)) + v5)) (p 4) 7) + v3)) (p 4) ((((Int32.ofInt 10) + ((Int32.ofInt 7) * v2)) + (Int32.ofInt 4)).toNatClampNeg) (Int32.ofInt 0))) (v := .ref (p 4)) rfl (nt_gfR rfl (hp.1 (0, 27, 4) (by decide))) k
      have k := ly_revb 8 (c' := (154, [(0, .ref (p 0)), (1, .int v1), (2, .int v2), (3, .int v3), (4, .int v4), (5, .int v5), (6, .int v6)], [.int (Int32.ofInt (-1)), .int (((Int32.ofInt 10) + ((Int32.ofInt 7) * v2)) + (Int32.ofInt 5)), .ref (p 4)], me_w M (nt_u (nt_u (nt_u J (p 4) ((((Int32.ofInt 10) + ((Int32.ofInt 7) * v2)) + (Int32.ofInt 6)).toNatClampNeg) ((J (p 4) ((((Int32.ofInt 10) + ((Int32.ofInt 7) * v2)) + (Int32.ofInt 6)).toNatClampNeg)) + v5)) (p 4) 7 (((nt_u J (p 4) ((((Int32.ofInt 10) + ((Int32.ofInt 7) * v2)) + (Int32.ofInt 6)).toNatClampNeg) ((J (p 4) ((((Int32.ofInt 10) + ((Int32.ofInt 7) * v2)) + (Int32.ofInt 6)).toNatClampNeg)) + v5)) (p 4) 7) + v3)) (p 4) ((((Int32.ofInt 10) + ((Int32.ofInt 7) * v2)) + (Int32.ofInt 4)).toNatClampNeg) (Int32.ofInt 0)))) rfl k
      have k := mx_iast (q := (((Int32.ofInt 10) + ((Int32.ofInt 7) * v2)) + (Int32.ofInt 5)).toNatClampNeg) rfl rfl k
      have k : nt_rn X _ 191 (155, [(0, .ref (p 0)), (1, .int v1), (2, .int v2), (3, .int v3), (4, .int v4), (5, .int v5), (6, .int v6)], [], me_w M (nt_u (nt_u (nt_u (nt_u J (p 4) ((((Int32.ofInt 10) + ((Int32.ofInt 7) * v2)) + (Int32.ofInt 6)).toNatClampNeg) ((J (p 4) ((((Int32.ofInt 10) + ((Int32.ofInt 7) * v2)) + (Int32.ofInt 6)).toNatClampNeg)) + v5)) (p 4) 7 (((nt_u J (p 4) ((((Int32.ofInt 10) + ((Int32.ofInt 7) * v2)) + (Int32.ofInt 6)).toNatClampNeg) ((J (p 4) ((((Int32.ofInt 10) + ((Int32.ofInt 7) * v2)) + (Int32.ofInt 6)).toNatClampNeg)) + v5)) (p 4) 7) + v3)) (p 4) ((((Int32.ofInt 10) + ((Int32.ofInt 7) * v2)) + (Int32.ofInt 4)).toNatClampNeg) (Int32.ofInt 0)) (p 4) ((((Int32.ofInt 10) + ((Int32.ofInt 7) * v2)) + (Int32.ofInt 5)).toNatClampNeg) (Int32.ofInt (-1)))) _ := k
      have k := ly_revb 1 (c' := (156, [(0, .ref (p 0)), (1, .int v1), (2, .int v2), (3, .int v3), (4, .int v4), (5, .int v5), (6, .int v6)], [.ref (p 0)], me_w M (nt_u (nt_u (nt_u (nt_u J (p 4) ((((Int32.ofInt 10) + ((Int32.ofInt 7) * v2)) + (Int32.ofInt 6)).toNatClampNeg) ((J (p 4) ((((Int32.ofInt 10) + ((Int32.ofInt 7) * v2)) + (Int32.ofInt 6)).toNatClampNeg)) + v5)) (p 4) 7 (((nt_u J (p 4) ((((Int32.ofInt 10) + ((Int32.ofInt 7) * v2)) + (Int32.ofInt 6)).toNatClampNeg) ((J (p 4) ((((Int32.ofInt 10) + ((Int32.ofInt 7) * v2)) + (Int32.ofInt 6)).toNatClampNeg)) + v5)) (p 4) 7) + v3)) (p 4) ((((Int32.ofInt 10) + ((Int32.ofInt 7) * v2)) + (Int32.ofInt 4)).toNatClampNeg) (Int32.ofInt 0)) (p 4) ((((Int32.ofInt 10) + ((Int32.ofInt 7) * v2)) + (Int32.ofInt 5)).toNatClampNeg) (Int32.ofInt (-1))))) rfl k
      have k := lz_get (a := (p 0)) (g := 1127) (M := me_w M (nt_u (nt_u (nt_u (nt_u J (p 4) ((((Int32.ofInt 10) + ((Int32.ofInt 7) * v2)) + (Int32.ofInt 6)).toNatClampNeg) ((J (p 4) ((((Int32.ofInt 10) + ((Int32.ofInt 7) * v2)) + (Int32.ofInt 6)).toNatClampNeg)) + v5)) (p 4) 7 (((nt_u J (p 4) ((((Int32.ofInt 10) + ((Int32.ofInt 7) * v2)) + (Int32.ofInt 6)).toNatClampNeg) ((J (p 4) ((((Int32.ofInt 10) + ((Int32.ofInt 7) * v2)) + (Int32.ofInt 6)).toNatClampNeg)) + v5)) (p 4) 7) + v3)) (p 4) ((((Int32.ofInt 10) + ((Int32.ofInt 7) * v2)) + (Int32.ofInt 4)).toNatClampNeg) (Int32.ofInt 0)) (p 4) ((((Int32.ofInt 10) + ((Int32.ofInt 7) * v2)) + (Int32.ofInt 5)).toNatClampNeg) (Int32.ofInt (-1)))) (v := .ref (p 4)) rfl (nt_gfR rfl (hp.1 (0, 27, 4) (by decide))) k
      have k := ly_revb 8 (c' := (169, [(0, .ref (p 0)), (1, .int v1), (2, .int v2), (3, .int v3), (4, .int v4), (5, .int v5), (6, .int v6)], [.int (Int32.ofInt 2), .int (((Int32.ofInt 172) + ((Int32.ofInt 5) * v1)) + (Int32.ofInt 4)), .ref (p 4)], me_w M (nt_u (nt_u (nt_u (nt_u J (p 4) ((((Int32.ofInt 10) + ((Int32.ofInt 7) * v2)) + (Int32.ofInt 6)).toNatClampNeg) ((J (p 4) ((((Int32.ofInt 10) + ((Int32.ofInt 7) * v2)) + (Int32.ofInt 6)).toNatClampNeg)) + v5)) (p 4) 7 (((nt_u J (p 4) ((((Int32.ofInt 10) + ((Int32.ofInt 7) * v2)) + (Int32.ofInt 6)).toNatClampNeg) ((J (p 4) ((((Int32.ofInt 10) + ((Int32.ofInt 7) * v2)) + (Int32.ofInt 6)).toNatClampNeg)) + v5)) (p 4) 7) + v3)) (p 4) ((((Int32.ofInt 10) + ((Int32.ofInt 7) * v2)) + (Int32.ofInt 4)).toNatClampNeg) (Int32.ofInt 0)) (p 4) ((((Int32.ofInt 10) + ((Int32.ofInt 7) * v2)) + (Int32.ofInt 5)).toNatClampNeg) (Int32.ofInt (-1))))) rfl k
      have k := mx_iast (q := (((Int32.ofInt 172) + ((Int32.ofInt 5) * v1)) + (Int32.ofInt 4)).toNatClampNeg) rfl rfl k
      have k : nt_rn X _ 191 (170, [(0, .ref (p 0)), (1, .int v1), (2, .int v2), (3, .int v3), (4, .int v4), (5, .int v5), (6, .int v6)], [], me_w M (nt_u (nt_u (nt_u (nt_u (nt_u J (p 4) ((((Int32.ofInt 10) + ((Int32.ofInt 7) * v2)) + (Int32.ofInt 6)).toNatClampNeg) ((J (p 4) ((((Int32.ofInt 10) + ((Int32.ofInt 7) * v2)) + (Int32.ofInt 6)).toNatClampNeg)) + v5)) (p 4) 7 (((nt_u J (p 4) ((((Int32.ofInt 10) + ((Int32.ofInt 7) * v2)) + (Int32.ofInt 6)).toNatClampNeg) ((J (p 4) ((((Int32.ofInt 10) + ((Int32.ofInt 7) * v2)) + (Int32.ofInt 6)).toNatClampNeg)) + v5)) (p 4) 7) + v3)) (p 4) ((((Int32.ofInt 10) + ((Int32.ofInt 7) * v2)) + (Int32.ofInt 4)).toNatClampNeg) (Int32.ofInt 0)) (p 4) ((((Int32.ofInt 10) + ((Int32.ofInt 7) * v2)) + (Int32.ofInt 5)).toNatClampNeg) (Int32.ofInt (-1))) (p 4) ((((Int32.ofInt 172) + ((Int32.ofInt 5) * v1)) + (Int32.ofInt 4)).toNatClampNeg) (Int32.ofInt 2))) _ := k
      have k := lz_rv rfl rfl k
      rw [k, x191_31, if_pos h39]
    · rw [if_neg h39] at k
      have k := ly_revb 3 (c' := (46, [(0, .ref (p 0)), (1, .int v1), (2, .int v2), (3, .int v3), (4, .int v4), (5, .int v5), (6, .int v6)], [.int v2, .int v6, .ref (p 0)], me_w M J)) rfl k
      obtain ⟨d1, o1, ed, kc, k⟩ := lz_c (g := 171) (q := 1) (vs := [.ref (p 0), .int v6, .int v2]) (rest := []) rfl rfl (by decide) (Or.inr (Or.inl ⟨_, rfl, rfl⟩)) rfl k
      have e1 := xt171 hp kc
      subst e1
      have k : nt_rn X _ 191 (49, [(0, .ref (p 0)), (1, .int v1), (2, .int v2), (3, .int v3), (4, .int v4), (5, .int v5), (6, .int v6)], [.int (x171 p v6 v2 J)], me_w M J) _ := k
      have k := ly_revb 1 (c' := (if (x171 p v6 v2 J) = 0 then 52 else 55, [(0, .ref (p 0)), (1, .int v1), (2, .int v2), (3, .int v3), (4, .int v4), (5, .int v5), (6, .int v6)], [], me_w M J)) rfl k
      by_cases h49 : (x171 p v6 v2 J) = 0
      · rw [if_pos h49] at k
        have k := ly_revb 3 (c' := (31, [(6, .int (v6 + (Int32.ofInt 1))), (0, .ref (p 0)), (1, .int v1), (2, .int v2), (3, .int v3), (4, .int v4), (5, .int v5)], [], me_w M J)) rfl k
        have k := nt_rn_w (a := [(6, .int (v6 + (Int32.ofInt 1))), (0, .ref (p 0)), (1, .int v1), (2, .int v2), (3, .int v3), (4, .int v4), (5, .int v5)]) (b := [(0, .ref (p 0)), (1, .int v1), (2, .int v2), (3, .int v3), (4, .int v4), (5, .int v5), (6, .int (v6 + (Int32.ofInt 1)))]) ⟨rfl, rfl, rfl, rfl, rfl, rfl, rfl, trivial⟩ rfl k
        have k := ih v5 (v6 + (Int32.ofInt 1)) J (xk_dec hc.1 h39 hc.2.1 hc.2.2) k
        rw [k, x191_31, if_neg h39, if_pos h49]
      · rw [if_neg h49] at k
        have k := ly_revb 1 (c' := (56, [(0, .ref (p 0)), (1, .int v1), (2, .int v2), (3, .int v3), (4, .int v4), (5, .int v5), (6, .int v6)], [.ref (p 0)], me_w M J)) rfl k
        have k := lz_get (a := (p 0)) (g := 1127) (M := me_w M J) (v := .ref (p 4)) rfl (nt_gfR rfl (hp.1 (0, 27, 4) (by decide))) k
        have k := ly_revb 5 (c' := (67, [(0, .ref (p 0)), (1, .int v1), (2, .int v2), (3, .int v3), (4, .int v4), (5, .int v5), (6, .int v6)], [.int (Int32.ofInt 2), .int v6, .ref (p 0), .int (Int32.ofInt 7), .int (Int32.ofInt 10), .ref (p 4)], me_w M J)) rfl k
        obtain ⟨d1, o1, ed, kc, k⟩ := lz_c (g := 173) (q := 1) (vs := [.ref (p 0), .int v6, .int (Int32.ofInt 2)]) (rest := [.int (Int32.ofInt 7), .int (Int32.ofInt 10), .ref (p 4)]) rfl rfl (by decide) (Or.inr (Or.inl ⟨_, rfl, rfl⟩)) rfl k
        have e1 := xt173 hp kc
        subst e1
        have k : nt_rn X _ 191 (70, [(0, .ref (p 0)), (1, .int v1), (2, .int v2), (3, .int v3), (4, .int v4), (5, .int v5), (6, .int v6)], [.int (x173 p v6 (Int32.ofInt 2) J), .int (Int32.ofInt 7), .int (Int32.ofInt 10), .ref (p 4)], me_w M J) _ := k
        have k := ly_revb 5 (c' := (76, [(0, .ref (p 0)), (1, .int v1), (2, .int v2), (3, .int v3), (4, .int v4), (5, .int v5), (6, .int v6)], [.int (((Int32.ofInt 10) + ((Int32.ofInt 7) * (x173 p v6 (Int32.ofInt 2) J))) + (Int32.ofInt 6)), .ref (p 4), .int (((Int32.ofInt 10) + ((Int32.ofInt 7) * (x173 p v6 (Int32.ofInt 2) J))) + (Int32.ofInt 6)), .ref (p 4)], me_w M J)) rfl k
        have k := mx_iald (v := J (p 4) ((((Int32.ofInt 10) + ((Int32.ofInt 7) * (x173 p v6 (Int32.ofInt 2) J))) + (Int32.ofInt 6)).toNatClampNeg)) rfl (hp.2.2.1 4 (by omega)) (rfl) k
        have k := ly_revb 2 (c' := (80, [(0, .ref (p 0)), (1, .int v1), (2, .int v2), (3, .int v3), (4, .int v4), (5, .int v5), (6, .int v6)], [.int ((J (p 4) ((((Int32.ofInt 10) + ((Int32.ofInt 7) * (x173 p v6 (Int32.ofInt 2) J))) + (Int32.ofInt 6)).toNatClampNeg)) + v4), .int (((Int32.ofInt 10) + ((Int32.ofInt 7) * (x173 p v6 (Int32.ofInt 2) J))) + (Int32.ofInt 6)), .ref (p 4)], me_w M J)) rfl k
        have k := mx_iast (q := (((Int32.ofInt 10) + ((Int32.ofInt 7) * (x173 p v6 (Int32.ofInt 2) J))) + (Int32.ofInt 6)).toNatClampNeg) rfl rfl k
        have k : nt_rn X _ 191 (81, [(0, .ref (p 0)), (1, .int v1), (2, .int v2), (3, .int v3), (4, .int v4), (5, .int v5), (6, .int v6)], [], me_w M (nt_u J (p 4) ((((Int32.ofInt 10) + ((Int32.ofInt 7) * (x173 p v6 (Int32.ofInt 2) J))) + (Int32.ofInt 6)).toNatClampNeg) ((J (p 4) ((((Int32.ofInt 10) + ((Int32.ofInt 7) * (x173 p v6 (Int32.ofInt 2) J))) + (Int32.ofInt 6)).toNatClampNeg)) + v4))) _ := k
        have k := ly_revb 6 (c' := (31, [(6, .int (v6 + (Int32.ofInt 1))), (5, .int (v5 - v4)), (0, .ref (p 0)), (1, .int v1), (2, .int v2), (3, .int v3), (4, .int v4)], [], me_w M (nt_u J (p 4) ((((Int32.ofInt 10) + ((Int32.ofInt 7) * (x173 p v6 (Int32.ofInt 2) J))) + (Int32.ofInt 6)).toNatClampNeg) ((J (p 4) ((((Int32.ofInt 10) + ((Int32.ofInt 7) * (x173 p v6 (Int32.ofInt 2) J))) + (Int32.ofInt 6)).toNatClampNeg)) + v4)))) rfl k
        have k := nt_rn_w (a := [(6, .int (v6 + (Int32.ofInt 1))), (5, .int (v5 - v4)), (0, .ref (p 0)), (1, .int v1), (2, .int v2), (3, .int v3), (4, .int v4)]) (b := [(0, .ref (p 0)), (1, .int v1), (2, .int v2), (3, .int v3), (4, .int v4), (5, .int (v5 - v4)), (6, .int (v6 + (Int32.ofInt 1)))]) ⟨rfl, rfl, rfl, rfl, rfl, rfl, rfl, trivial⟩ rfl k
        have k := ih (v5 - v4) (v6 + (Int32.ofInt 1)) (nt_u J (p 4) ((((Int32.ofInt 10) + ((Int32.ofInt 7) * (x173 p v6 (Int32.ofInt 2) J))) + (Int32.ofInt 6)).toNatClampNeg) ((J (p 4) ((((Int32.ofInt 10) + ((Int32.ofInt 7) * (x173 p v6 (Int32.ofInt 2) J))) + (Int32.ofInt 6)).toNatClampNeg)) + v4)) (by obtain ⟨s, hs, e⟩ := xk_ow hc.1 h39 hc.2.1; exact xk_decw hc.1 (by rw [e]; exact xr_bs hs (by omega) (by omega)) (by omega) (by rw [e]; omega) h39 hc.2.1 hc.2.2) k
        rw [k, x191_31, if_neg h39, if_neg h49]
theorem x191_31_rule {p : Nat → Nat} {v1 : Int32} {v2 : Int32} {v3 : Int32} {v4 : Int32} {I : Nat → Int32 → Int32 → (Nat → Nat → Int32) → Prop} {Q : (Nat → Nat → Int32) → Prop} (h0 : ∀ (v5 : Int32) (v6 : Int32) (J : Nat → Nat → Int32), I 0 v5 v6 J → Q (nt_u (nt_u (nt_u (nt_u (nt_u J (p 4) ((((Int32.ofInt 10) + ((Int32.ofInt 7) * v2)) + (Int32.ofInt 6)).toNatClampNeg) ((J (p 4) ((((Int32.ofInt 10) + ((Int32.ofInt 7) * v2)) + (Int32.ofInt 6)).toNatClampNeg)) + v5)) (p 4) 7 (((nt_u J (p 4) ((((Int32.ofInt 10) + ((Int32.ofInt 7) * v2)) + (Int32.ofInt 6)).toNatClampNeg) ((J (p 4) ((((Int32.ofInt 10) + ((Int32.ofInt 7) * v2)) + (Int32.ofInt 6)).toNatClampNeg)) + v5)) (p 4) 7) + v3)) (p 4) ((((Int32.ofInt 10) + ((Int32.ofInt 7) * v2)) + (Int32.ofInt 4)).toNatClampNeg) (Int32.ofInt 0)) (p 4) ((((Int32.ofInt 10) + ((Int32.ofInt 7) * v2)) + (Int32.ofInt 5)).toNatClampNeg) (Int32.ofInt (-1))) (p 4) ((((Int32.ofInt 172) + ((Int32.ofInt 5) * v1)) + (Int32.ofInt 4)).toNatClampNeg) (Int32.ofInt 2))) (h1 : ∀ (c : Nat) (v5 : Int32) (v6 : Int32) (J : Nat → Nat → Int32), I (c + 1) v5 v6 J →
    if (J (p 4) 2) ≤ v6 then (Q (nt_u (nt_u (nt_u (nt_u (nt_u J (p 4) ((((Int32.ofInt 10) + ((Int32.ofInt 7) * v2)) + (Int32.ofInt 6)).toNatClampNeg) ((J (p 4) ((((Int32.ofInt 10) + ((Int32.ofInt 7) * v2)) + (Int32.ofInt 6)).toNatClampNeg)) + v5)) (p 4) 7 (((nt_u J (p 4) ((((Int32.ofInt 10) + ((Int32.ofInt 7) * v2)) + (Int32.ofInt 6)).toNatClampNeg) ((J (p 4) ((((Int32.ofInt 10) + ((Int32.ofInt 7) * v2)) + (Int32.ofInt 6)).toNatClampNeg)) + v5)) (p 4) 7) + v3)) (p 4) ((((Int32.ofInt 10) + ((Int32.ofInt 7) * v2)) + (Int32.ofInt 4)).toNatClampNeg) (Int32.ofInt 0)) (p 4) ((((Int32.ofInt 10) + ((Int32.ofInt 7) * v2)) + (Int32.ofInt 5)).toNatClampNeg) (Int32.ofInt (-1))) (p 4) ((((Int32.ofInt 172) + ((Int32.ofInt 5) * v1)) + (Int32.ofInt 4)).toNatClampNeg) (Int32.ofInt 2)))
    else if (x171 p v6 v2 J) = 0 then (I c v5 (v6 + (Int32.ofInt 1)) J)
      else (I c (v5 - v4) (v6 + (Int32.ofInt 1)) (nt_u J (p 4) ((((Int32.ofInt 10) + ((Int32.ofInt 7) * (x173 p v6 (Int32.ofInt 2) J))) + (Int32.ofInt 6)).toNatClampNeg) ((J (p 4) ((((Int32.ofInt 10) + ((Int32.ofInt 7) * (x173 p v6 (Int32.ofInt 2) J))) + (Int32.ofInt 6)).toNatClampNeg)) + v4)))) : ∀ (c : Nat) (v5 : Int32) (v6 : Int32) (J : Nat → Nat → Int32), I c v5 v6 J → Q (x191_31 p v1 v2 v3 v4 c v5 v6 J) := by
  intro c
  induction c with
  | zero =>
    intro v5 v6 J hi
    rw [x191_31]
    exact h0 v5 v6 J hi
  | succ c ih =>
    intro v5 v6 J hi
    have hi := h1 c v5 v6 J hi
    rw [x191_31]
    by_cases h : (J (p 4) 2) ≤ v6
    · rw [if_pos h] at hi ⊢
      exact hi
    · rw [if_neg h] at hi ⊢
      by_cases h : (x171 p v6 v2 J) = 0
      · rw [if_pos h] at hi ⊢
        exact ih _ _ _ hi
      · rw [if_neg h] at hi ⊢
        exact ih _ _ _ hi
def x191 (p : Nat → Nat) (v1 : Int32) (J : Nat → Nat → Int32) : (Nat → Nat → Int32) := (x191_31 p v1 (x180 p v1 (Int32.ofInt 0) J) (x180 p v1 (Int32.ofInt 3) J) ((x180 p v1 (Int32.ofInt 3) J) / ((x170 p (x180 p v1 (Int32.ofInt 0) J) J) + (Int32.ofInt 1))) ((J (p 4) 2).toNatClampNeg) (x180 p v1 (Int32.ofInt 3) J) (Int32.ofInt 0) J)
theorem xt191 {X : nt_X} {d : Nat} {M : nt_M} {o : Option Value × nt_M} {p : Nat → Nat} {v1 : Int32} {J : Nat → Nat → Int32} (hp : xs_P M p) (hw : xr_W (J (p 4))) (k : nt_ev X d 191 [.ref (p 0), .int v1] (me_w M J) o) : o = (none, me_w M (x191 p v1 J)) := by
  have k : nt_rn X d 191 (0, [(0, .ref (p 0)), (1, .int v1)], [], me_w M J) o := k
  have k := ly_revb 3 (c' := (3, [(0, .ref (p 0)), (1, .int v1)], [.int (Int32.ofInt 0), .int v1, .ref (p 0)], me_w M J)) rfl k
  obtain ⟨d1, o1, ed, kc, k⟩ := lz_c (g := 180) (q := 1) (vs := [.ref (p 0), .int v1, .int (Int32.ofInt 0)]) (rest := []) rfl rfl (by decide) (Or.inr (Or.inl ⟨_, rfl, rfl⟩)) rfl k
  have e1 := xt180 hp kc
  subst e1
  have k : nt_rn X _ 191 (6, [(0, .ref (p 0)), (1, .int v1)], [.int (x180 p v1 (Int32.ofInt 0) J)], me_w M J) _ := k
  have k := ly_revb 4 (c' := (10, [(2, .int (x180 p v1 (Int32.ofInt 0) J)), (0, .ref (p 0)), (1, .int v1)], [.int (Int32.ofInt 3), .int v1, .ref (p 0)], me_w M J)) rfl k
  obtain ⟨d1, o1, ed, kc, k⟩ := lz_c (g := 180) (q := 1) (vs := [.ref (p 0), .int v1, .int (Int32.ofInt 3)]) (rest := []) rfl rfl (by decide) (Or.inr (Or.inl ⟨_, rfl, rfl⟩)) rfl k
  have e1 := xt180 hp kc
  subst e1
  have k : nt_rn X _ 191 (13, [(2, .int (x180 p v1 (Int32.ofInt 0) J)), (0, .ref (p 0)), (1, .int v1)], [.int (x180 p v1 (Int32.ofInt 3) J)], me_w M J) _ := k
  have k := ly_revb 4 (c' := (17, [(3, .int (x180 p v1 (Int32.ofInt 3) J)), (2, .int (x180 p v1 (Int32.ofInt 0) J)), (0, .ref (p 0)), (1, .int v1)], [.int (x180 p v1 (Int32.ofInt 0) J), .ref (p 0), .int (x180 p v1 (Int32.ofInt 3) J)], me_w M J)) rfl k
  obtain ⟨d1, o1, ed, kc, k⟩ := lz_c (g := 170) (q := 1) (vs := [.ref (p 0), .int (x180 p v1 (Int32.ofInt 0) J)]) (rest := [.int (x180 p v1 (Int32.ofInt 3) J)]) rfl rfl (by decide) (Or.inr (Or.inl ⟨_, rfl, rfl⟩)) rfl k
  have e1 := xt170 hp kc
  subst e1
  have k : nt_rn X _ 191 (20, [(3, .int (x180 p v1 (Int32.ofInt 3) J)), (2, .int (x180 p v1 (Int32.ofInt 0) J)), (0, .ref (p 0)), (1, .int v1)], [.int (x170 p (x180 p v1 (Int32.ofInt 0) J) J), .int (x180 p v1 (Int32.ofInt 3) J)], me_w M J) _ := k
  have k := ly_revb 2 (c' := (22, [(3, .int (x180 p v1 (Int32.ofInt 3) J)), (2, .int (x180 p v1 (Int32.ofInt 0) J)), (0, .ref (p 0)), (1, .int v1)], [.int ((x170 p (x180 p v1 (Int32.ofInt 0) J) J) + (Int32.ofInt 1)), .int (x180 p v1 (Int32.ofInt 3) J)], me_w M J)) rfl k
  obtain ⟨hd22, k⟩ := mx_idiv rfl k
  have k := ly_revb 5 (c' := (31, [(6, .int (Int32.ofInt 0)), (5, .int (x180 p v1 (Int32.ofInt 3) J)), (4, .int ((x180 p v1 (Int32.ofInt 3) J) / ((x170 p (x180 p v1 (Int32.ofInt 0) J) J) + (Int32.ofInt 1)))), (3, .int (x180 p v1 (Int32.ofInt 3) J)), (2, .int (x180 p v1 (Int32.ofInt 0) J)), (0, .ref (p 0)), (1, .int v1)], [], me_w M J)) rfl k
  have k := nt_rn_w (a := [(6, .int (Int32.ofInt 0)), (5, .int (x180 p v1 (Int32.ofInt 3) J)), (4, .int ((x180 p v1 (Int32.ofInt 3) J) / ((x170 p (x180 p v1 (Int32.ofInt 0) J) J) + (Int32.ofInt 1)))), (3, .int (x180 p v1 (Int32.ofInt 3) J)), (2, .int (x180 p v1 (Int32.ofInt 0) J)), (0, .ref (p 0)), (1, .int v1)]) (b := [(0, .ref (p 0)), (1, .int v1), (2, .int (x180 p v1 (Int32.ofInt 0) J)), (3, .int (x180 p v1 (Int32.ofInt 3) J)), (4, .int ((x180 p v1 (Int32.ofInt 3) J) / ((x170 p (x180 p v1 (Int32.ofInt 0) J) J) + (Int32.ofInt 1)))), (5, .int (x180 p v1 (Int32.ofInt 3) J)), (6, .int (Int32.ofInt 0))]) ⟨rfl, rfl, rfl, rfl, rfl, rfl, rfl, trivial⟩ rfl k
  have k := xt191_31 hp  ((J (p 4) 2).toNatClampNeg) (x180 p v1 (Int32.ofInt 3) J) (Int32.ofInt 0) J (⟨hw, by decide, lx_beg (by decide)⟩) k
  rw [k, x191]
theorem x191_31_frJ {p : Nat → Nat} {v1 : Int32} {v2 : Int32} {v3 : Int32} {v4 : Int32} {b : Nat} : ∀ (c : Nat) (v5 : Int32) (v6 : Int32) (J : Nat → Nat → Int32), b ≠ p 4 → x191_31 p v1 v2 v3 v4 c v5 v6 J b = J b := by
  intro c
  induction c with
  | zero =>
    intro v5 v6 J n0
    rw [x191_31]
    all_goals first | (dsimp only; exact (show (nt_u (nt_u (nt_u (nt_u (nt_u J (p 4) ((((Int32.ofInt 10) + ((Int32.ofInt 7) * v2)) + (Int32.ofInt 6)).toNatClampNeg) ((J (p 4) ((((Int32.ofInt 10) + ((Int32.ofInt 7) * v2)) + (Int32.ofInt 6)).toNatClampNeg)) + v5)) (p 4) 7 (((nt_u J (p 4) ((((Int32.ofInt 10) + ((Int32.ofInt 7) * v2)) + (Int32.ofInt 6)).toNatClampNeg) ((J (p 4) ((((Int32.ofInt 10) + ((Int32.ofInt 7) * v2)) + (Int32.ofInt 6)).toNatClampNeg)) + v5)) (p 4) 7) + v3)) (p 4) ((((Int32.ofInt 10) + ((Int32.ofInt 7) * v2)) + (Int32.ofInt 4)).toNatClampNeg) (Int32.ofInt 0)) (p 4) ((((Int32.ofInt 10) + ((Int32.ofInt 7) * v2)) + (Int32.ofInt 5)).toNatClampNeg) (Int32.ofInt (-1))) (p 4) ((((Int32.ofInt 172) + ((Int32.ofInt 5) * v1)) + (Int32.ofInt 4)).toNatClampNeg) (Int32.ofInt 2)) b = J b from (mu_o n0).trans ((mu_o n0).trans ((mu_o n0).trans ((mu_o n0).trans (mu_o n0)))))) | exact (show (nt_u (nt_u (nt_u (nt_u (nt_u J (p 4) ((((Int32.ofInt 10) + ((Int32.ofInt 7) * v2)) + (Int32.ofInt 6)).toNatClampNeg) ((J (p 4) ((((Int32.ofInt 10) + ((Int32.ofInt 7) * v2)) + (Int32.ofInt 6)).toNatClampNeg)) + v5)) (p 4) 7 (((nt_u J (p 4) ((((Int32.ofInt 10) + ((Int32.ofInt 7) * v2)) + (Int32.ofInt 6)).toNatClampNeg) ((J (p 4) ((((Int32.ofInt 10) + ((Int32.ofInt 7) * v2)) + (Int32.ofInt 6)).toNatClampNeg)) + v5)) (p 4) 7) + v3)) (p 4) ((((Int32.ofInt 10) + ((Int32.ofInt 7) * v2)) + (Int32.ofInt 4)).toNatClampNeg) (Int32.ofInt 0)) (p 4) ((((Int32.ofInt 10) + ((Int32.ofInt 7) * v2)) + (Int32.ofInt 5)).toNatClampNeg) (Int32.ofInt (-1))) (p 4) ((((Int32.ofInt 172) + ((Int32.ofInt 5) * v1)) + (Int32.ofInt 4)).toNatClampNeg) (Int32.ofInt 2)) b = J b from (mu_o n0).trans ((mu_o n0).trans ((mu_o n0).trans ((mu_o n0).trans (mu_o n0)))))
  | succ c ih =>
    intro v5 v6 J n0
    rw [x191_31]
    by_cases h : (J (p 4) 2) ≤ v6
    · rw [if_pos h]
      all_goals first | (dsimp only; exact (show (nt_u (nt_u (nt_u (nt_u (nt_u J (p 4) ((((Int32.ofInt 10) + ((Int32.ofInt 7) * v2)) + (Int32.ofInt 6)).toNatClampNeg) ((J (p 4) ((((Int32.ofInt 10) + ((Int32.ofInt 7) * v2)) + (Int32.ofInt 6)).toNatClampNeg)) + v5)) (p 4) 7 (((nt_u J (p 4) ((((Int32.ofInt 10) + ((Int32.ofInt 7) * v2)) + (Int32.ofInt 6)).toNatClampNeg) ((J (p 4) ((((Int32.ofInt 10) + ((Int32.ofInt 7) * v2)) + (Int32.ofInt 6)).toNatClampNeg)) + v5)) (p 4) 7) + v3)) (p 4) ((((Int32.ofInt 10) + ((Int32.ofInt 7) * v2)) + (Int32.ofInt 4)).toNatClampNeg) (Int32.ofInt 0)) (p 4) ((((Int32.ofInt 10) + ((Int32.ofInt 7) * v2)) + (Int32.ofInt 5)).toNatClampNeg) (Int32.ofInt (-1))) (p 4) ((((Int32.ofInt 172) + ((Int32.ofInt 5) * v1)) + (Int32.ofInt 4)).toNatClampNeg) (Int32.ofInt 2)) b = J b from (mu_o n0).trans ((mu_o n0).trans ((mu_o n0).trans ((mu_o n0).trans (mu_o n0)))))) | exact (show (nt_u (nt_u (nt_u (nt_u (nt_u J (p 4) ((((Int32.ofInt 10) + ((Int32.ofInt 7) * v2)) + (Int32.ofInt 6)).toNatClampNeg) ((J (p 4) ((((Int32.ofInt 10) + ((Int32.ofInt 7) * v2)) + (Int32.ofInt 6)).toNatClampNeg)) + v5)) (p 4) 7 (((nt_u J (p 4) ((((Int32.ofInt 10) + ((Int32.ofInt 7) * v2)) + (Int32.ofInt 6)).toNatClampNeg) ((J (p 4) ((((Int32.ofInt 10) + ((Int32.ofInt 7) * v2)) + (Int32.ofInt 6)).toNatClampNeg)) + v5)) (p 4) 7) + v3)) (p 4) ((((Int32.ofInt 10) + ((Int32.ofInt 7) * v2)) + (Int32.ofInt 4)).toNatClampNeg) (Int32.ofInt 0)) (p 4) ((((Int32.ofInt 10) + ((Int32.ofInt 7) * v2)) + (Int32.ofInt 5)).toNatClampNeg) (Int32.ofInt (-1))) (p 4) ((((Int32.ofInt 172) + ((Int32.ofInt 5) * v1)) + (Int32.ofInt 4)).toNatClampNeg) (Int32.ofInt 2)) b = J b from (mu_o n0).trans ((mu_o n0).trans ((mu_o n0).trans ((mu_o n0).trans (mu_o n0)))))
    · rw [if_neg h]
      by_cases h : (x171 p v6 v2 J) = 0
      · rw [if_pos h]
        exact (ih _ _ _ n0).trans (rfl)
      · rw [if_neg h]
        exact (ih _ _ _ n0).trans (mu_o n0)
theorem x191_frJ {p : Nat → Nat} {v1 : Int32} {J : Nat → Nat → Int32} {b : Nat} (n0 : b ≠ p 4) : x191 p v1 J b = J b := by
  unfold x191
  exact (x191_31_frJ _ _ _ _ n0).trans (rfl)
theorem xi_vm {x : Int32} (hx : -1 ≤ x.toInt) (h2 : x.toInt ≤ 7) : ((Int32.ofInt 172 + Int32.ofInt 5 * x) + Int32.ofInt 4).toNatClampNeg = (176 + 5 * x.toInt).toNat := by
  have e1 : (Int32.ofInt 5 * x).toInt = 5 * x.toInt := by
    rw [Int32.toInt_mul, show (Int32.ofInt 5).toInt = 5 from by decide, Int.bmod_eq_of_le (by omega) (by omega)]
  have e2 : (Int32.ofInt 172 + Int32.ofInt 5 * x).toInt = 172 + 5 * x.toInt := by
    rw [Int32.toInt_add, e1, show (Int32.ofInt 172).toInt = 172 from by decide, Int.bmod_eq_of_le (by omega) (by omega)]
  show Int.toNat _ = _
  rw [Int32.toInt_add, e2, show (Int32.ofInt 4).toInt = 4 from by decide, Int.bmod_eq_of_le (by omega) (by omega)]
  omega
theorem xr_bm {x : Int} (hx : -1 ≤ x) (h2 : x ≤ 7) : xr_b (176 + 5 * x).toNat = (-2147483648, 2147483647) := by
  rcases (by omega : x = -1 ∨ x = 0 ∨ x = 1 ∨ x = 2 ∨ x = 3 ∨ x = 4 ∨ x = 5 ∨ x = 6 ∨ x = 7) with rfl | rfl | rfl | rfl | rfl | rfl | rfl | rfl | rfl <;> rfl
theorem xi_on {p : Nat → Nat} {J : Nat → Nat → Int32} {i : Int32} (hW : xr_W (J (p 4))) (hv : 0 ≤ i.toInt ∧ i.toInt ≤ 5) : -1 ≤ (x169 p i (Int32.ofInt 5) J).toInt ∧ (x169 p i (Int32.ofInt 5) J).toInt ≤ 7 := by
  unfold x169
  rw [xi_s5 hv.1 (by omega)]
  exact xr_on hW (by omega)
theorem xk_lose {J : Nat → Nat → Int32} {a : Nat} {i x : Int32} (hW : xr_W (J a)) (hv : 0 ≤ i.toInt ∧ i.toInt ≤ 5) (hx : -1 ≤ x.toInt ∧ x.toInt ≤ 7) : xr_W (nt_u (nt_u (nt_u J a (((Int32.ofInt 10 + Int32.ofInt 7 * i) + Int32.ofInt 4).toNatClampNeg) (Int32.ofInt 2)) a (((Int32.ofInt 10 + Int32.ofInt 7 * i) + Int32.ofInt 5).toNatClampNeg) (Int32.ofInt (-1))) a (((Int32.ofInt 172 + Int32.ofInt 5 * x) + Int32.ofInt 4).toNatClampNeg) (Int32.ofInt 3) a) := by
  refine xr_up (xr_up (xr_up hW (xr_any ?_)) ?_) (xr_any ?_)
  · rw [xi_s4 hv.1 (by omega)]
    exact xr_bs (by omega) (by omega) (by omega)
  · rw [xi_s5 hv.1 (by omega), xr_b5 (by omega)]
    decide
  · rw [xi_vm hx.1 hx.2]
    exact xr_bm hx.1 hx.2
/-! Model.rots -/
def x202_145 (p : Nat → Nat) (v1 : Int32) : Nat → Int32 → (Nat → Nat → Int32) → (Nat → Nat → Int32)
  | 0, v4, J => J
  | c + 1, v4, J => if (J (p 4) 2) ≤ v4 then J
    else if (x173 p v4 (Int32.ofInt 3) J) = v1 then (x202_145 p v1 c (v4 + (Int32.ofInt 1)) (nt_u J (p 4) ((((Int32.ofInt 52) + ((Int32.ofInt 5) * v4)) + (Int32.ofInt 4)).toNatClampNeg) (Int32.ofInt 1)))
      else (x202_145 p v1 c (v4 + (Int32.ofInt 1)) J)
theorem xt202_145 {X : nt_X} {d : Nat} {M : nt_M} {o : Option Value × nt_M} {p : Nat → Nat} {v1 : Int32} {v2 : Int32} {v3 : Int32} (hp : xs_P M p) (hv : 0 ≤ v1.toInt ∧ v1.toInt ≤ 5) : ∀ (c : Nat) (v4 : Int32) (J : Nat → Nat → Int32), (xr_W (J (p 4)) ∧ 0 ≤ v4.toInt ∧ (J (p 4) 2).toInt - v4.toInt ≤ c) → nt_rn X d 202 (145, [(0, .ref (p 0)), (1, .int v1), (2, .int v2), (3, .int v3), (4, .int v4)], [], me_w M J) o → o = (none, me_w M (x202_145 p v1 c v4 J)) := by
  intro c
  induction c with
  | zero =>
    intro v4 J hc k
    have k := ly_revb 2 (c' := (148, [(0, .ref (p 0)), (1, .int v1), (2, .int v2), (3, .int v3), (4, .int v4)], [.ref (p 0), .int v4], me_w M J)) rfl k
    have k := lz_get (a := (p 0)) (g := 1127) (M := me_w M J) (v := .ref (p 4)) rfl (nt_gfR rfl (hp.1 (0, 27, 4) (by decide))) k
    have k := ly_revb 1 (c' := (152, [(0, .ref (p 0)), (1, .int v1), (2, .int v2), (3, .int v3), (4, .int v4)], [.int (Int32.ofInt 2), .ref (p 4), .int v4], me_w M J)) rfl k
    have k := mx_iald (v := J (p 4) 2) rfl (hp.2.2.1 4 (by omega)) ((congrArg (J (p 4)) (show (Int32.ofInt 2).toNatClampNeg = 2 from rfl)).trans (rfl)) k
    have k := ly_revb 1 (c' := (if (J (p 4) 2) ≤ v4 then 188 else 156, [(0, .ref (p 0)), (1, .int v1), (2, .int v2), (3, .int v3), (4, .int v4)], [], me_w M J)) rfl k
    have h153 : (J (p 4) 2) ≤ v4 := lx_end hc.2.2
    rw [if_pos h153] at k
    have k := lz_rv rfl rfl k
    rw [k, x202_145]
  | succ c ih =>
    intro v4 J hc k
    have k := ly_revb 2 (c' := (148, [(0, .ref (p 0)), (1, .int v1), (2, .int v2), (3, .int v3), (4, .int v4)], [.ref (p 0), .int v4], me_w M J)) rfl k
    have k := lz_get (a := (p 0)) (g := 1127) (M := me_w M J) (v := .ref (p 4)) rfl (nt_gfR rfl (hp.1 (0, 27, 4) (by decide))) k
    have k := ly_revb 1 (c' := (152, [(0, .ref (p 0)), (1, .int v1), (2, .int v2), (3, .int v3), (4, .int v4)], [.int (Int32.ofInt 2), .ref (p 4), .int v4], me_w M J)) rfl k
    have k := mx_iald (v := J (p 4) 2) rfl (hp.2.2.1 4 (by omega)) ((congrArg (J (p 4)) (show (Int32.ofInt 2).toNatClampNeg = 2 from rfl)).trans (rfl)) k
    have k := ly_revb 1 (c' := (if (J (p 4) 2) ≤ v4 then 188 else 156, [(0, .ref (p 0)), (1, .int v1), (2, .int v2), (3, .int v3), (4, .int v4)], [], me_w M J)) rfl k
    by_cases h153 : (J (p 4) 2) ≤ v4
    · rw [if_pos h153] at k
      have k := lz_rv rfl rfl k
      rw [k, x202_145, if_pos h153]
    · rw [if_neg h153] at k
      have k := ly_revb 3 (c' := (160, [(0, .ref (p 0)), (1, .int v1), (2, .int v2), (3, .int v3), (4, .int v4)], [.int (Int32.ofInt 3), .int v4, .ref (p 0)], me_w M J)) rfl k
      obtain ⟨d1, o1, ed, kc, k⟩ := lz_c (g := 173) (q := 1) (vs := [.ref (p 0), .int v4, .int (Int32.ofInt 3)]) (rest := []) rfl rfl (by decide) (Or.inr (Or.inl ⟨_, rfl, rfl⟩)) rfl k
      have e1 := xt173 hp kc
      subst e1
      have k : nt_rn X _ 202 (163, [(0, .ref (p 0)), (1, .int v1), (2, .int v2), (3, .int v3), (4, .int v4)], [.int (x173 p v4 (Int32.ofInt 3) J)], me_w M J) _ := k
      have k := ly_revb 2 (c' := (if (x173 p v4 (Int32.ofInt 3) J) = v1 then 167 else 182, [(0, .ref (p 0)), (1, .int v1), (2, .int v2), (3, .int v3), (4, .int v4)], [], me_w M J)) rfl k
      by_cases h164 : (x173 p v4 (Int32.ofInt 3) J) = v1
      · rw [if_pos h164] at k
        have k := ly_revb 1 (c' := (168, [(0, .ref (p 0)), (1, .int v1), (2, .int v2), (3, .int v3), (4, .int v4)], [.ref (p 0)], me_w M J)) rfl k
        have k := lz_get (a := (p 0)) (g := 1127) (M := me_w M J) (v := .ref (p 4)) rfl (nt_gfR rfl (hp.1 (0, 27, 4) (by decide))) k
        have k := ly_revb 8 (c' := (181, [(0, .ref (p 0)), (1, .int v1), (2, .int v2), (3, .int v3), (4, .int v4)], [.int (Int32.ofInt 1), .int (((Int32.ofInt 52) + ((Int32.ofInt 5) * v4)) + (Int32.ofInt 4)), .ref (p 4)], me_w M J)) rfl k
        have k := mx_iast (q := (((Int32.ofInt 52) + ((Int32.ofInt 5) * v4)) + (Int32.ofInt 4)).toNatClampNeg) rfl rfl k
        have k : nt_rn X _ 202 (182, [(0, .ref (p 0)), (1, .int v1), (2, .int v2), (3, .int v3), (4, .int v4)], [], me_w M (nt_u J (p 4) ((((Int32.ofInt 52) + ((Int32.ofInt 5) * v4)) + (Int32.ofInt 4)).toNatClampNeg) (Int32.ofInt 1))) _ := k
        have k := ly_revb 2 (c' := (145, [(4, .int (v4 + (Int32.ofInt 1))), (0, .ref (p 0)), (1, .int v1), (2, .int v2), (3, .int v3)], [], me_w M (nt_u J (p 4) ((((Int32.ofInt 52) + ((Int32.ofInt 5) * v4)) + (Int32.ofInt 4)).toNatClampNeg) (Int32.ofInt 1)))) rfl k
        have k := nt_rn_w (a := [(4, .int (v4 + (Int32.ofInt 1))), (0, .ref (p 0)), (1, .int v1), (2, .int v2), (3, .int v3)]) (b := [(0, .ref (p 0)), (1, .int v1), (2, .int v2), (3, .int v3), (4, .int (v4 + (Int32.ofInt 1)))]) ⟨rfl, rfl, rfl, rfl, rfl, trivial⟩ rfl k
        have k := ih (v4 + (Int32.ofInt 1)) (nt_u J (p 4) ((((Int32.ofInt 52) + ((Int32.ofInt 5) * v4)) + (Int32.ofInt 4)).toNatClampNeg) (Int32.ofInt 1)) (by have l24 := xi_lt h153 (xr_2 hc.1).2; exact xk_decw hc.1 (by rw [xi_p4 hc.2.1 (by have := xi_lt h153 (xr_2 hc.1).2; omega)]; exact xr_bp (by have := hc.2.1; omega) (by omega) (by omega) (by omega)) (by omega) (by rw [xi_p4 hc.2.1 (by have := xi_lt h153 (xr_2 hc.1).2; omega)]; omega) h153 hc.2.1 hc.2.2) k
        rw [k, x202_145, if_neg h153, if_pos h164]
      · rw [if_neg h164] at k
        have k := ly_revb 2 (c' := (145, [(4, .int (v4 + (Int32.ofInt 1))), (0, .ref (p 0)), (1, .int v1), (2, .int v2), (3, .int v3)], [], me_w M J)) rfl k
        have k := nt_rn_w (a := [(4, .int (v4 + (Int32.ofInt 1))), (0, .ref (p 0)), (1, .int v1), (2, .int v2), (3, .int v3)]) (b := [(0, .ref (p 0)), (1, .int v1), (2, .int v2), (3, .int v3), (4, .int (v4 + (Int32.ofInt 1)))]) ⟨rfl, rfl, rfl, rfl, rfl, trivial⟩ rfl k
        have k := ih (v4 + (Int32.ofInt 1)) J (xk_dec hc.1 h153 hc.2.1 hc.2.2) k
        rw [k, x202_145, if_neg h153, if_neg h164]
theorem x202_145_rule {p : Nat → Nat} {v1 : Int32} {I : Nat → Int32 → (Nat → Nat → Int32) → Prop} {Q : (Nat → Nat → Int32) → Prop} (h0 : ∀ (v4 : Int32) (J : Nat → Nat → Int32), I 0 v4 J → Q J) (h1 : ∀ (c : Nat) (v4 : Int32) (J : Nat → Nat → Int32), I (c + 1) v4 J →
    if (J (p 4) 2) ≤ v4 then (Q J)
    else if (x173 p v4 (Int32.ofInt 3) J) = v1 then (I c (v4 + (Int32.ofInt 1)) (nt_u J (p 4) ((((Int32.ofInt 52) + ((Int32.ofInt 5) * v4)) + (Int32.ofInt 4)).toNatClampNeg) (Int32.ofInt 1)))
      else (I c (v4 + (Int32.ofInt 1)) J)) : ∀ (c : Nat) (v4 : Int32) (J : Nat → Nat → Int32), I c v4 J → Q (x202_145 p v1 c v4 J) := by
  intro c
  induction c with
  | zero =>
    intro v4 J hi
    rw [x202_145]
    exact h0 v4 J hi
  | succ c ih =>
    intro v4 J hi
    have hi := h1 c v4 J hi
    rw [x202_145]
    by_cases h : (J (p 4) 2) ≤ v4
    · rw [if_pos h] at hi ⊢
      exact hi
    · rw [if_neg h] at hi ⊢
      by_cases h : (x173 p v4 (Int32.ofInt 3) J) = v1
      · rw [if_pos h] at hi ⊢
        exact ih _ _ hi
      · rw [if_neg h] at hi ⊢
        exact ih _ _ hi
def x202_4 (p : Nat → Nat) (v1 : Int32) : Nat → Int32 → Int32 → (Nat → Nat → Int32) → (Nat → Nat → Int32)
  | 0, v2, v3, J => if v2 = 0 then J
    else if (x180 p (x169 p v1 (Int32.ofInt 5) J) (Int32.ofInt 2) J) = ((J (p 4) 4) + (Int32.ofInt 1)) then J
      else (x202_145 p v1 (((nt_u (nt_u (nt_u J (p 4) ((((Int32.ofInt 10) + ((Int32.ofInt 7) * v1)) + (Int32.ofInt 4)).toNatClampNeg) (Int32.ofInt 2)) (p 4) ((((Int32.ofInt 10) + ((Int32.ofInt 7) * v1)) + (Int32.ofInt 5)).toNatClampNeg) (Int32.ofInt (-1))) (p 4) ((((Int32.ofInt 172) + ((Int32.ofInt 5) * (x169 p v1 (Int32.ofInt 5) J))) + (Int32.ofInt 4)).toNatClampNeg) (Int32.ofInt 3)) (p 4) 2).toNatClampNeg) (Int32.ofInt 0) (nt_u (nt_u (nt_u J (p 4) ((((Int32.ofInt 10) + ((Int32.ofInt 7) * v1)) + (Int32.ofInt 4)).toNatClampNeg) (Int32.ofInt 2)) (p 4) ((((Int32.ofInt 10) + ((Int32.ofInt 7) * v1)) + (Int32.ofInt 5)).toNatClampNeg) (Int32.ofInt (-1))) (p 4) ((((Int32.ofInt 172) + ((Int32.ofInt 5) * (x169 p v1 (Int32.ofInt 5) J))) + (Int32.ofInt 4)).toNatClampNeg) (Int32.ofInt 3)))
  | c + 1, v2, v3, J => if (J (p 4) 2) ≤ v3 then if v2 = 0 then J
      else if (x180 p (x169 p v1 (Int32.ofInt 5) J) (Int32.ofInt 2) J) = ((J (p 4) 4) + (Int32.ofInt 1)) then J
        else (x202_145 p v1 (((nt_u (nt_u (nt_u J (p 4) ((((Int32.ofInt 10) + ((Int32.ofInt 7) * v1)) + (Int32.ofInt 4)).toNatClampNeg) (Int32.ofInt 2)) (p 4) ((((Int32.ofInt 10) + ((Int32.ofInt 7) * v1)) + (Int32.ofInt 5)).toNatClampNeg) (Int32.ofInt (-1))) (p 4) ((((Int32.ofInt 172) + ((Int32.ofInt 5) * (x169 p v1 (Int32.ofInt 5) J))) + (Int32.ofInt 4)).toNatClampNeg) (Int32.ofInt 3)) (p 4) 2).toNatClampNeg) (Int32.ofInt 0) (nt_u (nt_u (nt_u J (p 4) ((((Int32.ofInt 10) + ((Int32.ofInt 7) * v1)) + (Int32.ofInt 4)).toNatClampNeg) (Int32.ofInt 2)) (p 4) ((((Int32.ofInt 10) + ((Int32.ofInt 7) * v1)) + (Int32.ofInt 5)).toNatClampNeg) (Int32.ofInt (-1))) (p 4) ((((Int32.ofInt 172) + ((Int32.ofInt 5) * (x169 p v1 (Int32.ofInt 5) J))) + (Int32.ofInt 4)).toNatClampNeg) (Int32.ofInt 3)))
    else if (x171 p v3 v1 J) = 0 then (x202_4 p v1 c v2 (v3 + (Int32.ofInt 1)) J)
      else if v2 = 0 then if (x173 p v3 (Int32.ofInt 1) (nt_u J (p 4) ((((Int32.ofInt 52) + ((Int32.ofInt 5) * v3)) + (Int32.ofInt 1)).toNatClampNeg) ((J (p 4) ((((Int32.ofInt 52) + ((Int32.ofInt 5) * v3)) + (Int32.ofInt 1)).toNatClampNeg)) - (Int32.ofInt 1)))) = 0 then (x202_4 p v1 c (Int32.ofInt 1) (v3 + (Int32.ofInt 1)) (nt_u J (p 4) ((((Int32.ofInt 52) + ((Int32.ofInt 5) * v3)) + (Int32.ofInt 1)).toNatClampNeg) ((J (p 4) ((((Int32.ofInt 52) + ((Int32.ofInt 5) * v3)) + (Int32.ofInt 1)).toNatClampNeg)) - (Int32.ofInt 1))))
          else (x202_4 p v1 c (Int32.ofInt 0) (v3 + (Int32.ofInt 1)) (nt_u J (p 4) ((((Int32.ofInt 52) + ((Int32.ofInt 5) * v3)) + (Int32.ofInt 1)).toNatClampNeg) ((J (p 4) ((((Int32.ofInt 52) + ((Int32.ofInt 5) * v3)) + (Int32.ofInt 1)).toNatClampNeg)) - (Int32.ofInt 1))))
        else (x202_4 p v1 c (Int32.ofInt 1) (v3 + (Int32.ofInt 1)) (nt_u J (p 4) ((((Int32.ofInt 52) + ((Int32.ofInt 5) * v3)) + (Int32.ofInt 1)).toNatClampNeg) ((J (p 4) ((((Int32.ofInt 52) + ((Int32.ofInt 5) * v3)) + (Int32.ofInt 1)).toNatClampNeg)) - (Int32.ofInt 1))))
theorem xt202_4 {X : nt_X} {d : Nat} {M : nt_M} {o : Option Value × nt_M} {p : Nat → Nat} {v1 : Int32} (hp : xs_P M p) (hv : 0 ≤ v1.toInt ∧ v1.toInt ≤ 5) : ∀ (c : Nat) (v2 : Int32) (v3 : Int32) (J : Nat → Nat → Int32), (xr_W (J (p 4)) ∧ 0 ≤ v3.toInt ∧ (J (p 4) 2).toInt - v3.toInt ≤ c) → nt_rn X d 202 (4, [(0, .ref (p 0)), (1, .int v1), (2, .int v2), (3, .int v3)], [], me_w M J) o → o = (none, me_w M (x202_4 p v1 c v2 v3 J)) := by
  intro c
  induction c with
  | zero =>
    intro v2 v3 J hc k
    have k := ly_revb 2 (c' := (6, [(0, .ref (p 0)), (1, .int v1), (2, .int v2), (3, .int v3)], [.ref (p 0), .int v3], me_w M J)) rfl k
    have k := lz_get (a := (p 0)) (g := 1127) (M := me_w M J) (v := .ref (p 4)) rfl (nt_gfR rfl (hp.1 (0, 27, 4) (by decide))) k
    have k := ly_revb 1 (c' := (10, [(0, .ref (p 0)), (1, .int v1), (2, .int v2), (3, .int v3)], [.int (Int32.ofInt 2), .ref (p 4), .int v3], me_w M J)) rfl k
    have k := mx_iald (v := J (p 4) 2) rfl (hp.2.2.1 4 (by omega)) ((congrArg (J (p 4)) (show (Int32.ofInt 2).toNatClampNeg = 2 from rfl)).trans (rfl)) k
    have k := ly_revb 1 (c' := (if (J (p 4) 2) ≤ v3 then 68 else 14, [(0, .ref (p 0)), (1, .int v1), (2, .int v2), (3, .int v3)], [], me_w M J)) rfl k
    have h11 : (J (p 4) 2) ≤ v3 := lx_end hc.2.2
    rw [if_pos h11] at k
    have k := ly_revb 3 (c' := (71, [(0, .ref (p 0)), (1, .int v1), (2, .int v2), (3, .int v3)], [.int (Int32.ofInt 5), .int v1, .ref (p 0)], me_w M J)) rfl k
    obtain ⟨d1, o1, ed, kc, k⟩ := lz_c (g := 169) (q := 1) (vs := [.ref (p 0), .int v1, .int (Int32.ofInt 5)]) (rest := []) rfl rfl (by decide) (Or.inr (Or.inl ⟨_, rfl, rfl⟩)) rfl k
    have e1 := xt169 hp kc
    subst e1
    have k : nt_rn X _ 202 (74, [(0, .ref (p 0)), (1, .int v1), (2, .int v2), (3, .int v3)], [.int (x169 p v1 (Int32.ofInt 5) J)], me_w M J) _ := k
    have k := ly_revb 3 (c' := (if v2 = 0 then 96 else 79, [(3, .int (x169 p v1 (Int32.ofInt 5) J)), (0, .ref (p 0)), (1, .int v1), (2, .int v2)], [], me_w M J)) rfl k
    by_cases h76 : v2 = 0
    · rw [if_pos h76] at k
      have k := lz_rv rfl rfl k
      rw [k, x202_4, if_pos h76]
    · rw [if_neg h76] at k
      have k := ly_revb 3 (c' := (82, [(3, .int (x169 p v1 (Int32.ofInt 5) J)), (0, .ref (p 0)), (1, .int v1), (2, .int v2)], [.int (Int32.ofInt 2), .int (x169 p v1 (Int32.ofInt 5) J), .ref (p 0)], me_w M J)) rfl k
      obtain ⟨d1, o1, ed, kc, k⟩ := lz_c (g := 180) (q := 1) (vs := [.ref (p 0), .int (x169 p v1 (Int32.ofInt 5) J), .int (Int32.ofInt 2)]) (rest := []) rfl rfl (by decide) (Or.inr (Or.inl ⟨_, rfl, rfl⟩)) rfl k
      have e1 := xt180 hp kc
      subst e1
      have k : nt_rn X _ 202 (85, [(3, .int (x169 p v1 (Int32.ofInt 5) J)), (0, .ref (p 0)), (1, .int v1), (2, .int v2)], [.int (x180 p (x169 p v1 (Int32.ofInt 5) J) (Int32.ofInt 2) J)], me_w M J) _ := k
      have k := ly_revb 1 (c' := (86, [(3, .int (x169 p v1 (Int32.ofInt 5) J)), (0, .ref (p 0)), (1, .int v1), (2, .int v2)], [.ref (p 0), .int (x180 p (x169 p v1 (Int32.ofInt 5) J) (Int32.ofInt 2) J)], me_w M J)) rfl k
      have k := lz_get (a := (p 0)) (g := 1127) (M := me_w M J) (v := .ref (p 4)) rfl (nt_gfR rfl (hp.1 (0, 27, 4) (by decide))) k
      have k := ly_revb 1 (c' := (90, [(3, .int (x169 p v1 (Int32.ofInt 5) J)), (0, .ref (p 0)), (1, .int v1), (2, .int v2)], [.int (Int32.ofInt 4), .ref (p 4), .int (x180 p (x169 p v1 (Int32.ofInt 5) J) (Int32.ofInt 2) J)], me_w M J)) rfl k
      have k := mx_iald (v := J (p 4) 4) rfl (hp.2.2.1 4 (by omega)) ((congrArg (J (p 4)) (show (Int32.ofInt 4).toNatClampNeg = 4 from rfl)).trans (rfl)) k
      have k := ly_revb 3 (c' := (if (x180 p (x169 p v1 (Int32.ofInt 5) J) (Int32.ofInt 2) J) = ((J (p 4) 4) + (Int32.ofInt 1)) then 96 else 97, [(3, .int (x169 p v1 (Int32.ofInt 5) J)), (0, .ref (p 0)), (1, .int v1), (2, .int v2)], [], me_w M J)) rfl k
      by_cases h93 : (x180 p (x169 p v1 (Int32.ofInt 5) J) (Int32.ofInt 2) J) = ((J (p 4) 4) + (Int32.ofInt 1))
      · rw [if_pos h93] at k
        have k := lz_rv rfl rfl k
        rw [k, x202_4, if_neg h76, if_pos h93]
      · rw [if_neg h93] at k
        have k := ly_revb 1 (c' := (98, [(3, .int (x169 p v1 (Int32.ofInt 5) J)), (0, .ref (p 0)), (1, .int v1), (2, .int v2)], [.ref (p 0)], me_w M J)) rfl k
        have k := lz_get (a := (p 0)) (g := 1127) (M := me_w M J) (v := .ref (p 4)) rfl (nt_gfR rfl (hp.1 (0, 27, 4) (by decide))) k
        have k := ly_revb 8 (c' := (111, [(3, .int (x169 p v1 (Int32.ofInt 5) J)), (0, .ref (p 0)), (1, .int v1), (2, .int v2)], [.int (Int32.ofInt 2), .int (((Int32.ofInt 10) + ((Int32.ofInt 7) * v1)) + (Int32.ofInt 4)), .ref (p 4)], me_w M J)) rfl k
        have k := mx_iast (q := (((Int32.ofInt 10) + ((Int32.ofInt 7) * v1)) + (Int32.ofInt 4)).toNatClampNeg) rfl rfl k
        have k : nt_rn X _ 202 (112, [(3, .int (x169 p v1 (Int32.ofInt 5) J)), (0, .ref (p 0)), (1, .int v1), (2, .int v2)], [], me_w M (nt_u J (p 4) ((((Int32.ofInt 10) + ((Int32.ofInt 7) * v1)) + (Int32.ofInt 4)).toNatClampNeg) (Int32.ofInt 2))) _ := k
        have k := ly_revb 1 (c' := (113, [(3, .int (x169 p v1 (Int32.ofInt 5) J)), (0, .ref (p 0)), (1, .int v1), (2, .int v2)], [.ref (p 0)], me_w M (nt_u J (p 4) ((((Int32.ofInt 10) + ((Int32.ofInt 7) * v1)) + (Int32.ofInt 4)).toNatClampNeg) (Int32.ofInt 2)))) rfl k
        have k := lz_get (a := (p 0)) (g := 1127) (M := me_w M (nt_u J (p 4) ((((Int32.ofInt 10) + ((Int32.ofInt 7) * v1)) + (Int32.ofInt 4)).toNatClampNeg) (Int32.ofInt 2))) (v := .ref (p 4)) rfl (nt_gfR rfl (hp.1 (0, 27, 4) (by decide))) k
        have k := ly_revb 8 (c' := (126, [(3, .int (x169 p v1 (Int32.ofInt 5) J)), (0, .ref (p 0)), (1, .int v1), (2, .int v2)], [.int (Int32.ofInt (-1)), .int (((Int32.ofInt 10) + ((Int32.ofInt 7) * v1)) + (Int32.ofInt 5)), .ref (p 4)], me_w M (nt_u J (p 4) ((((Int32.ofInt 10) + ((Int32.ofInt 7) * v1)) + (Int32.ofInt 4)).toNatClampNeg) (Int32.ofInt 2)))) rfl k
        have k := mx_iast (q := (((Int32.ofInt 10) + ((Int32.ofInt 7) * v1)) + (Int32.ofInt 5)).toNatClampNeg) rfl rfl k
        have k : nt_rn X _ 202 (127, [(3, .int (x169 p v1 (Int32.ofInt 5) J)), (0, .ref (p 0)), (1, .int v1), (2, .int v2)], [], me_w M (nt_u (nt_u J (p 4) ((((Int32.ofInt 10) + ((Int32.ofInt 7) * v1)) + (Int32.ofInt 4)).toNatClampNeg) (Int32.ofInt 2)) (p 4) ((((Int32.ofInt 10) + ((Int32.ofInt 7) * v1)) + (Int32.ofInt 5)).toNatClampNeg) (Int32.ofInt (-1)))) _ := k
        have k := ly_revb 1 (c' := (128, [(3, .int (x169 p v1 (Int32.ofInt 5) J)), (0, .ref (p 0)), (1, .int v1), (2, .int v2)], [.ref (p 0)], me_w M (nt_u (nt_u J (p 4) ((((Int32.ofInt 10) + ((Int32.ofInt 7) * v1)) + (Int32.ofInt 4)).toNatClampNeg) (Int32.ofInt 2)) (p 4) ((((Int32.ofInt 10) + ((Int32.ofInt 7) * v1)) + (Int32.ofInt 5)).toNatClampNeg) (Int32.ofInt (-1))))) rfl k
        have k := lz_get (a := (p 0)) (g := 1127) (M := me_w M (nt_u (nt_u J (p 4) ((((Int32.ofInt 10) + ((Int32.ofInt 7) * v1)) + (Int32.ofInt 4)).toNatClampNeg) (Int32.ofInt 2)) (p 4) ((((Int32.ofInt 10) + ((Int32.ofInt 7) * v1)) + (Int32.ofInt 5)).toNatClampNeg) (Int32.ofInt (-1)))) (v := .ref (p 4)) rfl (nt_gfR rfl (hp.1 (0, 27, 4) (by decide))) k
        have k := ly_revb 8 (c' := (141, [(3, .int (x169 p v1 (Int32.ofInt 5) J)), (0, .ref (p 0)), (1, .int v1), (2, .int v2)], [.int (Int32.ofInt 3), .int (((Int32.ofInt 172) + ((Int32.ofInt 5) * (x169 p v1 (Int32.ofInt 5) J))) + (Int32.ofInt 4)), .ref (p 4)], me_w M (nt_u (nt_u J (p 4) ((((Int32.ofInt 10) + ((Int32.ofInt 7) * v1)) + (Int32.ofInt 4)).toNatClampNeg) (Int32.ofInt 2)) (p 4) ((((Int32.ofInt 10) + ((Int32.ofInt 7) * v1)) + (Int32.ofInt 5)).toNatClampNeg) (Int32.ofInt (-1))))) rfl k
        have k := mx_iast (q := (((Int32.ofInt 172) + ((Int32.ofInt 5) * (x169 p v1 (Int32.ofInt 5) J))) + (Int32.ofInt 4)).toNatClampNeg) rfl rfl k
        have k : nt_rn X _ 202 (142, [(3, .int (x169 p v1 (Int32.ofInt 5) J)), (0, .ref (p 0)), (1, .int v1), (2, .int v2)], [], me_w M (nt_u (nt_u (nt_u J (p 4) ((((Int32.ofInt 10) + ((Int32.ofInt 7) * v1)) + (Int32.ofInt 4)).toNatClampNeg) (Int32.ofInt 2)) (p 4) ((((Int32.ofInt 10) + ((Int32.ofInt 7) * v1)) + (Int32.ofInt 5)).toNatClampNeg) (Int32.ofInt (-1))) (p 4) ((((Int32.ofInt 172) + ((Int32.ofInt 5) * (x169 p v1 (Int32.ofInt 5) J))) + (Int32.ofInt 4)).toNatClampNeg) (Int32.ofInt 3))) _ := k
        have k := ly_revb 2 (c' := (145, [(4, .int (Int32.ofInt 0)), (3, .int (x169 p v1 (Int32.ofInt 5) J)), (0, .ref (p 0)), (1, .int v1), (2, .int v2)], [], me_w M (nt_u (nt_u (nt_u J (p 4) ((((Int32.ofInt 10) + ((Int32.ofInt 7) * v1)) + (Int32.ofInt 4)).toNatClampNeg) (Int32.ofInt 2)) (p 4) ((((Int32.ofInt 10) + ((Int32.ofInt 7) * v1)) + (Int32.ofInt 5)).toNatClampNeg) (Int32.ofInt (-1))) (p 4) ((((Int32.ofInt 172) + ((Int32.ofInt 5) * (x169 p v1 (Int32.ofInt 5) J))) + (Int32.ofInt 4)).toNatClampNeg) (Int32.ofInt 3)))) rfl k
        have k := nt_rn_w (a := [(4, .int (Int32.ofInt 0)), (3, .int (x169 p v1 (Int32.ofInt 5) J)), (0, .ref (p 0)), (1, .int v1), (2, .int v2)]) (b := [(0, .ref (p 0)), (1, .int v1), (2, .int v2), (3, .int (x169 p v1 (Int32.ofInt 5) J)), (4, .int (Int32.ofInt 0))]) ⟨rfl, rfl, rfl, rfl, rfl, trivial⟩ rfl k
        have k := xt202_145 hp hv  (((nt_u (nt_u (nt_u J (p 4) ((((Int32.ofInt 10) + ((Int32.ofInt 7) * v1)) + (Int32.ofInt 4)).toNatClampNeg) (Int32.ofInt 2)) (p 4) ((((Int32.ofInt 10) + ((Int32.ofInt 7) * v1)) + (Int32.ofInt 5)).toNatClampNeg) (Int32.ofInt (-1))) (p 4) ((((Int32.ofInt 172) + ((Int32.ofInt 5) * (x169 p v1 (Int32.ofInt 5) J))) + (Int32.ofInt 4)).toNatClampNeg) (Int32.ofInt 3)) (p 4) 2).toNatClampNeg) (Int32.ofInt 0) (nt_u (nt_u (nt_u J (p 4) ((((Int32.ofInt 10) + ((Int32.ofInt 7) * v1)) + (Int32.ofInt 4)).toNatClampNeg) (Int32.ofInt 2)) (p 4) ((((Int32.ofInt 10) + ((Int32.ofInt 7) * v1)) + (Int32.ofInt 5)).toNatClampNeg) (Int32.ofInt (-1))) (p 4) ((((Int32.ofInt 172) + ((Int32.ofInt 5) * (x169 p v1 (Int32.ofInt 5) J))) + (Int32.ofInt 4)).toNatClampNeg) (Int32.ofInt 3)) (⟨xk_lose hc.1 hv (xi_on hc.1 hv), by decide, lx_beg (by decide)⟩) k
        rw [k, x202_4, if_neg h76, if_neg h93]
  | succ c ih =>
    intro v2 v3 J hc k
    have k := ly_revb 2 (c' := (6, [(0, .ref (p 0)), (1, .int v1), (2, .int v2), (3, .int v3)], [.ref (p 0), .int v3], me_w M J)) rfl k
    have k := lz_get (a := (p 0)) (g := 1127) (M := me_w M J) (v := .ref (p 4)) rfl (nt_gfR rfl (hp.1 (0, 27, 4) (by decide))) k
    have k := ly_revb 1 (c' := (10, [(0, .ref (p 0)), (1, .int v1), (2, .int v2), (3, .int v3)], [.int (Int32.ofInt 2), .ref (p 4), .int v3], me_w M J)) rfl k
    have k := mx_iald (v := J (p 4) 2) rfl (hp.2.2.1 4 (by omega)) ((congrArg (J (p 4)) (show (Int32.ofInt 2).toNatClampNeg = 2 from rfl)).trans (rfl)) k
    have k := ly_revb 1 (c' := (if (J (p 4) 2) ≤ v3 then 68 else 14, [(0, .ref (p 0)), (1, .int v1), (2, .int v2), (3, .int v3)], [], me_w M J)) rfl k
    by_cases h11 : (J (p 4) 2) ≤ v3
    · rw [if_pos h11] at k
      have k := ly_revb 3 (c' := (71, [(0, .ref (p 0)), (1, .int v1), (2, .int v2), (3, .int v3)], [.int (Int32.ofInt 5), .int v1, .ref (p 0)], me_w M J)) rfl k
      obtain ⟨d1, o1, ed, kc, k⟩ := lz_c (g := 169) (q := 1) (vs := [.ref (p 0), .int v1, .int (Int32.ofInt 5)]) (rest := []) rfl rfl (by decide) (Or.inr (Or.inl ⟨_, rfl, rfl⟩)) rfl k
      have e1 := xt169 hp kc
      subst e1
      have k : nt_rn X _ 202 (74, [(0, .ref (p 0)), (1, .int v1), (2, .int v2), (3, .int v3)], [.int (x169 p v1 (Int32.ofInt 5) J)], me_w M J) _ := k
      have k := ly_revb 3 (c' := (if v2 = 0 then 96 else 79, [(3, .int (x169 p v1 (Int32.ofInt 5) J)), (0, .ref (p 0)), (1, .int v1), (2, .int v2)], [], me_w M J)) rfl k
      by_cases h76 : v2 = 0
      · rw [if_pos h76] at k
        have k := lz_rv rfl rfl k
        rw [k, x202_4, if_pos h11, if_pos h76]
      · rw [if_neg h76] at k
        have k := ly_revb 3 (c' := (82, [(3, .int (x169 p v1 (Int32.ofInt 5) J)), (0, .ref (p 0)), (1, .int v1), (2, .int v2)], [.int (Int32.ofInt 2), .int (x169 p v1 (Int32.ofInt 5) J), .ref (p 0)], me_w M J)) rfl k
        obtain ⟨d1, o1, ed, kc, k⟩ := lz_c (g := 180) (q := 1) (vs := [.ref (p 0), .int (x169 p v1 (Int32.ofInt 5) J), .int (Int32.ofInt 2)]) (rest := []) rfl rfl (by decide) (Or.inr (Or.inl ⟨_, rfl, rfl⟩)) rfl k
        have e1 := xt180 hp kc
        subst e1
        have k : nt_rn X _ 202 (85, [(3, .int (x169 p v1 (Int32.ofInt 5) J)), (0, .ref (p 0)), (1, .int v1), (2, .int v2)], [.int (x180 p (x169 p v1 (Int32.ofInt 5) J) (Int32.ofInt 2) J)], me_w M J) _ := k
        have k := ly_revb 1 (c' := (86, [(3, .int (x169 p v1 (Int32.ofInt 5) J)), (0, .ref (p 0)), (1, .int v1), (2, .int v2)], [.ref (p 0), .int (x180 p (x169 p v1 (Int32.ofInt 5) J) (Int32.ofInt 2) J)], me_w M J)) rfl k
        have k := lz_get (a := (p 0)) (g := 1127) (M := me_w M J) (v := .ref (p 4)) rfl (nt_gfR rfl (hp.1 (0, 27, 4) (by decide))) k
        have k := ly_revb 1 (c' := (90, [(3, .int (x169 p v1 (Int32.ofInt 5) J)), (0, .ref (p 0)), (1, .int v1), (2, .int v2)], [.int (Int32.ofInt 4), .ref (p 4), .int (x180 p (x169 p v1 (Int32.ofInt 5) J) (Int32.ofInt 2) J)], me_w M J)) rfl k
        have k := mx_iald (v := J (p 4) 4) rfl (hp.2.2.1 4 (by omega)) ((congrArg (J (p 4)) (show (Int32.ofInt 4).toNatClampNeg = 4 from rfl)).trans (rfl)) k
        have k := ly_revb 3 (c' := (if (x180 p (x169 p v1 (Int32.ofInt 5) J) (Int32.ofInt 2) J) = ((J (p 4) 4) + (Int32.ofInt 1)) then 96 else 97, [(3, .int (x169 p v1 (Int32.ofInt 5) J)), (0, .ref (p 0)), (1, .int v1), (2, .int v2)], [], me_w M J)) rfl k
        by_cases h93 : (x180 p (x169 p v1 (Int32.ofInt 5) J) (Int32.ofInt 2) J) = ((J (p 4) 4) + (Int32.ofInt 1))
        · rw [if_pos h93] at k
          have k := lz_rv rfl rfl k
          rw [k, x202_4, if_pos h11, if_neg h76, if_pos h93]
        · rw [if_neg h93] at k
          have k := ly_revb 1 (c' := (98, [(3, .int (x169 p v1 (Int32.ofInt 5) J)), (0, .ref (p 0)), (1, .int v1), (2, .int v2)], [.ref (p 0)], me_w M J)) rfl k
          have k := lz_get (a := (p 0)) (g := 1127) (M := me_w M J) (v := .ref (p 4)) rfl (nt_gfR rfl (hp.1 (0, 27, 4) (by decide))) k
          have k := ly_revb 8 (c' := (111, [(3, .int (x169 p v1 (Int32.ofInt 5) J)), (0, .ref (p 0)), (1, .int v1), (2, .int v2)], [.int (Int32.ofInt 2), .int (((Int32.ofInt 10) + ((Int32.ofInt 7) * v1)) + (Int32.ofInt 4)), .ref (p 4)], me_w M J)) rfl k
          have k := mx_iast (q := (((Int32.ofInt 10) + ((Int32.ofInt 7) * v1)) + (Int32.ofInt 4)).toNatClampNeg) rfl rfl k
          have k : nt_rn X _ 202 (112, [(3, .int (x169 p v1 (Int32.ofInt 5) J)), (0, .ref (p 0)), (1, .int v1), (2, .int v2)], [], me_w M (nt_u J (p 4) ((((Int32.ofInt 10) + ((Int32.ofInt 7) * v1)) + (Int32.ofInt 4)).toNatClampNeg) (Int32.ofInt 2))) _ := k
          have k := ly_revb 1 (c' := (113, [(3, .int (x169 p v1 (Int32.ofInt 5) J)), (0, .ref (p 0)), (1, .int v1), (2, .int v2)], [.ref (p 0)], me_w M (nt_u J (p 4) ((((Int32.ofInt 10) + ((Int32.ofInt 7) * v1)) + (Int32.ofInt 4)).toNatClampNeg) (Int32.ofInt 2)))) rfl k
          have k := lz_get (a := (p 0)) (g := 1127) (M := me_w M (nt_u J (p 4) ((((Int32.ofInt 10) + ((Int32.ofInt 7) * v1)) + (Int32.ofInt 4)).toNatClampNeg) (Int32.ofInt 2))) (v := .ref (p 4)) rfl (nt_gfR rfl (hp.1 (0, 27, 4) (by decide))) k
          have k := ly_revb 8 (c' := (126, [(3, .int (x169 p v1 (Int32.ofInt 5) J)), (0, .ref (p 0)), (1, .int v1), (2, .int v2)], [.int (Int32.ofInt (-1)), .int (((Int32.ofInt 10) + ((Int32.ofInt 7) * v1)) + (Int32.ofInt 5)), .ref (p 4)], me_w M (nt_u J (p 4) ((((Int32.ofInt 10) + ((Int32.ofInt 7) * v1)) + (Int32.ofInt 4)).toNatClampNeg) (Int32.ofInt 2)))) rfl k
          have k := mx_iast (q := (((Int32.ofInt 10) + ((Int32.ofInt 7) * v1)) + (Int32.ofInt 5)).toNatClampNeg) rfl rfl k
          have k : nt_rn X _ 202 (127, [(3, .int (x169 p v1 (Int32.ofInt 5) J)), (0, .ref (p 0)), (1, .int v1), (2, .int v2)], [], me_w M (nt_u (nt_u J (p 4) ((((Int32.ofInt 10) + ((Int32.ofInt 7) * v1)) + (Int32.ofInt 4)).toNatClampNeg) (Int32.ofInt 2)) (p 4) ((((Int32.ofInt 10) + ((Int32.ofInt 7) * v1)) + (Int32.ofInt 5)).toNatClampNeg) (Int32.ofInt (-1)))) _ := k
          have k := ly_revb 1 (c' := (128, [(3, .int (x169 p v1 (Int32.ofInt 5) J)), (0, .ref (p 0)), (1, .int v1), (2, .int v2)], [.ref (p 0)], me_w M (nt_u (nt_u J (p 4) ((((Int32.ofInt 10) + ((Int32.ofInt 7) * v1)) + (Int32.ofInt 4)).toNatClampNeg) (Int32.ofInt 2)) (p 4) ((((Int32.ofInt 10) + ((Int32.ofInt 7) * v1)) + (Int32.ofInt 5)).toNatClampNeg) (Int32.ofInt (-1))))) rfl k
          have k := lz_get (a := (p 0)) (g := 1127) (M := me_w M (nt_u (nt_u J (p 4) ((((Int32.ofInt 10) + ((Int32.ofInt 7) * v1)) + (Int32.ofInt 4)).toNatClampNeg) (Int32.ofInt 2)) (p 4) ((((Int32.ofInt 10) + ((Int32.ofInt 7) * v1)) + (Int32.ofInt 5)).toNatClampNeg) (Int32.ofInt (-1)))) (v := .ref (p 4)) rfl (nt_gfR rfl (hp.1 (0, 27, 4) (by decide))) k
          have k := ly_revb 8 (c' := (141, [(3, .int (x169 p v1 (Int32.ofInt 5) J)), (0, .ref (p 0)), (1, .int v1), (2, .int v2)], [.int (Int32.ofInt 3), .int (((Int32.ofInt 172) + ((Int32.ofInt 5) * (x169 p v1 (Int32.ofInt 5) J))) + (Int32.ofInt 4)), .ref (p 4)], me_w M (nt_u (nt_u J (p 4) ((((Int32.ofInt 10) + ((Int32.ofInt 7) * v1)) + (Int32.ofInt 4)).toNatClampNeg) (Int32.ofInt 2)) (p 4) ((((Int32.ofInt 10) + ((Int32.ofInt 7) * v1)) + (Int32.ofInt 5)).toNatClampNeg) (Int32.ofInt (-1))))) rfl k
          have k := mx_iast (q := (((Int32.ofInt 172) + ((Int32.ofInt 5) * (x169 p v1 (Int32.ofInt 5) J))) + (Int32.ofInt 4)).toNatClampNeg) rfl rfl k
          have k : nt_rn X _ 202 (142, [(3, .int (x169 p v1 (Int32.ofInt 5) J)), (0, .ref (p 0)), (1, .int v1), (2, .int v2)], [], me_w M (nt_u (nt_u (nt_u J (p 4) ((((Int32.ofInt 10) + ((Int32.ofInt 7) * v1)) + (Int32.ofInt 4)).toNatClampNeg) (Int32.ofInt 2)) (p 4) ((((Int32.ofInt 10) + ((Int32.ofInt 7) * v1)) + (Int32.ofInt 5)).toNatClampNeg) (Int32.ofInt (-1))) (p 4) ((((Int32.ofInt 172) + ((Int32.ofInt 5) * (x169 p v1 (Int32.ofInt 5) J))) + (Int32.ofInt 4)).toNatClampNeg) (Int32.ofInt 3))) _ := k
          have k := ly_revb 2 (c' := (145, [(4, .int (Int32.ofInt 0)), (3, .int (x169 p v1 (Int32.ofInt 5) J)), (0, .ref (p 0)), (1, .int v1), (2, .int v2)], [], me_w M (nt_u (nt_u (nt_u J (p 4) ((((Int32.ofInt 10) + ((Int32.ofInt 7) * v1)) + (Int32.ofInt 4)).toNatClampNeg) (Int32.ofInt 2)) (p 4) ((((Int32.ofInt 10) + ((Int32.ofInt 7) * v1)) + (Int32.ofInt 5)).toNatClampNeg) (Int32.ofInt (-1))) (p 4) ((((Int32.ofInt 172) + ((Int32.ofInt 5) * (x169 p v1 (Int32.ofInt 5) J))) + (Int32.ofInt 4)).toNatClampNeg) (Int32.ofInt 3)))) rfl k
          have k := nt_rn_w (a := [(4, .int (Int32.ofInt 0)), (3, .int (x169 p v1 (Int32.ofInt 5) J)), (0, .ref (p 0)), (1, .int v1), (2, .int v2)]) (b := [(0, .ref (p 0)), (1, .int v1), (2, .int v2), (3, .int (x169 p v1 (Int32.ofInt 5) J)), (4, .int (Int32.ofInt 0))]) ⟨rfl, rfl, rfl, rfl, rfl, trivial⟩ rfl k
          have k := xt202_145 hp hv  (((nt_u (nt_u (nt_u J (p 4) ((((Int32.ofInt 10) + ((Int32.ofInt 7) * v1)) + (Int32.ofInt 4)).toNatClampNeg) (Int32.ofInt 2)) (p 4) ((((Int32.ofInt 10) + ((Int32.ofInt 7) * v1)) + (Int32.ofInt 5)).toNatClampNeg) (Int32.ofInt (-1))) (p 4) ((((Int32.ofInt 172) + ((Int32.ofInt 5) * (x169 p v1 (Int32.ofInt 5) J))) + (Int32.ofInt 4)).toNatClampNeg) (Int32.ofInt 3)) (p 4) 2).toNatClampNeg) (Int32.ofInt 0) (nt_u (nt_u (nt_u J (p 4) ((((Int32.ofInt 10) + ((Int32.ofInt 7) * v1)) + (Int32.ofInt 4)).toNatClampNeg) (Int32.ofInt 2)) (p 4) ((((Int32.ofInt 10) + ((Int32.ofInt 7) * v1)) + (Int32.ofInt 5)).toNatClampNeg) (Int32.ofInt (-1))) (p 4) ((((Int32.ofInt 172) + ((Int32.ofInt 5) * (x169 p v1 (Int32.ofInt 5) J))) + (Int32.ofInt 4)).toNatClampNeg) (Int32.ofInt 3)) (⟨xk_lose hc.1 hv (xi_on hc.1 hv), by decide, lx_beg (by decide)⟩) k
          rw [k, x202_4, if_pos h11, if_neg h76, if_neg h93]
    · rw [if_neg h11] at k
      have k := ly_revb 3 (c' := (17, [(0, .ref (p 0)), (1, .int v1), (2, .int v2), (3, .int v3)], [.int v1, .int v3, .ref (p 0)], me_w M J)) rfl k
      obtain ⟨d1, o1, ed, kc, k⟩ := lz_c (g := 171) (q := 1) (vs := [.ref (p 0), .int v3, .int v1]) (rest := []) rfl rfl (by decide) (Or.inr (Or.inl ⟨_, rfl, rfl⟩)) rfl k
      have e1 := xt171 hp kc
      subst e1
      have k : nt_rn X _ 202 (20, [(0, .ref (p 0)), (1, .int v1), (2, .int v2), (3, .int v3)], [.int (x171 p v3 v1 J)], me_w M J) _ := k
      have k := ly_revb 1 (c' := (if (x171 p v3 v1 J) = 0 then 23 else 26, [(0, .ref (p 0)), (1, .int v1), (2, .int v2), (3, .int v3)], [], me_w M J)) rfl k
      by_cases h20 : (x171 p v3 v1 J) = 0
      · rw [if_pos h20] at k
        have k := ly_revb 3 (c' := (4, [(3, .int (v3 + (Int32.ofInt 1))), (0, .ref (p 0)), (1, .int v1), (2, .int v2)], [], me_w M J)) rfl k
        have k := nt_rn_w (a := [(3, .int (v3 + (Int32.ofInt 1))), (0, .ref (p 0)), (1, .int v1), (2, .int v2)]) (b := [(0, .ref (p 0)), (1, .int v1), (2, .int v2), (3, .int (v3 + (Int32.ofInt 1)))]) ⟨rfl, rfl, rfl, rfl, trivial⟩ rfl k
        have k := ih v2 (v3 + (Int32.ofInt 1)) J (xk_dec hc.1 h11 hc.2.1 hc.2.2) k
        rw [k, x202_4, if_neg h11, if_pos h20]
      · rw [if_neg h20] at k
        have k := ly_revb 1 (c' := (27, [(0, .ref (p 0)), (1, .int v1), (2, .int v2), (3, .int v3)], [.ref (p 0)], me_w M J)) rfl k
        have k := lz_get (a := (p 0)) (g := 1127) (M := me_w M J) (v := .ref (p 4)) rfl (nt_gfR rfl (hp.1 (0, 27, 4) (by decide))) k
        have k := ly_revb 8 (c' := (39, [(0, .ref (p 0)), (1, .int v1), (2, .int v2), (3, .int v3)], [.int (((Int32.ofInt 52) + ((Int32.ofInt 5) * v3)) + (Int32.ofInt 1)), .ref (p 4), .int (((Int32.ofInt 52) + ((Int32.ofInt 5) * v3)) + (Int32.ofInt 1)), .ref (p 4)], me_w M J)) rfl k
        have k := mx_iald (v := J (p 4) ((((Int32.ofInt 52) + ((Int32.ofInt 5) * v3)) + (Int32.ofInt 1)).toNatClampNeg)) rfl (hp.2.2.1 4 (by omega)) (rfl) k
        have k := ly_revb 2 (c' := (42, [(0, .ref (p 0)), (1, .int v1), (2, .int v2), (3, .int v3)], [.int ((J (p 4) ((((Int32.ofInt 52) + ((Int32.ofInt 5) * v3)) + (Int32.ofInt 1)).toNatClampNeg)) - (Int32.ofInt 1)), .int (((Int32.ofInt 52) + ((Int32.ofInt 5) * v3)) + (Int32.ofInt 1)), .ref (p 4)], me_w M J)) rfl k
        have k := mx_iast (q := (((Int32.ofInt 52) + ((Int32.ofInt 5) * v3)) + (Int32.ofInt 1)).toNatClampNeg) rfl rfl k
        have k : nt_rn X _ 202 (43, [(0, .ref (p 0)), (1, .int v1), (2, .int v2), (3, .int v3)], [], me_w M (nt_u J (p 4) ((((Int32.ofInt 52) + ((Int32.ofInt 5) * v3)) + (Int32.ofInt 1)).toNatClampNeg) ((J (p 4) ((((Int32.ofInt 52) + ((Int32.ofInt 5) * v3)) + (Int32.ofInt 1)).toNatClampNeg)) - (Int32.ofInt 1)))) _ := k
        have k := ly_revb 2 (c' := (if v2 = 0 then 47 else 56, [(0, .ref (p 0)), (1, .int v1), (2, .int v2), (3, .int v3)], [], me_w M (nt_u J (p 4) ((((Int32.ofInt 52) + ((Int32.ofInt 5) * v3)) + (Int32.ofInt 1)).toNatClampNeg) ((J (p 4) ((((Int32.ofInt 52) + ((Int32.ofInt 5) * v3)) + (Int32.ofInt 1)).toNatClampNeg)) - (Int32.ofInt 1))))) rfl k
        by_cases h44 : v2 = 0
        · rw [if_pos h44] at k
          have k := ly_revb 3 (c' := (50, [(0, .ref (p 0)), (1, .int v1), (2, .int v2), (3, .int v3)], [.int (Int32.ofInt 1), .int v3, .ref (p 0)], me_w M (nt_u J (p 4) ((((Int32.ofInt 52) + ((Int32.ofInt 5) * v3)) + (Int32.ofInt 1)).toNatClampNeg) ((J (p 4) ((((Int32.ofInt 52) + ((Int32.ofInt 5) * v3)) + (Int32.ofInt 1)).toNatClampNeg)) - (Int32.ofInt 1))))) rfl k
          obtain ⟨d1, o1, ed, kc, k⟩ := lz_c (g := 173) (q := 1) (vs := [.ref (p 0), .int v3, .int (Int32.ofInt 1)]) (rest := []) rfl rfl (by decide) (Or.inr (Or.inl ⟨_, rfl, rfl⟩)) rfl k
          have e1 := xt173 hp kc
          subst e1
          have k : nt_rn X _ 202 (53, [(0, .ref (p 0)), (1, .int v1), (2, .int v2), (3, .int v3)], [.int (x173 p v3 (Int32.ofInt 1) (nt_u J (p 4) ((((Int32.ofInt 52) + ((Int32.ofInt 5) * v3)) + (Int32.ofInt 1)).toNatClampNeg) ((J (p 4) ((((Int32.ofInt 52) + ((Int32.ofInt 5) * v3)) + (Int32.ofInt 1)).toNatClampNeg)) - (Int32.ofInt 1))))], me_w M (nt_u J (p 4) ((((Int32.ofInt 52) + ((Int32.ofInt 5) * v3)) + (Int32.ofInt 1)).toNatClampNeg) ((J (p 4) ((((Int32.ofInt 52) + ((Int32.ofInt 5) * v3)) + (Int32.ofInt 1)).toNatClampNeg)) - (Int32.ofInt 1)))) _ := k
          have k := ly_revb 1 (c' := (if (x173 p v3 (Int32.ofInt 1) (nt_u J (p 4) ((((Int32.ofInt 52) + ((Int32.ofInt 5) * v3)) + (Int32.ofInt 1)).toNatClampNeg) ((J (p 4) ((((Int32.ofInt 52) + ((Int32.ofInt 5) * v3)) + (Int32.ofInt 1)).toNatClampNeg)) - (Int32.ofInt 1)))) = 0 then 56 else 60, [(0, .ref (p 0)), (1, .int v1), (2, .int v2), (3, .int v3)], [], me_w M (nt_u J (p 4) ((((Int32.ofInt 52) + ((Int32.ofInt 5) * v3)) + (Int32.ofInt 1)).toNatClampNeg) ((J (p 4) ((((Int32.ofInt 52) + ((Int32.ofInt 5) * v3)) + (Int32.ofInt 1)).toNatClampNeg)) - (Int32.ofInt 1))))) rfl k
          by_cases h53 : (x173 p v3 (Int32.ofInt 1) (nt_u J (p 4) ((((Int32.ofInt 52) + ((Int32.ofInt 5) * v3)) + (Int32.ofInt 1)).toNatClampNeg) ((J (p 4) ((((Int32.ofInt 52) + ((Int32.ofInt 5) * v3)) + (Int32.ofInt 1)).toNatClampNeg)) - (Int32.ofInt 1)))) = 0
          · rw [if_pos h53] at k
            have k := ly_revb 5 (c' := (4, [(3, .int (v3 + (Int32.ofInt 1))), (2, .int (Int32.ofInt 1)), (0, .ref (p 0)), (1, .int v1)], [], me_w M (nt_u J (p 4) ((((Int32.ofInt 52) + ((Int32.ofInt 5) * v3)) + (Int32.ofInt 1)).toNatClampNeg) ((J (p 4) ((((Int32.ofInt 52) + ((Int32.ofInt 5) * v3)) + (Int32.ofInt 1)).toNatClampNeg)) - (Int32.ofInt 1))))) rfl k
            have k := nt_rn_w (a := [(3, .int (v3 + (Int32.ofInt 1))), (2, .int (Int32.ofInt 1)), (0, .ref (p 0)), (1, .int v1)]) (b := [(0, .ref (p 0)), (1, .int v1), (2, .int (Int32.ofInt 1)), (3, .int (v3 + (Int32.ofInt 1)))]) ⟨rfl, rfl, rfl, rfl, trivial⟩ rfl k
            have k := ih (Int32.ofInt 1) (v3 + (Int32.ofInt 1)) (nt_u J (p 4) ((((Int32.ofInt 52) + ((Int32.ofInt 5) * v3)) + (Int32.ofInt 1)).toNatClampNeg) ((J (p 4) ((((Int32.ofInt 52) + ((Int32.ofInt 5) * v3)) + (Int32.ofInt 1)).toNatClampNeg)) - (Int32.ofInt 1))) (by have l24 := xi_lt h11 (xr_2 hc.1).2; exact xk_decw hc.1 (by rw [xi_p1 hc.2.1 (by have := xi_lt h11 (xr_2 hc.1).2; omega)]; exact xr_bp (by have := hc.2.1; omega) (by omega) (by omega) (by omega)) (by omega) (by rw [xi_p1 hc.2.1 (by have := xi_lt h11 (xr_2 hc.1).2; omega)]; omega) h11 hc.2.1 hc.2.2) k
            rw [k, x202_4, if_neg h11, if_neg h20, if_pos h44, if_pos h53]
          · rw [if_neg h53] at k
            have k := ly_revb 4 (c' := (4, [(3, .int (v3 + (Int32.ofInt 1))), (2, .int (Int32.ofInt 0)), (0, .ref (p 0)), (1, .int v1)], [], me_w M (nt_u J (p 4) ((((Int32.ofInt 52) + ((Int32.ofInt 5) * v3)) + (Int32.ofInt 1)).toNatClampNeg) ((J (p 4) ((((Int32.ofInt 52) + ((Int32.ofInt 5) * v3)) + (Int32.ofInt 1)).toNatClampNeg)) - (Int32.ofInt 1))))) rfl k
            have k := nt_rn_w (a := [(3, .int (v3 + (Int32.ofInt 1))), (2, .int (Int32.ofInt 0)), (0, .ref (p 0)), (1, .int v1)]) (b := [(0, .ref (p 0)), (1, .int v1), (2, .int (Int32.ofInt 0)), (3, .int (v3 + (Int32.ofInt 1)))]) ⟨rfl, rfl, rfl, rfl, trivial⟩ rfl k
            have k := ih (Int32.ofInt 0) (v3 + (Int32.ofInt 1)) (nt_u J (p 4) ((((Int32.ofInt 52) + ((Int32.ofInt 5) * v3)) + (Int32.ofInt 1)).toNatClampNeg) ((J (p 4) ((((Int32.ofInt 52) + ((Int32.ofInt 5) * v3)) + (Int32.ofInt 1)).toNatClampNeg)) - (Int32.ofInt 1))) (by have l24 := xi_lt h11 (xr_2 hc.1).2; exact xk_decw hc.1 (by rw [xi_p1 hc.2.1 (by have := xi_lt h11 (xr_2 hc.1).2; omega)]; exact xr_bp (by have := hc.2.1; omega) (by omega) (by omega) (by omega)) (by omega) (by rw [xi_p1 hc.2.1 (by have := xi_lt h11 (xr_2 hc.1).2; omega)]; omega) h11 hc.2.1 hc.2.2) k
            rw [k, x202_4, if_neg h11, if_neg h20, if_pos h44, if_neg h53]
        · rw [if_neg h44] at k
          have k := ly_revb 5 (c' := (4, [(3, .int (v3 + (Int32.ofInt 1))), (2, .int (Int32.ofInt 1)), (0, .ref (p 0)), (1, .int v1)], [], me_w M (nt_u J (p 4) ((((Int32.ofInt 52) + ((Int32.ofInt 5) * v3)) + (Int32.ofInt 1)).toNatClampNeg) ((J (p 4) ((((Int32.ofInt 52) + ((Int32.ofInt 5) * v3)) + (Int32.ofInt 1)).toNatClampNeg)) - (Int32.ofInt 1))))) rfl k
          have k := nt_rn_w (a := [(3, .int (v3 + (Int32.ofInt 1))), (2, .int (Int32.ofInt 1)), (0, .ref (p 0)), (1, .int v1)]) (b := [(0, .ref (p 0)), (1, .int v1), (2, .int (Int32.ofInt 1)), (3, .int (v3 + (Int32.ofInt 1)))]) ⟨rfl, rfl, rfl, rfl, trivial⟩ rfl k
          have k := ih (Int32.ofInt 1) (v3 + (Int32.ofInt 1)) (nt_u J (p 4) ((((Int32.ofInt 52) + ((Int32.ofInt 5) * v3)) + (Int32.ofInt 1)).toNatClampNeg) ((J (p 4) ((((Int32.ofInt 52) + ((Int32.ofInt 5) * v3)) + (Int32.ofInt 1)).toNatClampNeg)) - (Int32.ofInt 1))) (by have l24 := xi_lt h11 (xr_2 hc.1).2; exact xk_decw hc.1 (by rw [xi_p1 hc.2.1 (by have := xi_lt h11 (xr_2 hc.1).2; omega)]; exact xr_bp (by have := hc.2.1; omega) (by omega) (by omega) (by omega)) (by omega) (by rw [xi_p1 hc.2.1 (by have := xi_lt h11 (xr_2 hc.1).2; omega)]; omega) h11 hc.2.1 hc.2.2) k
          rw [k, x202_4, if_neg h11, if_neg h20, if_neg h44]
theorem x202_4_rule {p : Nat → Nat} {v1 : Int32} {I : Nat → Int32 → Int32 → (Nat → Nat → Int32) → Prop} {Q : (Nat → Nat → Int32) → Prop} (h0 : ∀ (v2 : Int32) (v3 : Int32) (J : Nat → Nat → Int32), I 0 v2 v3 J → Q (if v2 = 0 then J
    else if (x180 p (x169 p v1 (Int32.ofInt 5) J) (Int32.ofInt 2) J) = ((J (p 4) 4) + (Int32.ofInt 1)) then J
      else (x202_145 p v1 (((nt_u (nt_u (nt_u J (p 4) ((((Int32.ofInt 10) + ((Int32.ofInt 7) * v1)) + (Int32.ofInt 4)).toNatClampNeg) (Int32.ofInt 2)) (p 4) ((((Int32.ofInt 10) + ((Int32.ofInt 7) * v1)) + (Int32.ofInt 5)).toNatClampNeg) (Int32.ofInt (-1))) (p 4) ((((Int32.ofInt 172) + ((Int32.ofInt 5) * (x169 p v1 (Int32.ofInt 5) J))) + (Int32.ofInt 4)).toNatClampNeg) (Int32.ofInt 3)) (p 4) 2).toNatClampNeg) (Int32.ofInt 0) (nt_u (nt_u (nt_u J (p 4) ((((Int32.ofInt 10) + ((Int32.ofInt 7) * v1)) + (Int32.ofInt 4)).toNatClampNeg) (Int32.ofInt 2)) (p 4) ((((Int32.ofInt 10) + ((Int32.ofInt 7) * v1)) + (Int32.ofInt 5)).toNatClampNeg) (Int32.ofInt (-1))) (p 4) ((((Int32.ofInt 172) + ((Int32.ofInt 5) * (x169 p v1 (Int32.ofInt 5) J))) + (Int32.ofInt 4)).toNatClampNeg) (Int32.ofInt 3))))) (h1 : ∀ (c : Nat) (v2 : Int32) (v3 : Int32) (J : Nat → Nat → Int32), I (c + 1) v2 v3 J →
    if (J (p 4) 2) ≤ v3 then if v2 = 0 then (Q J)
      else if (x180 p (x169 p v1 (Int32.ofInt 5) J) (Int32.ofInt 2) J) = ((J (p 4) 4) + (Int32.ofInt 1)) then (Q J)
        else (Q (x202_145 p v1 (((nt_u (nt_u (nt_u J (p 4) ((((Int32.ofInt 10) + ((Int32.ofInt 7) * v1)) + (Int32.ofInt 4)).toNatClampNeg) (Int32.ofInt 2)) (p 4) ((((Int32.ofInt 10) + ((Int32.ofInt 7) * v1)) + (Int32.ofInt 5)).toNatClampNeg) (Int32.ofInt (-1))) (p 4) ((((Int32.ofInt 172) + ((Int32.ofInt 5) * (x169 p v1 (Int32.ofInt 5) J))) + (Int32.ofInt 4)).toNatClampNeg) (Int32.ofInt 3)) (p 4) 2).toNatClampNeg) (Int32.ofInt 0) (nt_u (nt_u (nt_u J (p 4) ((((Int32.ofInt 10) + ((Int32.ofInt 7) * v1)) + (Int32.ofInt 4)).toNatClampNeg) (Int32.ofInt 2)) (p 4) ((((Int32.ofInt 10) + ((Int32.ofInt 7) * v1)) + (Int32.ofInt 5)).toNatClampNeg) (Int32.ofInt (-1))) (p 4) ((((Int32.ofInt 172) + ((Int32.ofInt 5) * (x169 p v1 (Int32.ofInt 5) J))) + (Int32.ofInt 4)).toNatClampNeg) (Int32.ofInt 3))))
    else if (x171 p v3 v1 J) = 0 then (I c v2 (v3 + (Int32.ofInt 1)) J)
      else if v2 = 0 then if (x173 p v3 (Int32.ofInt 1) (nt_u J (p 4) ((((Int32.ofInt 52) + ((Int32.ofInt 5) * v3)) + (Int32.ofInt 1)).toNatClampNeg) ((J (p 4) ((((Int32.ofInt 52) + ((Int32.ofInt 5) * v3)) + (Int32.ofInt 1)).toNatClampNeg)) - (Int32.ofInt 1)))) = 0 then (I c (Int32.ofInt 1) (v3 + (Int32.ofInt 1)) (nt_u J (p 4) ((((Int32.ofInt 52) + ((Int32.ofInt 5) * v3)) + (Int32.ofInt 1)).toNatClampNeg) ((J (p 4) ((((Int32.ofInt 52) + ((Int32.ofInt 5) * v3)) + (Int32.ofInt 1)).toNatClampNeg)) - (Int32.ofInt 1))))
          else (I c (Int32.ofInt 0) (v3 + (Int32.ofInt 1)) (nt_u J (p 4) ((((Int32.ofInt 52) + ((Int32.ofInt 5) * v3)) + (Int32.ofInt 1)).toNatClampNeg) ((J (p 4) ((((Int32.ofInt 52) + ((Int32.ofInt 5) * v3)) + (Int32.ofInt 1)).toNatClampNeg)) - (Int32.ofInt 1))))
        else (I c (Int32.ofInt 1) (v3 + (Int32.ofInt 1)) (nt_u J (p 4) ((((Int32.ofInt 52) + ((Int32.ofInt 5) * v3)) + (Int32.ofInt 1)).toNatClampNeg) ((J (p 4) ((((Int32.ofInt 52) + ((Int32.ofInt 5) * v3)) + (Int32.ofInt 1)).toNatClampNeg)) - (Int32.ofInt 1))))) : ∀ (c : Nat) (v2 : Int32) (v3 : Int32) (J : Nat → Nat → Int32), I c v2 v3 J → Q (x202_4 p v1 c v2 v3 J) := by
  intro c
  induction c with
  | zero =>
    intro v2 v3 J hi
    rw [x202_4]
    exact h0 v2 v3 J hi
  | succ c ih =>
    intro v2 v3 J hi
    have hi := h1 c v2 v3 J hi
    rw [x202_4]
    by_cases h : (J (p 4) 2) ≤ v3
    · rw [if_pos h] at hi ⊢
      by_cases h : v2 = 0
      · rw [if_pos h] at hi ⊢
        exact hi
      · rw [if_neg h] at hi ⊢
        by_cases h : (x180 p (x169 p v1 (Int32.ofInt 5) J) (Int32.ofInt 2) J) = ((J (p 4) 4) + (Int32.ofInt 1))
        · rw [if_pos h] at hi ⊢
          exact hi
        · rw [if_neg h] at hi ⊢
          exact hi
    · rw [if_neg h] at hi ⊢
      by_cases h : (x171 p v3 v1 J) = 0
      · rw [if_pos h] at hi ⊢
        exact ih _ _ _ hi
      · rw [if_neg h] at hi ⊢
        by_cases h : v2 = 0
        · rw [if_pos h] at hi ⊢
          by_cases h : (x173 p v3 (Int32.ofInt 1) (nt_u J (p 4) ((((Int32.ofInt 52) + ((Int32.ofInt 5) * v3)) + (Int32.ofInt 1)).toNatClampNeg) ((J (p 4) ((((Int32.ofInt 52) + ((Int32.ofInt 5) * v3)) + (Int32.ofInt 1)).toNatClampNeg)) - (Int32.ofInt 1)))) = 0
          · rw [if_pos h] at hi ⊢
            exact ih _ _ _ hi
          · rw [if_neg h] at hi ⊢
            exact ih _ _ _ hi
        · rw [if_neg h] at hi ⊢
          exact ih _ _ _ hi
def x202 (p : Nat → Nat) (v1 : Int32) (J : Nat → Nat → Int32) : (Nat → Nat → Int32) := (x202_4 p v1 ((J (p 4) 2).toNatClampNeg) (Int32.ofInt 0) (Int32.ofInt 0) J)
theorem xt202 {X : nt_X} {d : Nat} {M : nt_M} {o : Option Value × nt_M} {p : Nat → Nat} {v1 : Int32} {J : Nat → Nat → Int32} (hp : xs_P M p) (hw : xr_W (J (p 4))) (hv : 0 ≤ v1.toInt ∧ v1.toInt ≤ 5) (k : nt_ev X d 202 [.ref (p 0), .int v1] (me_w M J) o) : o = (none, me_w M (x202 p v1 J)) := by
  have k : nt_rn X d 202 (0, [(0, .ref (p 0)), (1, .int v1)], [], me_w M J) o := k
  have k := ly_revb 4 (c' := (4, [(3, .int (Int32.ofInt 0)), (2, .int (Int32.ofInt 0)), (0, .ref (p 0)), (1, .int v1)], [], me_w M J)) rfl k
  have k := nt_rn_w (a := [(3, .int (Int32.ofInt 0)), (2, .int (Int32.ofInt 0)), (0, .ref (p 0)), (1, .int v1)]) (b := [(0, .ref (p 0)), (1, .int v1), (2, .int (Int32.ofInt 0)), (3, .int (Int32.ofInt 0))]) ⟨rfl, rfl, rfl, rfl, trivial⟩ rfl k
  have k := xt202_4 hp hv  ((J (p 4) 2).toNatClampNeg) (Int32.ofInt 0) (Int32.ofInt 0) J (⟨hw, by decide, lx_beg (by decide)⟩) k
  rw [k, x202]
theorem x202_145_frJ {p : Nat → Nat} {v1 : Int32} {b : Nat} : ∀ (c : Nat) (v4 : Int32) (J : Nat → Nat → Int32), b ≠ p 4 → x202_145 p v1 c v4 J b = J b := by
  intro c
  induction c with
  | zero =>
    intro v4 J n0
    rw [x202_145]
    all_goals first | (dsimp only; exact (show J b = J b from rfl)) | exact (show J b = J b from rfl)
  | succ c ih =>
    intro v4 J n0
    rw [x202_145]
    by_cases h : (J (p 4) 2) ≤ v4
    · rw [if_pos h]
      all_goals first | (dsimp only; exact (show J b = J b from rfl)) | exact (show J b = J b from rfl)
    · rw [if_neg h]
      by_cases h : (x173 p v4 (Int32.ofInt 3) J) = v1
      · rw [if_pos h]
        exact (ih _ _ n0).trans (mu_o n0)
      · rw [if_neg h]
        exact (ih _ _ n0).trans (rfl)
theorem x202_4_frJ {p : Nat → Nat} {v1 : Int32} {b : Nat} : ∀ (c : Nat) (v2 : Int32) (v3 : Int32) (J : Nat → Nat → Int32), b ≠ p 4 → x202_4 p v1 c v2 v3 J b = J b := by
  intro c
  induction c with
  | zero =>
    intro v2 v3 J n0
    rw [x202_4]
    by_cases h : v2 = 0
    · rw [if_pos h]
      all_goals first | (dsimp only; exact (show J b = J b from rfl)) | exact (show J b = J b from rfl)
    · rw [if_neg h]
      by_cases h : (x180 p (x169 p v1 (Int32.ofInt 5) J) (Int32.ofInt 2) J) = ((J (p 4) 4) + (Int32.ofInt 1))
      · rw [if_pos h]
        all_goals first | (dsimp only; exact (show J b = J b from rfl)) | exact (show J b = J b from rfl)
      · rw [if_neg h]
        exact (x202_145_frJ _ _ _ n0).trans ((mu_o n0).trans ((mu_o n0).trans (mu_o n0)))
  | succ c ih =>
    intro v2 v3 J n0
    rw [x202_4]
    by_cases h : (J (p 4) 2) ≤ v3
    · rw [if_pos h]
      by_cases h : v2 = 0
      · rw [if_pos h]
        all_goals first | (dsimp only; exact (show J b = J b from rfl)) | exact (show J b = J b from rfl)
      · rw [if_neg h]
        by_cases h : (x180 p (x169 p v1 (Int32.ofInt 5) J) (Int32.ofInt 2) J) = ((J (p 4) 4) + (Int32.ofInt 1))
        · rw [if_pos h]
          all_goals first | (dsimp only; exact (show J b = J b from rfl)) | exact (show J b = J b from rfl)
        · rw [if_neg h]
          exact (x202_145_frJ _ _ _ n0).trans ((mu_o n0).trans ((mu_o n0).trans (mu_o n0)))
    · rw [if_neg h]
      by_cases h : (x171 p v3 v1 J) = 0
      · rw [if_pos h]
        exact (ih _ _ _ n0).trans (rfl)
      · rw [if_neg h]
        by_cases h : v2 = 0
        · rw [if_pos h]
          by_cases h : (x173 p v3 (Int32.ofInt 1) (nt_u J (p 4) ((((Int32.ofInt 52) + ((Int32.ofInt 5) * v3)) + (Int32.ofInt 1)).toNatClampNeg) ((J (p 4) ((((Int32.ofInt 52) + ((Int32.ofInt 5) * v3)) + (Int32.ofInt 1)).toNatClampNeg)) - (Int32.ofInt 1)))) = 0
          · rw [if_pos h]
            exact (ih _ _ _ n0).trans (mu_o n0)
          · rw [if_neg h]
            exact (ih _ _ _ n0).trans (mu_o n0)
        · rw [if_neg h]
          exact (ih _ _ _ n0).trans (mu_o n0)
theorem x202_frJ {p : Nat → Nat} {v1 : Int32} {J : Nat → Nat → Int32} {b : Nat} (n0 : b ≠ p 4) : x202 p v1 J b = J b := by
  unfold x202
  exact (x202_4_frJ _ _ _ _ n0).trans (rfl)
/-! Model.push -/
def x199 (p : Nat → Nat) (v1 : Int64) (J : Nat → Nat → Int32) (L : Nat → Nat → Int64) : (Nat → Nat → Int32) × (Nat → Nat → Int64) := (nt_u J (p 0) 25 ((J (p 0) 25) + (Int32.ofInt 1)), nt_u L (p 5) ((J (p 0) 25).toNatClampNeg) v1)
theorem xt199 {X : nt_X} {d : Nat} {M : nt_M} {o : Option Value × nt_M} {p : Nat → Nat} {v1 : Int64} {J : Nat → Nat → Int32} {L : Nat → Nat → Int64} (hp : xs_P M p) (k : nt_ev X d 199 [.ref (p 0), .long v1] (me_w (lw M L) J) o) : o = (none, me_w (lw M ((x199 p v1 J L).2)) ((x199 p v1 J L).1)) := by
  have k : nt_rn X d 199 (0, [(0, .ref (p 0)), (1, .long v1)], [], me_w (lw M L) J) o := k
  have k := ly_revb 1 (c' := (1, [(0, .ref (p 0)), (1, .long v1)], [.ref (p 0)], me_w (lw M L) J)) rfl k
  have k := lz_get (a := (p 0)) (g := 1124) (M := me_w (lw M L) J) (v := .ref (p 5)) rfl (nt_gfR rfl (hp.1 (0, 24, 5) (by decide))) k
  have k := ly_revb 1 (c' := (5, [(0, .ref (p 0)), (1, .long v1)], [.ref (p 0), .ref (p 5)], me_w (lw M L) J)) rfl k
  have k := lz_get (a := (p 0)) (g := 1125) (M := me_w (lw M L) J) (v := .int (J (p 0) 25)) rfl (congrArg Value.int (rfl)) k
  have k := ly_revb 1 (c' := (9, [(0, .ref (p 0)), (1, .long v1)], [.long v1, .int (J (p 0) 25), .ref (p 5)], me_w (lw M L) J)) rfl k
  have k := mx_last (q := (J (p 0) 25).toNatClampNeg) rfl rfl k
  have k : nt_rn X _ 199 (10, [(0, .ref (p 0)), (1, .long v1)], [], me_w (lw M (nt_u L (p 5) ((J (p 0) 25).toNatClampNeg) v1)) J) _ := k
  have k := ly_revb 2 (c' := (12, [(0, .ref (p 0)), (1, .long v1)], [.ref (p 0), .ref (p 0)], me_w (lw M (nt_u L (p 5) ((J (p 0) 25).toNatClampNeg) v1)) J)) rfl k
  have k := lz_get (a := (p 0)) (g := 1125) (M := me_w (lw M (nt_u L (p 5) ((J (p 0) 25).toNatClampNeg) v1)) J) (v := .int (J (p 0) 25)) rfl (congrArg Value.int (rfl)) k
  have k := ly_revb 2 (c' := (17, [(0, .ref (p 0)), (1, .long v1)], [.int ((J (p 0) 25) + (Int32.ofInt 1)), .ref (p 0)], me_w (lw M (nt_u L (p 5) ((J (p 0) 25).toNatClampNeg) v1)) J)) rfl k
  have k := me_put rfl (by decide) k
  have k : nt_rn X _ 199 (20, [(0, .ref (p 0)), (1, .long v1)], [], me_w (lw M (nt_u L (p 5) ((J (p 0) 25).toNatClampNeg) v1)) (nt_u J (p 0) 25 ((J (p 0) 25) + (Int32.ofInt 1)))) _ := k
  have k := lz_rv rfl rfl k
  rw [k, x199]
theorem x199_frJ {p : Nat → Nat} {v1 : Int64} {J : Nat → Nat → Int32} {L : Nat → Nat → Int64} {b : Nat} (n0 : b ≠ p 0) : (x199 p v1 J L).1 b = J b := by
  unfold x199
  all_goals first | (dsimp only; exact (show (nt_u J (p 0) 25 ((J (p 0) 25) + (Int32.ofInt 1))) b = J b from mu_o n0)) | exact (show (nt_u J (p 0) 25 ((J (p 0) 25) + (Int32.ofInt 1))) b = J b from mu_o n0)
/-! Model.pop -/
def x200 (p : Nat → Nat) (J : Nat → Nat → Int32) (L : Nat → Nat → Int64) : Int64 × (Nat → Nat → Int32) := (L (p 5) (((J (p 0) 25) - (Int32.ofInt 1)).toNatClampNeg), nt_u J (p 0) 25 ((J (p 0) 25) - (Int32.ofInt 1)))
theorem xt200 {X : nt_X} {d : Nat} {M : nt_M} {o : Option Value × nt_M} {p : Nat → Nat} {J : Nat → Nat → Int32} {L : Nat → Nat → Int64} (hp : xs_P M p) (k : nt_ev X d 200 [.ref (p 0)] (me_w (lw M L) J) o) : o = (some (.long ((x200 p J L).1)), me_w (lw M L) ((x200 p J L).2)) := by
  have k : nt_rn X d 200 (0, [(0, .ref (p 0))], [], me_w (lw M L) J) o := k
  have k := ly_revb 2 (c' := (2, [(0, .ref (p 0))], [.ref (p 0), .ref (p 0)], me_w (lw M L) J)) rfl k
  have k := lz_get (a := (p 0)) (g := 1125) (M := me_w (lw M L) J) (v := .int (J (p 0) 25)) rfl (congrArg Value.int (rfl)) k
  have k := ly_revb 2 (c' := (7, [(0, .ref (p 0))], [.int ((J (p 0) 25) - (Int32.ofInt 1)), .ref (p 0)], me_w (lw M L) J)) rfl k
  have k := me_put rfl (by decide) k
  have k : nt_rn X _ 200 (10, [(0, .ref (p 0))], [], me_w (lw M L) (nt_u J (p 0) 25 ((J (p 0) 25) - (Int32.ofInt 1)))) _ := k
  have k := ly_revb 1 (c' := (11, [(0, .ref (p 0))], [.ref (p 0)], me_w (lw M L) (nt_u J (p 0) 25 ((J (p 0) 25) - (Int32.ofInt 1))))) rfl k
  have k := lz_get (a := (p 0)) (g := 1124) (M := me_w (lw M L) (nt_u J (p 0) 25 ((J (p 0) 25) - (Int32.ofInt 1)))) (v := .ref (p 5)) rfl (nt_gfR rfl (hp.1 (0, 24, 5) (by decide))) k
  have k := ly_revb 1 (c' := (15, [(0, .ref (p 0))], [.ref (p 0), .ref (p 5)], me_w (lw M L) (nt_u J (p 0) 25 ((J (p 0) 25) - (Int32.ofInt 1))))) rfl k
  have k := lz_get (a := (p 0)) (g := 1125) (M := me_w (lw M L) (nt_u J (p 0) 25 ((J (p 0) 25) - (Int32.ofInt 1)))) (v := .int ((J (p 0) 25) - (Int32.ofInt 1))) rfl (congrArg Value.int (mu_s)) k
  have k := mx_lald (v := L (p 5) (((J (p 0) 25) - (Int32.ofInt 1)).toNatClampNeg)) rfl (rfl) k
  have k := mx_rl rfl rfl k
  rw [k, x200]
theorem x200_frJ {p : Nat → Nat} {J : Nat → Nat → Int32} {L : Nat → Nat → Int64} {b : Nat} (n0 : b ≠ p 0) : (x200 p J L).2 b = J b := by
  unfold x200
  all_goals first | (dsimp only; exact (show (nt_u J (p 0) 25 ((J (p 0) 25) - (Int32.ofInt 1))) b = J b from mu_o n0)) | exact (show (nt_u J (p 0) 25 ((J (p 0) 25) - (Int32.ofInt 1))) b = J b from mu_o n0)
/-! Model.one -/
def x201 (v0 : Int32) (v1 : Int64) (v3 : Int64) : Int64 := if v0.toInt < 2 ∨ 12 < v0.toInt then (v1 ||| v3)
  else if v0 = Int32.ofInt 2 then (v1 + v3)
    else if v0 = Int32.ofInt 3 then (v1 - v3)
      else if v0 = Int32.ofInt 4 then (v1 * v3)
        else if v0 = Int32.ofInt 5 then if (lg_cmp v3 (Int64.ofNat 0)) = 0 then (Int64.ofNat 0)
            else (v1 / v3)
          else if v0 = Int32.ofInt 6 then if 0 ≤ (lg_cmp v1 v3) then (Int64.ofNat 0)
              else (Int64.ofNat 1)
            else if v0 = Int32.ofInt 7 then if 0 < (lg_cmp v1 v3) then (Int64.ofNat 0)
                else (Int64.ofNat 1)
              else if v0 = Int32.ofInt 8 then if (lg_cmp v1 v3) = 0 then (Int64.ofNat 1)
                  else (Int64.ofNat 0)
                else if v0 = Int32.ofInt 9 then if (lg_cmp v1 v3) < 0 then (Int64.ofNat 0)
                    else (Int64.ofNat 1)
                  else if v0 = Int32.ofInt 10 then if (lg_cmp v1 v3) ≤ 0 then (Int64.ofNat 0)
                      else (Int64.ofNat 1)
                    else if v0 = Int32.ofInt 11 then (v1 ||| v3)
                      else (v1 &&& v3)
theorem xt201 {X : nt_X} {d : Nat} {M : nt_M} {o : Option Value × nt_M} {v0 : Int32} {v1 : Int64} {v3 : Int64} {J : Nat → Nat → Int32}  (k : nt_ev X d 201 [.int v0, .long v1, .long v3] (me_w M J) o) : o = (some (.long (x201 v0 v1 v3)), me_w M J) := by
  have k : nt_rn X d 201 (0, [(0, .int v0), (1, .long v1), (3, .long v3)], [], me_w M J) o := k
  have k := ly_revb 1 (c' := (1, [(0, .int v0), (1, .long v1), (3, .long v3)], [.int v0], me_w M J)) rfl k
  by_cases h1 : v0.toInt < 2 ∨ 12 < v0.toInt
  · have k := mx_tsd (q := 150) rfl h1 (by decide) k
    have k : nt_rn X _ 201 (150, [(0, .int v0), (1, .long v1), (3, .long v3)], [], me_w M J) _ := k
    have k := ly_revb 3 (c' := (153, [(0, .int v0), (1, .long v1), (3, .long v3)], [.long (v1 ||| v3)], me_w M J)) rfl k
    have k := mx_rl rfl rfl k
    rw [k, x201, if_pos h1]
  · by_cases h1_2 : v0 = Int32.ofInt 2
    · have k := mx_tsc (q := 60) (off := 59) rfl h1 (by rw [h1_2]; rfl) (by decide) k
      have k : nt_rn X _ 201 (60, [(0, .int v0), (1, .long v1), (3, .long v3)], [], me_w M J) _ := k
      have k := ly_revb 3 (c' := (63, [(0, .int v0), (1, .long v1), (3, .long v3)], [.long (v1 + v3)], me_w M J)) rfl k
      have k := mx_rl rfl rfl k
      rw [k, x201, if_neg h1, if_pos h1_2]
    · by_cases h1_3 : v0 = Int32.ofInt 3
      · have k := mx_tsc (q := 64) (off := 63) rfl h1 (by rw [h1_3]; rfl) (by decide) k
        have k : nt_rn X _ 201 (64, [(0, .int v0), (1, .long v1), (3, .long v3)], [], me_w M J) _ := k
        have k := ly_revb 3 (c' := (67, [(0, .int v0), (1, .long v1), (3, .long v3)], [.long (v1 - v3)], me_w M J)) rfl k
        have k := mx_rl rfl rfl k
        rw [k, x201, if_neg h1, if_neg h1_2, if_pos h1_3]
      · by_cases h1_4 : v0 = Int32.ofInt 4
        · have k := mx_tsc (q := 68) (off := 67) rfl h1 (by rw [h1_4]; rfl) (by decide) k
          have k : nt_rn X _ 201 (68, [(0, .int v0), (1, .long v1), (3, .long v3)], [], me_w M J) _ := k
          have k := ly_revb 3 (c' := (71, [(0, .int v0), (1, .long v1), (3, .long v3)], [.long (v1 * v3)], me_w M J)) rfl k
          have k := mx_rl rfl rfl k
          rw [k, x201, if_neg h1, if_neg h1_2, if_neg h1_3, if_pos h1_4]
        · by_cases h1_5 : v0 = Int32.ofInt 5
          · have k := mx_tsc (q := 72) (off := 71) rfl h1 (by rw [h1_5]; rfl) (by decide) k
            have k : nt_rn X _ 201 (72, [(0, .int v0), (1, .long v1), (3, .long v3)], [], me_w M J) _ := k
            have k := ly_revb 4 (c' := (if (lg_cmp v3 (Int64.ofNat 0)) = 0 then 78 else 82, [(0, .int v0), (1, .long v1), (3, .long v3)], [], me_w M J)) rfl k
            by_cases h75 : (lg_cmp v3 (Int64.ofNat 0)) = 0
            · rw [if_pos h75] at k
              have k := ly_revb 2 (c' := (85, [(0, .int v0), (1, .long v1), (3, .long v3)], [.long (Int64.ofNat 0)], me_w M J)) rfl k
              have k := mx_rl rfl rfl k
              rw [k, x201, if_neg h1, if_neg h1_2, if_neg h1_3, if_neg h1_4, if_pos h1_5, if_pos h75]
            · rw [if_neg h75] at k
              have k := ly_revb 2 (c' := (84, [(0, .int v0), (1, .long v1), (3, .long v3)], [.long v3, .long v1], me_w M J)) rfl k
              obtain ⟨hd84, k⟩ := mx_ldiv rfl k
              have k := mx_rl rfl rfl k
              rw [k, x201, if_neg h1, if_neg h1_2, if_neg h1_3, if_neg h1_4, if_pos h1_5, if_neg h75]
          · by_cases h1_6 : v0 = Int32.ofInt 6
            · have k := mx_tsc (q := 86) (off := 85) rfl h1 (by rw [h1_6]; rfl) (by decide) k
              have k : nt_rn X _ 201 (86, [(0, .int v0), (1, .long v1), (3, .long v3)], [], me_w M J) _ := k
              have k := ly_revb 4 (c' := (if 0 ≤ (lg_cmp v1 v3) then 96 else 92, [(0, .int v0), (1, .long v1), (3, .long v3)], [], me_w M J)) rfl k
              by_cases h89 : 0 ≤ (lg_cmp v1 v3)
              · rw [if_pos h89] at k
                have k := ly_revb 1 (c' := (97, [(0, .int v0), (1, .long v1), (3, .long v3)], [.long (Int64.ofNat 0)], me_w M J)) rfl k
                have k := mx_rl rfl rfl k
                rw [k, x201, if_neg h1, if_neg h1_2, if_neg h1_3, if_neg h1_4, if_neg h1_5, if_pos h1_6, if_pos h89]
              · rw [if_neg h89] at k
                have k := ly_revb 2 (c' := (97, [(0, .int v0), (1, .long v1), (3, .long v3)], [.long (Int64.ofNat 1)], me_w M J)) rfl k
                have k := mx_rl rfl rfl k
                rw [k, x201, if_neg h1, if_neg h1_2, if_neg h1_3, if_neg h1_4, if_neg h1_5, if_pos h1_6, if_neg h89]
            · by_cases h1_7 : v0 = Int32.ofInt 7
              · have k := mx_tsc (q := 98) (off := 97) rfl h1 (by rw [h1_7]; rfl) (by decide) k
                have k : nt_rn X _ 201 (98, [(0, .int v0), (1, .long v1), (3, .long v3)], [], me_w M J) _ := k
                have k := ly_revb 4 (c' := (if 0 < (lg_cmp v1 v3) then 108 else 104, [(0, .int v0), (1, .long v1), (3, .long v3)], [], me_w M J)) rfl k
                by_cases h101 : 0 < (lg_cmp v1 v3)
                · rw [if_pos h101] at k
                  have k := ly_revb 1 (c' := (109, [(0, .int v0), (1, .long v1), (3, .long v3)], [.long (Int64.ofNat 0)], me_w M J)) rfl k
                  have k := mx_rl rfl rfl k
                  rw [k, x201, if_neg h1, if_neg h1_2, if_neg h1_3, if_neg h1_4, if_neg h1_5, if_neg h1_6, if_pos h1_7, if_pos h101]
                · rw [if_neg h101] at k
                  have k := ly_revb 2 (c' := (109, [(0, .int v0), (1, .long v1), (3, .long v3)], [.long (Int64.ofNat 1)], me_w M J)) rfl k
                  have k := mx_rl rfl rfl k
                  rw [k, x201, if_neg h1, if_neg h1_2, if_neg h1_3, if_neg h1_4, if_neg h1_5, if_neg h1_6, if_pos h1_7, if_neg h101]
              · by_cases h1_8 : v0 = Int32.ofInt 8
                · have k := mx_tsc (q := 110) (off := 109) rfl h1 (by rw [h1_8]; rfl) (by decide) k
                  have k : nt_rn X _ 201 (110, [(0, .int v0), (1, .long v1), (3, .long v3)], [], me_w M J) _ := k
                  have k := ly_revb 4 (c' := (if (lg_cmp v1 v3) = 0 then 116 else 120, [(0, .int v0), (1, .long v1), (3, .long v3)], [], me_w M J)) rfl k
                  by_cases h113 : (lg_cmp v1 v3) = 0
                  · rw [if_pos h113] at k
                    have k := ly_revb 2 (c' := (121, [(0, .int v0), (1, .long v1), (3, .long v3)], [.long (Int64.ofNat 1)], me_w M J)) rfl k
                    have k := mx_rl rfl rfl k
                    rw [k, x201, if_neg h1, if_neg h1_2, if_neg h1_3, if_neg h1_4, if_neg h1_5, if_neg h1_6, if_neg h1_7, if_pos h1_8, if_pos h113]
                  · rw [if_neg h113] at k
                    have k := ly_revb 1 (c' := (121, [(0, .int v0), (1, .long v1), (3, .long v3)], [.long (Int64.ofNat 0)], me_w M J)) rfl k
                    have k := mx_rl rfl rfl k
                    rw [k, x201, if_neg h1, if_neg h1_2, if_neg h1_3, if_neg h1_4, if_neg h1_5, if_neg h1_6, if_neg h1_7, if_pos h1_8, if_neg h113]
                · by_cases h1_9 : v0 = Int32.ofInt 9
                  · have k := mx_tsc (q := 122) (off := 121) rfl h1 (by rw [h1_9]; rfl) (by decide) k
                    have k : nt_rn X _ 201 (122, [(0, .int v0), (1, .long v1), (3, .long v3)], [], me_w M J) _ := k
                    have k := ly_revb 4 (c' := (if (lg_cmp v1 v3) < 0 then 132 else 128, [(0, .int v0), (1, .long v1), (3, .long v3)], [], me_w M J)) rfl k
                    by_cases h125 : (lg_cmp v1 v3) < 0
                    · rw [if_pos h125] at k
                      have k := ly_revb 1 (c' := (133, [(0, .int v0), (1, .long v1), (3, .long v3)], [.long (Int64.ofNat 0)], me_w M J)) rfl k
                      have k := mx_rl rfl rfl k
                      rw [k, x201, if_neg h1, if_neg h1_2, if_neg h1_3, if_neg h1_4, if_neg h1_5, if_neg h1_6, if_neg h1_7, if_neg h1_8, if_pos h1_9, if_pos h125]
                    · rw [if_neg h125] at k
                      have k := ly_revb 2 (c' := (133, [(0, .int v0), (1, .long v1), (3, .long v3)], [.long (Int64.ofNat 1)], me_w M J)) rfl k
                      have k := mx_rl rfl rfl k
                      rw [k, x201, if_neg h1, if_neg h1_2, if_neg h1_3, if_neg h1_4, if_neg h1_5, if_neg h1_6, if_neg h1_7, if_neg h1_8, if_pos h1_9, if_neg h125]
                  · by_cases h1_10 : v0 = Int32.ofInt 10
                    · have k := mx_tsc (q := 134) (off := 133) rfl h1 (by rw [h1_10]; rfl) (by decide) k
                      have k : nt_rn X _ 201 (134, [(0, .int v0), (1, .long v1), (3, .long v3)], [], me_w M J) _ := k
                      have k := ly_revb 4 (c' := (if (lg_cmp v1 v3) ≤ 0 then 144 else 140, [(0, .int v0), (1, .long v1), (3, .long v3)], [], me_w M J)) rfl k
                      by_cases h137 : (lg_cmp v1 v3) ≤ 0
                      · rw [if_pos h137] at k
                        have k := ly_revb 1 (c' := (145, [(0, .int v0), (1, .long v1), (3, .long v3)], [.long (Int64.ofNat 0)], me_w M J)) rfl k
                        have k := mx_rl rfl rfl k
                        rw [k, x201, if_neg h1, if_neg h1_2, if_neg h1_3, if_neg h1_4, if_neg h1_5, if_neg h1_6, if_neg h1_7, if_neg h1_8, if_neg h1_9, if_pos h1_10, if_pos h137]
                      · rw [if_neg h137] at k
                        have k := ly_revb 2 (c' := (145, [(0, .int v0), (1, .long v1), (3, .long v3)], [.long (Int64.ofNat 1)], me_w M J)) rfl k
                        have k := mx_rl rfl rfl k
                        rw [k, x201, if_neg h1, if_neg h1_2, if_neg h1_3, if_neg h1_4, if_neg h1_5, if_neg h1_6, if_neg h1_7, if_neg h1_8, if_neg h1_9, if_pos h1_10, if_neg h137]
                    · by_cases h1_11 : v0 = Int32.ofInt 11
                      · have k := mx_tsc (q := 150) (off := 149) rfl h1 (by rw [h1_11]; rfl) (by decide) k
                        have k : nt_rn X _ 201 (150, [(0, .int v0), (1, .long v1), (3, .long v3)], [], me_w M J) _ := k
                        have k := ly_revb 3 (c' := (153, [(0, .int v0), (1, .long v1), (3, .long v3)], [.long (v1 ||| v3)], me_w M J)) rfl k
                        have k := mx_rl rfl rfl k
                        rw [k, x201, if_neg h1, if_neg h1_2, if_neg h1_3, if_neg h1_4, if_neg h1_5, if_neg h1_6, if_neg h1_7, if_neg h1_8, if_neg h1_9, if_neg h1_10, if_pos h1_11]
                      · have hz : v0 = Int32.ofInt 12 := by
                          have z1 := h1
                          have y0 : v0.toInt ≠ 2 := fun e => h1_2 (Int32.toInt_inj.mp (e.trans (by decide)))
                          have y1 : v0.toInt ≠ 3 := fun e => h1_3 (Int32.toInt_inj.mp (e.trans (by decide)))
                          have y2 : v0.toInt ≠ 4 := fun e => h1_4 (Int32.toInt_inj.mp (e.trans (by decide)))
                          have y3 : v0.toInt ≠ 5 := fun e => h1_5 (Int32.toInt_inj.mp (e.trans (by decide)))
                          have y4 : v0.toInt ≠ 6 := fun e => h1_6 (Int32.toInt_inj.mp (e.trans (by decide)))
                          have y5 : v0.toInt ≠ 7 := fun e => h1_7 (Int32.toInt_inj.mp (e.trans (by decide)))
                          have y6 : v0.toInt ≠ 8 := fun e => h1_8 (Int32.toInt_inj.mp (e.trans (by decide)))
                          have y7 : v0.toInt ≠ 9 := fun e => h1_9 (Int32.toInt_inj.mp (e.trans (by decide)))
                          have y8 : v0.toInt ≠ 10 := fun e => h1_10 (Int32.toInt_inj.mp (e.trans (by decide)))
                          have y9 : v0.toInt ≠ 11 := fun e => h1_11 (Int32.toInt_inj.mp (e.trans (by decide)))
                          exact Int32.toInt_inj.mp ((show v0.toInt = 12 by omega).trans (by decide))
                        have k := mx_tsc (q := 146) (off := 145) rfl h1 (by rw [hz]; rfl) (by decide) k
                        have k : nt_rn X _ 201 (146, [(0, .int v0), (1, .long v1), (3, .long v3)], [], me_w M J) _ := k
                        have k := ly_revb 3 (c' := (149, [(0, .int v0), (1, .long v1), (3, .long v3)], [.long (v1 &&& v3)], me_w M J)) rfl k
                        have k := mx_rl rfl rfl k
                        rw [k, x201, if_neg h1, if_neg h1_2, if_neg h1_3, if_neg h1_4, if_neg h1_5, if_neg h1_6, if_neg h1_7, if_neg h1_8, if_neg h1_9, if_neg h1_10, if_neg h1_11]
/-! Model.words -/
def x196 (p : Nat → Nat) (v1 : Int32) (v2 : Int32) (v3 : Int32) (J : Nat → Nat → Int32) (L : Nat → Nat → Int64) : (Nat → Nat → Int64) := if 0 ≤ (x173 p v1 (Int32.ofInt 3) J) then if (x173 p v1 (Int32.ofInt 2) J) = v2 then (nt_u (nt_u (nt_u (nt_u (nt_u (nt_u (nt_u (nt_u (nt_u (nt_u L (p 6) 0 v1.toInt64) (p 6) 1 ((x173 p v1 (Int32.ofInt 0) J).toInt64)) (p 6) 2 ((x173 p v1 (Int32.ofInt 1) J).toInt64)) (p 6) 3 ((x173 p v1 (Int32.ofInt 2) J).toInt64)) (p 6) 4 v2.toInt64) (p 6) 5 ((x173 p v1 (Int32.ofInt 3) J).toInt64)) (p 6) 6 (Int64.ofNat 1)) (p 6) 7 ((J (p 4) 4).toInt64)) (p 6) 8 ((J (p 4) 6).toInt64)) (p 6) 9 (((x180 p v3 (Int32.ofInt 2) J) - (x180 p v3 (Int32.ofInt 1) J)).toInt64))
    else (nt_u (nt_u (nt_u (nt_u (nt_u (nt_u (nt_u (nt_u (nt_u (nt_u L (p 6) 0 v1.toInt64) (p 6) 1 ((x173 p v1 (Int32.ofInt 0) J).toInt64)) (p 6) 2 ((x173 p v1 (Int32.ofInt 1) J).toInt64)) (p 6) 3 ((x173 p v1 (Int32.ofInt 2) J).toInt64)) (p 6) 4 v2.toInt64) (p 6) 5 ((x173 p v1 (Int32.ofInt 3) J).toInt64)) (p 6) 6 (Int64.ofNat 0)) (p 6) 7 ((J (p 4) 4).toInt64)) (p 6) 8 ((J (p 4) 6).toInt64)) (p 6) 9 (((x180 p v3 (Int32.ofInt 2) J) - (x180 p v3 (Int32.ofInt 1) J)).toInt64))
  else if (x173 p v1 (Int32.ofInt 2) J) = v2 then (nt_u (nt_u (nt_u (nt_u (nt_u (nt_u (nt_u (nt_u (nt_u (nt_u L (p 6) 0 v1.toInt64) (p 6) 1 ((x173 p v1 (Int32.ofInt 0) J).toInt64)) (p 6) 2 ((x173 p v1 (Int32.ofInt 1) J).toInt64)) (p 6) 3 ((x173 p v1 (Int32.ofInt 2) J).toInt64)) (p 6) 4 v2.toInt64) (p 6) 5 99) (p 6) 6 (Int64.ofNat 1)) (p 6) 7 ((J (p 4) 4).toInt64)) (p 6) 8 ((J (p 4) 6).toInt64)) (p 6) 9 (((x180 p v3 (Int32.ofInt 2) J) - (x180 p v3 (Int32.ofInt 1) J)).toInt64))
    else (nt_u (nt_u (nt_u (nt_u (nt_u (nt_u (nt_u (nt_u (nt_u (nt_u L (p 6) 0 v1.toInt64) (p 6) 1 ((x173 p v1 (Int32.ofInt 0) J).toInt64)) (p 6) 2 ((x173 p v1 (Int32.ofInt 1) J).toInt64)) (p 6) 3 ((x173 p v1 (Int32.ofInt 2) J).toInt64)) (p 6) 4 v2.toInt64) (p 6) 5 99) (p 6) 6 (Int64.ofNat 0)) (p 6) 7 ((J (p 4) 4).toInt64)) (p 6) 8 ((J (p 4) 6).toInt64)) (p 6) 9 (((x180 p v3 (Int32.ofInt 2) J) - (x180 p v3 (Int32.ofInt 1) J)).toInt64))
theorem xt196 {X : nt_X} {d : Nat} {M : nt_M} {o : Option Value × nt_M} {p : Nat → Nat} {v1 : Int32} {v2 : Int32} {v3 : Int32} {J : Nat → Nat → Int32} {L : Nat → Nat → Int64} (hp : xs_P M p) (k : nt_ev X d 196 [.ref (p 0), .int v1, .int v2, .int v3] (me_w (lw M L) J) o) : o = (none, me_w (lw M (x196 p v1 v2 v3 J L)) J) := by
  have k : nt_rn X d 196 (0, [(0, .ref (p 0)), (1, .int v1), (2, .int v2), (3, .int v3)], [], me_w (lw M L) J) o := k
  have k := ly_revb 1 (c' := (1, [(0, .ref (p 0)), (1, .int v1), (2, .int v2), (3, .int v3)], [.ref (p 0)], me_w (lw M L) J)) rfl k
  have k := lz_get (a := (p 0)) (g := 1126) (M := me_w (lw M L) J) (v := .ref (p 6)) rfl (nt_gfR rfl (hp.1 (0, 26, 6) (by decide))) k
  have k := ly_revb 3 (c' := (7, [(0, .ref (p 0)), (1, .int v1), (2, .int v2), (3, .int v3)], [.long v1.toInt64, .int (Int32.ofInt 0), .ref (p 6)], me_w (lw M L) J)) rfl k
  have k := mx_last (q := 0) rfl (show (Int32.ofInt 0).toNatClampNeg = 0 from rfl) k
  have k : nt_rn X _ 196 (8, [(0, .ref (p 0)), (1, .int v1), (2, .int v2), (3, .int v3)], [], me_w (lw M (nt_u L (p 6) 0 v1.toInt64)) J) _ := k
  have k := ly_revb 1 (c' := (9, [(0, .ref (p 0)), (1, .int v1), (2, .int v2), (3, .int v3)], [.ref (p 0)], me_w (lw M (nt_u L (p 6) 0 v1.toInt64)) J)) rfl k
  have k := lz_get (a := (p 0)) (g := 1126) (M := me_w (lw M (nt_u L (p 6) 0 v1.toInt64)) J) (v := .ref (p 6)) rfl (nt_gfR rfl (hp.1 (0, 26, 6) (by decide))) k
  have k := ly_revb 4 (c' := (16, [(0, .ref (p 0)), (1, .int v1), (2, .int v2), (3, .int v3)], [.int (Int32.ofInt 0), .int v1, .ref (p 0), .int (Int32.ofInt 1), .ref (p 6)], me_w (lw M (nt_u L (p 6) 0 v1.toInt64)) J)) rfl k
  obtain ⟨d1, o1, ed, kc, k⟩ := lz_c (g := 173) (q := 1) (vs := [.ref (p 0), .int v1, .int (Int32.ofInt 0)]) (rest := [.int (Int32.ofInt 1), .ref (p 6)]) rfl rfl (by decide) (Or.inr (Or.inl ⟨_, rfl, rfl⟩)) rfl k
  have e1 := xt173 (xs_lp hp) kc
  subst e1
  have k : nt_rn X _ 196 (19, [(0, .ref (p 0)), (1, .int v1), (2, .int v2), (3, .int v3)], [.int (x173 p v1 (Int32.ofInt 0) J), .int (Int32.ofInt 1), .ref (p 6)], me_w (lw M (nt_u L (p 6) 0 v1.toInt64)) J) _ := k
  have k := ly_revb 1 (c' := (20, [(0, .ref (p 0)), (1, .int v1), (2, .int v2), (3, .int v3)], [.long ((x173 p v1 (Int32.ofInt 0) J).toInt64), .int (Int32.ofInt 1), .ref (p 6)], me_w (lw M (nt_u L (p 6) 0 v1.toInt64)) J)) rfl k
  have k := mx_last (q := 1) rfl (show (Int32.ofInt 1).toNatClampNeg = 1 from rfl) k
  have k : nt_rn X _ 196 (21, [(0, .ref (p 0)), (1, .int v1), (2, .int v2), (3, .int v3)], [], me_w (lw M (nt_u (nt_u L (p 6) 0 v1.toInt64) (p 6) 1 ((x173 p v1 (Int32.ofInt 0) J).toInt64))) J) _ := k
  have k := ly_revb 1 (c' := (22, [(0, .ref (p 0)), (1, .int v1), (2, .int v2), (3, .int v3)], [.ref (p 0)], me_w (lw M (nt_u (nt_u L (p 6) 0 v1.toInt64) (p 6) 1 ((x173 p v1 (Int32.ofInt 0) J).toInt64))) J)) rfl k
  have k := lz_get (a := (p 0)) (g := 1126) (M := me_w (lw M (nt_u (nt_u L (p 6) 0 v1.toInt64) (p 6) 1 ((x173 p v1 (Int32.ofInt 0) J).toInt64))) J) (v := .ref (p 6)) rfl (nt_gfR rfl (hp.1 (0, 26, 6) (by decide))) k
  have k := ly_revb 4 (c' := (29, [(0, .ref (p 0)), (1, .int v1), (2, .int v2), (3, .int v3)], [.int (Int32.ofInt 1), .int v1, .ref (p 0), .int (Int32.ofInt 2), .ref (p 6)], me_w (lw M (nt_u (nt_u L (p 6) 0 v1.toInt64) (p 6) 1 ((x173 p v1 (Int32.ofInt 0) J).toInt64))) J)) rfl k
  obtain ⟨d1, o1, ed, kc, k⟩ := lz_c (g := 173) (q := 1) (vs := [.ref (p 0), .int v1, .int (Int32.ofInt 1)]) (rest := [.int (Int32.ofInt 2), .ref (p 6)]) rfl rfl (by decide) (Or.inr (Or.inl ⟨_, rfl, rfl⟩)) rfl k
  have e1 := xt173 (xs_lp hp) kc
  subst e1
  have k : nt_rn X _ 196 (32, [(0, .ref (p 0)), (1, .int v1), (2, .int v2), (3, .int v3)], [.int (x173 p v1 (Int32.ofInt 1) J), .int (Int32.ofInt 2), .ref (p 6)], me_w (lw M (nt_u (nt_u L (p 6) 0 v1.toInt64) (p 6) 1 ((x173 p v1 (Int32.ofInt 0) J).toInt64))) J) _ := k
  have k := ly_revb 1 (c' := (33, [(0, .ref (p 0)), (1, .int v1), (2, .int v2), (3, .int v3)], [.long ((x173 p v1 (Int32.ofInt 1) J).toInt64), .int (Int32.ofInt 2), .ref (p 6)], me_w (lw M (nt_u (nt_u L (p 6) 0 v1.toInt64) (p 6) 1 ((x173 p v1 (Int32.ofInt 0) J).toInt64))) J)) rfl k
  have k := mx_last (q := 2) rfl (show (Int32.ofInt 2).toNatClampNeg = 2 from rfl) k
  have k : nt_rn X _ 196 (34, [(0, .ref (p 0)), (1, .int v1), (2, .int v2), (3, .int v3)], [], me_w (lw M (nt_u (nt_u (nt_u L (p 6) 0 v1.toInt64) (p 6) 1 ((x173 p v1 (Int32.ofInt 0) J).toInt64)) (p 6) 2 ((x173 p v1 (Int32.ofInt 1) J).toInt64))) J) _ := k
  have k := ly_revb 1 (c' := (35, [(0, .ref (p 0)), (1, .int v1), (2, .int v2), (3, .int v3)], [.ref (p 0)], me_w (lw M (nt_u (nt_u (nt_u L (p 6) 0 v1.toInt64) (p 6) 1 ((x173 p v1 (Int32.ofInt 0) J).toInt64)) (p 6) 2 ((x173 p v1 (Int32.ofInt 1) J).toInt64))) J)) rfl k
  have k := lz_get (a := (p 0)) (g := 1126) (M := me_w (lw M (nt_u (nt_u (nt_u L (p 6) 0 v1.toInt64) (p 6) 1 ((x173 p v1 (Int32.ofInt 0) J).toInt64)) (p 6) 2 ((x173 p v1 (Int32.ofInt 1) J).toInt64))) J) (v := .ref (p 6)) rfl (nt_gfR rfl (hp.1 (0, 26, 6) (by decide))) k
  have k := ly_revb 4 (c' := (42, [(0, .ref (p 0)), (1, .int v1), (2, .int v2), (3, .int v3)], [.int (Int32.ofInt 2), .int v1, .ref (p 0), .int (Int32.ofInt 3), .ref (p 6)], me_w (lw M (nt_u (nt_u (nt_u L (p 6) 0 v1.toInt64) (p 6) 1 ((x173 p v1 (Int32.ofInt 0) J).toInt64)) (p 6) 2 ((x173 p v1 (Int32.ofInt 1) J).toInt64))) J)) rfl k
  obtain ⟨d1, o1, ed, kc, k⟩ := lz_c (g := 173) (q := 1) (vs := [.ref (p 0), .int v1, .int (Int32.ofInt 2)]) (rest := [.int (Int32.ofInt 3), .ref (p 6)]) rfl rfl (by decide) (Or.inr (Or.inl ⟨_, rfl, rfl⟩)) rfl k
  have e1 := xt173 (xs_lp hp) kc
  subst e1
  have k : nt_rn X _ 196 (45, [(0, .ref (p 0)), (1, .int v1), (2, .int v2), (3, .int v3)], [.int (x173 p v1 (Int32.ofInt 2) J), .int (Int32.ofInt 3), .ref (p 6)], me_w (lw M (nt_u (nt_u (nt_u L (p 6) 0 v1.toInt64) (p 6) 1 ((x173 p v1 (Int32.ofInt 0) J).toInt64)) (p 6) 2 ((x173 p v1 (Int32.ofInt 1) J).toInt64))) J) _ := k
  have k := ly_revb 1 (c' := (46, [(0, .ref (p 0)), (1, .int v1), (2, .int v2), (3, .int v3)], [.long ((x173 p v1 (Int32.ofInt 2) J).toInt64), .int (Int32.ofInt 3), .ref (p 6)], me_w (lw M (nt_u (nt_u (nt_u L (p 6) 0 v1.toInt64) (p 6) 1 ((x173 p v1 (Int32.ofInt 0) J).toInt64)) (p 6) 2 ((x173 p v1 (Int32.ofInt 1) J).toInt64))) J)) rfl k
  have k := mx_last (q := 3) rfl (show (Int32.ofInt 3).toNatClampNeg = 3 from rfl) k
  have k : nt_rn X _ 196 (47, [(0, .ref (p 0)), (1, .int v1), (2, .int v2), (3, .int v3)], [], me_w (lw M (nt_u (nt_u (nt_u (nt_u L (p 6) 0 v1.toInt64) (p 6) 1 ((x173 p v1 (Int32.ofInt 0) J).toInt64)) (p 6) 2 ((x173 p v1 (Int32.ofInt 1) J).toInt64)) (p 6) 3 ((x173 p v1 (Int32.ofInt 2) J).toInt64))) J) _ := k
  have k := ly_revb 1 (c' := (48, [(0, .ref (p 0)), (1, .int v1), (2, .int v2), (3, .int v3)], [.ref (p 0)], me_w (lw M (nt_u (nt_u (nt_u (nt_u L (p 6) 0 v1.toInt64) (p 6) 1 ((x173 p v1 (Int32.ofInt 0) J).toInt64)) (p 6) 2 ((x173 p v1 (Int32.ofInt 1) J).toInt64)) (p 6) 3 ((x173 p v1 (Int32.ofInt 2) J).toInt64))) J)) rfl k
  have k := lz_get (a := (p 0)) (g := 1126) (M := me_w (lw M (nt_u (nt_u (nt_u (nt_u L (p 6) 0 v1.toInt64) (p 6) 1 ((x173 p v1 (Int32.ofInt 0) J).toInt64)) (p 6) 2 ((x173 p v1 (Int32.ofInt 1) J).toInt64)) (p 6) 3 ((x173 p v1 (Int32.ofInt 2) J).toInt64))) J) (v := .ref (p 6)) rfl (nt_gfR rfl (hp.1 (0, 26, 6) (by decide))) k
  have k := ly_revb 3 (c' := (54, [(0, .ref (p 0)), (1, .int v1), (2, .int v2), (3, .int v3)], [.long v2.toInt64, .int (Int32.ofInt 4), .ref (p 6)], me_w (lw M (nt_u (nt_u (nt_u (nt_u L (p 6) 0 v1.toInt64) (p 6) 1 ((x173 p v1 (Int32.ofInt 0) J).toInt64)) (p 6) 2 ((x173 p v1 (Int32.ofInt 1) J).toInt64)) (p 6) 3 ((x173 p v1 (Int32.ofInt 2) J).toInt64))) J)) rfl k
  have k := mx_last (q := 4) rfl (show (Int32.ofInt 4).toNatClampNeg = 4 from rfl) k
  have k : nt_rn X _ 196 (55, [(0, .ref (p 0)), (1, .int v1), (2, .int v2), (3, .int v3)], [], me_w (lw M (nt_u (nt_u (nt_u (nt_u (nt_u L (p 6) 0 v1.toInt64) (p 6) 1 ((x173 p v1 (Int32.ofInt 0) J).toInt64)) (p 6) 2 ((x173 p v1 (Int32.ofInt 1) J).toInt64)) (p 6) 3 ((x173 p v1 (Int32.ofInt 2) J).toInt64)) (p 6) 4 v2.toInt64)) J) _ := k
  have k := ly_revb 1 (c' := (56, [(0, .ref (p 0)), (1, .int v1), (2, .int v2), (3, .int v3)], [.ref (p 0)], me_w (lw M (nt_u (nt_u (nt_u (nt_u (nt_u L (p 6) 0 v1.toInt64) (p 6) 1 ((x173 p v1 (Int32.ofInt 0) J).toInt64)) (p 6) 2 ((x173 p v1 (Int32.ofInt 1) J).toInt64)) (p 6) 3 ((x173 p v1 (Int32.ofInt 2) J).toInt64)) (p 6) 4 v2.toInt64)) J)) rfl k
  have k := lz_get (a := (p 0)) (g := 1126) (M := me_w (lw M (nt_u (nt_u (nt_u (nt_u (nt_u L (p 6) 0 v1.toInt64) (p 6) 1 ((x173 p v1 (Int32.ofInt 0) J).toInt64)) (p 6) 2 ((x173 p v1 (Int32.ofInt 1) J).toInt64)) (p 6) 3 ((x173 p v1 (Int32.ofInt 2) J).toInt64)) (p 6) 4 v2.toInt64)) J) (v := .ref (p 6)) rfl (nt_gfR rfl (hp.1 (0, 26, 6) (by decide))) k
  have k := ly_revb 4 (c' := (63, [(0, .ref (p 0)), (1, .int v1), (2, .int v2), (3, .int v3)], [.int (Int32.ofInt 3), .int v1, .ref (p 0), .int (Int32.ofInt 5), .ref (p 6)], me_w (lw M (nt_u (nt_u (nt_u (nt_u (nt_u L (p 6) 0 v1.toInt64) (p 6) 1 ((x173 p v1 (Int32.ofInt 0) J).toInt64)) (p 6) 2 ((x173 p v1 (Int32.ofInt 1) J).toInt64)) (p 6) 3 ((x173 p v1 (Int32.ofInt 2) J).toInt64)) (p 6) 4 v2.toInt64)) J)) rfl k
  obtain ⟨d1, o1, ed, kc, k⟩ := lz_c (g := 173) (q := 1) (vs := [.ref (p 0), .int v1, .int (Int32.ofInt 3)]) (rest := [.int (Int32.ofInt 5), .ref (p 6)]) rfl rfl (by decide) (Or.inr (Or.inl ⟨_, rfl, rfl⟩)) rfl k
  have e1 := xt173 (xs_lp hp) kc
  subst e1
  have k : nt_rn X _ 196 (66, [(0, .ref (p 0)), (1, .int v1), (2, .int v2), (3, .int v3)], [.int (x173 p v1 (Int32.ofInt 3) J), .int (Int32.ofInt 5), .ref (p 6)], me_w (lw M (nt_u (nt_u (nt_u (nt_u (nt_u L (p 6) 0 v1.toInt64) (p 6) 1 ((x173 p v1 (Int32.ofInt 0) J).toInt64)) (p 6) 2 ((x173 p v1 (Int32.ofInt 1) J).toInt64)) (p 6) 3 ((x173 p v1 (Int32.ofInt 2) J).toInt64)) (p 6) 4 v2.toInt64)) J) _ := k
  have k := ly_revb 1 (c' := (if 0 ≤ (x173 p v1 (Int32.ofInt 3) J) then 75 else 69, [(0, .ref (p 0)), (1, .int v1), (2, .int v2), (3, .int v3)], [.int (Int32.ofInt 5), .ref (p 6)], me_w (lw M (nt_u (nt_u (nt_u (nt_u (nt_u L (p 6) 0 v1.toInt64) (p 6) 1 ((x173 p v1 (Int32.ofInt 0) J).toInt64)) (p 6) 2 ((x173 p v1 (Int32.ofInt 1) J).toInt64)) (p 6) 3 ((x173 p v1 (Int32.ofInt 2) J).toInt64)) (p 6) 4 v2.toInt64)) J)) rfl k
  by_cases h66 : 0 ≤ (x173 p v1 (Int32.ofInt 3) J)
  · rw [if_pos h66] at k
    have k := ly_revb 3 (c' := (78, [(0, .ref (p 0)), (1, .int v1), (2, .int v2), (3, .int v3)], [.int (Int32.ofInt 3), .int v1, .ref (p 0), .int (Int32.ofInt 5), .ref (p 6)], me_w (lw M (nt_u (nt_u (nt_u (nt_u (nt_u L (p 6) 0 v1.toInt64) (p 6) 1 ((x173 p v1 (Int32.ofInt 0) J).toInt64)) (p 6) 2 ((x173 p v1 (Int32.ofInt 1) J).toInt64)) (p 6) 3 ((x173 p v1 (Int32.ofInt 2) J).toInt64)) (p 6) 4 v2.toInt64)) J)) rfl k
    obtain ⟨d1, o1, ed, kc, k⟩ := lz_c (g := 173) (q := 1) (vs := [.ref (p 0), .int v1, .int (Int32.ofInt 3)]) (rest := [.int (Int32.ofInt 5), .ref (p 6)]) rfl rfl (by decide) (Or.inr (Or.inl ⟨_, rfl, rfl⟩)) rfl k
    have e1 := xt173 (xs_lp hp) kc
    subst e1
    have k : nt_rn X _ 196 (81, [(0, .ref (p 0)), (1, .int v1), (2, .int v2), (3, .int v3)], [.int (x173 p v1 (Int32.ofInt 3) J), .int (Int32.ofInt 5), .ref (p 6)], me_w (lw M (nt_u (nt_u (nt_u (nt_u (nt_u L (p 6) 0 v1.toInt64) (p 6) 1 ((x173 p v1 (Int32.ofInt 0) J).toInt64)) (p 6) 2 ((x173 p v1 (Int32.ofInt 1) J).toInt64)) (p 6) 3 ((x173 p v1 (Int32.ofInt 2) J).toInt64)) (p 6) 4 v2.toInt64)) J) _ := k
    have k := ly_revb 1 (c' := (82, [(0, .ref (p 0)), (1, .int v1), (2, .int v2), (3, .int v3)], [.long ((x173 p v1 (Int32.ofInt 3) J).toInt64), .int (Int32.ofInt 5), .ref (p 6)], me_w (lw M (nt_u (nt_u (nt_u (nt_u (nt_u L (p 6) 0 v1.toInt64) (p 6) 1 ((x173 p v1 (Int32.ofInt 0) J).toInt64)) (p 6) 2 ((x173 p v1 (Int32.ofInt 1) J).toInt64)) (p 6) 3 ((x173 p v1 (Int32.ofInt 2) J).toInt64)) (p 6) 4 v2.toInt64)) J)) rfl k
    have k := mx_last (q := 5) rfl (show (Int32.ofInt 5).toNatClampNeg = 5 from rfl) k
    have k : nt_rn X _ 196 (83, [(0, .ref (p 0)), (1, .int v1), (2, .int v2), (3, .int v3)], [], me_w (lw M (nt_u (nt_u (nt_u (nt_u (nt_u (nt_u L (p 6) 0 v1.toInt64) (p 6) 1 ((x173 p v1 (Int32.ofInt 0) J).toInt64)) (p 6) 2 ((x173 p v1 (Int32.ofInt 1) J).toInt64)) (p 6) 3 ((x173 p v1 (Int32.ofInt 2) J).toInt64)) (p 6) 4 v2.toInt64) (p 6) 5 ((x173 p v1 (Int32.ofInt 3) J).toInt64))) J) _ := k
    have k := ly_revb 1 (c' := (84, [(0, .ref (p 0)), (1, .int v1), (2, .int v2), (3, .int v3)], [.ref (p 0)], me_w (lw M (nt_u (nt_u (nt_u (nt_u (nt_u (nt_u L (p 6) 0 v1.toInt64) (p 6) 1 ((x173 p v1 (Int32.ofInt 0) J).toInt64)) (p 6) 2 ((x173 p v1 (Int32.ofInt 1) J).toInt64)) (p 6) 3 ((x173 p v1 (Int32.ofInt 2) J).toInt64)) (p 6) 4 v2.toInt64) (p 6) 5 ((x173 p v1 (Int32.ofInt 3) J).toInt64))) J)) rfl k
    have k := lz_get (a := (p 0)) (g := 1126) (M := me_w (lw M (nt_u (nt_u (nt_u (nt_u (nt_u (nt_u L (p 6) 0 v1.toInt64) (p 6) 1 ((x173 p v1 (Int32.ofInt 0) J).toInt64)) (p 6) 2 ((x173 p v1 (Int32.ofInt 1) J).toInt64)) (p 6) 3 ((x173 p v1 (Int32.ofInt 2) J).toInt64)) (p 6) 4 v2.toInt64) (p 6) 5 ((x173 p v1 (Int32.ofInt 3) J).toInt64))) J) (v := .ref (p 6)) rfl (nt_gfR rfl (hp.1 (0, 26, 6) (by decide))) k
    have k := ly_revb 4 (c' := (92, [(0, .ref (p 0)), (1, .int v1), (2, .int v2), (3, .int v3)], [.int (Int32.ofInt 2), .int v1, .ref (p 0), .int (Int32.ofInt 6), .ref (p 6)], me_w (lw M (nt_u (nt_u (nt_u (nt_u (nt_u (nt_u L (p 6) 0 v1.toInt64) (p 6) 1 ((x173 p v1 (Int32.ofInt 0) J).toInt64)) (p 6) 2 ((x173 p v1 (Int32.ofInt 1) J).toInt64)) (p 6) 3 ((x173 p v1 (Int32.ofInt 2) J).toInt64)) (p 6) 4 v2.toInt64) (p 6) 5 ((x173 p v1 (Int32.ofInt 3) J).toInt64))) J)) rfl k
    obtain ⟨d1, o1, ed, kc, k⟩ := lz_c (g := 173) (q := 1) (vs := [.ref (p 0), .int v1, .int (Int32.ofInt 2)]) (rest := [.int (Int32.ofInt 6), .ref (p 6)]) rfl rfl (by decide) (Or.inr (Or.inl ⟨_, rfl, rfl⟩)) rfl k
    have e1 := xt173 (xs_lp hp) kc
    subst e1
    have k : nt_rn X _ 196 (95, [(0, .ref (p 0)), (1, .int v1), (2, .int v2), (3, .int v3)], [.int (x173 p v1 (Int32.ofInt 2) J), .int (Int32.ofInt 6), .ref (p 6)], me_w (lw M (nt_u (nt_u (nt_u (nt_u (nt_u (nt_u L (p 6) 0 v1.toInt64) (p 6) 1 ((x173 p v1 (Int32.ofInt 0) J).toInt64)) (p 6) 2 ((x173 p v1 (Int32.ofInt 1) J).toInt64)) (p 6) 3 ((x173 p v1 (Int32.ofInt 2) J).toInt64)) (p 6) 4 v2.toInt64) (p 6) 5 ((x173 p v1 (Int32.ofInt 3) J).toInt64))) J) _ := k
    have k := ly_revb 2 (c' := (if (x173 p v1 (Int32.ofInt 2) J) = v2 then 99 else 103, [(0, .ref (p 0)), (1, .int v1), (2, .int v2), (3, .int v3)], [.int (Int32.ofInt 6), .ref (p 6)], me_w (lw M (nt_u (nt_u (nt_u (nt_u (nt_u (nt_u L (p 6) 0 v1.toInt64) (p 6) 1 ((x173 p v1 (Int32.ofInt 0) J).toInt64)) (p 6) 2 ((x173 p v1 (Int32.ofInt 1) J).toInt64)) (p 6) 3 ((x173 p v1 (Int32.ofInt 2) J).toInt64)) (p 6) 4 v2.toInt64) (p 6) 5 ((x173 p v1 (Int32.ofInt 3) J).toInt64))) J)) rfl k
    by_cases h96 : (x173 p v1 (Int32.ofInt 2) J) = v2
    · rw [if_pos h96] at k
      have k := ly_revb 2 (c' := (104, [(0, .ref (p 0)), (1, .int v1), (2, .int v2), (3, .int v3)], [.long (Int64.ofNat 1), .int (Int32.ofInt 6), .ref (p 6)], me_w (lw M (nt_u (nt_u (nt_u (nt_u (nt_u (nt_u L (p 6) 0 v1.toInt64) (p 6) 1 ((x173 p v1 (Int32.ofInt 0) J).toInt64)) (p 6) 2 ((x173 p v1 (Int32.ofInt 1) J).toInt64)) (p 6) 3 ((x173 p v1 (Int32.ofInt 2) J).toInt64)) (p 6) 4 v2.toInt64) (p 6) 5 ((x173 p v1 (Int32.ofInt 3) J).toInt64))) J)) rfl k
      have k := mx_last (q := 6) rfl (show (Int32.ofInt 6).toNatClampNeg = 6 from rfl) k
      have k : nt_rn X _ 196 (105, [(0, .ref (p 0)), (1, .int v1), (2, .int v2), (3, .int v3)], [], me_w (lw M (nt_u (nt_u (nt_u (nt_u (nt_u (nt_u (nt_u L (p 6) 0 v1.toInt64) (p 6) 1 ((x173 p v1 (Int32.ofInt 0) J).toInt64)) (p 6) 2 ((x173 p v1 (Int32.ofInt 1) J).toInt64)) (p 6) 3 ((x173 p v1 (Int32.ofInt 2) J).toInt64)) (p 6) 4 v2.toInt64) (p 6) 5 ((x173 p v1 (Int32.ofInt 3) J).toInt64)) (p 6) 6 (Int64.ofNat 1))) J) _ := k
      have k := ly_revb 1 (c' := (106, [(0, .ref (p 0)), (1, .int v1), (2, .int v2), (3, .int v3)], [.ref (p 0)], me_w (lw M (nt_u (nt_u (nt_u (nt_u (nt_u (nt_u (nt_u L (p 6) 0 v1.toInt64) (p 6) 1 ((x173 p v1 (Int32.ofInt 0) J).toInt64)) (p 6) 2 ((x173 p v1 (Int32.ofInt 1) J).toInt64)) (p 6) 3 ((x173 p v1 (Int32.ofInt 2) J).toInt64)) (p 6) 4 v2.toInt64) (p 6) 5 ((x173 p v1 (Int32.ofInt 3) J).toInt64)) (p 6) 6 (Int64.ofNat 1))) J)) rfl k
      have k := lz_get (a := (p 0)) (g := 1126) (M := me_w (lw M (nt_u (nt_u (nt_u (nt_u (nt_u (nt_u (nt_u L (p 6) 0 v1.toInt64) (p 6) 1 ((x173 p v1 (Int32.ofInt 0) J).toInt64)) (p 6) 2 ((x173 p v1 (Int32.ofInt 1) J).toInt64)) (p 6) 3 ((x173 p v1 (Int32.ofInt 2) J).toInt64)) (p 6) 4 v2.toInt64) (p 6) 5 ((x173 p v1 (Int32.ofInt 3) J).toInt64)) (p 6) 6 (Int64.ofNat 1))) J) (v := .ref (p 6)) rfl (nt_gfR rfl (hp.1 (0, 26, 6) (by decide))) k
      have k := ly_revb 2 (c' := (112, [(0, .ref (p 0)), (1, .int v1), (2, .int v2), (3, .int v3)], [.ref (p 0), .int (Int32.ofInt 7), .ref (p 6)], me_w (lw M (nt_u (nt_u (nt_u (nt_u (nt_u (nt_u (nt_u L (p 6) 0 v1.toInt64) (p 6) 1 ((x173 p v1 (Int32.ofInt 0) J).toInt64)) (p 6) 2 ((x173 p v1 (Int32.ofInt 1) J).toInt64)) (p 6) 3 ((x173 p v1 (Int32.ofInt 2) J).toInt64)) (p 6) 4 v2.toInt64) (p 6) 5 ((x173 p v1 (Int32.ofInt 3) J).toInt64)) (p 6) 6 (Int64.ofNat 1))) J)) rfl k
      have k := lz_get (a := (p 0)) (g := 1127) (M := me_w (lw M (nt_u (nt_u (nt_u (nt_u (nt_u (nt_u (nt_u L (p 6) 0 v1.toInt64) (p 6) 1 ((x173 p v1 (Int32.ofInt 0) J).toInt64)) (p 6) 2 ((x173 p v1 (Int32.ofInt 1) J).toInt64)) (p 6) 3 ((x173 p v1 (Int32.ofInt 2) J).toInt64)) (p 6) 4 v2.toInt64) (p 6) 5 ((x173 p v1 (Int32.ofInt 3) J).toInt64)) (p 6) 6 (Int64.ofNat 1))) J) (v := .ref (p 4)) rfl (nt_gfR rfl (hp.1 (0, 27, 4) (by decide))) k
      have k := ly_revb 1 (c' := (116, [(0, .ref (p 0)), (1, .int v1), (2, .int v2), (3, .int v3)], [.int (Int32.ofInt 4), .ref (p 4), .int (Int32.ofInt 7), .ref (p 6)], me_w (lw M (nt_u (nt_u (nt_u (nt_u (nt_u (nt_u (nt_u L (p 6) 0 v1.toInt64) (p 6) 1 ((x173 p v1 (Int32.ofInt 0) J).toInt64)) (p 6) 2 ((x173 p v1 (Int32.ofInt 1) J).toInt64)) (p 6) 3 ((x173 p v1 (Int32.ofInt 2) J).toInt64)) (p 6) 4 v2.toInt64) (p 6) 5 ((x173 p v1 (Int32.ofInt 3) J).toInt64)) (p 6) 6 (Int64.ofNat 1))) J)) rfl k
      have k := mx_iald (v := J (p 4) 4) rfl (hp.2.2.1 4 (by omega)) ((congrArg (J (p 4)) (show (Int32.ofInt 4).toNatClampNeg = 4 from rfl)).trans (rfl)) k
      have k := ly_revb 1 (c' := (118, [(0, .ref (p 0)), (1, .int v1), (2, .int v2), (3, .int v3)], [.long ((J (p 4) 4).toInt64), .int (Int32.ofInt 7), .ref (p 6)], me_w (lw M (nt_u (nt_u (nt_u (nt_u (nt_u (nt_u (nt_u L (p 6) 0 v1.toInt64) (p 6) 1 ((x173 p v1 (Int32.ofInt 0) J).toInt64)) (p 6) 2 ((x173 p v1 (Int32.ofInt 1) J).toInt64)) (p 6) 3 ((x173 p v1 (Int32.ofInt 2) J).toInt64)) (p 6) 4 v2.toInt64) (p 6) 5 ((x173 p v1 (Int32.ofInt 3) J).toInt64)) (p 6) 6 (Int64.ofNat 1))) J)) rfl k
      have k := mx_last (q := 7) rfl (show (Int32.ofInt 7).toNatClampNeg = 7 from rfl) k
      have k : nt_rn X _ 196 (119, [(0, .ref (p 0)), (1, .int v1), (2, .int v2), (3, .int v3)], [], me_w (lw M (nt_u (nt_u (nt_u (nt_u (nt_u (nt_u (nt_u (nt_u L (p 6) 0 v1.toInt64) (p 6) 1 ((x173 p v1 (Int32.ofInt 0) J).toInt64)) (p 6) 2 ((x173 p v1 (Int32.ofInt 1) J).toInt64)) (p 6) 3 ((x173 p v1 (Int32.ofInt 2) J).toInt64)) (p 6) 4 v2.toInt64) (p 6) 5 ((x173 p v1 (Int32.ofInt 3) J).toInt64)) (p 6) 6 (Int64.ofNat 1)) (p 6) 7 ((J (p 4) 4).toInt64))) J) _ := k
      have k := ly_revb 1 (c' := (120, [(0, .ref (p 0)), (1, .int v1), (2, .int v2), (3, .int v3)], [.ref (p 0)], me_w (lw M (nt_u (nt_u (nt_u (nt_u (nt_u (nt_u (nt_u (nt_u L (p 6) 0 v1.toInt64) (p 6) 1 ((x173 p v1 (Int32.ofInt 0) J).toInt64)) (p 6) 2 ((x173 p v1 (Int32.ofInt 1) J).toInt64)) (p 6) 3 ((x173 p v1 (Int32.ofInt 2) J).toInt64)) (p 6) 4 v2.toInt64) (p 6) 5 ((x173 p v1 (Int32.ofInt 3) J).toInt64)) (p 6) 6 (Int64.ofNat 1)) (p 6) 7 ((J (p 4) 4).toInt64))) J)) rfl k
      have k := lz_get (a := (p 0)) (g := 1126) (M := me_w (lw M (nt_u (nt_u (nt_u (nt_u (nt_u (nt_u (nt_u (nt_u L (p 6) 0 v1.toInt64) (p 6) 1 ((x173 p v1 (Int32.ofInt 0) J).toInt64)) (p 6) 2 ((x173 p v1 (Int32.ofInt 1) J).toInt64)) (p 6) 3 ((x173 p v1 (Int32.ofInt 2) J).toInt64)) (p 6) 4 v2.toInt64) (p 6) 5 ((x173 p v1 (Int32.ofInt 3) J).toInt64)) (p 6) 6 (Int64.ofNat 1)) (p 6) 7 ((J (p 4) 4).toInt64))) J) (v := .ref (p 6)) rfl (nt_gfR rfl (hp.1 (0, 26, 6) (by decide))) k
      have k := ly_revb 2 (c' := (126, [(0, .ref (p 0)), (1, .int v1), (2, .int v2), (3, .int v3)], [.ref (p 0), .int (Int32.ofInt 8), .ref (p 6)], me_w (lw M (nt_u (nt_u (nt_u (nt_u (nt_u (nt_u (nt_u (nt_u L (p 6) 0 v1.toInt64) (p 6) 1 ((x173 p v1 (Int32.ofInt 0) J).toInt64)) (p 6) 2 ((x173 p v1 (Int32.ofInt 1) J).toInt64)) (p 6) 3 ((x173 p v1 (Int32.ofInt 2) J).toInt64)) (p 6) 4 v2.toInt64) (p 6) 5 ((x173 p v1 (Int32.ofInt 3) J).toInt64)) (p 6) 6 (Int64.ofNat 1)) (p 6) 7 ((J (p 4) 4).toInt64))) J)) rfl k
      have k := lz_get (a := (p 0)) (g := 1127) (M := me_w (lw M (nt_u (nt_u (nt_u (nt_u (nt_u (nt_u (nt_u (nt_u L (p 6) 0 v1.toInt64) (p 6) 1 ((x173 p v1 (Int32.ofInt 0) J).toInt64)) (p 6) 2 ((x173 p v1 (Int32.ofInt 1) J).toInt64)) (p 6) 3 ((x173 p v1 (Int32.ofInt 2) J).toInt64)) (p 6) 4 v2.toInt64) (p 6) 5 ((x173 p v1 (Int32.ofInt 3) J).toInt64)) (p 6) 6 (Int64.ofNat 1)) (p 6) 7 ((J (p 4) 4).toInt64))) J) (v := .ref (p 4)) rfl (nt_gfR rfl (hp.1 (0, 27, 4) (by decide))) k
      have k := ly_revb 1 (c' := (131, [(0, .ref (p 0)), (1, .int v1), (2, .int v2), (3, .int v3)], [.int (Int32.ofInt 6), .ref (p 4), .int (Int32.ofInt 8), .ref (p 6)], me_w (lw M (nt_u (nt_u (nt_u (nt_u (nt_u (nt_u (nt_u (nt_u L (p 6) 0 v1.toInt64) (p 6) 1 ((x173 p v1 (Int32.ofInt 0) J).toInt64)) (p 6) 2 ((x173 p v1 (Int32.ofInt 1) J).toInt64)) (p 6) 3 ((x173 p v1 (Int32.ofInt 2) J).toInt64)) (p 6) 4 v2.toInt64) (p 6) 5 ((x173 p v1 (Int32.ofInt 3) J).toInt64)) (p 6) 6 (Int64.ofNat 1)) (p 6) 7 ((J (p 4) 4).toInt64))) J)) rfl k
      have k := mx_iald (v := J (p 4) 6) rfl (hp.2.2.1 4 (by omega)) ((congrArg (J (p 4)) (show (Int32.ofInt 6).toNatClampNeg = 6 from rfl)).trans (rfl)) k
      have k := ly_revb 1 (c' := (133, [(0, .ref (p 0)), (1, .int v1), (2, .int v2), (3, .int v3)], [.long ((J (p 4) 6).toInt64), .int (Int32.ofInt 8), .ref (p 6)], me_w (lw M (nt_u (nt_u (nt_u (nt_u (nt_u (nt_u (nt_u (nt_u L (p 6) 0 v1.toInt64) (p 6) 1 ((x173 p v1 (Int32.ofInt 0) J).toInt64)) (p 6) 2 ((x173 p v1 (Int32.ofInt 1) J).toInt64)) (p 6) 3 ((x173 p v1 (Int32.ofInt 2) J).toInt64)) (p 6) 4 v2.toInt64) (p 6) 5 ((x173 p v1 (Int32.ofInt 3) J).toInt64)) (p 6) 6 (Int64.ofNat 1)) (p 6) 7 ((J (p 4) 4).toInt64))) J)) rfl k
      have k := mx_last (q := 8) rfl (show (Int32.ofInt 8).toNatClampNeg = 8 from rfl) k
      have k : nt_rn X _ 196 (134, [(0, .ref (p 0)), (1, .int v1), (2, .int v2), (3, .int v3)], [], me_w (lw M (nt_u (nt_u (nt_u (nt_u (nt_u (nt_u (nt_u (nt_u (nt_u L (p 6) 0 v1.toInt64) (p 6) 1 ((x173 p v1 (Int32.ofInt 0) J).toInt64)) (p 6) 2 ((x173 p v1 (Int32.ofInt 1) J).toInt64)) (p 6) 3 ((x173 p v1 (Int32.ofInt 2) J).toInt64)) (p 6) 4 v2.toInt64) (p 6) 5 ((x173 p v1 (Int32.ofInt 3) J).toInt64)) (p 6) 6 (Int64.ofNat 1)) (p 6) 7 ((J (p 4) 4).toInt64)) (p 6) 8 ((J (p 4) 6).toInt64))) J) _ := k
      have k := ly_revb 1 (c' := (135, [(0, .ref (p 0)), (1, .int v1), (2, .int v2), (3, .int v3)], [.ref (p 0)], me_w (lw M (nt_u (nt_u (nt_u (nt_u (nt_u (nt_u (nt_u (nt_u (nt_u L (p 6) 0 v1.toInt64) (p 6) 1 ((x173 p v1 (Int32.ofInt 0) J).toInt64)) (p 6) 2 ((x173 p v1 (Int32.ofInt 1) J).toInt64)) (p 6) 3 ((x173 p v1 (Int32.ofInt 2) J).toInt64)) (p 6) 4 v2.toInt64) (p 6) 5 ((x173 p v1 (Int32.ofInt 3) J).toInt64)) (p 6) 6 (Int64.ofNat 1)) (p 6) 7 ((J (p 4) 4).toInt64)) (p 6) 8 ((J (p 4) 6).toInt64))) J)) rfl k
      have k := lz_get (a := (p 0)) (g := 1126) (M := me_w (lw M (nt_u (nt_u (nt_u (nt_u (nt_u (nt_u (nt_u (nt_u (nt_u L (p 6) 0 v1.toInt64) (p 6) 1 ((x173 p v1 (Int32.ofInt 0) J).toInt64)) (p 6) 2 ((x173 p v1 (Int32.ofInt 1) J).toInt64)) (p 6) 3 ((x173 p v1 (Int32.ofInt 2) J).toInt64)) (p 6) 4 v2.toInt64) (p 6) 5 ((x173 p v1 (Int32.ofInt 3) J).toInt64)) (p 6) 6 (Int64.ofNat 1)) (p 6) 7 ((J (p 4) 4).toInt64)) (p 6) 8 ((J (p 4) 6).toInt64))) J) (v := .ref (p 6)) rfl (nt_gfR rfl (hp.1 (0, 26, 6) (by decide))) k
      have k := ly_revb 4 (c' := (143, [(0, .ref (p 0)), (1, .int v1), (2, .int v2), (3, .int v3)], [.int (Int32.ofInt 2), .int v3, .ref (p 0), .int (Int32.ofInt 9), .ref (p 6)], me_w (lw M (nt_u (nt_u (nt_u (nt_u (nt_u (nt_u (nt_u (nt_u (nt_u L (p 6) 0 v1.toInt64) (p 6) 1 ((x173 p v1 (Int32.ofInt 0) J).toInt64)) (p 6) 2 ((x173 p v1 (Int32.ofInt 1) J).toInt64)) (p 6) 3 ((x173 p v1 (Int32.ofInt 2) J).toInt64)) (p 6) 4 v2.toInt64) (p 6) 5 ((x173 p v1 (Int32.ofInt 3) J).toInt64)) (p 6) 6 (Int64.ofNat 1)) (p 6) 7 ((J (p 4) 4).toInt64)) (p 6) 8 ((J (p 4) 6).toInt64))) J)) rfl k
      obtain ⟨d1, o1, ed, kc, k⟩ := lz_c (g := 180) (q := 1) (vs := [.ref (p 0), .int v3, .int (Int32.ofInt 2)]) (rest := [.int (Int32.ofInt 9), .ref (p 6)]) rfl rfl (by decide) (Or.inr (Or.inl ⟨_, rfl, rfl⟩)) rfl k
      have e1 := xt180 (xs_lp hp) kc
      subst e1
      have k : nt_rn X _ 196 (146, [(0, .ref (p 0)), (1, .int v1), (2, .int v2), (3, .int v3)], [.int (x180 p v3 (Int32.ofInt 2) J), .int (Int32.ofInt 9), .ref (p 6)], me_w (lw M (nt_u (nt_u (nt_u (nt_u (nt_u (nt_u (nt_u (nt_u (nt_u L (p 6) 0 v1.toInt64) (p 6) 1 ((x173 p v1 (Int32.ofInt 0) J).toInt64)) (p 6) 2 ((x173 p v1 (Int32.ofInt 1) J).toInt64)) (p 6) 3 ((x173 p v1 (Int32.ofInt 2) J).toInt64)) (p 6) 4 v2.toInt64) (p 6) 5 ((x173 p v1 (Int32.ofInt 3) J).toInt64)) (p 6) 6 (Int64.ofNat 1)) (p 6) 7 ((J (p 4) 4).toInt64)) (p 6) 8 ((J (p 4) 6).toInt64))) J) _ := k
      have k := ly_revb 3 (c' := (149, [(0, .ref (p 0)), (1, .int v1), (2, .int v2), (3, .int v3)], [.int (Int32.ofInt 1), .int v3, .ref (p 0), .int (x180 p v3 (Int32.ofInt 2) J), .int (Int32.ofInt 9), .ref (p 6)], me_w (lw M (nt_u (nt_u (nt_u (nt_u (nt_u (nt_u (nt_u (nt_u (nt_u L (p 6) 0 v1.toInt64) (p 6) 1 ((x173 p v1 (Int32.ofInt 0) J).toInt64)) (p 6) 2 ((x173 p v1 (Int32.ofInt 1) J).toInt64)) (p 6) 3 ((x173 p v1 (Int32.ofInt 2) J).toInt64)) (p 6) 4 v2.toInt64) (p 6) 5 ((x173 p v1 (Int32.ofInt 3) J).toInt64)) (p 6) 6 (Int64.ofNat 1)) (p 6) 7 ((J (p 4) 4).toInt64)) (p 6) 8 ((J (p 4) 6).toInt64))) J)) rfl k
      obtain ⟨d1, o1, ed, kc, k⟩ := lz_c (g := 180) (q := 1) (vs := [.ref (p 0), .int v3, .int (Int32.ofInt 1)]) (rest := [.int (x180 p v3 (Int32.ofInt 2) J), .int (Int32.ofInt 9), .ref (p 6)]) rfl rfl (by decide) (Or.inr (Or.inl ⟨_, rfl, rfl⟩)) rfl k
      have e1 := xt180 (xs_lp hp) kc
      subst e1
      have k : nt_rn X _ 196 (152, [(0, .ref (p 0)), (1, .int v1), (2, .int v2), (3, .int v3)], [.int (x180 p v3 (Int32.ofInt 1) J), .int (x180 p v3 (Int32.ofInt 2) J), .int (Int32.ofInt 9), .ref (p 6)], me_w (lw M (nt_u (nt_u (nt_u (nt_u (nt_u (nt_u (nt_u (nt_u (nt_u L (p 6) 0 v1.toInt64) (p 6) 1 ((x173 p v1 (Int32.ofInt 0) J).toInt64)) (p 6) 2 ((x173 p v1 (Int32.ofInt 1) J).toInt64)) (p 6) 3 ((x173 p v1 (Int32.ofInt 2) J).toInt64)) (p 6) 4 v2.toInt64) (p 6) 5 ((x173 p v1 (Int32.ofInt 3) J).toInt64)) (p 6) 6 (Int64.ofNat 1)) (p 6) 7 ((J (p 4) 4).toInt64)) (p 6) 8 ((J (p 4) 6).toInt64))) J) _ := k
      have k := ly_revb 2 (c' := (154, [(0, .ref (p 0)), (1, .int v1), (2, .int v2), (3, .int v3)], [.long (((x180 p v3 (Int32.ofInt 2) J) - (x180 p v3 (Int32.ofInt 1) J)).toInt64), .int (Int32.ofInt 9), .ref (p 6)], me_w (lw M (nt_u (nt_u (nt_u (nt_u (nt_u (nt_u (nt_u (nt_u (nt_u L (p 6) 0 v1.toInt64) (p 6) 1 ((x173 p v1 (Int32.ofInt 0) J).toInt64)) (p 6) 2 ((x173 p v1 (Int32.ofInt 1) J).toInt64)) (p 6) 3 ((x173 p v1 (Int32.ofInt 2) J).toInt64)) (p 6) 4 v2.toInt64) (p 6) 5 ((x173 p v1 (Int32.ofInt 3) J).toInt64)) (p 6) 6 (Int64.ofNat 1)) (p 6) 7 ((J (p 4) 4).toInt64)) (p 6) 8 ((J (p 4) 6).toInt64))) J)) rfl k
      have k := mx_last (q := 9) rfl (show (Int32.ofInt 9).toNatClampNeg = 9 from rfl) k
      have k : nt_rn X _ 196 (155, [(0, .ref (p 0)), (1, .int v1), (2, .int v2), (3, .int v3)], [], me_w (lw M (nt_u (nt_u (nt_u (nt_u (nt_u (nt_u (nt_u (nt_u (nt_u (nt_u L (p 6) 0 v1.toInt64) (p 6) 1 ((x173 p v1 (Int32.ofInt 0) J).toInt64)) (p 6) 2 ((x173 p v1 (Int32.ofInt 1) J).toInt64)) (p 6) 3 ((x173 p v1 (Int32.ofInt 2) J).toInt64)) (p 6) 4 v2.toInt64) (p 6) 5 ((x173 p v1 (Int32.ofInt 3) J).toInt64)) (p 6) 6 (Int64.ofNat 1)) (p 6) 7 ((J (p 4) 4).toInt64)) (p 6) 8 ((J (p 4) 6).toInt64)) (p 6) 9 (((x180 p v3 (Int32.ofInt 2) J) - (x180 p v3 (Int32.ofInt 1) J)).toInt64))) J) _ := k
      have k := lz_rv rfl rfl k
      rw [k, x196, if_pos h66, if_pos h96]
    · rw [if_neg h96] at k
      have k := ly_revb 1 (c' := (104, [(0, .ref (p 0)), (1, .int v1), (2, .int v2), (3, .int v3)], [.long (Int64.ofNat 0), .int (Int32.ofInt 6), .ref (p 6)], me_w (lw M (nt_u (nt_u (nt_u (nt_u (nt_u (nt_u L (p 6) 0 v1.toInt64) (p 6) 1 ((x173 p v1 (Int32.ofInt 0) J).toInt64)) (p 6) 2 ((x173 p v1 (Int32.ofInt 1) J).toInt64)) (p 6) 3 ((x173 p v1 (Int32.ofInt 2) J).toInt64)) (p 6) 4 v2.toInt64) (p 6) 5 ((x173 p v1 (Int32.ofInt 3) J).toInt64))) J)) rfl k
      have k := mx_last (q := 6) rfl (show (Int32.ofInt 6).toNatClampNeg = 6 from rfl) k
      have k : nt_rn X _ 196 (105, [(0, .ref (p 0)), (1, .int v1), (2, .int v2), (3, .int v3)], [], me_w (lw M (nt_u (nt_u (nt_u (nt_u (nt_u (nt_u (nt_u L (p 6) 0 v1.toInt64) (p 6) 1 ((x173 p v1 (Int32.ofInt 0) J).toInt64)) (p 6) 2 ((x173 p v1 (Int32.ofInt 1) J).toInt64)) (p 6) 3 ((x173 p v1 (Int32.ofInt 2) J).toInt64)) (p 6) 4 v2.toInt64) (p 6) 5 ((x173 p v1 (Int32.ofInt 3) J).toInt64)) (p 6) 6 (Int64.ofNat 0))) J) _ := k
      have k := ly_revb 1 (c' := (106, [(0, .ref (p 0)), (1, .int v1), (2, .int v2), (3, .int v3)], [.ref (p 0)], me_w (lw M (nt_u (nt_u (nt_u (nt_u (nt_u (nt_u (nt_u L (p 6) 0 v1.toInt64) (p 6) 1 ((x173 p v1 (Int32.ofInt 0) J).toInt64)) (p 6) 2 ((x173 p v1 (Int32.ofInt 1) J).toInt64)) (p 6) 3 ((x173 p v1 (Int32.ofInt 2) J).toInt64)) (p 6) 4 v2.toInt64) (p 6) 5 ((x173 p v1 (Int32.ofInt 3) J).toInt64)) (p 6) 6 (Int64.ofNat 0))) J)) rfl k
      have k := lz_get (a := (p 0)) (g := 1126) (M := me_w (lw M (nt_u (nt_u (nt_u (nt_u (nt_u (nt_u (nt_u L (p 6) 0 v1.toInt64) (p 6) 1 ((x173 p v1 (Int32.ofInt 0) J).toInt64)) (p 6) 2 ((x173 p v1 (Int32.ofInt 1) J).toInt64)) (p 6) 3 ((x173 p v1 (Int32.ofInt 2) J).toInt64)) (p 6) 4 v2.toInt64) (p 6) 5 ((x173 p v1 (Int32.ofInt 3) J).toInt64)) (p 6) 6 (Int64.ofNat 0))) J) (v := .ref (p 6)) rfl (nt_gfR rfl (hp.1 (0, 26, 6) (by decide))) k
      have k := ly_revb 2 (c' := (112, [(0, .ref (p 0)), (1, .int v1), (2, .int v2), (3, .int v3)], [.ref (p 0), .int (Int32.ofInt 7), .ref (p 6)], me_w (lw M (nt_u (nt_u (nt_u (nt_u (nt_u (nt_u (nt_u L (p 6) 0 v1.toInt64) (p 6) 1 ((x173 p v1 (Int32.ofInt 0) J).toInt64)) (p 6) 2 ((x173 p v1 (Int32.ofInt 1) J).toInt64)) (p 6) 3 ((x173 p v1 (Int32.ofInt 2) J).toInt64)) (p 6) 4 v2.toInt64) (p 6) 5 ((x173 p v1 (Int32.ofInt 3) J).toInt64)) (p 6) 6 (Int64.ofNat 0))) J)) rfl k
      have k := lz_get (a := (p 0)) (g := 1127) (M := me_w (lw M (nt_u (nt_u (nt_u (nt_u (nt_u (nt_u (nt_u L (p 6) 0 v1.toInt64) (p 6) 1 ((x173 p v1 (Int32.ofInt 0) J).toInt64)) (p 6) 2 ((x173 p v1 (Int32.ofInt 1) J).toInt64)) (p 6) 3 ((x173 p v1 (Int32.ofInt 2) J).toInt64)) (p 6) 4 v2.toInt64) (p 6) 5 ((x173 p v1 (Int32.ofInt 3) J).toInt64)) (p 6) 6 (Int64.ofNat 0))) J) (v := .ref (p 4)) rfl (nt_gfR rfl (hp.1 (0, 27, 4) (by decide))) k
      have k := ly_revb 1 (c' := (116, [(0, .ref (p 0)), (1, .int v1), (2, .int v2), (3, .int v3)], [.int (Int32.ofInt 4), .ref (p 4), .int (Int32.ofInt 7), .ref (p 6)], me_w (lw M (nt_u (nt_u (nt_u (nt_u (nt_u (nt_u (nt_u L (p 6) 0 v1.toInt64) (p 6) 1 ((x173 p v1 (Int32.ofInt 0) J).toInt64)) (p 6) 2 ((x173 p v1 (Int32.ofInt 1) J).toInt64)) (p 6) 3 ((x173 p v1 (Int32.ofInt 2) J).toInt64)) (p 6) 4 v2.toInt64) (p 6) 5 ((x173 p v1 (Int32.ofInt 3) J).toInt64)) (p 6) 6 (Int64.ofNat 0))) J)) rfl k
      have k := mx_iald (v := J (p 4) 4) rfl (hp.2.2.1 4 (by omega)) ((congrArg (J (p 4)) (show (Int32.ofInt 4).toNatClampNeg = 4 from rfl)).trans (rfl)) k
      have k := ly_revb 1 (c' := (118, [(0, .ref (p 0)), (1, .int v1), (2, .int v2), (3, .int v3)], [.long ((J (p 4) 4).toInt64), .int (Int32.ofInt 7), .ref (p 6)], me_w (lw M (nt_u (nt_u (nt_u (nt_u (nt_u (nt_u (nt_u L (p 6) 0 v1.toInt64) (p 6) 1 ((x173 p v1 (Int32.ofInt 0) J).toInt64)) (p 6) 2 ((x173 p v1 (Int32.ofInt 1) J).toInt64)) (p 6) 3 ((x173 p v1 (Int32.ofInt 2) J).toInt64)) (p 6) 4 v2.toInt64) (p 6) 5 ((x173 p v1 (Int32.ofInt 3) J).toInt64)) (p 6) 6 (Int64.ofNat 0))) J)) rfl k
      have k := mx_last (q := 7) rfl (show (Int32.ofInt 7).toNatClampNeg = 7 from rfl) k
      have k : nt_rn X _ 196 (119, [(0, .ref (p 0)), (1, .int v1), (2, .int v2), (3, .int v3)], [], me_w (lw M (nt_u (nt_u (nt_u (nt_u (nt_u (nt_u (nt_u (nt_u L (p 6) 0 v1.toInt64) (p 6) 1 ((x173 p v1 (Int32.ofInt 0) J).toInt64)) (p 6) 2 ((x173 p v1 (Int32.ofInt 1) J).toInt64)) (p 6) 3 ((x173 p v1 (Int32.ofInt 2) J).toInt64)) (p 6) 4 v2.toInt64) (p 6) 5 ((x173 p v1 (Int32.ofInt 3) J).toInt64)) (p 6) 6 (Int64.ofNat 0)) (p 6) 7 ((J (p 4) 4).toInt64))) J) _ := k
      have k := ly_revb 1 (c' := (120, [(0, .ref (p 0)), (1, .int v1), (2, .int v2), (3, .int v3)], [.ref (p 0)], me_w (lw M (nt_u (nt_u (nt_u (nt_u (nt_u (nt_u (nt_u (nt_u L (p 6) 0 v1.toInt64) (p 6) 1 ((x173 p v1 (Int32.ofInt 0) J).toInt64)) (p 6) 2 ((x173 p v1 (Int32.ofInt 1) J).toInt64)) (p 6) 3 ((x173 p v1 (Int32.ofInt 2) J).toInt64)) (p 6) 4 v2.toInt64) (p 6) 5 ((x173 p v1 (Int32.ofInt 3) J).toInt64)) (p 6) 6 (Int64.ofNat 0)) (p 6) 7 ((J (p 4) 4).toInt64))) J)) rfl k
      have k := lz_get (a := (p 0)) (g := 1126) (M := me_w (lw M (nt_u (nt_u (nt_u (nt_u (nt_u (nt_u (nt_u (nt_u L (p 6) 0 v1.toInt64) (p 6) 1 ((x173 p v1 (Int32.ofInt 0) J).toInt64)) (p 6) 2 ((x173 p v1 (Int32.ofInt 1) J).toInt64)) (p 6) 3 ((x173 p v1 (Int32.ofInt 2) J).toInt64)) (p 6) 4 v2.toInt64) (p 6) 5 ((x173 p v1 (Int32.ofInt 3) J).toInt64)) (p 6) 6 (Int64.ofNat 0)) (p 6) 7 ((J (p 4) 4).toInt64))) J) (v := .ref (p 6)) rfl (nt_gfR rfl (hp.1 (0, 26, 6) (by decide))) k
      have k := ly_revb 2 (c' := (126, [(0, .ref (p 0)), (1, .int v1), (2, .int v2), (3, .int v3)], [.ref (p 0), .int (Int32.ofInt 8), .ref (p 6)], me_w (lw M (nt_u (nt_u (nt_u (nt_u (nt_u (nt_u (nt_u (nt_u L (p 6) 0 v1.toInt64) (p 6) 1 ((x173 p v1 (Int32.ofInt 0) J).toInt64)) (p 6) 2 ((x173 p v1 (Int32.ofInt 1) J).toInt64)) (p 6) 3 ((x173 p v1 (Int32.ofInt 2) J).toInt64)) (p 6) 4 v2.toInt64) (p 6) 5 ((x173 p v1 (Int32.ofInt 3) J).toInt64)) (p 6) 6 (Int64.ofNat 0)) (p 6) 7 ((J (p 4) 4).toInt64))) J)) rfl k
      have k := lz_get (a := (p 0)) (g := 1127) (M := me_w (lw M (nt_u (nt_u (nt_u (nt_u (nt_u (nt_u (nt_u (nt_u L (p 6) 0 v1.toInt64) (p 6) 1 ((x173 p v1 (Int32.ofInt 0) J).toInt64)) (p 6) 2 ((x173 p v1 (Int32.ofInt 1) J).toInt64)) (p 6) 3 ((x173 p v1 (Int32.ofInt 2) J).toInt64)) (p 6) 4 v2.toInt64) (p 6) 5 ((x173 p v1 (Int32.ofInt 3) J).toInt64)) (p 6) 6 (Int64.ofNat 0)) (p 6) 7 ((J (p 4) 4).toInt64))) J) (v := .ref (p 4)) rfl (nt_gfR rfl (hp.1 (0, 27, 4) (by decide))) k
      have k := ly_revb 1 (c' := (131, [(0, .ref (p 0)), (1, .int v1), (2, .int v2), (3, .int v3)], [.int (Int32.ofInt 6), .ref (p 4), .int (Int32.ofInt 8), .ref (p 6)], me_w (lw M (nt_u (nt_u (nt_u (nt_u (nt_u (nt_u (nt_u (nt_u L (p 6) 0 v1.toInt64) (p 6) 1 ((x173 p v1 (Int32.ofInt 0) J).toInt64)) (p 6) 2 ((x173 p v1 (Int32.ofInt 1) J).toInt64)) (p 6) 3 ((x173 p v1 (Int32.ofInt 2) J).toInt64)) (p 6) 4 v2.toInt64) (p 6) 5 ((x173 p v1 (Int32.ofInt 3) J).toInt64)) (p 6) 6 (Int64.ofNat 0)) (p 6) 7 ((J (p 4) 4).toInt64))) J)) rfl k
      have k := mx_iald (v := J (p 4) 6) rfl (hp.2.2.1 4 (by omega)) ((congrArg (J (p 4)) (show (Int32.ofInt 6).toNatClampNeg = 6 from rfl)).trans (rfl)) k
      have k := ly_revb 1 (c' := (133, [(0, .ref (p 0)), (1, .int v1), (2, .int v2), (3, .int v3)], [.long ((J (p 4) 6).toInt64), .int (Int32.ofInt 8), .ref (p 6)], me_w (lw M (nt_u (nt_u (nt_u (nt_u (nt_u (nt_u (nt_u (nt_u L (p 6) 0 v1.toInt64) (p 6) 1 ((x173 p v1 (Int32.ofInt 0) J).toInt64)) (p 6) 2 ((x173 p v1 (Int32.ofInt 1) J).toInt64)) (p 6) 3 ((x173 p v1 (Int32.ofInt 2) J).toInt64)) (p 6) 4 v2.toInt64) (p 6) 5 ((x173 p v1 (Int32.ofInt 3) J).toInt64)) (p 6) 6 (Int64.ofNat 0)) (p 6) 7 ((J (p 4) 4).toInt64))) J)) rfl k
      have k := mx_last (q := 8) rfl (show (Int32.ofInt 8).toNatClampNeg = 8 from rfl) k
      have k : nt_rn X _ 196 (134, [(0, .ref (p 0)), (1, .int v1), (2, .int v2), (3, .int v3)], [], me_w (lw M (nt_u (nt_u (nt_u (nt_u (nt_u (nt_u (nt_u (nt_u (nt_u L (p 6) 0 v1.toInt64) (p 6) 1 ((x173 p v1 (Int32.ofInt 0) J).toInt64)) (p 6) 2 ((x173 p v1 (Int32.ofInt 1) J).toInt64)) (p 6) 3 ((x173 p v1 (Int32.ofInt 2) J).toInt64)) (p 6) 4 v2.toInt64) (p 6) 5 ((x173 p v1 (Int32.ofInt 3) J).toInt64)) (p 6) 6 (Int64.ofNat 0)) (p 6) 7 ((J (p 4) 4).toInt64)) (p 6) 8 ((J (p 4) 6).toInt64))) J) _ := k
      have k := ly_revb 1 (c' := (135, [(0, .ref (p 0)), (1, .int v1), (2, .int v2), (3, .int v3)], [.ref (p 0)], me_w (lw M (nt_u (nt_u (nt_u (nt_u (nt_u (nt_u (nt_u (nt_u (nt_u L (p 6) 0 v1.toInt64) (p 6) 1 ((x173 p v1 (Int32.ofInt 0) J).toInt64)) (p 6) 2 ((x173 p v1 (Int32.ofInt 1) J).toInt64)) (p 6) 3 ((x173 p v1 (Int32.ofInt 2) J).toInt64)) (p 6) 4 v2.toInt64) (p 6) 5 ((x173 p v1 (Int32.ofInt 3) J).toInt64)) (p 6) 6 (Int64.ofNat 0)) (p 6) 7 ((J (p 4) 4).toInt64)) (p 6) 8 ((J (p 4) 6).toInt64))) J)) rfl k
      have k := lz_get (a := (p 0)) (g := 1126) (M := me_w (lw M (nt_u (nt_u (nt_u (nt_u (nt_u (nt_u (nt_u (nt_u (nt_u L (p 6) 0 v1.toInt64) (p 6) 1 ((x173 p v1 (Int32.ofInt 0) J).toInt64)) (p 6) 2 ((x173 p v1 (Int32.ofInt 1) J).toInt64)) (p 6) 3 ((x173 p v1 (Int32.ofInt 2) J).toInt64)) (p 6) 4 v2.toInt64) (p 6) 5 ((x173 p v1 (Int32.ofInt 3) J).toInt64)) (p 6) 6 (Int64.ofNat 0)) (p 6) 7 ((J (p 4) 4).toInt64)) (p 6) 8 ((J (p 4) 6).toInt64))) J) (v := .ref (p 6)) rfl (nt_gfR rfl (hp.1 (0, 26, 6) (by decide))) k
      have k := ly_revb 4 (c' := (143, [(0, .ref (p 0)), (1, .int v1), (2, .int v2), (3, .int v3)], [.int (Int32.ofInt 2), .int v3, .ref (p 0), .int (Int32.ofInt 9), .ref (p 6)], me_w (lw M (nt_u (nt_u (nt_u (nt_u (nt_u (nt_u (nt_u (nt_u (nt_u L (p 6) 0 v1.toInt64) (p 6) 1 ((x173 p v1 (Int32.ofInt 0) J).toInt64)) (p 6) 2 ((x173 p v1 (Int32.ofInt 1) J).toInt64)) (p 6) 3 ((x173 p v1 (Int32.ofInt 2) J).toInt64)) (p 6) 4 v2.toInt64) (p 6) 5 ((x173 p v1 (Int32.ofInt 3) J).toInt64)) (p 6) 6 (Int64.ofNat 0)) (p 6) 7 ((J (p 4) 4).toInt64)) (p 6) 8 ((J (p 4) 6).toInt64))) J)) rfl k
      obtain ⟨d1, o1, ed, kc, k⟩ := lz_c (g := 180) (q := 1) (vs := [.ref (p 0), .int v3, .int (Int32.ofInt 2)]) (rest := [.int (Int32.ofInt 9), .ref (p 6)]) rfl rfl (by decide) (Or.inr (Or.inl ⟨_, rfl, rfl⟩)) rfl k
      have e1 := xt180 (xs_lp hp) kc
      subst e1
      have k : nt_rn X _ 196 (146, [(0, .ref (p 0)), (1, .int v1), (2, .int v2), (3, .int v3)], [.int (x180 p v3 (Int32.ofInt 2) J), .int (Int32.ofInt 9), .ref (p 6)], me_w (lw M (nt_u (nt_u (nt_u (nt_u (nt_u (nt_u (nt_u (nt_u (nt_u L (p 6) 0 v1.toInt64) (p 6) 1 ((x173 p v1 (Int32.ofInt 0) J).toInt64)) (p 6) 2 ((x173 p v1 (Int32.ofInt 1) J).toInt64)) (p 6) 3 ((x173 p v1 (Int32.ofInt 2) J).toInt64)) (p 6) 4 v2.toInt64) (p 6) 5 ((x173 p v1 (Int32.ofInt 3) J).toInt64)) (p 6) 6 (Int64.ofNat 0)) (p 6) 7 ((J (p 4) 4).toInt64)) (p 6) 8 ((J (p 4) 6).toInt64))) J) _ := k
      have k := ly_revb 3 (c' := (149, [(0, .ref (p 0)), (1, .int v1), (2, .int v2), (3, .int v3)], [.int (Int32.ofInt 1), .int v3, .ref (p 0), .int (x180 p v3 (Int32.ofInt 2) J), .int (Int32.ofInt 9), .ref (p 6)], me_w (lw M (nt_u (nt_u (nt_u (nt_u (nt_u (nt_u (nt_u (nt_u (nt_u L (p 6) 0 v1.toInt64) (p 6) 1 ((x173 p v1 (Int32.ofInt 0) J).toInt64)) (p 6) 2 ((x173 p v1 (Int32.ofInt 1) J).toInt64)) (p 6) 3 ((x173 p v1 (Int32.ofInt 2) J).toInt64)) (p 6) 4 v2.toInt64) (p 6) 5 ((x173 p v1 (Int32.ofInt 3) J).toInt64)) (p 6) 6 (Int64.ofNat 0)) (p 6) 7 ((J (p 4) 4).toInt64)) (p 6) 8 ((J (p 4) 6).toInt64))) J)) rfl k
      obtain ⟨d1, o1, ed, kc, k⟩ := lz_c (g := 180) (q := 1) (vs := [.ref (p 0), .int v3, .int (Int32.ofInt 1)]) (rest := [.int (x180 p v3 (Int32.ofInt 2) J), .int (Int32.ofInt 9), .ref (p 6)]) rfl rfl (by decide) (Or.inr (Or.inl ⟨_, rfl, rfl⟩)) rfl k
      have e1 := xt180 (xs_lp hp) kc
      subst e1
      have k : nt_rn X _ 196 (152, [(0, .ref (p 0)), (1, .int v1), (2, .int v2), (3, .int v3)], [.int (x180 p v3 (Int32.ofInt 1) J), .int (x180 p v3 (Int32.ofInt 2) J), .int (Int32.ofInt 9), .ref (p 6)], me_w (lw M (nt_u (nt_u (nt_u (nt_u (nt_u (nt_u (nt_u (nt_u (nt_u L (p 6) 0 v1.toInt64) (p 6) 1 ((x173 p v1 (Int32.ofInt 0) J).toInt64)) (p 6) 2 ((x173 p v1 (Int32.ofInt 1) J).toInt64)) (p 6) 3 ((x173 p v1 (Int32.ofInt 2) J).toInt64)) (p 6) 4 v2.toInt64) (p 6) 5 ((x173 p v1 (Int32.ofInt 3) J).toInt64)) (p 6) 6 (Int64.ofNat 0)) (p 6) 7 ((J (p 4) 4).toInt64)) (p 6) 8 ((J (p 4) 6).toInt64))) J) _ := k
      have k := ly_revb 2 (c' := (154, [(0, .ref (p 0)), (1, .int v1), (2, .int v2), (3, .int v3)], [.long (((x180 p v3 (Int32.ofInt 2) J) - (x180 p v3 (Int32.ofInt 1) J)).toInt64), .int (Int32.ofInt 9), .ref (p 6)], me_w (lw M (nt_u (nt_u (nt_u (nt_u (nt_u (nt_u (nt_u (nt_u (nt_u L (p 6) 0 v1.toInt64) (p 6) 1 ((x173 p v1 (Int32.ofInt 0) J).toInt64)) (p 6) 2 ((x173 p v1 (Int32.ofInt 1) J).toInt64)) (p 6) 3 ((x173 p v1 (Int32.ofInt 2) J).toInt64)) (p 6) 4 v2.toInt64) (p 6) 5 ((x173 p v1 (Int32.ofInt 3) J).toInt64)) (p 6) 6 (Int64.ofNat 0)) (p 6) 7 ((J (p 4) 4).toInt64)) (p 6) 8 ((J (p 4) 6).toInt64))) J)) rfl k
      have k := mx_last (q := 9) rfl (show (Int32.ofInt 9).toNatClampNeg = 9 from rfl) k
      have k : nt_rn X _ 196 (155, [(0, .ref (p 0)), (1, .int v1), (2, .int v2), (3, .int v3)], [], me_w (lw M (nt_u (nt_u (nt_u (nt_u (nt_u (nt_u (nt_u (nt_u (nt_u (nt_u L (p 6) 0 v1.toInt64) (p 6) 1 ((x173 p v1 (Int32.ofInt 0) J).toInt64)) (p 6) 2 ((x173 p v1 (Int32.ofInt 1) J).toInt64)) (p 6) 3 ((x173 p v1 (Int32.ofInt 2) J).toInt64)) (p 6) 4 v2.toInt64) (p 6) 5 ((x173 p v1 (Int32.ofInt 3) J).toInt64)) (p 6) 6 (Int64.ofNat 0)) (p 6) 7 ((J (p 4) 4).toInt64)) (p 6) 8 ((J (p 4) 6).toInt64)) (p 6) 9 (((x180 p v3 (Int32.ofInt 2) J) - (x180 p v3 (Int32.ofInt 1) J)).toInt64))) J) _ := k
      have k := lz_rv rfl rfl k
      rw [k, x196, if_pos h66, if_neg h96]
  · rw [if_neg h66] at k
    have k := ly_revb 2 (c' := (82, [(0, .ref (p 0)), (1, .int v1), (2, .int v2), (3, .int v3)], [.long 99, .int (Int32.ofInt 5), .ref (p 6)], me_w (lw M (nt_u (nt_u (nt_u (nt_u (nt_u L (p 6) 0 v1.toInt64) (p 6) 1 ((x173 p v1 (Int32.ofInt 0) J).toInt64)) (p 6) 2 ((x173 p v1 (Int32.ofInt 1) J).toInt64)) (p 6) 3 ((x173 p v1 (Int32.ofInt 2) J).toInt64)) (p 6) 4 v2.toInt64)) J)) rfl k
    have k := mx_last (q := 5) rfl (show (Int32.ofInt 5).toNatClampNeg = 5 from rfl) k
    have k : nt_rn X _ 196 (83, [(0, .ref (p 0)), (1, .int v1), (2, .int v2), (3, .int v3)], [], me_w (lw M (nt_u (nt_u (nt_u (nt_u (nt_u (nt_u L (p 6) 0 v1.toInt64) (p 6) 1 ((x173 p v1 (Int32.ofInt 0) J).toInt64)) (p 6) 2 ((x173 p v1 (Int32.ofInt 1) J).toInt64)) (p 6) 3 ((x173 p v1 (Int32.ofInt 2) J).toInt64)) (p 6) 4 v2.toInt64) (p 6) 5 99)) J) _ := k
    have k := ly_revb 1 (c' := (84, [(0, .ref (p 0)), (1, .int v1), (2, .int v2), (3, .int v3)], [.ref (p 0)], me_w (lw M (nt_u (nt_u (nt_u (nt_u (nt_u (nt_u L (p 6) 0 v1.toInt64) (p 6) 1 ((x173 p v1 (Int32.ofInt 0) J).toInt64)) (p 6) 2 ((x173 p v1 (Int32.ofInt 1) J).toInt64)) (p 6) 3 ((x173 p v1 (Int32.ofInt 2) J).toInt64)) (p 6) 4 v2.toInt64) (p 6) 5 99)) J)) rfl k
    have k := lz_get (a := (p 0)) (g := 1126) (M := me_w (lw M (nt_u (nt_u (nt_u (nt_u (nt_u (nt_u L (p 6) 0 v1.toInt64) (p 6) 1 ((x173 p v1 (Int32.ofInt 0) J).toInt64)) (p 6) 2 ((x173 p v1 (Int32.ofInt 1) J).toInt64)) (p 6) 3 ((x173 p v1 (Int32.ofInt 2) J).toInt64)) (p 6) 4 v2.toInt64) (p 6) 5 99)) J) (v := .ref (p 6)) rfl (nt_gfR rfl (hp.1 (0, 26, 6) (by decide))) k
    have k := ly_revb 4 (c' := (92, [(0, .ref (p 0)), (1, .int v1), (2, .int v2), (3, .int v3)], [.int (Int32.ofInt 2), .int v1, .ref (p 0), .int (Int32.ofInt 6), .ref (p 6)], me_w (lw M (nt_u (nt_u (nt_u (nt_u (nt_u (nt_u L (p 6) 0 v1.toInt64) (p 6) 1 ((x173 p v1 (Int32.ofInt 0) J).toInt64)) (p 6) 2 ((x173 p v1 (Int32.ofInt 1) J).toInt64)) (p 6) 3 ((x173 p v1 (Int32.ofInt 2) J).toInt64)) (p 6) 4 v2.toInt64) (p 6) 5 99)) J)) rfl k
    obtain ⟨d1, o1, ed, kc, k⟩ := lz_c (g := 173) (q := 1) (vs := [.ref (p 0), .int v1, .int (Int32.ofInt 2)]) (rest := [.int (Int32.ofInt 6), .ref (p 6)]) rfl rfl (by decide) (Or.inr (Or.inl ⟨_, rfl, rfl⟩)) rfl k
    have e1 := xt173 (xs_lp hp) kc
    subst e1
    have k : nt_rn X _ 196 (95, [(0, .ref (p 0)), (1, .int v1), (2, .int v2), (3, .int v3)], [.int (x173 p v1 (Int32.ofInt 2) J), .int (Int32.ofInt 6), .ref (p 6)], me_w (lw M (nt_u (nt_u (nt_u (nt_u (nt_u (nt_u L (p 6) 0 v1.toInt64) (p 6) 1 ((x173 p v1 (Int32.ofInt 0) J).toInt64)) (p 6) 2 ((x173 p v1 (Int32.ofInt 1) J).toInt64)) (p 6) 3 ((x173 p v1 (Int32.ofInt 2) J).toInt64)) (p 6) 4 v2.toInt64) (p 6) 5 99)) J) _ := k
    have k := ly_revb 2 (c' := (if (x173 p v1 (Int32.ofInt 2) J) = v2 then 99 else 103, [(0, .ref (p 0)), (1, .int v1), (2, .int v2), (3, .int v3)], [.int (Int32.ofInt 6), .ref (p 6)], me_w (lw M (nt_u (nt_u (nt_u (nt_u (nt_u (nt_u L (p 6) 0 v1.toInt64) (p 6) 1 ((x173 p v1 (Int32.ofInt 0) J).toInt64)) (p 6) 2 ((x173 p v1 (Int32.ofInt 1) J).toInt64)) (p 6) 3 ((x173 p v1 (Int32.ofInt 2) J).toInt64)) (p 6) 4 v2.toInt64) (p 6) 5 99)) J)) rfl k
    by_cases h96 : (x173 p v1 (Int32.ofInt 2) J) = v2
    · rw [if_pos h96] at k
      have k := ly_revb 2 (c' := (104, [(0, .ref (p 0)), (1, .int v1), (2, .int v2), (3, .int v3)], [.long (Int64.ofNat 1), .int (Int32.ofInt 6), .ref (p 6)], me_w (lw M (nt_u (nt_u (nt_u (nt_u (nt_u (nt_u L (p 6) 0 v1.toInt64) (p 6) 1 ((x173 p v1 (Int32.ofInt 0) J).toInt64)) (p 6) 2 ((x173 p v1 (Int32.ofInt 1) J).toInt64)) (p 6) 3 ((x173 p v1 (Int32.ofInt 2) J).toInt64)) (p 6) 4 v2.toInt64) (p 6) 5 99)) J)) rfl k
      have k := mx_last (q := 6) rfl (show (Int32.ofInt 6).toNatClampNeg = 6 from rfl) k
      have k : nt_rn X _ 196 (105, [(0, .ref (p 0)), (1, .int v1), (2, .int v2), (3, .int v3)], [], me_w (lw M (nt_u (nt_u (nt_u (nt_u (nt_u (nt_u (nt_u L (p 6) 0 v1.toInt64) (p 6) 1 ((x173 p v1 (Int32.ofInt 0) J).toInt64)) (p 6) 2 ((x173 p v1 (Int32.ofInt 1) J).toInt64)) (p 6) 3 ((x173 p v1 (Int32.ofInt 2) J).toInt64)) (p 6) 4 v2.toInt64) (p 6) 5 99) (p 6) 6 (Int64.ofNat 1))) J) _ := k
      have k := ly_revb 1 (c' := (106, [(0, .ref (p 0)), (1, .int v1), (2, .int v2), (3, .int v3)], [.ref (p 0)], me_w (lw M (nt_u (nt_u (nt_u (nt_u (nt_u (nt_u (nt_u L (p 6) 0 v1.toInt64) (p 6) 1 ((x173 p v1 (Int32.ofInt 0) J).toInt64)) (p 6) 2 ((x173 p v1 (Int32.ofInt 1) J).toInt64)) (p 6) 3 ((x173 p v1 (Int32.ofInt 2) J).toInt64)) (p 6) 4 v2.toInt64) (p 6) 5 99) (p 6) 6 (Int64.ofNat 1))) J)) rfl k
      have k := lz_get (a := (p 0)) (g := 1126) (M := me_w (lw M (nt_u (nt_u (nt_u (nt_u (nt_u (nt_u (nt_u L (p 6) 0 v1.toInt64) (p 6) 1 ((x173 p v1 (Int32.ofInt 0) J).toInt64)) (p 6) 2 ((x173 p v1 (Int32.ofInt 1) J).toInt64)) (p 6) 3 ((x173 p v1 (Int32.ofInt 2) J).toInt64)) (p 6) 4 v2.toInt64) (p 6) 5 99) (p 6) 6 (Int64.ofNat 1))) J) (v := .ref (p 6)) rfl (nt_gfR rfl (hp.1 (0, 26, 6) (by decide))) k
      have k := ly_revb 2 (c' := (112, [(0, .ref (p 0)), (1, .int v1), (2, .int v2), (3, .int v3)], [.ref (p 0), .int (Int32.ofInt 7), .ref (p 6)], me_w (lw M (nt_u (nt_u (nt_u (nt_u (nt_u (nt_u (nt_u L (p 6) 0 v1.toInt64) (p 6) 1 ((x173 p v1 (Int32.ofInt 0) J).toInt64)) (p 6) 2 ((x173 p v1 (Int32.ofInt 1) J).toInt64)) (p 6) 3 ((x173 p v1 (Int32.ofInt 2) J).toInt64)) (p 6) 4 v2.toInt64) (p 6) 5 99) (p 6) 6 (Int64.ofNat 1))) J)) rfl k
      have k := lz_get (a := (p 0)) (g := 1127) (M := me_w (lw M (nt_u (nt_u (nt_u (nt_u (nt_u (nt_u (nt_u L (p 6) 0 v1.toInt64) (p 6) 1 ((x173 p v1 (Int32.ofInt 0) J).toInt64)) (p 6) 2 ((x173 p v1 (Int32.ofInt 1) J).toInt64)) (p 6) 3 ((x173 p v1 (Int32.ofInt 2) J).toInt64)) (p 6) 4 v2.toInt64) (p 6) 5 99) (p 6) 6 (Int64.ofNat 1))) J) (v := .ref (p 4)) rfl (nt_gfR rfl (hp.1 (0, 27, 4) (by decide))) k
      have k := ly_revb 1 (c' := (116, [(0, .ref (p 0)), (1, .int v1), (2, .int v2), (3, .int v3)], [.int (Int32.ofInt 4), .ref (p 4), .int (Int32.ofInt 7), .ref (p 6)], me_w (lw M (nt_u (nt_u (nt_u (nt_u (nt_u (nt_u (nt_u L (p 6) 0 v1.toInt64) (p 6) 1 ((x173 p v1 (Int32.ofInt 0) J).toInt64)) (p 6) 2 ((x173 p v1 (Int32.ofInt 1) J).toInt64)) (p 6) 3 ((x173 p v1 (Int32.ofInt 2) J).toInt64)) (p 6) 4 v2.toInt64) (p 6) 5 99) (p 6) 6 (Int64.ofNat 1))) J)) rfl k
      have k := mx_iald (v := J (p 4) 4) rfl (hp.2.2.1 4 (by omega)) ((congrArg (J (p 4)) (show (Int32.ofInt 4).toNatClampNeg = 4 from rfl)).trans (rfl)) k
      have k := ly_revb 1 (c' := (118, [(0, .ref (p 0)), (1, .int v1), (2, .int v2), (3, .int v3)], [.long ((J (p 4) 4).toInt64), .int (Int32.ofInt 7), .ref (p 6)], me_w (lw M (nt_u (nt_u (nt_u (nt_u (nt_u (nt_u (nt_u L (p 6) 0 v1.toInt64) (p 6) 1 ((x173 p v1 (Int32.ofInt 0) J).toInt64)) (p 6) 2 ((x173 p v1 (Int32.ofInt 1) J).toInt64)) (p 6) 3 ((x173 p v1 (Int32.ofInt 2) J).toInt64)) (p 6) 4 v2.toInt64) (p 6) 5 99) (p 6) 6 (Int64.ofNat 1))) J)) rfl k
      have k := mx_last (q := 7) rfl (show (Int32.ofInt 7).toNatClampNeg = 7 from rfl) k
      have k : nt_rn X _ 196 (119, [(0, .ref (p 0)), (1, .int v1), (2, .int v2), (3, .int v3)], [], me_w (lw M (nt_u (nt_u (nt_u (nt_u (nt_u (nt_u (nt_u (nt_u L (p 6) 0 v1.toInt64) (p 6) 1 ((x173 p v1 (Int32.ofInt 0) J).toInt64)) (p 6) 2 ((x173 p v1 (Int32.ofInt 1) J).toInt64)) (p 6) 3 ((x173 p v1 (Int32.ofInt 2) J).toInt64)) (p 6) 4 v2.toInt64) (p 6) 5 99) (p 6) 6 (Int64.ofNat 1)) (p 6) 7 ((J (p 4) 4).toInt64))) J) _ := k
      have k := ly_revb 1 (c' := (120, [(0, .ref (p 0)), (1, .int v1), (2, .int v2), (3, .int v3)], [.ref (p 0)], me_w (lw M (nt_u (nt_u (nt_u (nt_u (nt_u (nt_u (nt_u (nt_u L (p 6) 0 v1.toInt64) (p 6) 1 ((x173 p v1 (Int32.ofInt 0) J).toInt64)) (p 6) 2 ((x173 p v1 (Int32.ofInt 1) J).toInt64)) (p 6) 3 ((x173 p v1 (Int32.ofInt 2) J).toInt64)) (p 6) 4 v2.toInt64) (p 6) 5 99) (p 6) 6 (Int64.ofNat 1)) (p 6) 7 ((J (p 4) 4).toInt64))) J)) rfl k
      have k := lz_get (a := (p 0)) (g := 1126) (M := me_w (lw M (nt_u (nt_u (nt_u (nt_u (nt_u (nt_u (nt_u (nt_u L (p 6) 0 v1.toInt64) (p 6) 1 ((x173 p v1 (Int32.ofInt 0) J).toInt64)) (p 6) 2 ((x173 p v1 (Int32.ofInt 1) J).toInt64)) (p 6) 3 ((x173 p v1 (Int32.ofInt 2) J).toInt64)) (p 6) 4 v2.toInt64) (p 6) 5 99) (p 6) 6 (Int64.ofNat 1)) (p 6) 7 ((J (p 4) 4).toInt64))) J) (v := .ref (p 6)) rfl (nt_gfR rfl (hp.1 (0, 26, 6) (by decide))) k
      have k := ly_revb 2 (c' := (126, [(0, .ref (p 0)), (1, .int v1), (2, .int v2), (3, .int v3)], [.ref (p 0), .int (Int32.ofInt 8), .ref (p 6)], me_w (lw M (nt_u (nt_u (nt_u (nt_u (nt_u (nt_u (nt_u (nt_u L (p 6) 0 v1.toInt64) (p 6) 1 ((x173 p v1 (Int32.ofInt 0) J).toInt64)) (p 6) 2 ((x173 p v1 (Int32.ofInt 1) J).toInt64)) (p 6) 3 ((x173 p v1 (Int32.ofInt 2) J).toInt64)) (p 6) 4 v2.toInt64) (p 6) 5 99) (p 6) 6 (Int64.ofNat 1)) (p 6) 7 ((J (p 4) 4).toInt64))) J)) rfl k
      have k := lz_get (a := (p 0)) (g := 1127) (M := me_w (lw M (nt_u (nt_u (nt_u (nt_u (nt_u (nt_u (nt_u (nt_u L (p 6) 0 v1.toInt64) (p 6) 1 ((x173 p v1 (Int32.ofInt 0) J).toInt64)) (p 6) 2 ((x173 p v1 (Int32.ofInt 1) J).toInt64)) (p 6) 3 ((x173 p v1 (Int32.ofInt 2) J).toInt64)) (p 6) 4 v2.toInt64) (p 6) 5 99) (p 6) 6 (Int64.ofNat 1)) (p 6) 7 ((J (p 4) 4).toInt64))) J) (v := .ref (p 4)) rfl (nt_gfR rfl (hp.1 (0, 27, 4) (by decide))) k
      have k := ly_revb 1 (c' := (131, [(0, .ref (p 0)), (1, .int v1), (2, .int v2), (3, .int v3)], [.int (Int32.ofInt 6), .ref (p 4), .int (Int32.ofInt 8), .ref (p 6)], me_w (lw M (nt_u (nt_u (nt_u (nt_u (nt_u (nt_u (nt_u (nt_u L (p 6) 0 v1.toInt64) (p 6) 1 ((x173 p v1 (Int32.ofInt 0) J).toInt64)) (p 6) 2 ((x173 p v1 (Int32.ofInt 1) J).toInt64)) (p 6) 3 ((x173 p v1 (Int32.ofInt 2) J).toInt64)) (p 6) 4 v2.toInt64) (p 6) 5 99) (p 6) 6 (Int64.ofNat 1)) (p 6) 7 ((J (p 4) 4).toInt64))) J)) rfl k
      have k := mx_iald (v := J (p 4) 6) rfl (hp.2.2.1 4 (by omega)) ((congrArg (J (p 4)) (show (Int32.ofInt 6).toNatClampNeg = 6 from rfl)).trans (rfl)) k
      have k := ly_revb 1 (c' := (133, [(0, .ref (p 0)), (1, .int v1), (2, .int v2), (3, .int v3)], [.long ((J (p 4) 6).toInt64), .int (Int32.ofInt 8), .ref (p 6)], me_w (lw M (nt_u (nt_u (nt_u (nt_u (nt_u (nt_u (nt_u (nt_u L (p 6) 0 v1.toInt64) (p 6) 1 ((x173 p v1 (Int32.ofInt 0) J).toInt64)) (p 6) 2 ((x173 p v1 (Int32.ofInt 1) J).toInt64)) (p 6) 3 ((x173 p v1 (Int32.ofInt 2) J).toInt64)) (p 6) 4 v2.toInt64) (p 6) 5 99) (p 6) 6 (Int64.ofNat 1)) (p 6) 7 ((J (p 4) 4).toInt64))) J)) rfl k
      have k := mx_last (q := 8) rfl (show (Int32.ofInt 8).toNatClampNeg = 8 from rfl) k
      have k : nt_rn X _ 196 (134, [(0, .ref (p 0)), (1, .int v1), (2, .int v2), (3, .int v3)], [], me_w (lw M (nt_u (nt_u (nt_u (nt_u (nt_u (nt_u (nt_u (nt_u (nt_u L (p 6) 0 v1.toInt64) (p 6) 1 ((x173 p v1 (Int32.ofInt 0) J).toInt64)) (p 6) 2 ((x173 p v1 (Int32.ofInt 1) J).toInt64)) (p 6) 3 ((x173 p v1 (Int32.ofInt 2) J).toInt64)) (p 6) 4 v2.toInt64) (p 6) 5 99) (p 6) 6 (Int64.ofNat 1)) (p 6) 7 ((J (p 4) 4).toInt64)) (p 6) 8 ((J (p 4) 6).toInt64))) J) _ := k
      have k := ly_revb 1 (c' := (135, [(0, .ref (p 0)), (1, .int v1), (2, .int v2), (3, .int v3)], [.ref (p 0)], me_w (lw M (nt_u (nt_u (nt_u (nt_u (nt_u (nt_u (nt_u (nt_u (nt_u L (p 6) 0 v1.toInt64) (p 6) 1 ((x173 p v1 (Int32.ofInt 0) J).toInt64)) (p 6) 2 ((x173 p v1 (Int32.ofInt 1) J).toInt64)) (p 6) 3 ((x173 p v1 (Int32.ofInt 2) J).toInt64)) (p 6) 4 v2.toInt64) (p 6) 5 99) (p 6) 6 (Int64.ofNat 1)) (p 6) 7 ((J (p 4) 4).toInt64)) (p 6) 8 ((J (p 4) 6).toInt64))) J)) rfl k
      have k := lz_get (a := (p 0)) (g := 1126) (M := me_w (lw M (nt_u (nt_u (nt_u (nt_u (nt_u (nt_u (nt_u (nt_u (nt_u L (p 6) 0 v1.toInt64) (p 6) 1 ((x173 p v1 (Int32.ofInt 0) J).toInt64)) (p 6) 2 ((x173 p v1 (Int32.ofInt 1) J).toInt64)) (p 6) 3 ((x173 p v1 (Int32.ofInt 2) J).toInt64)) (p 6) 4 v2.toInt64) (p 6) 5 99) (p 6) 6 (Int64.ofNat 1)) (p 6) 7 ((J (p 4) 4).toInt64)) (p 6) 8 ((J (p 4) 6).toInt64))) J) (v := .ref (p 6)) rfl (nt_gfR rfl (hp.1 (0, 26, 6) (by decide))) k
      have k := ly_revb 4 (c' := (143, [(0, .ref (p 0)), (1, .int v1), (2, .int v2), (3, .int v3)], [.int (Int32.ofInt 2), .int v3, .ref (p 0), .int (Int32.ofInt 9), .ref (p 6)], me_w (lw M (nt_u (nt_u (nt_u (nt_u (nt_u (nt_u (nt_u (nt_u (nt_u L (p 6) 0 v1.toInt64) (p 6) 1 ((x173 p v1 (Int32.ofInt 0) J).toInt64)) (p 6) 2 ((x173 p v1 (Int32.ofInt 1) J).toInt64)) (p 6) 3 ((x173 p v1 (Int32.ofInt 2) J).toInt64)) (p 6) 4 v2.toInt64) (p 6) 5 99) (p 6) 6 (Int64.ofNat 1)) (p 6) 7 ((J (p 4) 4).toInt64)) (p 6) 8 ((J (p 4) 6).toInt64))) J)) rfl k
      obtain ⟨d1, o1, ed, kc, k⟩ := lz_c (g := 180) (q := 1) (vs := [.ref (p 0), .int v3, .int (Int32.ofInt 2)]) (rest := [.int (Int32.ofInt 9), .ref (p 6)]) rfl rfl (by decide) (Or.inr (Or.inl ⟨_, rfl, rfl⟩)) rfl k
      have e1 := xt180 (xs_lp hp) kc
      subst e1
      have k : nt_rn X _ 196 (146, [(0, .ref (p 0)), (1, .int v1), (2, .int v2), (3, .int v3)], [.int (x180 p v3 (Int32.ofInt 2) J), .int (Int32.ofInt 9), .ref (p 6)], me_w (lw M (nt_u (nt_u (nt_u (nt_u (nt_u (nt_u (nt_u (nt_u (nt_u L (p 6) 0 v1.toInt64) (p 6) 1 ((x173 p v1 (Int32.ofInt 0) J).toInt64)) (p 6) 2 ((x173 p v1 (Int32.ofInt 1) J).toInt64)) (p 6) 3 ((x173 p v1 (Int32.ofInt 2) J).toInt64)) (p 6) 4 v2.toInt64) (p 6) 5 99) (p 6) 6 (Int64.ofNat 1)) (p 6) 7 ((J (p 4) 4).toInt64)) (p 6) 8 ((J (p 4) 6).toInt64))) J) _ := k
      have k := ly_revb 3 (c' := (149, [(0, .ref (p 0)), (1, .int v1), (2, .int v2), (3, .int v3)], [.int (Int32.ofInt 1), .int v3, .ref (p 0), .int (x180 p v3 (Int32.ofInt 2) J), .int (Int32.ofInt 9), .ref (p 6)], me_w (lw M (nt_u (nt_u (nt_u (nt_u (nt_u (nt_u (nt_u (nt_u (nt_u L (p 6) 0 v1.toInt64) (p 6) 1 ((x173 p v1 (Int32.ofInt 0) J).toInt64)) (p 6) 2 ((x173 p v1 (Int32.ofInt 1) J).toInt64)) (p 6) 3 ((x173 p v1 (Int32.ofInt 2) J).toInt64)) (p 6) 4 v2.toInt64) (p 6) 5 99) (p 6) 6 (Int64.ofNat 1)) (p 6) 7 ((J (p 4) 4).toInt64)) (p 6) 8 ((J (p 4) 6).toInt64))) J)) rfl k
      obtain ⟨d1, o1, ed, kc, k⟩ := lz_c (g := 180) (q := 1) (vs := [.ref (p 0), .int v3, .int (Int32.ofInt 1)]) (rest := [.int (x180 p v3 (Int32.ofInt 2) J), .int (Int32.ofInt 9), .ref (p 6)]) rfl rfl (by decide) (Or.inr (Or.inl ⟨_, rfl, rfl⟩)) rfl k
      have e1 := xt180 (xs_lp hp) kc
      subst e1
      have k : nt_rn X _ 196 (152, [(0, .ref (p 0)), (1, .int v1), (2, .int v2), (3, .int v3)], [.int (x180 p v3 (Int32.ofInt 1) J), .int (x180 p v3 (Int32.ofInt 2) J), .int (Int32.ofInt 9), .ref (p 6)], me_w (lw M (nt_u (nt_u (nt_u (nt_u (nt_u (nt_u (nt_u (nt_u (nt_u L (p 6) 0 v1.toInt64) (p 6) 1 ((x173 p v1 (Int32.ofInt 0) J).toInt64)) (p 6) 2 ((x173 p v1 (Int32.ofInt 1) J).toInt64)) (p 6) 3 ((x173 p v1 (Int32.ofInt 2) J).toInt64)) (p 6) 4 v2.toInt64) (p 6) 5 99) (p 6) 6 (Int64.ofNat 1)) (p 6) 7 ((J (p 4) 4).toInt64)) (p 6) 8 ((J (p 4) 6).toInt64))) J) _ := k
      have k := ly_revb 2 (c' := (154, [(0, .ref (p 0)), (1, .int v1), (2, .int v2), (3, .int v3)], [.long (((x180 p v3 (Int32.ofInt 2) J) - (x180 p v3 (Int32.ofInt 1) J)).toInt64), .int (Int32.ofInt 9), .ref (p 6)], me_w (lw M (nt_u (nt_u (nt_u (nt_u (nt_u (nt_u (nt_u (nt_u (nt_u L (p 6) 0 v1.toInt64) (p 6) 1 ((x173 p v1 (Int32.ofInt 0) J).toInt64)) (p 6) 2 ((x173 p v1 (Int32.ofInt 1) J).toInt64)) (p 6) 3 ((x173 p v1 (Int32.ofInt 2) J).toInt64)) (p 6) 4 v2.toInt64) (p 6) 5 99) (p 6) 6 (Int64.ofNat 1)) (p 6) 7 ((J (p 4) 4).toInt64)) (p 6) 8 ((J (p 4) 6).toInt64))) J)) rfl k
      have k := mx_last (q := 9) rfl (show (Int32.ofInt 9).toNatClampNeg = 9 from rfl) k
      have k : nt_rn X _ 196 (155, [(0, .ref (p 0)), (1, .int v1), (2, .int v2), (3, .int v3)], [], me_w (lw M (nt_u (nt_u (nt_u (nt_u (nt_u (nt_u (nt_u (nt_u (nt_u (nt_u L (p 6) 0 v1.toInt64) (p 6) 1 ((x173 p v1 (Int32.ofInt 0) J).toInt64)) (p 6) 2 ((x173 p v1 (Int32.ofInt 1) J).toInt64)) (p 6) 3 ((x173 p v1 (Int32.ofInt 2) J).toInt64)) (p 6) 4 v2.toInt64) (p 6) 5 99) (p 6) 6 (Int64.ofNat 1)) (p 6) 7 ((J (p 4) 4).toInt64)) (p 6) 8 ((J (p 4) 6).toInt64)) (p 6) 9 (((x180 p v3 (Int32.ofInt 2) J) - (x180 p v3 (Int32.ofInt 1) J)).toInt64))) J) _ := k
      have k := lz_rv rfl rfl k
      rw [k, x196, if_neg h66, if_pos h96]
    · rw [if_neg h96] at k
      have k := ly_revb 1 (c' := (104, [(0, .ref (p 0)), (1, .int v1), (2, .int v2), (3, .int v3)], [.long (Int64.ofNat 0), .int (Int32.ofInt 6), .ref (p 6)], me_w (lw M (nt_u (nt_u (nt_u (nt_u (nt_u (nt_u L (p 6) 0 v1.toInt64) (p 6) 1 ((x173 p v1 (Int32.ofInt 0) J).toInt64)) (p 6) 2 ((x173 p v1 (Int32.ofInt 1) J).toInt64)) (p 6) 3 ((x173 p v1 (Int32.ofInt 2) J).toInt64)) (p 6) 4 v2.toInt64) (p 6) 5 99)) J)) rfl k
      have k := mx_last (q := 6) rfl (show (Int32.ofInt 6).toNatClampNeg = 6 from rfl) k
      have k : nt_rn X _ 196 (105, [(0, .ref (p 0)), (1, .int v1), (2, .int v2), (3, .int v3)], [], me_w (lw M (nt_u (nt_u (nt_u (nt_u (nt_u (nt_u (nt_u L (p 6) 0 v1.toInt64) (p 6) 1 ((x173 p v1 (Int32.ofInt 0) J).toInt64)) (p 6) 2 ((x173 p v1 (Int32.ofInt 1) J).toInt64)) (p 6) 3 ((x173 p v1 (Int32.ofInt 2) J).toInt64)) (p 6) 4 v2.toInt64) (p 6) 5 99) (p 6) 6 (Int64.ofNat 0))) J) _ := k
      have k := ly_revb 1 (c' := (106, [(0, .ref (p 0)), (1, .int v1), (2, .int v2), (3, .int v3)], [.ref (p 0)], me_w (lw M (nt_u (nt_u (nt_u (nt_u (nt_u (nt_u (nt_u L (p 6) 0 v1.toInt64) (p 6) 1 ((x173 p v1 (Int32.ofInt 0) J).toInt64)) (p 6) 2 ((x173 p v1 (Int32.ofInt 1) J).toInt64)) (p 6) 3 ((x173 p v1 (Int32.ofInt 2) J).toInt64)) (p 6) 4 v2.toInt64) (p 6) 5 99) (p 6) 6 (Int64.ofNat 0))) J)) rfl k
      have k := lz_get (a := (p 0)) (g := 1126) (M := me_w (lw M (nt_u (nt_u (nt_u (nt_u (nt_u (nt_u (nt_u L (p 6) 0 v1.toInt64) (p 6) 1 ((x173 p v1 (Int32.ofInt 0) J).toInt64)) (p 6) 2 ((x173 p v1 (Int32.ofInt 1) J).toInt64)) (p 6) 3 ((x173 p v1 (Int32.ofInt 2) J).toInt64)) (p 6) 4 v2.toInt64) (p 6) 5 99) (p 6) 6 (Int64.ofNat 0))) J) (v := .ref (p 6)) rfl (nt_gfR rfl (hp.1 (0, 26, 6) (by decide))) k
      have k := ly_revb 2 (c' := (112, [(0, .ref (p 0)), (1, .int v1), (2, .int v2), (3, .int v3)], [.ref (p 0), .int (Int32.ofInt 7), .ref (p 6)], me_w (lw M (nt_u (nt_u (nt_u (nt_u (nt_u (nt_u (nt_u L (p 6) 0 v1.toInt64) (p 6) 1 ((x173 p v1 (Int32.ofInt 0) J).toInt64)) (p 6) 2 ((x173 p v1 (Int32.ofInt 1) J).toInt64)) (p 6) 3 ((x173 p v1 (Int32.ofInt 2) J).toInt64)) (p 6) 4 v2.toInt64) (p 6) 5 99) (p 6) 6 (Int64.ofNat 0))) J)) rfl k
      have k := lz_get (a := (p 0)) (g := 1127) (M := me_w (lw M (nt_u (nt_u (nt_u (nt_u (nt_u (nt_u (nt_u L (p 6) 0 v1.toInt64) (p 6) 1 ((x173 p v1 (Int32.ofInt 0) J).toInt64)) (p 6) 2 ((x173 p v1 (Int32.ofInt 1) J).toInt64)) (p 6) 3 ((x173 p v1 (Int32.ofInt 2) J).toInt64)) (p 6) 4 v2.toInt64) (p 6) 5 99) (p 6) 6 (Int64.ofNat 0))) J) (v := .ref (p 4)) rfl (nt_gfR rfl (hp.1 (0, 27, 4) (by decide))) k
      have k := ly_revb 1 (c' := (116, [(0, .ref (p 0)), (1, .int v1), (2, .int v2), (3, .int v3)], [.int (Int32.ofInt 4), .ref (p 4), .int (Int32.ofInt 7), .ref (p 6)], me_w (lw M (nt_u (nt_u (nt_u (nt_u (nt_u (nt_u (nt_u L (p 6) 0 v1.toInt64) (p 6) 1 ((x173 p v1 (Int32.ofInt 0) J).toInt64)) (p 6) 2 ((x173 p v1 (Int32.ofInt 1) J).toInt64)) (p 6) 3 ((x173 p v1 (Int32.ofInt 2) J).toInt64)) (p 6) 4 v2.toInt64) (p 6) 5 99) (p 6) 6 (Int64.ofNat 0))) J)) rfl k
      have k := mx_iald (v := J (p 4) 4) rfl (hp.2.2.1 4 (by omega)) ((congrArg (J (p 4)) (show (Int32.ofInt 4).toNatClampNeg = 4 from rfl)).trans (rfl)) k
      have k := ly_revb 1 (c' := (118, [(0, .ref (p 0)), (1, .int v1), (2, .int v2), (3, .int v3)], [.long ((J (p 4) 4).toInt64), .int (Int32.ofInt 7), .ref (p 6)], me_w (lw M (nt_u (nt_u (nt_u (nt_u (nt_u (nt_u (nt_u L (p 6) 0 v1.toInt64) (p 6) 1 ((x173 p v1 (Int32.ofInt 0) J).toInt64)) (p 6) 2 ((x173 p v1 (Int32.ofInt 1) J).toInt64)) (p 6) 3 ((x173 p v1 (Int32.ofInt 2) J).toInt64)) (p 6) 4 v2.toInt64) (p 6) 5 99) (p 6) 6 (Int64.ofNat 0))) J)) rfl k
      have k := mx_last (q := 7) rfl (show (Int32.ofInt 7).toNatClampNeg = 7 from rfl) k
      have k : nt_rn X _ 196 (119, [(0, .ref (p 0)), (1, .int v1), (2, .int v2), (3, .int v3)], [], me_w (lw M (nt_u (nt_u (nt_u (nt_u (nt_u (nt_u (nt_u (nt_u L (p 6) 0 v1.toInt64) (p 6) 1 ((x173 p v1 (Int32.ofInt 0) J).toInt64)) (p 6) 2 ((x173 p v1 (Int32.ofInt 1) J).toInt64)) (p 6) 3 ((x173 p v1 (Int32.ofInt 2) J).toInt64)) (p 6) 4 v2.toInt64) (p 6) 5 99) (p 6) 6 (Int64.ofNat 0)) (p 6) 7 ((J (p 4) 4).toInt64))) J) _ := k
      have k := ly_revb 1 (c' := (120, [(0, .ref (p 0)), (1, .int v1), (2, .int v2), (3, .int v3)], [.ref (p 0)], me_w (lw M (nt_u (nt_u (nt_u (nt_u (nt_u (nt_u (nt_u (nt_u L (p 6) 0 v1.toInt64) (p 6) 1 ((x173 p v1 (Int32.ofInt 0) J).toInt64)) (p 6) 2 ((x173 p v1 (Int32.ofInt 1) J).toInt64)) (p 6) 3 ((x173 p v1 (Int32.ofInt 2) J).toInt64)) (p 6) 4 v2.toInt64) (p 6) 5 99) (p 6) 6 (Int64.ofNat 0)) (p 6) 7 ((J (p 4) 4).toInt64))) J)) rfl k
      have k := lz_get (a := (p 0)) (g := 1126) (M := me_w (lw M (nt_u (nt_u (nt_u (nt_u (nt_u (nt_u (nt_u (nt_u L (p 6) 0 v1.toInt64) (p 6) 1 ((x173 p v1 (Int32.ofInt 0) J).toInt64)) (p 6) 2 ((x173 p v1 (Int32.ofInt 1) J).toInt64)) (p 6) 3 ((x173 p v1 (Int32.ofInt 2) J).toInt64)) (p 6) 4 v2.toInt64) (p 6) 5 99) (p 6) 6 (Int64.ofNat 0)) (p 6) 7 ((J (p 4) 4).toInt64))) J) (v := .ref (p 6)) rfl (nt_gfR rfl (hp.1 (0, 26, 6) (by decide))) k
      have k := ly_revb 2 (c' := (126, [(0, .ref (p 0)), (1, .int v1), (2, .int v2), (3, .int v3)], [.ref (p 0), .int (Int32.ofInt 8), .ref (p 6)], me_w (lw M (nt_u (nt_u (nt_u (nt_u (nt_u (nt_u (nt_u (nt_u L (p 6) 0 v1.toInt64) (p 6) 1 ((x173 p v1 (Int32.ofInt 0) J).toInt64)) (p 6) 2 ((x173 p v1 (Int32.ofInt 1) J).toInt64)) (p 6) 3 ((x173 p v1 (Int32.ofInt 2) J).toInt64)) (p 6) 4 v2.toInt64) (p 6) 5 99) (p 6) 6 (Int64.ofNat 0)) (p 6) 7 ((J (p 4) 4).toInt64))) J)) rfl k
      have k := lz_get (a := (p 0)) (g := 1127) (M := me_w (lw M (nt_u (nt_u (nt_u (nt_u (nt_u (nt_u (nt_u (nt_u L (p 6) 0 v1.toInt64) (p 6) 1 ((x173 p v1 (Int32.ofInt 0) J).toInt64)) (p 6) 2 ((x173 p v1 (Int32.ofInt 1) J).toInt64)) (p 6) 3 ((x173 p v1 (Int32.ofInt 2) J).toInt64)) (p 6) 4 v2.toInt64) (p 6) 5 99) (p 6) 6 (Int64.ofNat 0)) (p 6) 7 ((J (p 4) 4).toInt64))) J) (v := .ref (p 4)) rfl (nt_gfR rfl (hp.1 (0, 27, 4) (by decide))) k
      have k := ly_revb 1 (c' := (131, [(0, .ref (p 0)), (1, .int v1), (2, .int v2), (3, .int v3)], [.int (Int32.ofInt 6), .ref (p 4), .int (Int32.ofInt 8), .ref (p 6)], me_w (lw M (nt_u (nt_u (nt_u (nt_u (nt_u (nt_u (nt_u (nt_u L (p 6) 0 v1.toInt64) (p 6) 1 ((x173 p v1 (Int32.ofInt 0) J).toInt64)) (p 6) 2 ((x173 p v1 (Int32.ofInt 1) J).toInt64)) (p 6) 3 ((x173 p v1 (Int32.ofInt 2) J).toInt64)) (p 6) 4 v2.toInt64) (p 6) 5 99) (p 6) 6 (Int64.ofNat 0)) (p 6) 7 ((J (p 4) 4).toInt64))) J)) rfl k
      have k := mx_iald (v := J (p 4) 6) rfl (hp.2.2.1 4 (by omega)) ((congrArg (J (p 4)) (show (Int32.ofInt 6).toNatClampNeg = 6 from rfl)).trans (rfl)) k
      have k := ly_revb 1 (c' := (133, [(0, .ref (p 0)), (1, .int v1), (2, .int v2), (3, .int v3)], [.long ((J (p 4) 6).toInt64), .int (Int32.ofInt 8), .ref (p 6)], me_w (lw M (nt_u (nt_u (nt_u (nt_u (nt_u (nt_u (nt_u (nt_u L (p 6) 0 v1.toInt64) (p 6) 1 ((x173 p v1 (Int32.ofInt 0) J).toInt64)) (p 6) 2 ((x173 p v1 (Int32.ofInt 1) J).toInt64)) (p 6) 3 ((x173 p v1 (Int32.ofInt 2) J).toInt64)) (p 6) 4 v2.toInt64) (p 6) 5 99) (p 6) 6 (Int64.ofNat 0)) (p 6) 7 ((J (p 4) 4).toInt64))) J)) rfl k
      have k := mx_last (q := 8) rfl (show (Int32.ofInt 8).toNatClampNeg = 8 from rfl) k
      have k : nt_rn X _ 196 (134, [(0, .ref (p 0)), (1, .int v1), (2, .int v2), (3, .int v3)], [], me_w (lw M (nt_u (nt_u (nt_u (nt_u (nt_u (nt_u (nt_u (nt_u (nt_u L (p 6) 0 v1.toInt64) (p 6) 1 ((x173 p v1 (Int32.ofInt 0) J).toInt64)) (p 6) 2 ((x173 p v1 (Int32.ofInt 1) J).toInt64)) (p 6) 3 ((x173 p v1 (Int32.ofInt 2) J).toInt64)) (p 6) 4 v2.toInt64) (p 6) 5 99) (p 6) 6 (Int64.ofNat 0)) (p 6) 7 ((J (p 4) 4).toInt64)) (p 6) 8 ((J (p 4) 6).toInt64))) J) _ := k
      have k := ly_revb 1 (c' := (135, [(0, .ref (p 0)), (1, .int v1), (2, .int v2), (3, .int v3)], [.ref (p 0)], me_w (lw M (nt_u (nt_u (nt_u (nt_u (nt_u (nt_u (nt_u (nt_u (nt_u L (p 6) 0 v1.toInt64) (p 6) 1 ((x173 p v1 (Int32.ofInt 0) J).toInt64)) (p 6) 2 ((x173 p v1 (Int32.ofInt 1) J).toInt64)) (p 6) 3 ((x173 p v1 (Int32.ofInt 2) J).toInt64)) (p 6) 4 v2.toInt64) (p 6) 5 99) (p 6) 6 (Int64.ofNat 0)) (p 6) 7 ((J (p 4) 4).toInt64)) (p 6) 8 ((J (p 4) 6).toInt64))) J)) rfl k
      have k := lz_get (a := (p 0)) (g := 1126) (M := me_w (lw M (nt_u (nt_u (nt_u (nt_u (nt_u (nt_u (nt_u (nt_u (nt_u L (p 6) 0 v1.toInt64) (p 6) 1 ((x173 p v1 (Int32.ofInt 0) J).toInt64)) (p 6) 2 ((x173 p v1 (Int32.ofInt 1) J).toInt64)) (p 6) 3 ((x173 p v1 (Int32.ofInt 2) J).toInt64)) (p 6) 4 v2.toInt64) (p 6) 5 99) (p 6) 6 (Int64.ofNat 0)) (p 6) 7 ((J (p 4) 4).toInt64)) (p 6) 8 ((J (p 4) 6).toInt64))) J) (v := .ref (p 6)) rfl (nt_gfR rfl (hp.1 (0, 26, 6) (by decide))) k
      have k := ly_revb 4 (c' := (143, [(0, .ref (p 0)), (1, .int v1), (2, .int v2), (3, .int v3)], [.int (Int32.ofInt 2), .int v3, .ref (p 0), .int (Int32.ofInt 9), .ref (p 6)], me_w (lw M (nt_u (nt_u (nt_u (nt_u (nt_u (nt_u (nt_u (nt_u (nt_u L (p 6) 0 v1.toInt64) (p 6) 1 ((x173 p v1 (Int32.ofInt 0) J).toInt64)) (p 6) 2 ((x173 p v1 (Int32.ofInt 1) J).toInt64)) (p 6) 3 ((x173 p v1 (Int32.ofInt 2) J).toInt64)) (p 6) 4 v2.toInt64) (p 6) 5 99) (p 6) 6 (Int64.ofNat 0)) (p 6) 7 ((J (p 4) 4).toInt64)) (p 6) 8 ((J (p 4) 6).toInt64))) J)) rfl k
      obtain ⟨d1, o1, ed, kc, k⟩ := lz_c (g := 180) (q := 1) (vs := [.ref (p 0), .int v3, .int (Int32.ofInt 2)]) (rest := [.int (Int32.ofInt 9), .ref (p 6)]) rfl rfl (by decide) (Or.inr (Or.inl ⟨_, rfl, rfl⟩)) rfl k
      have e1 := xt180 (xs_lp hp) kc
      subst e1
      have k : nt_rn X _ 196 (146, [(0, .ref (p 0)), (1, .int v1), (2, .int v2), (3, .int v3)], [.int (x180 p v3 (Int32.ofInt 2) J), .int (Int32.ofInt 9), .ref (p 6)], me_w (lw M (nt_u (nt_u (nt_u (nt_u (nt_u (nt_u (nt_u (nt_u (nt_u L (p 6) 0 v1.toInt64) (p 6) 1 ((x173 p v1 (Int32.ofInt 0) J).toInt64)) (p 6) 2 ((x173 p v1 (Int32.ofInt 1) J).toInt64)) (p 6) 3 ((x173 p v1 (Int32.ofInt 2) J).toInt64)) (p 6) 4 v2.toInt64) (p 6) 5 99) (p 6) 6 (Int64.ofNat 0)) (p 6) 7 ((J (p 4) 4).toInt64)) (p 6) 8 ((J (p 4) 6).toInt64))) J) _ := k
      have k := ly_revb 3 (c' := (149, [(0, .ref (p 0)), (1, .int v1), (2, .int v2), (3, .int v3)], [.int (Int32.ofInt 1), .int v3, .ref (p 0), .int (x180 p v3 (Int32.ofInt 2) J), .int (Int32.ofInt 9), .ref (p 6)], me_w (lw M (nt_u (nt_u (nt_u (nt_u (nt_u (nt_u (nt_u (nt_u (nt_u L (p 6) 0 v1.toInt64) (p 6) 1 ((x173 p v1 (Int32.ofInt 0) J).toInt64)) (p 6) 2 ((x173 p v1 (Int32.ofInt 1) J).toInt64)) (p 6) 3 ((x173 p v1 (Int32.ofInt 2) J).toInt64)) (p 6) 4 v2.toInt64) (p 6) 5 99) (p 6) 6 (Int64.ofNat 0)) (p 6) 7 ((J (p 4) 4).toInt64)) (p 6) 8 ((J (p 4) 6).toInt64))) J)) rfl k
      obtain ⟨d1, o1, ed, kc, k⟩ := lz_c (g := 180) (q := 1) (vs := [.ref (p 0), .int v3, .int (Int32.ofInt 1)]) (rest := [.int (x180 p v3 (Int32.ofInt 2) J), .int (Int32.ofInt 9), .ref (p 6)]) rfl rfl (by decide) (Or.inr (Or.inl ⟨_, rfl, rfl⟩)) rfl k
      have e1 := xt180 (xs_lp hp) kc
      subst e1
      have k : nt_rn X _ 196 (152, [(0, .ref (p 0)), (1, .int v1), (2, .int v2), (3, .int v3)], [.int (x180 p v3 (Int32.ofInt 1) J), .int (x180 p v3 (Int32.ofInt 2) J), .int (Int32.ofInt 9), .ref (p 6)], me_w (lw M (nt_u (nt_u (nt_u (nt_u (nt_u (nt_u (nt_u (nt_u (nt_u L (p 6) 0 v1.toInt64) (p 6) 1 ((x173 p v1 (Int32.ofInt 0) J).toInt64)) (p 6) 2 ((x173 p v1 (Int32.ofInt 1) J).toInt64)) (p 6) 3 ((x173 p v1 (Int32.ofInt 2) J).toInt64)) (p 6) 4 v2.toInt64) (p 6) 5 99) (p 6) 6 (Int64.ofNat 0)) (p 6) 7 ((J (p 4) 4).toInt64)) (p 6) 8 ((J (p 4) 6).toInt64))) J) _ := k
      have k := ly_revb 2 (c' := (154, [(0, .ref (p 0)), (1, .int v1), (2, .int v2), (3, .int v3)], [.long (((x180 p v3 (Int32.ofInt 2) J) - (x180 p v3 (Int32.ofInt 1) J)).toInt64), .int (Int32.ofInt 9), .ref (p 6)], me_w (lw M (nt_u (nt_u (nt_u (nt_u (nt_u (nt_u (nt_u (nt_u (nt_u L (p 6) 0 v1.toInt64) (p 6) 1 ((x173 p v1 (Int32.ofInt 0) J).toInt64)) (p 6) 2 ((x173 p v1 (Int32.ofInt 1) J).toInt64)) (p 6) 3 ((x173 p v1 (Int32.ofInt 2) J).toInt64)) (p 6) 4 v2.toInt64) (p 6) 5 99) (p 6) 6 (Int64.ofNat 0)) (p 6) 7 ((J (p 4) 4).toInt64)) (p 6) 8 ((J (p 4) 6).toInt64))) J)) rfl k
      have k := mx_last (q := 9) rfl (show (Int32.ofInt 9).toNatClampNeg = 9 from rfl) k
      have k : nt_rn X _ 196 (155, [(0, .ref (p 0)), (1, .int v1), (2, .int v2), (3, .int v3)], [], me_w (lw M (nt_u (nt_u (nt_u (nt_u (nt_u (nt_u (nt_u (nt_u (nt_u (nt_u L (p 6) 0 v1.toInt64) (p 6) 1 ((x173 p v1 (Int32.ofInt 0) J).toInt64)) (p 6) 2 ((x173 p v1 (Int32.ofInt 1) J).toInt64)) (p 6) 3 ((x173 p v1 (Int32.ofInt 2) J).toInt64)) (p 6) 4 v2.toInt64) (p 6) 5 99) (p 6) 6 (Int64.ofNat 0)) (p 6) 7 ((J (p 4) 4).toInt64)) (p 6) 8 ((J (p 4) 6).toInt64)) (p 6) 9 (((x180 p v3 (Int32.ofInt 2) J) - (x180 p v3 (Int32.ofInt 1) J)).toInt64))) J) _ := k
      have k := lz_rv rfl rfl k
      rw [k, x196, if_neg h66, if_neg h96]
/-! Model.reckons -/
def x198_8 (p : Nat → Nat) (v1 : Int32) (v3 : Int32) : Nat → Int32 → (Nat → Nat → Int32) → (Nat → Nat → Int64) → Int64 × (Nat → Nat → Int32) × (Nat → Nat → Int64)
  | 0, v4, J, L => ((x200 p J L).1, (x200 p J L).2, L)
  | c + 1, v4, J, L => if v3 ≤ v4 then ((x200 p J L).1, (x200 p J L).2, L)
    else if ((J (p 1) ((((Int32.ofInt 400) * v1) + v4).toNatClampNeg)) &&& (Int32.ofInt 15)) = 0 then (x198_8 p v1 v3 c (v4 + (Int32.ofInt 1)) ((x199 p (((J (p 1) ((((Int32.ofInt 400) * v1) + v4).toNatClampNeg)) >>> ((Int32.ofInt 4) &&& 31)).toInt64) J L).1) ((x199 p (((J (p 1) ((((Int32.ofInt 400) * v1) + v4).toNatClampNeg)) >>> ((Int32.ofInt 4) &&& 31)).toInt64) J L).2))
      else if ((J (p 1) ((((Int32.ofInt 400) * v1) + v4).toNatClampNeg)) &&& (Int32.ofInt 15)) = (Int32.ofInt 1) then (x198_8 p v1 v3 c (v4 + (Int32.ofInt 1)) ((x199 p (L (p 6) (((J (p 1) ((((Int32.ofInt 400) * v1) + v4).toNatClampNeg)) >>> ((Int32.ofInt 4) &&& 31)).toNatClampNeg)) J L).1) ((x199 p (L (p 6) (((J (p 1) ((((Int32.ofInt 400) * v1) + v4).toNatClampNeg)) >>> ((Int32.ofInt 4) &&& 31)).toNatClampNeg)) J L).2))
        else if ((J (p 1) ((((Int32.ofInt 400) * v1) + v4).toNatClampNeg)) &&& (Int32.ofInt 15)) = (Int32.ofInt 11) then (x198_8 p v1 v3 c (v4 + (Int32.ofInt 1)) ((x199 p ((Int64.ofNat 1) - ((x200 p J L).1)) ((x200 p J L).2) L).1) ((x199 p ((Int64.ofNat 1) - ((x200 p J L).1)) ((x200 p J L).2) L).2))
          else (x198_8 p v1 v3 c (v4 + (Int32.ofInt 1)) ((x199 p (x201 ((J (p 1) ((((Int32.ofInt 400) * v1) + v4).toNatClampNeg)) &&& (Int32.ofInt 15)) ((x200 p ((x200 p J L).2) L).1) ((x200 p J L).1)) ((x200 p ((x200 p J L).2) L).2) L).1) ((x199 p (x201 ((J (p 1) ((((Int32.ofInt 400) * v1) + v4).toNatClampNeg)) &&& (Int32.ofInt 15)) ((x200 p ((x200 p J L).2) L).1) ((x200 p J L).1)) ((x200 p ((x200 p J L).2) L).2) L).2))
theorem xt198_8 {X : nt_X} {d : Nat} {M : nt_M} {o : Option Value × nt_M} {p : Nat → Nat} {v1 : Int32} {v2 : Int32} {v3 : Int32} (hp : xs_P M p) : ∀ (c : Nat) (v4 : Int32) (v5 : Int32) (v6 : Int32) (v7 : Int64) (v9 : Int64) (J : Nat → Nat → Int32) (L : Nat → Nat → Int64), v3.toInt - v4.toInt ≤ c → nt_rn X d 198 (8, [(0, .ref (p 0)), (1, .int v1), (2, .int v2), (3, .int v3), (4, .int v4), (5, .int v5), (6, .int v6), (7, .long v7), (9, .long v9)], [], me_w (lw M L) J) o → o = (some (.long ((x198_8 p v1 v3 c v4 J L).1)), me_w (lw M ((x198_8 p v1 v3 c v4 J L).2.2)) ((x198_8 p v1 v3 c v4 J L).2.1)) := by
  intro c
  induction c with
  | zero =>
    intro v4 v5 v6 v7 v9 J L hc k
    have k := ly_revb 3 (c' := (if v3 ≤ v4 then 135 else 14, [(0, .ref (p 0)), (1, .int v1), (2, .int v2), (3, .int v3), (4, .int v4), (5, .int v5), (6, .int v6), (7, .long v7), (9, .long v9)], [], me_w (lw M L) J)) rfl k
    have h11 : v3 ≤ v4 := lx_end hc
    rw [if_pos h11] at k
    have k := ly_revb 1 (c' := (136, [(0, .ref (p 0)), (1, .int v1), (2, .int v2), (3, .int v3), (4, .int v4), (5, .int v5), (6, .int v6), (7, .long v7), (9, .long v9)], [.ref (p 0)], me_w (lw M L) J)) rfl k
    obtain ⟨d1, o1, ed, kc, k⟩ := lz_c (g := 200) (q := 1) (vs := [.ref (p 0)]) (rest := []) rfl rfl (by decide) (Or.inr (Or.inl ⟨_, rfl, rfl⟩)) rfl k
    have e1 := xt200 hp kc
    subst e1
    have k : nt_rn X _ 198 (139, [(0, .ref (p 0)), (1, .int v1), (2, .int v2), (3, .int v3), (4, .int v4), (5, .int v5), (6, .int v6), (7, .long v7), (9, .long v9)], [.long ((x200 p J L).1)], me_w (lw M L) ((x200 p J L).2)) _ := k
    have k := mx_rl rfl rfl k
    rw [k, x198_8]
  | succ c ih =>
    intro v4 v5 v6 v7 v9 J L hc k
    have k := ly_revb 3 (c' := (if v3 ≤ v4 then 135 else 14, [(0, .ref (p 0)), (1, .int v1), (2, .int v2), (3, .int v3), (4, .int v4), (5, .int v5), (6, .int v6), (7, .long v7), (9, .long v9)], [], me_w (lw M L) J)) rfl k
    by_cases h11 : v3 ≤ v4
    · rw [if_pos h11] at k
      have k := ly_revb 1 (c' := (136, [(0, .ref (p 0)), (1, .int v1), (2, .int v2), (3, .int v3), (4, .int v4), (5, .int v5), (6, .int v6), (7, .long v7), (9, .long v9)], [.ref (p 0)], me_w (lw M L) J)) rfl k
      obtain ⟨d1, o1, ed, kc, k⟩ := lz_c (g := 200) (q := 1) (vs := [.ref (p 0)]) (rest := []) rfl rfl (by decide) (Or.inr (Or.inl ⟨_, rfl, rfl⟩)) rfl k
      have e1 := xt200 hp kc
      subst e1
      have k : nt_rn X _ 198 (139, [(0, .ref (p 0)), (1, .int v1), (2, .int v2), (3, .int v3), (4, .int v4), (5, .int v5), (6, .int v6), (7, .long v7), (9, .long v9)], [.long ((x200 p J L).1)], me_w (lw M L) ((x200 p J L).2)) _ := k
      have k := mx_rl rfl rfl k
      rw [k, x198_8, if_pos h11]
    · rw [if_neg h11] at k
      have k := ly_revb 1 (c' := (15, [(0, .ref (p 0)), (1, .int v1), (2, .int v2), (3, .int v3), (4, .int v4), (5, .int v5), (6, .int v6), (7, .long v7), (9, .long v9)], [.ref (p 0)], me_w (lw M L) J)) rfl k
      have k := lz_get (a := (p 0)) (g := 1103) (M := me_w (lw M L) J) (v := .ref (p 1)) rfl (nt_gfR rfl (hp.1 (0, 3, 1) (by decide))) k
      have k := ly_revb 5 (c' := (26, [(0, .ref (p 0)), (1, .int v1), (2, .int v2), (3, .int v3), (4, .int v4), (5, .int v5), (6, .int v6), (7, .long v7), (9, .long v9)], [.int (((Int32.ofInt 400) * v1) + v4), .ref (p 1)], me_w (lw M L) J)) rfl k
      have k := mx_iald (v := J (p 1) ((((Int32.ofInt 400) * v1) + v4).toNatClampNeg)) rfl (hp.2.2.1 1 (by omega)) (rfl) k
      have k := ly_revb 4 (c' := (33, [(5, .int ((J (p 1) ((((Int32.ofInt 400) * v1) + v4).toNatClampNeg)) &&& (Int32.ofInt 15))), (0, .ref (p 0)), (1, .int v1), (2, .int v2), (3, .int v3), (4, .int v4), (6, .int v6), (7, .long v7), (9, .long v9)], [.ref (p 0)], me_w (lw M L) J)) rfl k
      have k := lz_get (a := (p 0)) (g := 1103) (M := me_w (lw M L) J) (v := .ref (p 1)) rfl (nt_gfR rfl (hp.1 (0, 3, 1) (by decide))) k
      have k := ly_revb 5 (c' := (44, [(5, .int ((J (p 1) ((((Int32.ofInt 400) * v1) + v4).toNatClampNeg)) &&& (Int32.ofInt 15))), (0, .ref (p 0)), (1, .int v1), (2, .int v2), (3, .int v3), (4, .int v4), (6, .int v6), (7, .long v7), (9, .long v9)], [.int (((Int32.ofInt 400) * v1) + v4), .ref (p 1)], me_w (lw M L) J)) rfl k
      have k := mx_iald (v := J (p 1) ((((Int32.ofInt 400) * v1) + v4).toNatClampNeg)) rfl (hp.2.2.1 1 (by omega)) (rfl) k
      have k := ly_revb 5 (c' := (if ((J (p 1) ((((Int32.ofInt 400) * v1) + v4).toNatClampNeg)) &&& (Int32.ofInt 15)) = 0 then 54 else 64, [(6, .int ((J (p 1) ((((Int32.ofInt 400) * v1) + v4).toNatClampNeg)) >>> ((Int32.ofInt 4) &&& 31))), (5, .int ((J (p 1) ((((Int32.ofInt 400) * v1) + v4).toNatClampNeg)) &&& (Int32.ofInt 15))), (0, .ref (p 0)), (1, .int v1), (2, .int v2), (3, .int v3), (4, .int v4), (7, .long v7), (9, .long v9)], [], me_w (lw M L) J)) rfl k
      by_cases h51 : ((J (p 1) ((((Int32.ofInt 400) * v1) + v4).toNatClampNeg)) &&& (Int32.ofInt 15)) = 0
      · rw [if_pos h51] at k
        have k := ly_revb 3 (c' := (58, [(6, .int ((J (p 1) ((((Int32.ofInt 400) * v1) + v4).toNatClampNeg)) >>> ((Int32.ofInt 4) &&& 31))), (5, .int ((J (p 1) ((((Int32.ofInt 400) * v1) + v4).toNatClampNeg)) &&& (Int32.ofInt 15))), (0, .ref (p 0)), (1, .int v1), (2, .int v2), (3, .int v3), (4, .int v4), (7, .long v7), (9, .long v9)], [.long (((J (p 1) ((((Int32.ofInt 400) * v1) + v4).toNatClampNeg)) >>> ((Int32.ofInt 4) &&& 31)).toInt64), .ref (p 0)], me_w (lw M L) J)) rfl k
        obtain ⟨d1, o1, ed, kc, k⟩ := lz_c (g := 199) (q := 1) (vs := [.ref (p 0), .long (((J (p 1) ((((Int32.ofInt 400) * v1) + v4).toNatClampNeg)) >>> ((Int32.ofInt 4) &&& 31)).toInt64)]) (rest := []) rfl rfl (by decide) (Or.inr (Or.inl ⟨_, rfl, rfl⟩)) rfl k
        have e1 := xt199 hp kc
        subst e1
        have k : nt_rn X _ 198 (61, [(6, .int ((J (p 1) ((((Int32.ofInt 400) * v1) + v4).toNatClampNeg)) >>> ((Int32.ofInt 4) &&& 31))), (5, .int ((J (p 1) ((((Int32.ofInt 400) * v1) + v4).toNatClampNeg)) &&& (Int32.ofInt 15))), (0, .ref (p 0)), (1, .int v1), (2, .int v2), (3, .int v3), (4, .int v4), (7, .long v7), (9, .long v9)], [], me_w (lw M ((x199 p (((J (p 1) ((((Int32.ofInt 400) * v1) + v4).toNatClampNeg)) >>> ((Int32.ofInt 4) &&& 31)).toInt64) J L).2)) ((x199 p (((J (p 1) ((((Int32.ofInt 400) * v1) + v4).toNatClampNeg)) >>> ((Int32.ofInt 4) &&& 31)).toInt64) J L).1)) _ := k
        have k := ly_revb 3 (c' := (8, [(4, .int (v4 + (Int32.ofInt 1))), (6, .int ((J (p 1) ((((Int32.ofInt 400) * v1) + v4).toNatClampNeg)) >>> ((Int32.ofInt 4) &&& 31))), (5, .int ((J (p 1) ((((Int32.ofInt 400) * v1) + v4).toNatClampNeg)) &&& (Int32.ofInt 15))), (0, .ref (p 0)), (1, .int v1), (2, .int v2), (3, .int v3), (7, .long v7), (9, .long v9)], [], me_w (lw M ((x199 p (((J (p 1) ((((Int32.ofInt 400) * v1) + v4).toNatClampNeg)) >>> ((Int32.ofInt 4) &&& 31)).toInt64) J L).2)) ((x199 p (((J (p 1) ((((Int32.ofInt 400) * v1) + v4).toNatClampNeg)) >>> ((Int32.ofInt 4) &&& 31)).toInt64) J L).1))) rfl k
        have k := nt_rn_w (a := [(4, .int (v4 + (Int32.ofInt 1))), (6, .int ((J (p 1) ((((Int32.ofInt 400) * v1) + v4).toNatClampNeg)) >>> ((Int32.ofInt 4) &&& 31))), (5, .int ((J (p 1) ((((Int32.ofInt 400) * v1) + v4).toNatClampNeg)) &&& (Int32.ofInt 15))), (0, .ref (p 0)), (1, .int v1), (2, .int v2), (3, .int v3), (7, .long v7), (9, .long v9)]) (b := [(0, .ref (p 0)), (1, .int v1), (2, .int v2), (3, .int v3), (4, .int (v4 + (Int32.ofInt 1))), (5, .int ((J (p 1) ((((Int32.ofInt 400) * v1) + v4).toNatClampNeg)) &&& (Int32.ofInt 15))), (6, .int ((J (p 1) ((((Int32.ofInt 400) * v1) + v4).toNatClampNeg)) >>> ((Int32.ofInt 4) &&& 31))), (7, .long v7), (9, .long v9)]) ⟨rfl, rfl, rfl, rfl, rfl, rfl, rfl, rfl, rfl, trivial⟩ rfl k
        have k := ih (v4 + (Int32.ofInt 1)) ((J (p 1) ((((Int32.ofInt 400) * v1) + v4).toNatClampNeg)) &&& (Int32.ofInt 15)) ((J (p 1) ((((Int32.ofInt 400) * v1) + v4).toNatClampNeg)) >>> ((Int32.ofInt 4) &&& 31)) v7 v9 ((x199 p (((J (p 1) ((((Int32.ofInt 400) * v1) + v4).toNatClampNeg)) >>> ((Int32.ofInt 4) &&& 31)).toInt64) J L).1) ((x199 p (((J (p 1) ((((Int32.ofInt 400) * v1) + v4).toNatClampNeg)) >>> ((Int32.ofInt 4) &&& 31)).toInt64) J L).2) (lx_dec h11 hc) k
        rw [k, x198_8, if_neg h11, if_pos h51]
      · rw [if_neg h51] at k
        have k := ly_revb 3 (c' := (if ((J (p 1) ((((Int32.ofInt 400) * v1) + v4).toNatClampNeg)) &&& (Int32.ofInt 15)) = (Int32.ofInt 1) then 70 else 84, [(6, .int ((J (p 1) ((((Int32.ofInt 400) * v1) + v4).toNatClampNeg)) >>> ((Int32.ofInt 4) &&& 31))), (5, .int ((J (p 1) ((((Int32.ofInt 400) * v1) + v4).toNatClampNeg)) &&& (Int32.ofInt 15))), (0, .ref (p 0)), (1, .int v1), (2, .int v2), (3, .int v3), (4, .int v4), (7, .long v7), (9, .long v9)], [], me_w (lw M L) J)) rfl k
        by_cases h67 : ((J (p 1) ((((Int32.ofInt 400) * v1) + v4).toNatClampNeg)) &&& (Int32.ofInt 15)) = (Int32.ofInt 1)
        · rw [if_pos h67] at k
          have k := ly_revb 2 (c' := (72, [(6, .int ((J (p 1) ((((Int32.ofInt 400) * v1) + v4).toNatClampNeg)) >>> ((Int32.ofInt 4) &&& 31))), (5, .int ((J (p 1) ((((Int32.ofInt 400) * v1) + v4).toNatClampNeg)) &&& (Int32.ofInt 15))), (0, .ref (p 0)), (1, .int v1), (2, .int v2), (3, .int v3), (4, .int v4), (7, .long v7), (9, .long v9)], [.ref (p 0), .ref (p 0)], me_w (lw M L) J)) rfl k
          have k := lz_get (a := (p 0)) (g := 1126) (M := me_w (lw M L) J) (v := .ref (p 6)) rfl (nt_gfR rfl (hp.1 (0, 26, 6) (by decide))) k
          have k := ly_revb 1 (c' := (77, [(6, .int ((J (p 1) ((((Int32.ofInt 400) * v1) + v4).toNatClampNeg)) >>> ((Int32.ofInt 4) &&& 31))), (5, .int ((J (p 1) ((((Int32.ofInt 400) * v1) + v4).toNatClampNeg)) &&& (Int32.ofInt 15))), (0, .ref (p 0)), (1, .int v1), (2, .int v2), (3, .int v3), (4, .int v4), (7, .long v7), (9, .long v9)], [.int ((J (p 1) ((((Int32.ofInt 400) * v1) + v4).toNatClampNeg)) >>> ((Int32.ofInt 4) &&& 31)), .ref (p 6), .ref (p 0)], me_w (lw M L) J)) rfl k
          have k := mx_lald (v := L (p 6) (((J (p 1) ((((Int32.ofInt 400) * v1) + v4).toNatClampNeg)) >>> ((Int32.ofInt 4) &&& 31)).toNatClampNeg)) rfl (rfl) k
          obtain ⟨d1, o1, ed, kc, k⟩ := lz_c (g := 199) (q := 1) (vs := [.ref (p 0), .long (L (p 6) (((J (p 1) ((((Int32.ofInt 400) * v1) + v4).toNatClampNeg)) >>> ((Int32.ofInt 4) &&& 31)).toNatClampNeg))]) (rest := []) rfl rfl (by decide) (Or.inr (Or.inl ⟨_, rfl, rfl⟩)) rfl k
          have e1 := xt199 hp kc
          subst e1
          have k : nt_rn X _ 198 (81, [(6, .int ((J (p 1) ((((Int32.ofInt 400) * v1) + v4).toNatClampNeg)) >>> ((Int32.ofInt 4) &&& 31))), (5, .int ((J (p 1) ((((Int32.ofInt 400) * v1) + v4).toNatClampNeg)) &&& (Int32.ofInt 15))), (0, .ref (p 0)), (1, .int v1), (2, .int v2), (3, .int v3), (4, .int v4), (7, .long v7), (9, .long v9)], [], me_w (lw M ((x199 p (L (p 6) (((J (p 1) ((((Int32.ofInt 400) * v1) + v4).toNatClampNeg)) >>> ((Int32.ofInt 4) &&& 31)).toNatClampNeg)) J L).2)) ((x199 p (L (p 6) (((J (p 1) ((((Int32.ofInt 400) * v1) + v4).toNatClampNeg)) >>> ((Int32.ofInt 4) &&& 31)).toNatClampNeg)) J L).1)) _ := k
          have k := ly_revb 3 (c' := (8, [(4, .int (v4 + (Int32.ofInt 1))), (6, .int ((J (p 1) ((((Int32.ofInt 400) * v1) + v4).toNatClampNeg)) >>> ((Int32.ofInt 4) &&& 31))), (5, .int ((J (p 1) ((((Int32.ofInt 400) * v1) + v4).toNatClampNeg)) &&& (Int32.ofInt 15))), (0, .ref (p 0)), (1, .int v1), (2, .int v2), (3, .int v3), (7, .long v7), (9, .long v9)], [], me_w (lw M ((x199 p (L (p 6) (((J (p 1) ((((Int32.ofInt 400) * v1) + v4).toNatClampNeg)) >>> ((Int32.ofInt 4) &&& 31)).toNatClampNeg)) J L).2)) ((x199 p (L (p 6) (((J (p 1) ((((Int32.ofInt 400) * v1) + v4).toNatClampNeg)) >>> ((Int32.ofInt 4) &&& 31)).toNatClampNeg)) J L).1))) rfl k
          have k := nt_rn_w (a := [(4, .int (v4 + (Int32.ofInt 1))), (6, .int ((J (p 1) ((((Int32.ofInt 400) * v1) + v4).toNatClampNeg)) >>> ((Int32.ofInt 4) &&& 31))), (5, .int ((J (p 1) ((((Int32.ofInt 400) * v1) + v4).toNatClampNeg)) &&& (Int32.ofInt 15))), (0, .ref (p 0)), (1, .int v1), (2, .int v2), (3, .int v3), (7, .long v7), (9, .long v9)]) (b := [(0, .ref (p 0)), (1, .int v1), (2, .int v2), (3, .int v3), (4, .int (v4 + (Int32.ofInt 1))), (5, .int ((J (p 1) ((((Int32.ofInt 400) * v1) + v4).toNatClampNeg)) &&& (Int32.ofInt 15))), (6, .int ((J (p 1) ((((Int32.ofInt 400) * v1) + v4).toNatClampNeg)) >>> ((Int32.ofInt 4) &&& 31))), (7, .long v7), (9, .long v9)]) ⟨rfl, rfl, rfl, rfl, rfl, rfl, rfl, rfl, rfl, trivial⟩ rfl k
          have k := ih (v4 + (Int32.ofInt 1)) ((J (p 1) ((((Int32.ofInt 400) * v1) + v4).toNatClampNeg)) &&& (Int32.ofInt 15)) ((J (p 1) ((((Int32.ofInt 400) * v1) + v4).toNatClampNeg)) >>> ((Int32.ofInt 4) &&& 31)) v7 v9 ((x199 p (L (p 6) (((J (p 1) ((((Int32.ofInt 400) * v1) + v4).toNatClampNeg)) >>> ((Int32.ofInt 4) &&& 31)).toNatClampNeg)) J L).1) ((x199 p (L (p 6) (((J (p 1) ((((Int32.ofInt 400) * v1) + v4).toNatClampNeg)) >>> ((Int32.ofInt 4) &&& 31)).toNatClampNeg)) J L).2) (lx_dec h11 hc) k
          rw [k, x198_8, if_neg h11, if_neg h51, if_pos h67]
        · rw [if_neg h67] at k
          have k := ly_revb 3 (c' := (if ((J (p 1) ((((Int32.ofInt 400) * v1) + v4).toNatClampNeg)) &&& (Int32.ofInt 15)) = (Int32.ofInt 11) then 91 else 104, [(6, .int ((J (p 1) ((((Int32.ofInt 400) * v1) + v4).toNatClampNeg)) >>> ((Int32.ofInt 4) &&& 31))), (5, .int ((J (p 1) ((((Int32.ofInt 400) * v1) + v4).toNatClampNeg)) &&& (Int32.ofInt 15))), (0, .ref (p 0)), (1, .int v1), (2, .int v2), (3, .int v3), (4, .int v4), (7, .long v7), (9, .long v9)], [], me_w (lw M L) J)) rfl k
          by_cases h88 : ((J (p 1) ((((Int32.ofInt 400) * v1) + v4).toNatClampNeg)) &&& (Int32.ofInt 15)) = (Int32.ofInt 11)
          · rw [if_pos h88] at k
            have k := ly_revb 3 (c' := (94, [(6, .int ((J (p 1) ((((Int32.ofInt 400) * v1) + v4).toNatClampNeg)) >>> ((Int32.ofInt 4) &&& 31))), (5, .int ((J (p 1) ((((Int32.ofInt 400) * v1) + v4).toNatClampNeg)) &&& (Int32.ofInt 15))), (0, .ref (p 0)), (1, .int v1), (2, .int v2), (3, .int v3), (4, .int v4), (7, .long v7), (9, .long v9)], [.ref (p 0), .long (Int64.ofNat 1), .ref (p 0)], me_w (lw M L) J)) rfl k
            obtain ⟨d1, o1, ed, kc, k⟩ := lz_c (g := 200) (q := 1) (vs := [.ref (p 0)]) (rest := [.long (Int64.ofNat 1), .ref (p 0)]) rfl rfl (by decide) (Or.inr (Or.inl ⟨_, rfl, rfl⟩)) rfl k
            have e1 := xt200 hp kc
            subst e1
            have k : nt_rn X _ 198 (97, [(6, .int ((J (p 1) ((((Int32.ofInt 400) * v1) + v4).toNatClampNeg)) >>> ((Int32.ofInt 4) &&& 31))), (5, .int ((J (p 1) ((((Int32.ofInt 400) * v1) + v4).toNatClampNeg)) &&& (Int32.ofInt 15))), (0, .ref (p 0)), (1, .int v1), (2, .int v2), (3, .int v3), (4, .int v4), (7, .long v7), (9, .long v9)], [.long ((x200 p J L).1), .long (Int64.ofNat 1), .ref (p 0)], me_w (lw M L) ((x200 p J L).2)) _ := k
            have k := ly_revb 1 (c' := (98, [(6, .int ((J (p 1) ((((Int32.ofInt 400) * v1) + v4).toNatClampNeg)) >>> ((Int32.ofInt 4) &&& 31))), (5, .int ((J (p 1) ((((Int32.ofInt 400) * v1) + v4).toNatClampNeg)) &&& (Int32.ofInt 15))), (0, .ref (p 0)), (1, .int v1), (2, .int v2), (3, .int v3), (4, .int v4), (7, .long v7), (9, .long v9)], [.long ((Int64.ofNat 1) - ((x200 p J L).1)), .ref (p 0)], me_w (lw M L) ((x200 p J L).2))) rfl k
            obtain ⟨d1, o1, ed, kc, k⟩ := lz_c (g := 199) (q := 1) (vs := [.ref (p 0), .long ((Int64.ofNat 1) - ((x200 p J L).1))]) (rest := []) rfl rfl (by decide) (Or.inr (Or.inl ⟨_, rfl, rfl⟩)) rfl k
            have e1 := xt199 hp kc
            subst e1
            have k : nt_rn X _ 198 (101, [(6, .int ((J (p 1) ((((Int32.ofInt 400) * v1) + v4).toNatClampNeg)) >>> ((Int32.ofInt 4) &&& 31))), (5, .int ((J (p 1) ((((Int32.ofInt 400) * v1) + v4).toNatClampNeg)) &&& (Int32.ofInt 15))), (0, .ref (p 0)), (1, .int v1), (2, .int v2), (3, .int v3), (4, .int v4), (7, .long v7), (9, .long v9)], [], me_w (lw M ((x199 p ((Int64.ofNat 1) - ((x200 p J L).1)) ((x200 p J L).2) L).2)) ((x199 p ((Int64.ofNat 1) - ((x200 p J L).1)) ((x200 p J L).2) L).1)) _ := k
            have k := ly_revb 3 (c' := (8, [(4, .int (v4 + (Int32.ofInt 1))), (6, .int ((J (p 1) ((((Int32.ofInt 400) * v1) + v4).toNatClampNeg)) >>> ((Int32.ofInt 4) &&& 31))), (5, .int ((J (p 1) ((((Int32.ofInt 400) * v1) + v4).toNatClampNeg)) &&& (Int32.ofInt 15))), (0, .ref (p 0)), (1, .int v1), (2, .int v2), (3, .int v3), (7, .long v7), (9, .long v9)], [], me_w (lw M ((x199 p ((Int64.ofNat 1) - ((x200 p J L).1)) ((x200 p J L).2) L).2)) ((x199 p ((Int64.ofNat 1) - ((x200 p J L).1)) ((x200 p J L).2) L).1))) rfl k
            have k := nt_rn_w (a := [(4, .int (v4 + (Int32.ofInt 1))), (6, .int ((J (p 1) ((((Int32.ofInt 400) * v1) + v4).toNatClampNeg)) >>> ((Int32.ofInt 4) &&& 31))), (5, .int ((J (p 1) ((((Int32.ofInt 400) * v1) + v4).toNatClampNeg)) &&& (Int32.ofInt 15))), (0, .ref (p 0)), (1, .int v1), (2, .int v2), (3, .int v3), (7, .long v7), (9, .long v9)]) (b := [(0, .ref (p 0)), (1, .int v1), (2, .int v2), (3, .int v3), (4, .int (v4 + (Int32.ofInt 1))), (5, .int ((J (p 1) ((((Int32.ofInt 400) * v1) + v4).toNatClampNeg)) &&& (Int32.ofInt 15))), (6, .int ((J (p 1) ((((Int32.ofInt 400) * v1) + v4).toNatClampNeg)) >>> ((Int32.ofInt 4) &&& 31))), (7, .long v7), (9, .long v9)]) ⟨rfl, rfl, rfl, rfl, rfl, rfl, rfl, rfl, rfl, trivial⟩ rfl k
            have k := ih (v4 + (Int32.ofInt 1)) ((J (p 1) ((((Int32.ofInt 400) * v1) + v4).toNatClampNeg)) &&& (Int32.ofInt 15)) ((J (p 1) ((((Int32.ofInt 400) * v1) + v4).toNatClampNeg)) >>> ((Int32.ofInt 4) &&& 31)) v7 v9 ((x199 p ((Int64.ofNat 1) - ((x200 p J L).1)) ((x200 p J L).2) L).1) ((x199 p ((Int64.ofNat 1) - ((x200 p J L).1)) ((x200 p J L).2) L).2) (lx_dec h11 hc) k
            rw [k, x198_8, if_neg h11, if_neg h51, if_neg h67, if_pos h88]
          · rw [if_neg h88] at k
            have k := ly_revb 1 (c' := (105, [(6, .int ((J (p 1) ((((Int32.ofInt 400) * v1) + v4).toNatClampNeg)) >>> ((Int32.ofInt 4) &&& 31))), (5, .int ((J (p 1) ((((Int32.ofInt 400) * v1) + v4).toNatClampNeg)) &&& (Int32.ofInt 15))), (0, .ref (p 0)), (1, .int v1), (2, .int v2), (3, .int v3), (4, .int v4), (7, .long v7), (9, .long v9)], [.ref (p 0)], me_w (lw M L) J)) rfl k
            obtain ⟨d1, o1, ed, kc, k⟩ := lz_c (g := 200) (q := 1) (vs := [.ref (p 0)]) (rest := []) rfl rfl (by decide) (Or.inr (Or.inl ⟨_, rfl, rfl⟩)) rfl k
            have e1 := xt200 hp kc
            subst e1
            have k : nt_rn X _ 198 (108, [(6, .int ((J (p 1) ((((Int32.ofInt 400) * v1) + v4).toNatClampNeg)) >>> ((Int32.ofInt 4) &&& 31))), (5, .int ((J (p 1) ((((Int32.ofInt 400) * v1) + v4).toNatClampNeg)) &&& (Int32.ofInt 15))), (0, .ref (p 0)), (1, .int v1), (2, .int v2), (3, .int v3), (4, .int v4), (7, .long v7), (9, .long v9)], [.long ((x200 p J L).1)], me_w (lw M L) ((x200 p J L).2)) _ := k
            have k := ly_revb 2 (c' := (111, [(7, .long ((x200 p J L).1)), (6, .int ((J (p 1) ((((Int32.ofInt 400) * v1) + v4).toNatClampNeg)) >>> ((Int32.ofInt 4) &&& 31))), (5, .int ((J (p 1) ((((Int32.ofInt 400) * v1) + v4).toNatClampNeg)) &&& (Int32.ofInt 15))), (0, .ref (p 0)), (1, .int v1), (2, .int v2), (3, .int v3), (4, .int v4), (9, .long v9)], [.ref (p 0)], me_w (lw M L) ((x200 p J L).2))) rfl k
            obtain ⟨d1, o1, ed, kc, k⟩ := lz_c (g := 200) (q := 1) (vs := [.ref (p 0)]) (rest := []) rfl rfl (by decide) (Or.inr (Or.inl ⟨_, rfl, rfl⟩)) rfl k
            have e1 := xt200 hp kc
            subst e1
            have k : nt_rn X _ 198 (114, [(7, .long ((x200 p J L).1)), (6, .int ((J (p 1) ((((Int32.ofInt 400) * v1) + v4).toNatClampNeg)) >>> ((Int32.ofInt 4) &&& 31))), (5, .int ((J (p 1) ((((Int32.ofInt 400) * v1) + v4).toNatClampNeg)) &&& (Int32.ofInt 15))), (0, .ref (p 0)), (1, .int v1), (2, .int v2), (3, .int v3), (4, .int v4), (9, .long v9)], [.long ((x200 p ((x200 p J L).2) L).1)], me_w (lw M L) ((x200 p ((x200 p J L).2) L).2)) _ := k
            have k := ly_revb 5 (c' := (123, [(9, .long ((x200 p ((x200 p J L).2) L).1)), (7, .long ((x200 p J L).1)), (6, .int ((J (p 1) ((((Int32.ofInt 400) * v1) + v4).toNatClampNeg)) >>> ((Int32.ofInt 4) &&& 31))), (5, .int ((J (p 1) ((((Int32.ofInt 400) * v1) + v4).toNatClampNeg)) &&& (Int32.ofInt 15))), (0, .ref (p 0)), (1, .int v1), (2, .int v2), (3, .int v3), (4, .int v4)], [.long ((x200 p J L).1), .long ((x200 p ((x200 p J L).2) L).1), .int ((J (p 1) ((((Int32.ofInt 400) * v1) + v4).toNatClampNeg)) &&& (Int32.ofInt 15)), .ref (p 0)], me_w (lw M L) ((x200 p ((x200 p J L).2) L).2))) rfl k
            obtain ⟨d1, o1, ed, kc, k⟩ := lz_c (g := 201) (q := 0) (vs := [.int ((J (p 1) ((((Int32.ofInt 400) * v1) + v4).toNatClampNeg)) &&& (Int32.ofInt 15)), .long ((x200 p ((x200 p J L).2) L).1), .long ((x200 p J L).1)]) (rest := [.ref (p 0)]) rfl rfl (by decide) (Or.inl ⟨_, rfl, rfl⟩) rfl k
            have e1 := xt201  kc
            subst e1
            have k : nt_rn X _ 198 (126, [(9, .long ((x200 p ((x200 p J L).2) L).1)), (7, .long ((x200 p J L).1)), (6, .int ((J (p 1) ((((Int32.ofInt 400) * v1) + v4).toNatClampNeg)) >>> ((Int32.ofInt 4) &&& 31))), (5, .int ((J (p 1) ((((Int32.ofInt 400) * v1) + v4).toNatClampNeg)) &&& (Int32.ofInt 15))), (0, .ref (p 0)), (1, .int v1), (2, .int v2), (3, .int v3), (4, .int v4)], [.long (x201 ((J (p 1) ((((Int32.ofInt 400) * v1) + v4).toNatClampNeg)) &&& (Int32.ofInt 15)) ((x200 p ((x200 p J L).2) L).1) ((x200 p J L).1)), .ref (p 0)], me_w (lw M L) ((x200 p ((x200 p J L).2) L).2)) _ := k
            obtain ⟨d1, o1, ed, kc, k⟩ := lz_c (g := 199) (q := 1) (vs := [.ref (p 0), .long (x201 ((J (p 1) ((((Int32.ofInt 400) * v1) + v4).toNatClampNeg)) &&& (Int32.ofInt 15)) ((x200 p ((x200 p J L).2) L).1) ((x200 p J L).1))]) (rest := []) rfl rfl (by decide) (Or.inr (Or.inl ⟨_, rfl, rfl⟩)) rfl k
            have e1 := xt199 hp kc
            subst e1
            have k : nt_rn X _ 198 (129, [(9, .long ((x200 p ((x200 p J L).2) L).1)), (7, .long ((x200 p J L).1)), (6, .int ((J (p 1) ((((Int32.ofInt 400) * v1) + v4).toNatClampNeg)) >>> ((Int32.ofInt 4) &&& 31))), (5, .int ((J (p 1) ((((Int32.ofInt 400) * v1) + v4).toNatClampNeg)) &&& (Int32.ofInt 15))), (0, .ref (p 0)), (1, .int v1), (2, .int v2), (3, .int v3), (4, .int v4)], [], me_w (lw M ((x199 p (x201 ((J (p 1) ((((Int32.ofInt 400) * v1) + v4).toNatClampNeg)) &&& (Int32.ofInt 15)) ((x200 p ((x200 p J L).2) L).1) ((x200 p J L).1)) ((x200 p ((x200 p J L).2) L).2) L).2)) ((x199 p (x201 ((J (p 1) ((((Int32.ofInt 400) * v1) + v4).toNatClampNeg)) &&& (Int32.ofInt 15)) ((x200 p ((x200 p J L).2) L).1) ((x200 p J L).1)) ((x200 p ((x200 p J L).2) L).2) L).1)) _ := k
            have k := ly_revb 2 (c' := (8, [(4, .int (v4 + (Int32.ofInt 1))), (9, .long ((x200 p ((x200 p J L).2) L).1)), (7, .long ((x200 p J L).1)), (6, .int ((J (p 1) ((((Int32.ofInt 400) * v1) + v4).toNatClampNeg)) >>> ((Int32.ofInt 4) &&& 31))), (5, .int ((J (p 1) ((((Int32.ofInt 400) * v1) + v4).toNatClampNeg)) &&& (Int32.ofInt 15))), (0, .ref (p 0)), (1, .int v1), (2, .int v2), (3, .int v3)], [], me_w (lw M ((x199 p (x201 ((J (p 1) ((((Int32.ofInt 400) * v1) + v4).toNatClampNeg)) &&& (Int32.ofInt 15)) ((x200 p ((x200 p J L).2) L).1) ((x200 p J L).1)) ((x200 p ((x200 p J L).2) L).2) L).2)) ((x199 p (x201 ((J (p 1) ((((Int32.ofInt 400) * v1) + v4).toNatClampNeg)) &&& (Int32.ofInt 15)) ((x200 p ((x200 p J L).2) L).1) ((x200 p J L).1)) ((x200 p ((x200 p J L).2) L).2) L).1))) rfl k
            have k := nt_rn_w (a := [(4, .int (v4 + (Int32.ofInt 1))), (9, .long ((x200 p ((x200 p J L).2) L).1)), (7, .long ((x200 p J L).1)), (6, .int ((J (p 1) ((((Int32.ofInt 400) * v1) + v4).toNatClampNeg)) >>> ((Int32.ofInt 4) &&& 31))), (5, .int ((J (p 1) ((((Int32.ofInt 400) * v1) + v4).toNatClampNeg)) &&& (Int32.ofInt 15))), (0, .ref (p 0)), (1, .int v1), (2, .int v2), (3, .int v3)]) (b := [(0, .ref (p 0)), (1, .int v1), (2, .int v2), (3, .int v3), (4, .int (v4 + (Int32.ofInt 1))), (5, .int ((J (p 1) ((((Int32.ofInt 400) * v1) + v4).toNatClampNeg)) &&& (Int32.ofInt 15))), (6, .int ((J (p 1) ((((Int32.ofInt 400) * v1) + v4).toNatClampNeg)) >>> ((Int32.ofInt 4) &&& 31))), (7, .long ((x200 p J L).1)), (9, .long ((x200 p ((x200 p J L).2) L).1))]) ⟨rfl, rfl, rfl, rfl, rfl, rfl, rfl, rfl, rfl, trivial⟩ rfl k
            have k := ih (v4 + (Int32.ofInt 1)) ((J (p 1) ((((Int32.ofInt 400) * v1) + v4).toNatClampNeg)) &&& (Int32.ofInt 15)) ((J (p 1) ((((Int32.ofInt 400) * v1) + v4).toNatClampNeg)) >>> ((Int32.ofInt 4) &&& 31)) ((x200 p J L).1) ((x200 p ((x200 p J L).2) L).1) ((x199 p (x201 ((J (p 1) ((((Int32.ofInt 400) * v1) + v4).toNatClampNeg)) &&& (Int32.ofInt 15)) ((x200 p ((x200 p J L).2) L).1) ((x200 p J L).1)) ((x200 p ((x200 p J L).2) L).2) L).1) ((x199 p (x201 ((J (p 1) ((((Int32.ofInt 400) * v1) + v4).toNatClampNeg)) &&& (Int32.ofInt 15)) ((x200 p ((x200 p J L).2) L).1) ((x200 p J L).1)) ((x200 p ((x200 p J L).2) L).2) L).2) (lx_dec h11 hc) k
            rw [k, x198_8, if_neg h11, if_neg h51, if_neg h67, if_neg h88]
def x198 (p : Nat → Nat) (v1 : Int32) (v2 : Int32) (v3 : Int32) (J : Nat → Nat → Int32) (L : Nat → Nat → Int64) : Int64 × (Nat → Nat → Int32) × (Nat → Nat → Int64) := (x198_8 p v1 v3 ((v3.toInt - v2.toInt).toNat) v2 (nt_u J (p 0) 25 (Int32.ofInt 0)) L)
theorem xt198 {X : nt_X} {d : Nat} {M : nt_M} {o : Option Value × nt_M} {p : Nat → Nat} {v1 : Int32} {v2 : Int32} {v3 : Int32} {J : Nat → Nat → Int32} {L : Nat → Nat → Int64} (hp : xs_P M p) (k : nt_ev X d 198 [.ref (p 0), .int v1, .int v2, .int v3] (me_w (lw M L) J) o) : o = (some (.long ((x198 p v1 v2 v3 J L).1)), me_w (lw M ((x198 p v1 v2 v3 J L).2.2)) ((x198 p v1 v2 v3 J L).2.1)) := by
  have k : nt_rn X d 198 (0, [(0, .ref (p 0)), (1, .int v1), (2, .int v2), (3, .int v3)], [], me_w (lw M L) J) o := k
  have k := ly_revb 2 (c' := (2, [(0, .ref (p 0)), (1, .int v1), (2, .int v2), (3, .int v3)], [.int (Int32.ofInt 0), .ref (p 0)], me_w (lw M L) J)) rfl k
  have k := me_put rfl (by decide) k
  have k : nt_rn X _ 198 (5, [(0, .ref (p 0)), (1, .int v1), (2, .int v2), (3, .int v3)], [], me_w (lw M L) (nt_u J (p 0) 25 (Int32.ofInt 0))) _ := k
  have k := ly_revb 2 (c' := (8, [(4, .int v2), (0, .ref (p 0)), (1, .int v1), (2, .int v2), (3, .int v3)], [], me_w (lw M L) (nt_u J (p 0) 25 (Int32.ofInt 0)))) rfl k
  have k := nt_rn_w (a := [(4, .int v2), (0, .ref (p 0)), (1, .int v1), (2, .int v2), (3, .int v3)]) (b := [(0, .ref (p 0)), (1, .int v1), (2, .int v2), (3, .int v3), (4, .int v2), (5, .int (Int32.ofInt 0)), (6, .int (Int32.ofInt 0)), (7, .long (Int64.ofNat 0)), (9, .long (Int64.ofNat 0))]) ⟨rfl, rfl, rfl, rfl, rfl, trivial⟩ rfl k
  have k := xt198_8 hp  ((v3.toInt - v2.toInt).toNat) v2 (Int32.ofInt 0) (Int32.ofInt 0) (Int64.ofNat 0) (Int64.ofNat 0) (nt_u J (p 0) 25 (Int32.ofInt 0)) L lx_bg2 k
  rw [k, x198]
theorem x198_8_frJ {p : Nat → Nat} {v1 : Int32} {v3 : Int32} {b : Nat} : ∀ (c : Nat) (v4 : Int32) (J : Nat → Nat → Int32) (L : Nat → Nat → Int64), b ≠ p 0 → (x198_8 p v1 v3 c v4 J L).2.1 b = J b := by
  intro c
  induction c with
  | zero =>
    intro v4 J L n0
    rw [x198_8]
    all_goals first | (dsimp only; exact (show ((x200 p J L).2) b = J b from x200_frJ  n0)) | exact (show ((x200 p J L).2) b = J b from x200_frJ  n0)
  | succ c ih =>
    intro v4 J L n0
    rw [x198_8]
    by_cases h : v3 ≤ v4
    · rw [if_pos h]
      all_goals first | (dsimp only; exact (show ((x200 p J L).2) b = J b from x200_frJ  n0)) | exact (show ((x200 p J L).2) b = J b from x200_frJ  n0)
    · rw [if_neg h]
      by_cases h : ((J (p 1) ((((Int32.ofInt 400) * v1) + v4).toNatClampNeg)) &&& (Int32.ofInt 15)) = 0
      · rw [if_pos h]
        exact (ih _ _ _ n0).trans (x199_frJ  n0)
      · rw [if_neg h]
        by_cases h : ((J (p 1) ((((Int32.ofInt 400) * v1) + v4).toNatClampNeg)) &&& (Int32.ofInt 15)) = (Int32.ofInt 1)
        · rw [if_pos h]
          exact (ih _ _ _ n0).trans (x199_frJ  n0)
        · rw [if_neg h]
          by_cases h : ((J (p 1) ((((Int32.ofInt 400) * v1) + v4).toNatClampNeg)) &&& (Int32.ofInt 15)) = (Int32.ofInt 11)
          · rw [if_pos h]
            exact (ih _ _ _ n0).trans ((x199_frJ  n0).trans (x200_frJ  n0))
          · rw [if_neg h]
            exact (ih _ _ _ n0).trans ((x199_frJ  n0).trans ((x200_frJ  n0).trans (x200_frJ  n0)))
theorem x198_frJ {p : Nat → Nat} {v1 : Int32} {v2 : Int32} {v3 : Int32} {J : Nat → Nat → Int32} {L : Nat → Nat → Int64} {b : Nat} (n0 : b ≠ p 0) : (x198 p v1 v2 v3 J L).2.1 b = J b := by
  unfold x198
  exact (x198_8_frJ _ _ _ _ n0).trans (mu_o n0)
/-! Model.clauseFor -/
def x197_2 (p : Nat → Nat) (v1 : Int32) : Nat → Int32 → (Nat → Nat → Int32) → (Nat → Nat → Int64) → Int32 × (Nat → Nat → Int32) × (Nat → Nat → Int64)
  | 0, v2, J, L => (Int32.ofInt (-1), J, L)
  | c + 1, v2, J, L => if (J (p 3) v1.toNatClampNeg) ≤ v2 then (Int32.ofInt (-1), J, L)
    else if (J (p 2) (((((Int32.ofInt 48) * v1) + ((Int32.ofInt 4) * v2)) + (Int32.ofInt 2)).toNatClampNeg)) < 0 then (((Int32.ofInt 48) * v1) + ((Int32.ofInt 4) * v2), J, L)
      else if (lg_cmp ((x198 p v1 (J (p 2) (((((Int32.ofInt 48) * v1) + ((Int32.ofInt 4) * v2)) + (Int32.ofInt 2)).toNatClampNeg)) (J (p 2) (((((Int32.ofInt 48) * v1) + ((Int32.ofInt 4) * v2)) + (Int32.ofInt 3)).toNatClampNeg)) J L).1) (Int64.ofNat 1)) = 0 then (((Int32.ofInt 48) * v1) + ((Int32.ofInt 4) * v2), (x198 p v1 (J (p 2) (((((Int32.ofInt 48) * v1) + ((Int32.ofInt 4) * v2)) + (Int32.ofInt 2)).toNatClampNeg)) (J (p 2) (((((Int32.ofInt 48) * v1) + ((Int32.ofInt 4) * v2)) + (Int32.ofInt 3)).toNatClampNeg)) J L).2.1, (x198 p v1 (J (p 2) (((((Int32.ofInt 48) * v1) + ((Int32.ofInt 4) * v2)) + (Int32.ofInt 2)).toNatClampNeg)) (J (p 2) (((((Int32.ofInt 48) * v1) + ((Int32.ofInt 4) * v2)) + (Int32.ofInt 3)).toNatClampNeg)) J L).2.2)
        else (x197_2 p v1 c (v2 + (Int32.ofInt 1)) ((x198 p v1 (J (p 2) (((((Int32.ofInt 48) * v1) + ((Int32.ofInt 4) * v2)) + (Int32.ofInt 2)).toNatClampNeg)) (J (p 2) (((((Int32.ofInt 48) * v1) + ((Int32.ofInt 4) * v2)) + (Int32.ofInt 3)).toNatClampNeg)) J L).2.1) ((x198 p v1 (J (p 2) (((((Int32.ofInt 48) * v1) + ((Int32.ofInt 4) * v2)) + (Int32.ofInt 2)).toNatClampNeg)) (J (p 2) (((((Int32.ofInt 48) * v1) + ((Int32.ofInt 4) * v2)) + (Int32.ofInt 3)).toNatClampNeg)) J L).2.2))
theorem xt197_2 {X : nt_X} {d : Nat} {M : nt_M} {o : Option Value × nt_M} {p : Nat → Nat} {v1 : Int32} (hp : xs_P M p) : ∀ (c : Nat) (v2 : Int32) (v3 : Int32) (J : Nat → Nat → Int32) (L : Nat → Nat → Int64), (J (p 3) v1.toNatClampNeg).toInt - v2.toInt ≤ c → nt_rn X d 197 (2, [(0, .ref (p 0)), (1, .int v1), (2, .int v2), (3, .int v3)], [], me_w (lw M L) J) o → o = (some (.int ((x197_2 p v1 c v2 J L).1)), me_w (lw M ((x197_2 p v1 c v2 J L).2.2)) ((x197_2 p v1 c v2 J L).2.1)) := by
  intro c
  induction c with
  | zero =>
    intro v2 v3 J L hc k
    have k := ly_revb 2 (c' := (4, [(0, .ref (p 0)), (1, .int v1), (2, .int v2), (3, .int v3)], [.ref (p 0), .int v2], me_w (lw M L) J)) rfl k
    have k := lz_get (a := (p 0)) (g := 1106) (M := me_w (lw M L) J) (v := .ref (p 3)) rfl (nt_gfR rfl (hp.1 (0, 6, 3) (by decide))) k
    have k := ly_revb 1 (c' := (8, [(0, .ref (p 0)), (1, .int v1), (2, .int v2), (3, .int v3)], [.int v1, .ref (p 3), .int v2], me_w (lw M L) J)) rfl k
    have k := mx_iald (v := J (p 3) v1.toNatClampNeg) rfl (hp.2.2.1 3 (by omega)) (rfl) k
    have k := ly_revb 1 (c' := (if (J (p 3) v1.toNatClampNeg) ≤ v2 then 66 else 12, [(0, .ref (p 0)), (1, .int v1), (2, .int v2), (3, .int v3)], [], me_w (lw M L) J)) rfl k
    have h9 : (J (p 3) v1.toNatClampNeg) ≤ v2 := lx_end hc
    rw [if_pos h9] at k
    have k := ly_revb 1 (c' := (67, [(0, .ref (p 0)), (1, .int v1), (2, .int v2), (3, .int v3)], [.int (Int32.ofInt (-1))], me_w (lw M L) J)) rfl k
    have k := lz_ri rfl (by decide) k
    rw [k, x197_2]
  | succ c ih =>
    intro v2 v3 J L hc k
    have k := ly_revb 2 (c' := (4, [(0, .ref (p 0)), (1, .int v1), (2, .int v2), (3, .int v3)], [.ref (p 0), .int v2], me_w (lw M L) J)) rfl k
    have k := lz_get (a := (p 0)) (g := 1106) (M := me_w (lw M L) J) (v := .ref (p 3)) rfl (nt_gfR rfl (hp.1 (0, 6, 3) (by decide))) k
    have k := ly_revb 1 (c' := (8, [(0, .ref (p 0)), (1, .int v1), (2, .int v2), (3, .int v3)], [.int v1, .ref (p 3), .int v2], me_w (lw M L) J)) rfl k
    have k := mx_iald (v := J (p 3) v1.toNatClampNeg) rfl (hp.2.2.1 3 (by omega)) (rfl) k
    have k := ly_revb 1 (c' := (if (J (p 3) v1.toNatClampNeg) ≤ v2 then 66 else 12, [(0, .ref (p 0)), (1, .int v1), (2, .int v2), (3, .int v3)], [], me_w (lw M L) J)) rfl k
    by_cases h9 : (J (p 3) v1.toNatClampNeg) ≤ v2
    · rw [if_pos h9] at k
      have k := ly_revb 1 (c' := (67, [(0, .ref (p 0)), (1, .int v1), (2, .int v2), (3, .int v3)], [.int (Int32.ofInt (-1))], me_w (lw M L) J)) rfl k
      have k := lz_ri rfl (by decide) k
      rw [k, x197_2, if_pos h9]
    · rw [if_neg h9] at k
      have k := ly_revb 9 (c' := (22, [(3, .int (((Int32.ofInt 48) * v1) + ((Int32.ofInt 4) * v2))), (0, .ref (p 0)), (1, .int v1), (2, .int v2)], [.ref (p 0)], me_w (lw M L) J)) rfl k
      have k := lz_get (a := (p 0)) (g := 1105) (M := me_w (lw M L) J) (v := .ref (p 2)) rfl (nt_gfR rfl (hp.1 (0, 5, 2) (by decide))) k
      have k := ly_revb 3 (c' := (28, [(3, .int (((Int32.ofInt 48) * v1) + ((Int32.ofInt 4) * v2))), (0, .ref (p 0)), (1, .int v1), (2, .int v2)], [.int ((((Int32.ofInt 48) * v1) + ((Int32.ofInt 4) * v2)) + (Int32.ofInt 2)), .ref (p 2)], me_w (lw M L) J)) rfl k
      have k := mx_iald (v := J (p 2) (((((Int32.ofInt 48) * v1) + ((Int32.ofInt 4) * v2)) + (Int32.ofInt 2)).toNatClampNeg)) rfl (hp.2.2.1 2 (by omega)) (rfl) k
      have k := ly_revb 1 (c' := (if (J (p 2) (((((Int32.ofInt 48) * v1) + ((Int32.ofInt 4) * v2)) + (Int32.ofInt 2)).toNatClampNeg)) < 0 then 58 else 32, [(3, .int (((Int32.ofInt 48) * v1) + ((Int32.ofInt 4) * v2))), (0, .ref (p 0)), (1, .int v1), (2, .int v2)], [], me_w (lw M L) J)) rfl k
      by_cases h29 : (J (p 2) (((((Int32.ofInt 48) * v1) + ((Int32.ofInt 4) * v2)) + (Int32.ofInt 2)).toNatClampNeg)) < 0
      · rw [if_pos h29] at k
        have k := ly_revb 1 (c' := (59, [(3, .int (((Int32.ofInt 48) * v1) + ((Int32.ofInt 4) * v2))), (0, .ref (p 0)), (1, .int v1), (2, .int v2)], [.int (((Int32.ofInt 48) * v1) + ((Int32.ofInt 4) * v2))], me_w (lw M L) J)) rfl k
        have k := lz_ri rfl (by decide) k
        rw [k, x197_2, if_neg h9, if_pos h29]
      · rw [if_neg h29] at k
        have k := ly_revb 3 (c' := (35, [(3, .int (((Int32.ofInt 48) * v1) + ((Int32.ofInt 4) * v2))), (0, .ref (p 0)), (1, .int v1), (2, .int v2)], [.ref (p 0), .int v1, .ref (p 0)], me_w (lw M L) J)) rfl k
        have k := lz_get (a := (p 0)) (g := 1105) (M := me_w (lw M L) J) (v := .ref (p 2)) rfl (nt_gfR rfl (hp.1 (0, 5, 2) (by decide))) k
        have k := ly_revb 3 (c' := (41, [(3, .int (((Int32.ofInt 48) * v1) + ((Int32.ofInt 4) * v2))), (0, .ref (p 0)), (1, .int v1), (2, .int v2)], [.int ((((Int32.ofInt 48) * v1) + ((Int32.ofInt 4) * v2)) + (Int32.ofInt 2)), .ref (p 2), .int v1, .ref (p 0)], me_w (lw M L) J)) rfl k
        have k := mx_iald (v := J (p 2) (((((Int32.ofInt 48) * v1) + ((Int32.ofInt 4) * v2)) + (Int32.ofInt 2)).toNatClampNeg)) rfl (hp.2.2.1 2 (by omega)) (rfl) k
        have k := ly_revb 1 (c' := (43, [(3, .int (((Int32.ofInt 48) * v1) + ((Int32.ofInt 4) * v2))), (0, .ref (p 0)), (1, .int v1), (2, .int v2)], [.ref (p 0), .int (J (p 2) (((((Int32.ofInt 48) * v1) + ((Int32.ofInt 4) * v2)) + (Int32.ofInt 2)).toNatClampNeg)), .int v1, .ref (p 0)], me_w (lw M L) J)) rfl k
        have k := lz_get (a := (p 0)) (g := 1105) (M := me_w (lw M L) J) (v := .ref (p 2)) rfl (nt_gfR rfl (hp.1 (0, 5, 2) (by decide))) k
        have k := ly_revb 3 (c' := (49, [(3, .int (((Int32.ofInt 48) * v1) + ((Int32.ofInt 4) * v2))), (0, .ref (p 0)), (1, .int v1), (2, .int v2)], [.int ((((Int32.ofInt 48) * v1) + ((Int32.ofInt 4) * v2)) + (Int32.ofInt 3)), .ref (p 2), .int (J (p 2) (((((Int32.ofInt 48) * v1) + ((Int32.ofInt 4) * v2)) + (Int32.ofInt 2)).toNatClampNeg)), .int v1, .ref (p 0)], me_w (lw M L) J)) rfl k
        have k := mx_iald (v := J (p 2) (((((Int32.ofInt 48) * v1) + ((Int32.ofInt 4) * v2)) + (Int32.ofInt 3)).toNatClampNeg)) rfl (hp.2.2.1 2 (by omega)) (rfl) k
        obtain ⟨d1, o1, ed, kc, k⟩ := lz_c (g := 198) (q := 1) (vs := [.ref (p 0), .int v1, .int (J (p 2) (((((Int32.ofInt 48) * v1) + ((Int32.ofInt 4) * v2)) + (Int32.ofInt 2)).toNatClampNeg)), .int (J (p 2) (((((Int32.ofInt 48) * v1) + ((Int32.ofInt 4) * v2)) + (Int32.ofInt 3)).toNatClampNeg))]) (rest := []) rfl rfl (by decide) (Or.inr (Or.inl ⟨_, rfl, rfl⟩)) rfl k
        have e1 := xt198 hp kc
        subst e1
        have k : nt_rn X _ 197 (53, [(3, .int (((Int32.ofInt 48) * v1) + ((Int32.ofInt 4) * v2))), (0, .ref (p 0)), (1, .int v1), (2, .int v2)], [.long ((x198 p v1 (J (p 2) (((((Int32.ofInt 48) * v1) + ((Int32.ofInt 4) * v2)) + (Int32.ofInt 2)).toNatClampNeg)) (J (p 2) (((((Int32.ofInt 48) * v1) + ((Int32.ofInt 4) * v2)) + (Int32.ofInt 3)).toNatClampNeg)) J L).1)], me_w (lw M ((x198 p v1 (J (p 2) (((((Int32.ofInt 48) * v1) + ((Int32.ofInt 4) * v2)) + (Int32.ofInt 2)).toNatClampNeg)) (J (p 2) (((((Int32.ofInt 48) * v1) + ((Int32.ofInt 4) * v2)) + (Int32.ofInt 3)).toNatClampNeg)) J L).2.2)) ((x198 p v1 (J (p 2) (((((Int32.ofInt 48) * v1) + ((Int32.ofInt 4) * v2)) + (Int32.ofInt 2)).toNatClampNeg)) (J (p 2) (((((Int32.ofInt 48) * v1) + ((Int32.ofInt 4) * v2)) + (Int32.ofInt 3)).toNatClampNeg)) J L).2.1)) _ := k
        have k := ly_revb 3 (c' := (if (lg_cmp ((x198 p v1 (J (p 2) (((((Int32.ofInt 48) * v1) + ((Int32.ofInt 4) * v2)) + (Int32.ofInt 2)).toNatClampNeg)) (J (p 2) (((((Int32.ofInt 48) * v1) + ((Int32.ofInt 4) * v2)) + (Int32.ofInt 3)).toNatClampNeg)) J L).1) (Int64.ofNat 1)) = 0 then 58 else 60, [(3, .int (((Int32.ofInt 48) * v1) + ((Int32.ofInt 4) * v2))), (0, .ref (p 0)), (1, .int v1), (2, .int v2)], [], me_w (lw M ((x198 p v1 (J (p 2) (((((Int32.ofInt 48) * v1) + ((Int32.ofInt 4) * v2)) + (Int32.ofInt 2)).toNatClampNeg)) (J (p 2) (((((Int32.ofInt 48) * v1) + ((Int32.ofInt 4) * v2)) + (Int32.ofInt 3)).toNatClampNeg)) J L).2.2)) ((x198 p v1 (J (p 2) (((((Int32.ofInt 48) * v1) + ((Int32.ofInt 4) * v2)) + (Int32.ofInt 2)).toNatClampNeg)) (J (p 2) (((((Int32.ofInt 48) * v1) + ((Int32.ofInt 4) * v2)) + (Int32.ofInt 3)).toNatClampNeg)) J L).2.1))) rfl k
        by_cases h55 : (lg_cmp ((x198 p v1 (J (p 2) (((((Int32.ofInt 48) * v1) + ((Int32.ofInt 4) * v2)) + (Int32.ofInt 2)).toNatClampNeg)) (J (p 2) (((((Int32.ofInt 48) * v1) + ((Int32.ofInt 4) * v2)) + (Int32.ofInt 3)).toNatClampNeg)) J L).1) (Int64.ofNat 1)) = 0
        · rw [if_pos h55] at k
          have k := ly_revb 1 (c' := (59, [(3, .int (((Int32.ofInt 48) * v1) + ((Int32.ofInt 4) * v2))), (0, .ref (p 0)), (1, .int v1), (2, .int v2)], [.int (((Int32.ofInt 48) * v1) + ((Int32.ofInt 4) * v2))], me_w (lw M ((x198 p v1 (J (p 2) (((((Int32.ofInt 48) * v1) + ((Int32.ofInt 4) * v2)) + (Int32.ofInt 2)).toNatClampNeg)) (J (p 2) (((((Int32.ofInt 48) * v1) + ((Int32.ofInt 4) * v2)) + (Int32.ofInt 3)).toNatClampNeg)) J L).2.2)) ((x198 p v1 (J (p 2) (((((Int32.ofInt 48) * v1) + ((Int32.ofInt 4) * v2)) + (Int32.ofInt 2)).toNatClampNeg)) (J (p 2) (((((Int32.ofInt 48) * v1) + ((Int32.ofInt 4) * v2)) + (Int32.ofInt 3)).toNatClampNeg)) J L).2.1))) rfl k
          have k := lz_ri rfl (by decide) k
          rw [k, x197_2, if_neg h9, if_neg h29, if_pos h55]
        · rw [if_neg h55] at k
          have k := ly_revb 2 (c' := (2, [(2, .int (v2 + (Int32.ofInt 1))), (3, .int (((Int32.ofInt 48) * v1) + ((Int32.ofInt 4) * v2))), (0, .ref (p 0)), (1, .int v1)], [], me_w (lw M ((x198 p v1 (J (p 2) (((((Int32.ofInt 48) * v1) + ((Int32.ofInt 4) * v2)) + (Int32.ofInt 2)).toNatClampNeg)) (J (p 2) (((((Int32.ofInt 48) * v1) + ((Int32.ofInt 4) * v2)) + (Int32.ofInt 3)).toNatClampNeg)) J L).2.2)) ((x198 p v1 (J (p 2) (((((Int32.ofInt 48) * v1) + ((Int32.ofInt 4) * v2)) + (Int32.ofInt 2)).toNatClampNeg)) (J (p 2) (((((Int32.ofInt 48) * v1) + ((Int32.ofInt 4) * v2)) + (Int32.ofInt 3)).toNatClampNeg)) J L).2.1))) rfl k
          have k := nt_rn_w (a := [(2, .int (v2 + (Int32.ofInt 1))), (3, .int (((Int32.ofInt 48) * v1) + ((Int32.ofInt 4) * v2))), (0, .ref (p 0)), (1, .int v1)]) (b := [(0, .ref (p 0)), (1, .int v1), (2, .int (v2 + (Int32.ofInt 1))), (3, .int (((Int32.ofInt 48) * v1) + ((Int32.ofInt 4) * v2)))]) ⟨rfl, rfl, rfl, rfl, trivial⟩ rfl k
          have k := ih (v2 + (Int32.ofInt 1)) (((Int32.ofInt 48) * v1) + ((Int32.ofInt 4) * v2)) ((x198 p v1 (J (p 2) (((((Int32.ofInt 48) * v1) + ((Int32.ofInt 4) * v2)) + (Int32.ofInt 2)).toNatClampNeg)) (J (p 2) (((((Int32.ofInt 48) * v1) + ((Int32.ofInt 4) * v2)) + (Int32.ofInt 3)).toNatClampNeg)) J L).2.1) ((x198 p v1 (J (p 2) (((((Int32.ofInt 48) * v1) + ((Int32.ofInt 4) * v2)) + (Int32.ofInt 2)).toNatClampNeg)) (J (p 2) (((((Int32.ofInt 48) * v1) + ((Int32.ofInt 4) * v2)) + (Int32.ofInt 3)).toNatClampNeg)) J L).2.2) (by rw [show ((x198 p v1 (J (p 2) (((((Int32.ofInt 48) * v1) + ((Int32.ofInt 4) * v2)) + (Int32.ofInt 2)).toNatClampNeg)) (J (p 2) (((((Int32.ofInt 48) * v1) + ((Int32.ofInt 4) * v2)) + (Int32.ofInt 3)).toNatClampNeg)) J L).2.1) (p 3) v1.toNatClampNeg = J (p 3) v1.toNatClampNeg from congrFun (x198_frJ  (hp.2.1 3 0 (by omega) (by omega) (by decide))) v1.toNatClampNeg]; exact lx_dec h9 hc) k
          rw [k, x197_2, if_neg h9, if_neg h29, if_neg h55]
def x197 (p : Nat → Nat) (v1 : Int32) (J : Nat → Nat → Int32) (L : Nat → Nat → Int64) : Int32 × (Nat → Nat → Int32) × (Nat → Nat → Int64) := (x197_2 p v1 ((J (p 3) v1.toNatClampNeg).toNatClampNeg) (Int32.ofInt 0) J L)
theorem xt197 {X : nt_X} {d : Nat} {M : nt_M} {o : Option Value × nt_M} {p : Nat → Nat} {v1 : Int32} {J : Nat → Nat → Int32} {L : Nat → Nat → Int64} (hp : xs_P M p) (k : nt_ev X d 197 [.ref (p 0), .int v1] (me_w (lw M L) J) o) : o = (some (.int ((x197 p v1 J L).1)), me_w (lw M ((x197 p v1 J L).2.2)) ((x197 p v1 J L).2.1)) := by
  have k : nt_rn X d 197 (0, [(0, .ref (p 0)), (1, .int v1)], [], me_w (lw M L) J) o := k
  have k := ly_revb 2 (c' := (2, [(2, .int (Int32.ofInt 0)), (0, .ref (p 0)), (1, .int v1)], [], me_w (lw M L) J)) rfl k
  have k := nt_rn_w (a := [(2, .int (Int32.ofInt 0)), (0, .ref (p 0)), (1, .int v1)]) (b := [(0, .ref (p 0)), (1, .int v1), (2, .int (Int32.ofInt 0)), (3, .int (Int32.ofInt 0))]) ⟨rfl, rfl, rfl, trivial⟩ rfl k
  have k := xt197_2 hp  ((J (p 3) v1.toNatClampNeg).toNatClampNeg) (Int32.ofInt 0) (Int32.ofInt 0) J L (lx_beg (by decide)) k
  rw [k, x197]
theorem x197_2_frJ {p : Nat → Nat} {v1 : Int32} {b : Nat} : ∀ (c : Nat) (v2 : Int32) (J : Nat → Nat → Int32) (L : Nat → Nat → Int64), b ≠ p 0 → (x197_2 p v1 c v2 J L).2.1 b = J b := by
  intro c
  induction c with
  | zero =>
    intro v2 J L n0
    rw [x197_2]
    all_goals first | (dsimp only; exact (show J b = J b from rfl)) | exact (show J b = J b from rfl)
  | succ c ih =>
    intro v2 J L n0
    rw [x197_2]
    by_cases h : (J (p 3) v1.toNatClampNeg) ≤ v2
    · rw [if_pos h]
      all_goals first | (dsimp only; exact (show J b = J b from rfl)) | exact (show J b = J b from rfl)
    · rw [if_neg h]
      by_cases h : (J (p 2) (((((Int32.ofInt 48) * v1) + ((Int32.ofInt 4) * v2)) + (Int32.ofInt 2)).toNatClampNeg)) < 0
      · rw [if_pos h]
        all_goals first | (dsimp only; exact (show J b = J b from rfl)) | exact (show J b = J b from rfl)
      · rw [if_neg h]
        by_cases h : (lg_cmp ((x198 p v1 (J (p 2) (((((Int32.ofInt 48) * v1) + ((Int32.ofInt 4) * v2)) + (Int32.ofInt 2)).toNatClampNeg)) (J (p 2) (((((Int32.ofInt 48) * v1) + ((Int32.ofInt 4) * v2)) + (Int32.ofInt 3)).toNatClampNeg)) J L).1) (Int64.ofNat 1)) = 0
        · rw [if_pos h]
          all_goals first | (dsimp only; exact (show ((x198 p v1 (J (p 2) (((((Int32.ofInt 48) * v1) + ((Int32.ofInt 4) * v2)) + (Int32.ofInt 2)).toNatClampNeg)) (J (p 2) (((((Int32.ofInt 48) * v1) + ((Int32.ofInt 4) * v2)) + (Int32.ofInt 3)).toNatClampNeg)) J L).2.1) b = J b from x198_frJ  n0)) | exact (show ((x198 p v1 (J (p 2) (((((Int32.ofInt 48) * v1) + ((Int32.ofInt 4) * v2)) + (Int32.ofInt 2)).toNatClampNeg)) (J (p 2) (((((Int32.ofInt 48) * v1) + ((Int32.ofInt 4) * v2)) + (Int32.ofInt 3)).toNatClampNeg)) J L).2.1) b = J b from x198_frJ  n0)
        · rw [if_neg h]
          exact (ih _ _ _ n0).trans (x198_frJ  n0)
theorem x197_frJ {p : Nat → Nat} {v1 : Int32} {J : Nat → Nat → Int32} {L : Nat → Nat → Int64} {b : Nat} (n0 : b ≠ p 0) : (x197 p v1 J L).2.1 b = J b := by
  unfold x197
  exact (x197_2_frJ _ _ _ _ n0).trans (rfl)
/-! Model.taken -/
def x193_9 (p : Nat → Nat) (v1 : Int32) (v2 : Int32) (v3 : Int32) (v4 : Int32) : Nat → Int32 → Int64 → Int32 → (Nat → Nat → Int32) → (Nat → Nat → Int64) → Int32 × (Nat → Nat → Int32) × (Nat → Nat → Int64)
  | 0, v5, v6, v8, J, L => (v5, J, L)
  | c + 1, v5, v6, v8, J, L => if (J (p 4) 2) ≤ v8 then (v5, J, L)
    else if (x194 p v8 v2 v3 J) = 0 then (x193_9 p v1 v2 v3 v4 c v5 v6 (v8 + (Int32.ofInt 1)) J L)
      else if 0 ≤ ((x197 p v1 J (x196 p v8 v2 v4 J L)).1) then if v5 < 0 then (x193_9 p v1 v2 v3 v4 c v8 ((x198 p v1 (J (p 2) (((x197 p v1 J (x196 p v8 v2 v4 J L)).1).toNatClampNeg)) (J (p 2) ((((x197 p v1 J (x196 p v8 v2 v4 J L)).1) + (Int32.ofInt 1)).toNatClampNeg)) ((x197 p v1 J (x196 p v8 v2 v4 J L)).2.1) ((x197 p v1 J (x196 p v8 v2 v4 J L)).2.2)).1) (v8 + (Int32.ofInt 1)) ((x198 p v1 (J (p 2) (((x197 p v1 J (x196 p v8 v2 v4 J L)).1).toNatClampNeg)) (J (p 2) ((((x197 p v1 J (x196 p v8 v2 v4 J L)).1) + (Int32.ofInt 1)).toNatClampNeg)) ((x197 p v1 J (x196 p v8 v2 v4 J L)).2.1) ((x197 p v1 J (x196 p v8 v2 v4 J L)).2.2)).2.1) ((x198 p v1 (J (p 2) (((x197 p v1 J (x196 p v8 v2 v4 J L)).1).toNatClampNeg)) (J (p 2) ((((x197 p v1 J (x196 p v8 v2 v4 J L)).1) + (Int32.ofInt 1)).toNatClampNeg)) ((x197 p v1 J (x196 p v8 v2 v4 J L)).2.1) ((x197 p v1 J (x196 p v8 v2 v4 J L)).2.2)).2.2))
          else if (lg_cmp ((x198 p v1 (J (p 2) (((x197 p v1 J (x196 p v8 v2 v4 J L)).1).toNatClampNeg)) (J (p 2) ((((x197 p v1 J (x196 p v8 v2 v4 J L)).1) + (Int32.ofInt 1)).toNatClampNeg)) ((x197 p v1 J (x196 p v8 v2 v4 J L)).2.1) ((x197 p v1 J (x196 p v8 v2 v4 J L)).2.2)).1) v6) < 0 then (x193_9 p v1 v2 v3 v4 c v8 ((x198 p v1 (J (p 2) (((x197 p v1 J (x196 p v8 v2 v4 J L)).1).toNatClampNeg)) (J (p 2) ((((x197 p v1 J (x196 p v8 v2 v4 J L)).1) + (Int32.ofInt 1)).toNatClampNeg)) ((x197 p v1 J (x196 p v8 v2 v4 J L)).2.1) ((x197 p v1 J (x196 p v8 v2 v4 J L)).2.2)).1) (v8 + (Int32.ofInt 1)) ((x198 p v1 (J (p 2) (((x197 p v1 J (x196 p v8 v2 v4 J L)).1).toNatClampNeg)) (J (p 2) ((((x197 p v1 J (x196 p v8 v2 v4 J L)).1) + (Int32.ofInt 1)).toNatClampNeg)) ((x197 p v1 J (x196 p v8 v2 v4 J L)).2.1) ((x197 p v1 J (x196 p v8 v2 v4 J L)).2.2)).2.1) ((x198 p v1 (J (p 2) (((x197 p v1 J (x196 p v8 v2 v4 J L)).1).toNatClampNeg)) (J (p 2) ((((x197 p v1 J (x196 p v8 v2 v4 J L)).1) + (Int32.ofInt 1)).toNatClampNeg)) ((x197 p v1 J (x196 p v8 v2 v4 J L)).2.1) ((x197 p v1 J (x196 p v8 v2 v4 J L)).2.2)).2.2))
            else (x193_9 p v1 v2 v3 v4 c v5 v6 (v8 + (Int32.ofInt 1)) ((x198 p v1 (J (p 2) (((x197 p v1 J (x196 p v8 v2 v4 J L)).1).toNatClampNeg)) (J (p 2) ((((x197 p v1 J (x196 p v8 v2 v4 J L)).1) + (Int32.ofInt 1)).toNatClampNeg)) ((x197 p v1 J (x196 p v8 v2 v4 J L)).2.1) ((x197 p v1 J (x196 p v8 v2 v4 J L)).2.2)).2.1) ((x198 p v1 (J (p 2) (((x197 p v1 J (x196 p v8 v2 v4 J L)).1).toNatClampNeg)) (J (p 2) ((((x197 p v1 J (x196 p v8 v2 v4 J L)).1) + (Int32.ofInt 1)).toNatClampNeg)) ((x197 p v1 J (x196 p v8 v2 v4 J L)).2.1) ((x197 p v1 J (x196 p v8 v2 v4 J L)).2.2)).2.2))
        else (x193_9 p v1 v2 v3 v4 c v5 v6 (v8 + (Int32.ofInt 1)) ((x197 p v1 J (x196 p v8 v2 v4 J L)).2.1) ((x197 p v1 J (x196 p v8 v2 v4 J L)).2.2))
theorem xt193_9 {X : nt_X} {d : Nat} {M : nt_M} {o : Option Value × nt_M} {p : Nat → Nat} {v1 : Int32} {v2 : Int32} {v3 : Int32} {v4 : Int32} (hp : xs_P M p) : ∀ (c : Nat) (v5 : Int32) (v6 : Int64) (v8 : Int32) (v9 : Int32) (v10 : Int64) (J : Nat → Nat → Int32) (L : Nat → Nat → Int64), (J (p 4) 2).toInt - v8.toInt ≤ c → nt_rn X d 193 (9, [(0, .ref (p 0)), (1, .int v1), (2, .int v2), (3, .int v3), (4, .int v4), (5, .int v5), (6, .long v6), (8, .int v8), (9, .int v9), (10, .long v10)], [], me_w (lw M L) J) o → o = (some (.int ((x193_9 p v1 v2 v3 v4 c v5 v6 v8 J L).1)), me_w (lw M ((x193_9 p v1 v2 v3 v4 c v5 v6 v8 J L).2.2)) ((x193_9 p v1 v2 v3 v4 c v5 v6 v8 J L).2.1)) := by
  intro c
  induction c with
  | zero =>
    intro v5 v6 v8 v9 v10 J L hc k
    have k := ly_revb 2 (c' := (12, [(0, .ref (p 0)), (1, .int v1), (2, .int v2), (3, .int v3), (4, .int v4), (5, .int v5), (6, .long v6), (8, .int v8), (9, .int v9), (10, .long v10)], [.ref (p 0), .int v8], me_w (lw M L) J)) rfl k
    have k := lz_get (a := (p 0)) (g := 1127) (M := me_w (lw M L) J) (v := .ref (p 4)) rfl (nt_gfR rfl (hp.1 (0, 27, 4) (by decide))) k
    have k := ly_revb 1 (c' := (16, [(0, .ref (p 0)), (1, .int v1), (2, .int v2), (3, .int v3), (4, .int v4), (5, .int v5), (6, .long v6), (8, .int v8), (9, .int v9), (10, .long v10)], [.int (Int32.ofInt 2), .ref (p 4), .int v8], me_w (lw M L) J)) rfl k
    have k := mx_iald (v := J (p 4) 2) rfl (hp.2.2.1 4 (by omega)) ((congrArg (J (p 4)) (show (Int32.ofInt 2).toNatClampNeg = 2 from rfl)).trans (rfl)) k
    have k := ly_revb 1 (c' := (if (J (p 4) 2) ≤ v8 then 111 else 20, [(0, .ref (p 0)), (1, .int v1), (2, .int v2), (3, .int v3), (4, .int v4), (5, .int v5), (6, .long v6), (8, .int v8), (9, .int v9), (10, .long v10)], [], me_w (lw M L) J)) rfl k
    have h17 : (J (p 4) 2) ≤ v8 := lx_end hc
    rw [if_pos h17] at k
    have k := ly_revb 1 (c' := (113, [(0, .ref (p 0)), (1, .int v1), (2, .int v2), (3, .int v3), (4, .int v4), (5, .int v5), (6, .long v6), (8, .int v8), (9, .int v9), (10, .long v10)], [.int v5], me_w (lw M L) J)) rfl k
    have k := lz_ri rfl (by decide) k
    rw [k, x193_9]
  | succ c ih =>
    intro v5 v6 v8 v9 v10 J L hc k
    have k := ly_revb 2 (c' := (12, [(0, .ref (p 0)), (1, .int v1), (2, .int v2), (3, .int v3), (4, .int v4), (5, .int v5), (6, .long v6), (8, .int v8), (9, .int v9), (10, .long v10)], [.ref (p 0), .int v8], me_w (lw M L) J)) rfl k
    have k := lz_get (a := (p 0)) (g := 1127) (M := me_w (lw M L) J) (v := .ref (p 4)) rfl (nt_gfR rfl (hp.1 (0, 27, 4) (by decide))) k
    have k := ly_revb 1 (c' := (16, [(0, .ref (p 0)), (1, .int v1), (2, .int v2), (3, .int v3), (4, .int v4), (5, .int v5), (6, .long v6), (8, .int v8), (9, .int v9), (10, .long v10)], [.int (Int32.ofInt 2), .ref (p 4), .int v8], me_w (lw M L) J)) rfl k
    have k := mx_iald (v := J (p 4) 2) rfl (hp.2.2.1 4 (by omega)) ((congrArg (J (p 4)) (show (Int32.ofInt 2).toNatClampNeg = 2 from rfl)).trans (rfl)) k
    have k := ly_revb 1 (c' := (if (J (p 4) 2) ≤ v8 then 111 else 20, [(0, .ref (p 0)), (1, .int v1), (2, .int v2), (3, .int v3), (4, .int v4), (5, .int v5), (6, .long v6), (8, .int v8), (9, .int v9), (10, .long v10)], [], me_w (lw M L) J)) rfl k
    by_cases h17 : (J (p 4) 2) ≤ v8
    · rw [if_pos h17] at k
      have k := ly_revb 1 (c' := (113, [(0, .ref (p 0)), (1, .int v1), (2, .int v2), (3, .int v3), (4, .int v4), (5, .int v5), (6, .long v6), (8, .int v8), (9, .int v9), (10, .long v10)], [.int v5], me_w (lw M L) J)) rfl k
      have k := lz_ri rfl (by decide) k
      rw [k, x193_9, if_pos h17]
    · rw [if_neg h17] at k
      have k := ly_revb 4 (c' := (25, [(0, .ref (p 0)), (1, .int v1), (2, .int v2), (3, .int v3), (4, .int v4), (5, .int v5), (6, .long v6), (8, .int v8), (9, .int v9), (10, .long v10)], [.int v3, .int v2, .int v8, .ref (p 0)], me_w (lw M L) J)) rfl k
      obtain ⟨d1, o1, ed, kc, k⟩ := lz_c (g := 194) (q := 1) (vs := [.ref (p 0), .int v8, .int v2, .int v3]) (rest := []) rfl rfl (by decide) (Or.inr (Or.inl ⟨_, rfl, rfl⟩)) rfl k
      have e1 := xt194 (xs_lp hp) kc
      subst e1
      have k : nt_rn X _ 193 (28, [(0, .ref (p 0)), (1, .int v1), (2, .int v2), (3, .int v3), (4, .int v4), (5, .int v5), (6, .long v6), (8, .int v8), (9, .int v9), (10, .long v10)], [.int (x194 p v8 v2 v3 J)], me_w (lw M L) J) _ := k
      have k := ly_revb 1 (c' := (if (x194 p v8 v2 v3 J) = 0 then 31 else 34, [(0, .ref (p 0)), (1, .int v1), (2, .int v2), (3, .int v3), (4, .int v4), (5, .int v5), (6, .long v6), (8, .int v8), (9, .int v9), (10, .long v10)], [], me_w (lw M L) J)) rfl k
      by_cases h28 : (x194 p v8 v2 v3 J) = 0
      · rw [if_pos h28] at k
        have k := ly_revb 3 (c' := (9, [(8, .int (v8 + (Int32.ofInt 1))), (0, .ref (p 0)), (1, .int v1), (2, .int v2), (3, .int v3), (4, .int v4), (5, .int v5), (6, .long v6), (9, .int v9), (10, .long v10)], [], me_w (lw M L) J)) rfl k
        have k := nt_rn_w (a := [(8, .int (v8 + (Int32.ofInt 1))), (0, .ref (p 0)), (1, .int v1), (2, .int v2), (3, .int v3), (4, .int v4), (5, .int v5), (6, .long v6), (9, .int v9), (10, .long v10)]) (b := [(0, .ref (p 0)), (1, .int v1), (2, .int v2), (3, .int v3), (4, .int v4), (5, .int v5), (6, .long v6), (8, .int (v8 + (Int32.ofInt 1))), (9, .int v9), (10, .long v10)]) ⟨rfl, rfl, rfl, rfl, rfl, rfl, rfl, rfl, rfl, rfl, trivial⟩ rfl k
        have k := ih v5 v6 (v8 + (Int32.ofInt 1)) v9 v10 J L (lx_dec h17 hc) k
        rw [k, x193_9, if_neg h17, if_pos h28]
      · rw [if_neg h28] at k
        have k := ly_revb 4 (c' := (40, [(0, .ref (p 0)), (1, .int v1), (2, .int v2), (3, .int v3), (4, .int v4), (5, .int v5), (6, .long v6), (8, .int v8), (9, .int v9), (10, .long v10)], [.int v4, .int v2, .int v8, .ref (p 0)], me_w (lw M L) J)) rfl k
        obtain ⟨d1, o1, ed, kc, k⟩ := lz_c (g := 196) (q := 1) (vs := [.ref (p 0), .int v8, .int v2, .int v4]) (rest := []) rfl rfl (by decide) (Or.inr (Or.inl ⟨_, rfl, rfl⟩)) rfl k
        have e1 := xt196 hp kc
        subst e1
        have k : nt_rn X _ 193 (43, [(0, .ref (p 0)), (1, .int v1), (2, .int v2), (3, .int v3), (4, .int v4), (5, .int v5), (6, .long v6), (8, .int v8), (9, .int v9), (10, .long v10)], [], me_w (lw M (x196 p v8 v2 v4 J L)) J) _ := k
        have k := ly_revb 2 (c' := (45, [(0, .ref (p 0)), (1, .int v1), (2, .int v2), (3, .int v3), (4, .int v4), (5, .int v5), (6, .long v6), (8, .int v8), (9, .int v9), (10, .long v10)], [.int v1, .ref (p 0)], me_w (lw M (x196 p v8 v2 v4 J L)) J)) rfl k
        obtain ⟨d1, o1, ed, kc, k⟩ := lz_c (g := 197) (q := 1) (vs := [.ref (p 0), .int v1]) (rest := []) rfl rfl (by decide) (Or.inr (Or.inl ⟨_, rfl, rfl⟩)) rfl k
        have e1 := xt197 hp kc
        subst e1
        have k : nt_rn X _ 193 (48, [(0, .ref (p 0)), (1, .int v1), (2, .int v2), (3, .int v3), (4, .int v4), (5, .int v5), (6, .long v6), (8, .int v8), (9, .int v9), (10, .long v10)], [.int ((x197 p v1 J (x196 p v8 v2 v4 J L)).1)], me_w (lw M ((x197 p v1 J (x196 p v8 v2 v4 J L)).2.2)) ((x197 p v1 J (x196 p v8 v2 v4 J L)).2.1)) _ := k
        have k := ly_revb 3 (c' := (if 0 ≤ ((x197 p v1 J (x196 p v8 v2 v4 J L)).1) then 58 else 55, [(9, .int ((x197 p v1 J (x196 p v8 v2 v4 J L)).1)), (0, .ref (p 0)), (1, .int v1), (2, .int v2), (3, .int v3), (4, .int v4), (5, .int v5), (6, .long v6), (8, .int v8), (10, .long v10)], [], me_w (lw M ((x197 p v1 J (x196 p v8 v2 v4 J L)).2.2)) ((x197 p v1 J (x196 p v8 v2 v4 J L)).2.1))) rfl k
        by_cases h52 : 0 ≤ ((x197 p v1 J (x196 p v8 v2 v4 J L)).1)
        · rw [if_pos h52] at k
          have k := ly_revb 3 (c' := (61, [(9, .int ((x197 p v1 J (x196 p v8 v2 v4 J L)).1)), (0, .ref (p 0)), (1, .int v1), (2, .int v2), (3, .int v3), (4, .int v4), (5, .int v5), (6, .long v6), (8, .int v8), (10, .long v10)], [.ref (p 0), .int v1, .ref (p 0)], me_w (lw M ((x197 p v1 J (x196 p v8 v2 v4 J L)).2.2)) ((x197 p v1 J (x196 p v8 v2 v4 J L)).2.1))) rfl k
          have k := lz_get (a := (p 0)) (g := 1105) (M := me_w (lw M ((x197 p v1 J (x196 p v8 v2 v4 J L)).2.2)) ((x197 p v1 J (x196 p v8 v2 v4 J L)).2.1)) (v := .ref (p 2)) rfl (nt_gfR rfl (hp.1 (0, 5, 2) (by decide))) k
          have k := ly_revb 1 (c' := (66, [(9, .int ((x197 p v1 J (x196 p v8 v2 v4 J L)).1)), (0, .ref (p 0)), (1, .int v1), (2, .int v2), (3, .int v3), (4, .int v4), (5, .int v5), (6, .long v6), (8, .int v8), (10, .long v10)], [.int ((x197 p v1 J (x196 p v8 v2 v4 J L)).1), .ref (p 2), .int v1, .ref (p 0)], me_w (lw M ((x197 p v1 J (x196 p v8 v2 v4 J L)).2.2)) ((x197 p v1 J (x196 p v8 v2 v4 J L)).2.1))) rfl k
          have k := mx_iald (v := J (p 2) (((x197 p v1 J (x196 p v8 v2 v4 J L)).1).toNatClampNeg)) rfl (hp.2.2.1 2 (by omega)) (congrFun (x197_frJ  (hp.2.1 2 0 (by omega) (by omega) (by decide))) (((x197 p v1 J (x196 p v8 v2 v4 J L)).1).toNatClampNeg)) k
          have k := ly_revb 1 (c' := (68, [(9, .int ((x197 p v1 J (x196 p v8 v2 v4 J L)).1)), (0, .ref (p 0)), (1, .int v1), (2, .int v2), (3, .int v3), (4, .int v4), (5, .int v5), (6, .long v6), (8, .int v8), (10, .long v10)], [.ref (p 0), .int (J (p 2) (((x197 p v1 J (x196 p v8 v2 v4 J L)).1).toNatClampNeg)), .int v1, .ref (p 0)], me_w (lw M ((x197 p v1 J (x196 p v8 v2 v4 J L)).2.2)) ((x197 p v1 J (x196 p v8 v2 v4 J L)).2.1))) rfl k
          have k := lz_get (a := (p 0)) (g := 1105) (M := me_w (lw M ((x197 p v1 J (x196 p v8 v2 v4 J L)).2.2)) ((x197 p v1 J (x196 p v8 v2 v4 J L)).2.1)) (v := .ref (p 2)) rfl (nt_gfR rfl (hp.1 (0, 5, 2) (by decide))) k
          have k := ly_revb 3 (c' := (75, [(9, .int ((x197 p v1 J (x196 p v8 v2 v4 J L)).1)), (0, .ref (p 0)), (1, .int v1), (2, .int v2), (3, .int v3), (4, .int v4), (5, .int v5), (6, .long v6), (8, .int v8), (10, .long v10)], [.int (((x197 p v1 J (x196 p v8 v2 v4 J L)).1) + (Int32.ofInt 1)), .ref (p 2), .int (J (p 2) (((x197 p v1 J (x196 p v8 v2 v4 J L)).1).toNatClampNeg)), .int v1, .ref (p 0)], me_w (lw M ((x197 p v1 J (x196 p v8 v2 v4 J L)).2.2)) ((x197 p v1 J (x196 p v8 v2 v4 J L)).2.1))) rfl k
          have k := mx_iald (v := J (p 2) ((((x197 p v1 J (x196 p v8 v2 v4 J L)).1) + (Int32.ofInt 1)).toNatClampNeg)) rfl (hp.2.2.1 2 (by omega)) (congrFun (x197_frJ  (hp.2.1 2 0 (by omega) (by omega) (by decide))) ((((x197 p v1 J (x196 p v8 v2 v4 J L)).1) + (Int32.ofInt 1)).toNatClampNeg)) k
          obtain ⟨d1, o1, ed, kc, k⟩ := lz_c (g := 198) (q := 1) (vs := [.ref (p 0), .int v1, .int (J (p 2) (((x197 p v1 J (x196 p v8 v2 v4 J L)).1).toNatClampNeg)), .int (J (p 2) ((((x197 p v1 J (x196 p v8 v2 v4 J L)).1) + (Int32.ofInt 1)).toNatClampNeg))]) (rest := []) rfl rfl (by decide) (Or.inr (Or.inl ⟨_, rfl, rfl⟩)) rfl k
          have e1 := xt198 hp kc
          subst e1
          have k : nt_rn X _ 193 (79, [(9, .int ((x197 p v1 J (x196 p v8 v2 v4 J L)).1)), (0, .ref (p 0)), (1, .int v1), (2, .int v2), (3, .int v3), (4, .int v4), (5, .int v5), (6, .long v6), (8, .int v8), (10, .long v10)], [.long ((x198 p v1 (J (p 2) (((x197 p v1 J (x196 p v8 v2 v4 J L)).1).toNatClampNeg)) (J (p 2) ((((x197 p v1 J (x196 p v8 v2 v4 J L)).1) + (Int32.ofInt 1)).toNatClampNeg)) ((x197 p v1 J (x196 p v8 v2 v4 J L)).2.1) ((x197 p v1 J (x196 p v8 v2 v4 J L)).2.2)).1)], me_w (lw M ((x198 p v1 (J (p 2) (((x197 p v1 J (x196 p v8 v2 v4 J L)).1).toNatClampNeg)) (J (p 2) ((((x197 p v1 J (x196 p v8 v2 v4 J L)).1) + (Int32.ofInt 1)).toNatClampNeg)) ((x197 p v1 J (x196 p v8 v2 v4 J L)).2.1) ((x197 p v1 J (x196 p v8 v2 v4 J L)).2.2)).2.2)) ((x198 p v1 (J (p 2) (((x197 p v1 J (x196 p v8 v2 v4 J L)).1).toNatClampNeg)) (J (p 2) ((((x197 p v1 J (x196 p v8 v2 v4 J L)).1) + (Int32.ofInt 1)).toNatClampNeg)) ((x197 p v1 J (x196 p v8 v2 v4 J L)).2.1) ((x197 p v1 J (x196 p v8 v2 v4 J L)).2.2)).2.1)) _ := k
          have k := ly_revb 3 (c' := (if v5 < 0 then 97 else 86, [(10, .long ((x198 p v1 (J (p 2) (((x197 p v1 J (x196 p v8 v2 v4 J L)).1).toNatClampNeg)) (J (p 2) ((((x197 p v1 J (x196 p v8 v2 v4 J L)).1) + (Int32.ofInt 1)).toNatClampNeg)) ((x197 p v1 J (x196 p v8 v2 v4 J L)).2.1) ((x197 p v1 J (x196 p v8 v2 v4 J L)).2.2)).1)), (9, .int ((x197 p v1 J (x196 p v8 v2 v4 J L)).1)), (0, .ref (p 0)), (1, .int v1), (2, .int v2), (3, .int v3), (4, .int v4), (5, .int v5), (6, .long v6), (8, .int v8)], [], me_w (lw M ((x198 p v1 (J (p 2) (((x197 p v1 J (x196 p v8 v2 v4 J L)).1).toNatClampNeg)) (J (p 2) ((((x197 p v1 J (x196 p v8 v2 v4 J L)).1) + (Int32.ofInt 1)).toNatClampNeg)) ((x197 p v1 J (x196 p v8 v2 v4 J L)).2.1) ((x197 p v1 J (x196 p v8 v2 v4 J L)).2.2)).2.2)) ((x198 p v1 (J (p 2) (((x197 p v1 J (x196 p v8 v2 v4 J L)).1).toNatClampNeg)) (J (p 2) ((((x197 p v1 J (x196 p v8 v2 v4 J L)).1) + (Int32.ofInt 1)).toNatClampNeg)) ((x197 p v1 J (x196 p v8 v2 v4 J L)).2.1) ((x197 p v1 J (x196 p v8 v2 v4 J L)).2.2)).2.1))) rfl k
          by_cases h83 : v5 < 0
          · rw [if_pos h83] at k
            have k := ly_revb 6 (c' := (9, [(8, .int (v8 + (Int32.ofInt 1))), (6, .long ((x198 p v1 (J (p 2) (((x197 p v1 J (x196 p v8 v2 v4 J L)).1).toNatClampNeg)) (J (p 2) ((((x197 p v1 J (x196 p v8 v2 v4 J L)).1) + (Int32.ofInt 1)).toNatClampNeg)) ((x197 p v1 J (x196 p v8 v2 v4 J L)).2.1) ((x197 p v1 J (x196 p v8 v2 v4 J L)).2.2)).1)), (5, .int v8), (10, .long ((x198 p v1 (J (p 2) (((x197 p v1 J (x196 p v8 v2 v4 J L)).1).toNatClampNeg)) (J (p 2) ((((x197 p v1 J (x196 p v8 v2 v4 J L)).1) + (Int32.ofInt 1)).toNatClampNeg)) ((x197 p v1 J (x196 p v8 v2 v4 J L)).2.1) ((x197 p v1 J (x196 p v8 v2 v4 J L)).2.2)).1)), (9, .int ((x197 p v1 J (x196 p v8 v2 v4 J L)).1)), (0, .ref (p 0)), (1, .int v1), (2, .int v2), (3, .int v3), (4, .int v4)], [], me_w (lw M ((x198 p v1 (J (p 2) (((x197 p v1 J (x196 p v8 v2 v4 J L)).1).toNatClampNeg)) (J (p 2) ((((x197 p v1 J (x196 p v8 v2 v4 J L)).1) + (Int32.ofInt 1)).toNatClampNeg)) ((x197 p v1 J (x196 p v8 v2 v4 J L)).2.1) ((x197 p v1 J (x196 p v8 v2 v4 J L)).2.2)).2.2)) ((x198 p v1 (J (p 2) (((x197 p v1 J (x196 p v8 v2 v4 J L)).1).toNatClampNeg)) (J (p 2) ((((x197 p v1 J (x196 p v8 v2 v4 J L)).1) + (Int32.ofInt 1)).toNatClampNeg)) ((x197 p v1 J (x196 p v8 v2 v4 J L)).2.1) ((x197 p v1 J (x196 p v8 v2 v4 J L)).2.2)).2.1))) rfl k
            have k := nt_rn_w (a := [(8, .int (v8 + (Int32.ofInt 1))), (6, .long ((x198 p v1 (J (p 2) (((x197 p v1 J (x196 p v8 v2 v4 J L)).1).toNatClampNeg)) (J (p 2) ((((x197 p v1 J (x196 p v8 v2 v4 J L)).1) + (Int32.ofInt 1)).toNatClampNeg)) ((x197 p v1 J (x196 p v8 v2 v4 J L)).2.1) ((x197 p v1 J (x196 p v8 v2 v4 J L)).2.2)).1)), (5, .int v8), (10, .long ((x198 p v1 (J (p 2) (((x197 p v1 J (x196 p v8 v2 v4 J L)).1).toNatClampNeg)) (J (p 2) ((((x197 p v1 J (x196 p v8 v2 v4 J L)).1) + (Int32.ofInt 1)).toNatClampNeg)) ((x197 p v1 J (x196 p v8 v2 v4 J L)).2.1) ((x197 p v1 J (x196 p v8 v2 v4 J L)).2.2)).1)), (9, .int ((x197 p v1 J (x196 p v8 v2 v4 J L)).1)), (0, .ref (p 0)), (1, .int v1), (2, .int v2), (3, .int v3), (4, .int v4)]) (b := [(0, .ref (p 0)), (1, .int v1), (2, .int v2), (3, .int v3), (4, .int v4), (5, .int v8), (6, .long ((x198 p v1 (J (p 2) (((x197 p v1 J (x196 p v8 v2 v4 J L)).1).toNatClampNeg)) (J (p 2) ((((x197 p v1 J (x196 p v8 v2 v4 J L)).1) + (Int32.ofInt 1)).toNatClampNeg)) ((x197 p v1 J (x196 p v8 v2 v4 J L)).2.1) ((x197 p v1 J (x196 p v8 v2 v4 J L)).2.2)).1)), (8, .int (v8 + (Int32.ofInt 1))), (9, .int ((x197 p v1 J (x196 p v8 v2 v4 J L)).1)), (10, .long ((x198 p v1 (J (p 2) (((x197 p v1 J (x196 p v8 v2 v4 J L)).1).toNatClampNeg)) (J (p 2) ((((x197 p v1 J (x196 p v8 v2 v4 J L)).1) + (Int32.ofInt 1)).toNatClampNeg)) ((x197 p v1 J (x196 p v8 v2 v4 J L)).2.1) ((x197 p v1 J (x196 p v8 v2 v4 J L)).2.2)).1))]) ⟨rfl, rfl, rfl, rfl, rfl, rfl, rfl, rfl, rfl, rfl, trivial⟩ rfl k
            have k := ih v8 ((x198 p v1 (J (p 2) (((x197 p v1 J (x196 p v8 v2 v4 J L)).1).toNatClampNeg)) (J (p 2) ((((x197 p v1 J (x196 p v8 v2 v4 J L)).1) + (Int32.ofInt 1)).toNatClampNeg)) ((x197 p v1 J (x196 p v8 v2 v4 J L)).2.1) ((x197 p v1 J (x196 p v8 v2 v4 J L)).2.2)).1) (v8 + (Int32.ofInt 1)) ((x197 p v1 J (x196 p v8 v2 v4 J L)).1) ((x198 p v1 (J (p 2) (((x197 p v1 J (x196 p v8 v2 v4 J L)).1).toNatClampNeg)) (J (p 2) ((((x197 p v1 J (x196 p v8 v2 v4 J L)).1) + (Int32.ofInt 1)).toNatClampNeg)) ((x197 p v1 J (x196 p v8 v2 v4 J L)).2.1) ((x197 p v1 J (x196 p v8 v2 v4 J L)).2.2)).1) ((x198 p v1 (J (p 2) (((x197 p v1 J (x196 p v8 v2 v4 J L)).1).toNatClampNeg)) (J (p 2) ((((x197 p v1 J (x196 p v8 v2 v4 J L)).1) + (Int32.ofInt 1)).toNatClampNeg)) ((x197 p v1 J (x196 p v8 v2 v4 J L)).2.1) ((x197 p v1 J (x196 p v8 v2 v4 J L)).2.2)).2.1) ((x198 p v1 (J (p 2) (((x197 p v1 J (x196 p v8 v2 v4 J L)).1).toNatClampNeg)) (J (p 2) ((((x197 p v1 J (x196 p v8 v2 v4 J L)).1) + (Int32.ofInt 1)).toNatClampNeg)) ((x197 p v1 J (x196 p v8 v2 v4 J L)).2.1) ((x197 p v1 J (x196 p v8 v2 v4 J L)).2.2)).2.2) (by rw [show ((x198 p v1 (J (p 2) (((x197 p v1 J (x196 p v8 v2 v4 J L)).1).toNatClampNeg)) (J (p 2) ((((x197 p v1 J (x196 p v8 v2 v4 J L)).1) + (Int32.ofInt 1)).toNatClampNeg)) ((x197 p v1 J (x196 p v8 v2 v4 J L)).2.1) ((x197 p v1 J (x196 p v8 v2 v4 J L)).2.2)).2.1) (p 4) 2 = J (p 4) 2 from (congrFun (x198_frJ  (hp.2.1 4 0 (by omega) (by omega) (by decide))) 2).trans (congrFun (x197_frJ  (hp.2.1 4 0 (by omega) (by omega) (by decide))) 2)]; exact lx_dec h17 hc) k
            rw [k, x193_9, if_neg h17, if_neg h28, if_pos h52, if_pos h83]
          · rw [if_neg h83] at k
            have k := ly_revb 4 (c' := (if (lg_cmp ((x198 p v1 (J (p 2) (((x197 p v1 J (x196 p v8 v2 v4 J L)).1).toNatClampNeg)) (J (p 2) ((((x197 p v1 J (x196 p v8 v2 v4 J L)).1) + (Int32.ofInt 1)).toNatClampNeg)) ((x197 p v1 J (x196 p v8 v2 v4 J L)).2.1) ((x197 p v1 J (x196 p v8 v2 v4 J L)).2.2)).1) v6) < 0 then 97 else 94, [(10, .long ((x198 p v1 (J (p 2) (((x197 p v1 J (x196 p v8 v2 v4 J L)).1).toNatClampNeg)) (J (p 2) ((((x197 p v1 J (x196 p v8 v2 v4 J L)).1) + (Int32.ofInt 1)).toNatClampNeg)) ((x197 p v1 J (x196 p v8 v2 v4 J L)).2.1) ((x197 p v1 J (x196 p v8 v2 v4 J L)).2.2)).1)), (9, .int ((x197 p v1 J (x196 p v8 v2 v4 J L)).1)), (0, .ref (p 0)), (1, .int v1), (2, .int v2), (3, .int v3), (4, .int v4), (5, .int v5), (6, .long v6), (8, .int v8)], [], me_w (lw M ((x198 p v1 (J (p 2) (((x197 p v1 J (x196 p v8 v2 v4 J L)).1).toNatClampNeg)) (J (p 2) ((((x197 p v1 J (x196 p v8 v2 v4 J L)).1) + (Int32.ofInt 1)).toNatClampNeg)) ((x197 p v1 J (x196 p v8 v2 v4 J L)).2.1) ((x197 p v1 J (x196 p v8 v2 v4 J L)).2.2)).2.2)) ((x198 p v1 (J (p 2) (((x197 p v1 J (x196 p v8 v2 v4 J L)).1).toNatClampNeg)) (J (p 2) ((((x197 p v1 J (x196 p v8 v2 v4 J L)).1) + (Int32.ofInt 1)).toNatClampNeg)) ((x197 p v1 J (x196 p v8 v2 v4 J L)).2.1) ((x197 p v1 J (x196 p v8 v2 v4 J L)).2.2)).2.1))) rfl k
            by_cases h91 : (lg_cmp ((x198 p v1 (J (p 2) (((x197 p v1 J (x196 p v8 v2 v4 J L)).1).toNatClampNeg)) (J (p 2) ((((x197 p v1 J (x196 p v8 v2 v4 J L)).1) + (Int32.ofInt 1)).toNatClampNeg)) ((x197 p v1 J (x196 p v8 v2 v4 J L)).2.1) ((x197 p v1 J (x196 p v8 v2 v4 J L)).2.2)).1) v6) < 0
            · rw [if_pos h91] at k
              have k := ly_revb 6 (c' := (9, [(8, .int (v8 + (Int32.ofInt 1))), (6, .long ((x198 p v1 (J (p 2) (((x197 p v1 J (x196 p v8 v2 v4 J L)).1).toNatClampNeg)) (J (p 2) ((((x197 p v1 J (x196 p v8 v2 v4 J L)).1) + (Int32.ofInt 1)).toNatClampNeg)) ((x197 p v1 J (x196 p v8 v2 v4 J L)).2.1) ((x197 p v1 J (x196 p v8 v2 v4 J L)).2.2)).1)), (5, .int v8), (10, .long ((x198 p v1 (J (p 2) (((x197 p v1 J (x196 p v8 v2 v4 J L)).1).toNatClampNeg)) (J (p 2) ((((x197 p v1 J (x196 p v8 v2 v4 J L)).1) + (Int32.ofInt 1)).toNatClampNeg)) ((x197 p v1 J (x196 p v8 v2 v4 J L)).2.1) ((x197 p v1 J (x196 p v8 v2 v4 J L)).2.2)).1)), (9, .int ((x197 p v1 J (x196 p v8 v2 v4 J L)).1)), (0, .ref (p 0)), (1, .int v1), (2, .int v2), (3, .int v3), (4, .int v4)], [], me_w (lw M ((x198 p v1 (J (p 2) (((x197 p v1 J (x196 p v8 v2 v4 J L)).1).toNatClampNeg)) (J (p 2) ((((x197 p v1 J (x196 p v8 v2 v4 J L)).1) + (Int32.ofInt 1)).toNatClampNeg)) ((x197 p v1 J (x196 p v8 v2 v4 J L)).2.1) ((x197 p v1 J (x196 p v8 v2 v4 J L)).2.2)).2.2)) ((x198 p v1 (J (p 2) (((x197 p v1 J (x196 p v8 v2 v4 J L)).1).toNatClampNeg)) (J (p 2) ((((x197 p v1 J (x196 p v8 v2 v4 J L)).1) + (Int32.ofInt 1)).toNatClampNeg)) ((x197 p v1 J (x196 p v8 v2 v4 J L)).2.1) ((x197 p v1 J (x196 p v8 v2 v4 J L)).2.2)).2.1))) rfl k
              have k := nt_rn_w (a := [(8, .int (v8 + (Int32.ofInt 1))), (6, .long ((x198 p v1 (J (p 2) (((x197 p v1 J (x196 p v8 v2 v4 J L)).1).toNatClampNeg)) (J (p 2) ((((x197 p v1 J (x196 p v8 v2 v4 J L)).1) + (Int32.ofInt 1)).toNatClampNeg)) ((x197 p v1 J (x196 p v8 v2 v4 J L)).2.1) ((x197 p v1 J (x196 p v8 v2 v4 J L)).2.2)).1)), (5, .int v8), (10, .long ((x198 p v1 (J (p 2) (((x197 p v1 J (x196 p v8 v2 v4 J L)).1).toNatClampNeg)) (J (p 2) ((((x197 p v1 J (x196 p v8 v2 v4 J L)).1) + (Int32.ofInt 1)).toNatClampNeg)) ((x197 p v1 J (x196 p v8 v2 v4 J L)).2.1) ((x197 p v1 J (x196 p v8 v2 v4 J L)).2.2)).1)), (9, .int ((x197 p v1 J (x196 p v8 v2 v4 J L)).1)), (0, .ref (p 0)), (1, .int v1), (2, .int v2), (3, .int v3), (4, .int v4)]) (b := [(0, .ref (p 0)), (1, .int v1), (2, .int v2), (3, .int v3), (4, .int v4), (5, .int v8), (6, .long ((x198 p v1 (J (p 2) (((x197 p v1 J (x196 p v8 v2 v4 J L)).1).toNatClampNeg)) (J (p 2) ((((x197 p v1 J (x196 p v8 v2 v4 J L)).1) + (Int32.ofInt 1)).toNatClampNeg)) ((x197 p v1 J (x196 p v8 v2 v4 J L)).2.1) ((x197 p v1 J (x196 p v8 v2 v4 J L)).2.2)).1)), (8, .int (v8 + (Int32.ofInt 1))), (9, .int ((x197 p v1 J (x196 p v8 v2 v4 J L)).1)), (10, .long ((x198 p v1 (J (p 2) (((x197 p v1 J (x196 p v8 v2 v4 J L)).1).toNatClampNeg)) (J (p 2) ((((x197 p v1 J (x196 p v8 v2 v4 J L)).1) + (Int32.ofInt 1)).toNatClampNeg)) ((x197 p v1 J (x196 p v8 v2 v4 J L)).2.1) ((x197 p v1 J (x196 p v8 v2 v4 J L)).2.2)).1))]) ⟨rfl, rfl, rfl, rfl, rfl, rfl, rfl, rfl, rfl, rfl, trivial⟩ rfl k
              have k := ih v8 ((x198 p v1 (J (p 2) (((x197 p v1 J (x196 p v8 v2 v4 J L)).1).toNatClampNeg)) (J (p 2) ((((x197 p v1 J (x196 p v8 v2 v4 J L)).1) + (Int32.ofInt 1)).toNatClampNeg)) ((x197 p v1 J (x196 p v8 v2 v4 J L)).2.1) ((x197 p v1 J (x196 p v8 v2 v4 J L)).2.2)).1) (v8 + (Int32.ofInt 1)) ((x197 p v1 J (x196 p v8 v2 v4 J L)).1) ((x198 p v1 (J (p 2) (((x197 p v1 J (x196 p v8 v2 v4 J L)).1).toNatClampNeg)) (J (p 2) ((((x197 p v1 J (x196 p v8 v2 v4 J L)).1) + (Int32.ofInt 1)).toNatClampNeg)) ((x197 p v1 J (x196 p v8 v2 v4 J L)).2.1) ((x197 p v1 J (x196 p v8 v2 v4 J L)).2.2)).1) ((x198 p v1 (J (p 2) (((x197 p v1 J (x196 p v8 v2 v4 J L)).1).toNatClampNeg)) (J (p 2) ((((x197 p v1 J (x196 p v8 v2 v4 J L)).1) + (Int32.ofInt 1)).toNatClampNeg)) ((x197 p v1 J (x196 p v8 v2 v4 J L)).2.1) ((x197 p v1 J (x196 p v8 v2 v4 J L)).2.2)).2.1) ((x198 p v1 (J (p 2) (((x197 p v1 J (x196 p v8 v2 v4 J L)).1).toNatClampNeg)) (J (p 2) ((((x197 p v1 J (x196 p v8 v2 v4 J L)).1) + (Int32.ofInt 1)).toNatClampNeg)) ((x197 p v1 J (x196 p v8 v2 v4 J L)).2.1) ((x197 p v1 J (x196 p v8 v2 v4 J L)).2.2)).2.2) (by rw [show ((x198 p v1 (J (p 2) (((x197 p v1 J (x196 p v8 v2 v4 J L)).1).toNatClampNeg)) (J (p 2) ((((x197 p v1 J (x196 p v8 v2 v4 J L)).1) + (Int32.ofInt 1)).toNatClampNeg)) ((x197 p v1 J (x196 p v8 v2 v4 J L)).2.1) ((x197 p v1 J (x196 p v8 v2 v4 J L)).2.2)).2.1) (p 4) 2 = J (p 4) 2 from (congrFun (x198_frJ  (hp.2.1 4 0 (by omega) (by omega) (by decide))) 2).trans (congrFun (x197_frJ  (hp.2.1 4 0 (by omega) (by omega) (by decide))) 2)]; exact lx_dec h17 hc) k
              rw [k, x193_9, if_neg h17, if_neg h28, if_pos h52, if_neg h83, if_pos h91]
            · rw [if_neg h91] at k
              have k := ly_revb 3 (c' := (9, [(8, .int (v8 + (Int32.ofInt 1))), (10, .long ((x198 p v1 (J (p 2) (((x197 p v1 J (x196 p v8 v2 v4 J L)).1).toNatClampNeg)) (J (p 2) ((((x197 p v1 J (x196 p v8 v2 v4 J L)).1) + (Int32.ofInt 1)).toNatClampNeg)) ((x197 p v1 J (x196 p v8 v2 v4 J L)).2.1) ((x197 p v1 J (x196 p v8 v2 v4 J L)).2.2)).1)), (9, .int ((x197 p v1 J (x196 p v8 v2 v4 J L)).1)), (0, .ref (p 0)), (1, .int v1), (2, .int v2), (3, .int v3), (4, .int v4), (5, .int v5), (6, .long v6)], [], me_w (lw M ((x198 p v1 (J (p 2) (((x197 p v1 J (x196 p v8 v2 v4 J L)).1).toNatClampNeg)) (J (p 2) ((((x197 p v1 J (x196 p v8 v2 v4 J L)).1) + (Int32.ofInt 1)).toNatClampNeg)) ((x197 p v1 J (x196 p v8 v2 v4 J L)).2.1) ((x197 p v1 J (x196 p v8 v2 v4 J L)).2.2)).2.2)) ((x198 p v1 (J (p 2) (((x197 p v1 J (x196 p v8 v2 v4 J L)).1).toNatClampNeg)) (J (p 2) ((((x197 p v1 J (x196 p v8 v2 v4 J L)).1) + (Int32.ofInt 1)).toNatClampNeg)) ((x197 p v1 J (x196 p v8 v2 v4 J L)).2.1) ((x197 p v1 J (x196 p v8 v2 v4 J L)).2.2)).2.1))) rfl k
              have k := nt_rn_w (a := [(8, .int (v8 + (Int32.ofInt 1))), (10, .long ((x198 p v1 (J (p 2) (((x197 p v1 J (x196 p v8 v2 v4 J L)).1).toNatClampNeg)) (J (p 2) ((((x197 p v1 J (x196 p v8 v2 v4 J L)).1) + (Int32.ofInt 1)).toNatClampNeg)) ((x197 p v1 J (x196 p v8 v2 v4 J L)).2.1) ((x197 p v1 J (x196 p v8 v2 v4 J L)).2.2)).1)), (9, .int ((x197 p v1 J (x196 p v8 v2 v4 J L)).1)), (0, .ref (p 0)), (1, .int v1), (2, .int v2), (3, .int v3), (4, .int v4), (5, .int v5), (6, .long v6)]) (b := [(0, .ref (p 0)), (1, .int v1), (2, .int v2), (3, .int v3), (4, .int v4), (5, .int v5), (6, .long v6), (8, .int (v8 + (Int32.ofInt 1))), (9, .int ((x197 p v1 J (x196 p v8 v2 v4 J L)).1)), (10, .long ((x198 p v1 (J (p 2) (((x197 p v1 J (x196 p v8 v2 v4 J L)).1).toNatClampNeg)) (J (p 2) ((((x197 p v1 J (x196 p v8 v2 v4 J L)).1) + (Int32.ofInt 1)).toNatClampNeg)) ((x197 p v1 J (x196 p v8 v2 v4 J L)).2.1) ((x197 p v1 J (x196 p v8 v2 v4 J L)).2.2)).1))]) ⟨rfl, rfl, rfl, rfl, rfl, rfl, rfl, rfl, rfl, rfl, trivial⟩ rfl k
              have k := ih v5 v6 (v8 + (Int32.ofInt 1)) ((x197 p v1 J (x196 p v8 v2 v4 J L)).1) ((x198 p v1 (J (p 2) (((x197 p v1 J (x196 p v8 v2 v4 J L)).1).toNatClampNeg)) (J (p 2) ((((x197 p v1 J (x196 p v8 v2 v4 J L)).1) + (Int32.ofInt 1)).toNatClampNeg)) ((x197 p v1 J (x196 p v8 v2 v4 J L)).2.1) ((x197 p v1 J (x196 p v8 v2 v4 J L)).2.2)).1) ((x198 p v1 (J (p 2) (((x197 p v1 J (x196 p v8 v2 v4 J L)).1).toNatClampNeg)) (J (p 2) ((((x197 p v1 J (x196 p v8 v2 v4 J L)).1) + (Int32.ofInt 1)).toNatClampNeg)) ((x197 p v1 J (x196 p v8 v2 v4 J L)).2.1) ((x197 p v1 J (x196 p v8 v2 v4 J L)).2.2)).2.1) ((x198 p v1 (J (p 2) (((x197 p v1 J (x196 p v8 v2 v4 J L)).1).toNatClampNeg)) (J (p 2) ((((x197 p v1 J (x196 p v8 v2 v4 J L)).1) + (Int32.ofInt 1)).toNatClampNeg)) ((x197 p v1 J (x196 p v8 v2 v4 J L)).2.1) ((x197 p v1 J (x196 p v8 v2 v4 J L)).2.2)).2.2) (by rw [show ((x198 p v1 (J (p 2) (((x197 p v1 J (x196 p v8 v2 v4 J L)).1).toNatClampNeg)) (J (p 2) ((((x197 p v1 J (x196 p v8 v2 v4 J L)).1) + (Int32.ofInt 1)).toNatClampNeg)) ((x197 p v1 J (x196 p v8 v2 v4 J L)).2.1) ((x197 p v1 J (x196 p v8 v2 v4 J L)).2.2)).2.1) (p 4) 2 = J (p 4) 2 from (congrFun (x198_frJ  (hp.2.1 4 0 (by omega) (by omega) (by decide))) 2).trans (congrFun (x197_frJ  (hp.2.1 4 0 (by omega) (by omega) (by decide))) 2)]; exact lx_dec h17 hc) k
              rw [k, x193_9, if_neg h17, if_neg h28, if_pos h52, if_neg h83, if_neg h91]
        · rw [if_neg h52] at k
          have k := ly_revb 3 (c' := (9, [(8, .int (v8 + (Int32.ofInt 1))), (9, .int ((x197 p v1 J (x196 p v8 v2 v4 J L)).1)), (0, .ref (p 0)), (1, .int v1), (2, .int v2), (3, .int v3), (4, .int v4), (5, .int v5), (6, .long v6), (10, .long v10)], [], me_w (lw M ((x197 p v1 J (x196 p v8 v2 v4 J L)).2.2)) ((x197 p v1 J (x196 p v8 v2 v4 J L)).2.1))) rfl k
          have k := nt_rn_w (a := [(8, .int (v8 + (Int32.ofInt 1))), (9, .int ((x197 p v1 J (x196 p v8 v2 v4 J L)).1)), (0, .ref (p 0)), (1, .int v1), (2, .int v2), (3, .int v3), (4, .int v4), (5, .int v5), (6, .long v6), (10, .long v10)]) (b := [(0, .ref (p 0)), (1, .int v1), (2, .int v2), (3, .int v3), (4, .int v4), (5, .int v5), (6, .long v6), (8, .int (v8 + (Int32.ofInt 1))), (9, .int ((x197 p v1 J (x196 p v8 v2 v4 J L)).1)), (10, .long v10)]) ⟨rfl, rfl, rfl, rfl, rfl, rfl, rfl, rfl, rfl, rfl, trivial⟩ rfl k
          have k := ih v5 v6 (v8 + (Int32.ofInt 1)) ((x197 p v1 J (x196 p v8 v2 v4 J L)).1) v10 ((x197 p v1 J (x196 p v8 v2 v4 J L)).2.1) ((x197 p v1 J (x196 p v8 v2 v4 J L)).2.2) (by rw [show ((x197 p v1 J (x196 p v8 v2 v4 J L)).2.1) (p 4) 2 = J (p 4) 2 from congrFun (x197_frJ  (hp.2.1 4 0 (by omega) (by omega) (by decide))) 2]; exact lx_dec h17 hc) k
          rw [k, x193_9, if_neg h17, if_neg h28, if_neg h52]
theorem x193_9_rule {p : Nat → Nat} {v1 : Int32} {v2 : Int32} {v3 : Int32} {v4 : Int32} {I : Nat → Int32 → Int64 → Int32 → (Nat → Nat → Int32) → (Nat → Nat → Int64) → Prop} {Q : Int32 × (Nat → Nat → Int32) × (Nat → Nat → Int64) → Prop} (h0 : ∀ (v5 : Int32) (v6 : Int64) (v8 : Int32) (J : Nat → Nat → Int32) (L : Nat → Nat → Int64), I 0 v5 v6 v8 J L → Q (v5, J, L)) (h1 : ∀ (c : Nat) (v5 : Int32) (v6 : Int64) (v8 : Int32) (J : Nat → Nat → Int32) (L : Nat → Nat → Int64), I (c + 1) v5 v6 v8 J L →
    if (J (p 4) 2) ≤ v8 then (Q (v5, J, L))
    else if (x194 p v8 v2 v3 J) = 0 then (I c v5 v6 (v8 + (Int32.ofInt 1)) J L)
      else if 0 ≤ ((x197 p v1 J (x196 p v8 v2 v4 J L)).1) then if v5 < 0 then (I c v8 ((x198 p v1 (J (p 2) (((x197 p v1 J (x196 p v8 v2 v4 J L)).1).toNatClampNeg)) (J (p 2) ((((x197 p v1 J (x196 p v8 v2 v4 J L)).1) + (Int32.ofInt 1)).toNatClampNeg)) ((x197 p v1 J (x196 p v8 v2 v4 J L)).2.1) ((x197 p v1 J (x196 p v8 v2 v4 J L)).2.2)).1) (v8 + (Int32.ofInt 1)) ((x198 p v1 (J (p 2) (((x197 p v1 J (x196 p v8 v2 v4 J L)).1).toNatClampNeg)) (J (p 2) ((((x197 p v1 J (x196 p v8 v2 v4 J L)).1) + (Int32.ofInt 1)).toNatClampNeg)) ((x197 p v1 J (x196 p v8 v2 v4 J L)).2.1) ((x197 p v1 J (x196 p v8 v2 v4 J L)).2.2)).2.1) ((x198 p v1 (J (p 2) (((x197 p v1 J (x196 p v8 v2 v4 J L)).1).toNatClampNeg)) (J (p 2) ((((x197 p v1 J (x196 p v8 v2 v4 J L)).1) + (Int32.ofInt 1)).toNatClampNeg)) ((x197 p v1 J (x196 p v8 v2 v4 J L)).2.1) ((x197 p v1 J (x196 p v8 v2 v4 J L)).2.2)).2.2))
          else if (lg_cmp ((x198 p v1 (J (p 2) (((x197 p v1 J (x196 p v8 v2 v4 J L)).1).toNatClampNeg)) (J (p 2) ((((x197 p v1 J (x196 p v8 v2 v4 J L)).1) + (Int32.ofInt 1)).toNatClampNeg)) ((x197 p v1 J (x196 p v8 v2 v4 J L)).2.1) ((x197 p v1 J (x196 p v8 v2 v4 J L)).2.2)).1) v6) < 0 then (I c v8 ((x198 p v1 (J (p 2) (((x197 p v1 J (x196 p v8 v2 v4 J L)).1).toNatClampNeg)) (J (p 2) ((((x197 p v1 J (x196 p v8 v2 v4 J L)).1) + (Int32.ofInt 1)).toNatClampNeg)) ((x197 p v1 J (x196 p v8 v2 v4 J L)).2.1) ((x197 p v1 J (x196 p v8 v2 v4 J L)).2.2)).1) (v8 + (Int32.ofInt 1)) ((x198 p v1 (J (p 2) (((x197 p v1 J (x196 p v8 v2 v4 J L)).1).toNatClampNeg)) (J (p 2) ((((x197 p v1 J (x196 p v8 v2 v4 J L)).1) + (Int32.ofInt 1)).toNatClampNeg)) ((x197 p v1 J (x196 p v8 v2 v4 J L)).2.1) ((x197 p v1 J (x196 p v8 v2 v4 J L)).2.2)).2.1) ((x198 p v1 (J (p 2) (((x197 p v1 J (x196 p v8 v2 v4 J L)).1).toNatClampNeg)) (J (p 2) ((((x197 p v1 J (x196 p v8 v2 v4 J L)).1) + (Int32.ofInt 1)).toNatClampNeg)) ((x197 p v1 J (x196 p v8 v2 v4 J L)).2.1) ((x197 p v1 J (x196 p v8 v2 v4 J L)).2.2)).2.2))
            else (I c v5 v6 (v8 + (Int32.ofInt 1)) ((x198 p v1 (J (p 2) (((x197 p v1 J (x196 p v8 v2 v4 J L)).1).toNatClampNeg)) (J (p 2) ((((x197 p v1 J (x196 p v8 v2 v4 J L)).1) + (Int32.ofInt 1)).toNatClampNeg)) ((x197 p v1 J (x196 p v8 v2 v4 J L)).2.1) ((x197 p v1 J (x196 p v8 v2 v4 J L)).2.2)).2.1) ((x198 p v1 (J (p 2) (((x197 p v1 J (x196 p v8 v2 v4 J L)).1).toNatClampNeg)) (J (p 2) ((((x197 p v1 J (x196 p v8 v2 v4 J L)).1) + (Int32.ofInt 1)).toNatClampNeg)) ((x197 p v1 J (x196 p v8 v2 v4 J L)).2.1) ((x197 p v1 J (x196 p v8 v2 v4 J L)).2.2)).2.2))
        else (I c v5 v6 (v8 + (Int32.ofInt 1)) ((x197 p v1 J (x196 p v8 v2 v4 J L)).2.1) ((x197 p v1 J (x196 p v8 v2 v4 J L)).2.2))) : ∀ (c : Nat) (v5 : Int32) (v6 : Int64) (v8 : Int32) (J : Nat → Nat → Int32) (L : Nat → Nat → Int64), I c v5 v6 v8 J L → Q (x193_9 p v1 v2 v3 v4 c v5 v6 v8 J L) := by
  intro c
  induction c with
  | zero =>
    intro v5 v6 v8 J L hi
    rw [x193_9]
    exact h0 v5 v6 v8 J L hi
  | succ c ih =>
    intro v5 v6 v8 J L hi
    have hi := h1 c v5 v6 v8 J L hi
    rw [x193_9]
    by_cases h : (J (p 4) 2) ≤ v8
    · rw [if_pos h] at hi ⊢
      exact hi
    · rw [if_neg h] at hi ⊢
      by_cases h : (x194 p v8 v2 v3 J) = 0
      · rw [if_pos h] at hi ⊢
        exact ih _ _ _ _ _ hi
      · rw [if_neg h] at hi ⊢
        by_cases h : 0 ≤ ((x197 p v1 J (x196 p v8 v2 v4 J L)).1)
        · rw [if_pos h] at hi ⊢
          by_cases h : v5 < 0
          · rw [if_pos h] at hi ⊢
            exact ih _ _ _ _ _ hi
          · rw [if_neg h] at hi ⊢
            by_cases h : (lg_cmp ((x198 p v1 (J (p 2) (((x197 p v1 J (x196 p v8 v2 v4 J L)).1).toNatClampNeg)) (J (p 2) ((((x197 p v1 J (x196 p v8 v2 v4 J L)).1) + (Int32.ofInt 1)).toNatClampNeg)) ((x197 p v1 J (x196 p v8 v2 v4 J L)).2.1) ((x197 p v1 J (x196 p v8 v2 v4 J L)).2.2)).1) v6) < 0
            · rw [if_pos h] at hi ⊢
              exact ih _ _ _ _ _ hi
            · rw [if_neg h] at hi ⊢
              exact ih _ _ _ _ _ hi
        · rw [if_neg h] at hi ⊢
          exact ih _ _ _ _ _ hi
def x193 (p : Nat → Nat) (v1 : Int32) (v2 : Int32) (v3 : Int32) (v4 : Int32) (J : Nat → Nat → Int32) (L : Nat → Nat → Int64) : Int32 × (Nat → Nat → Int32) × (Nat → Nat → Int64) := (x193_9 p v1 v2 v3 v4 ((J (p 4) 2).toNatClampNeg) (Int32.ofInt (-1)) (Int64.ofNat 0) (Int32.ofInt 0) J L)
theorem xt193 {X : nt_X} {d : Nat} {M : nt_M} {o : Option Value × nt_M} {p : Nat → Nat} {v1 : Int32} {v2 : Int32} {v3 : Int32} {v4 : Int32} {J : Nat → Nat → Int32} {L : Nat → Nat → Int64} (hp : xs_P M p) (k : nt_ev X d 193 [.ref (p 0), .int v1, .int v2, .int v3, .int v4] (me_w (lw M L) J) o) : o = (some (.int ((x193 p v1 v2 v3 v4 J L).1)), me_w (lw M ((x193 p v1 v2 v3 v4 J L).2.2)) ((x193 p v1 v2 v3 v4 J L).2.1)) := by
  have k : nt_rn X d 193 (0, [(0, .ref (p 0)), (1, .int v1), (2, .int v2), (3, .int v3), (4, .int v4)], [], me_w (lw M L) J) o := k
  have k := ly_revb 6 (c' := (9, [(8, .int (Int32.ofInt 0)), (6, .long (Int64.ofNat 0)), (5, .int (Int32.ofInt (-1))), (0, .ref (p 0)), (1, .int v1), (2, .int v2), (3, .int v3), (4, .int v4)], [], me_w (lw M L) J)) rfl k
  have k := nt_rn_w (a := [(8, .int (Int32.ofInt 0)), (6, .long (Int64.ofNat 0)), (5, .int (Int32.ofInt (-1))), (0, .ref (p 0)), (1, .int v1), (2, .int v2), (3, .int v3), (4, .int v4)]) (b := [(0, .ref (p 0)), (1, .int v1), (2, .int v2), (3, .int v3), (4, .int v4), (5, .int (Int32.ofInt (-1))), (6, .long (Int64.ofNat 0)), (8, .int (Int32.ofInt 0)), (9, .int (Int32.ofInt 0)), (10, .long (Int64.ofNat 0))]) ⟨rfl, rfl, rfl, rfl, rfl, rfl, rfl, rfl, trivial⟩ rfl k
  have k := xt193_9 hp  ((J (p 4) 2).toNatClampNeg) (Int32.ofInt (-1)) (Int64.ofNat 0) (Int32.ofInt 0) (Int32.ofInt 0) (Int64.ofNat 0) J L (lx_beg (by decide)) k
  rw [k, x193]
theorem x193_9_frJ {p : Nat → Nat} {v1 : Int32} {v2 : Int32} {v3 : Int32} {v4 : Int32} {b : Nat} : ∀ (c : Nat) (v5 : Int32) (v6 : Int64) (v8 : Int32) (J : Nat → Nat → Int32) (L : Nat → Nat → Int64), b ≠ p 0 → (x193_9 p v1 v2 v3 v4 c v5 v6 v8 J L).2.1 b = J b := by
  intro c
  induction c with
  | zero =>
    intro v5 v6 v8 J L n0
    rw [x193_9]
    all_goals first | (dsimp only; exact (show J b = J b from rfl)) | exact (show J b = J b from rfl)
  | succ c ih =>
    intro v5 v6 v8 J L n0
    rw [x193_9]
    by_cases h : (J (p 4) 2) ≤ v8
    · rw [if_pos h]
      all_goals first | (dsimp only; exact (show J b = J b from rfl)) | exact (show J b = J b from rfl)
    · rw [if_neg h]
      by_cases h : (x194 p v8 v2 v3 J) = 0
      · rw [if_pos h]
        exact (ih _ _ _ _ _ n0).trans (rfl)
      · rw [if_neg h]
        by_cases h : 0 ≤ ((x197 p v1 J (x196 p v8 v2 v4 J L)).1)
        · rw [if_pos h]
          by_cases h : v5 < 0
          · rw [if_pos h]
            exact (ih _ _ _ _ _ n0).trans ((x198_frJ  n0).trans (x197_frJ  n0))
          · rw [if_neg h]
            by_cases h : (lg_cmp ((x198 p v1 (J (p 2) (((x197 p v1 J (x196 p v8 v2 v4 J L)).1).toNatClampNeg)) (J (p 2) ((((x197 p v1 J (x196 p v8 v2 v4 J L)).1) + (Int32.ofInt 1)).toNatClampNeg)) ((x197 p v1 J (x196 p v8 v2 v4 J L)).2.1) ((x197 p v1 J (x196 p v8 v2 v4 J L)).2.2)).1) v6) < 0
            · rw [if_pos h]
              exact (ih _ _ _ _ _ n0).trans ((x198_frJ  n0).trans (x197_frJ  n0))
            · rw [if_neg h]
              exact (ih _ _ _ _ _ n0).trans ((x198_frJ  n0).trans (x197_frJ  n0))
        · rw [if_neg h]
          exact (ih _ _ _ _ _ n0).trans (x197_frJ  n0)
theorem x193_frJ {p : Nat → Nat} {v1 : Int32} {v2 : Int32} {v3 : Int32} {v4 : Int32} {J : Nat → Nat → Int32} {L : Nat → Nat → Int64} {b : Nat} (n0 : b ≠ p 0) : (x193 p v1 v2 v3 v4 J L).2.1 b = J b := by
  unfold x193
  exact (x193_9_frJ _ _ _ _ _ _ n0).trans (rfl)
end
section
/-! the class: by rules -/
/-! $Reckoner.push -/
def x42 (p : Nat → Nat) (v1 : Int64) (J : Nat → Nat → Int32) (L : Nat → Nat → Int64) : (Nat → Nat → Int32) × (Nat → Nat → Int64) := if (Int32.ofNat 60) ≤ (J (p 25) 2) then (J, L)
  else (nt_u J (p 25) 2 ((J (p 25) 2) + (Int32.ofInt 1)), nt_u L (p 27) ((J (p 25) 2).toNatClampNeg) v1)
theorem xt42 {X : nt_X} {d : Nat} {M : nt_M} {o : Option Value × nt_M} {p : Nat → Nat} {v1 : Int64} {J : Nat → Nat → Int32} {L : Nat → Nat → Int64} (hp : xs_P M p) (k : nt_ev X d 42 [.ref (p 25), .long v1] (me_w (lw M L) J) o) : o = (none, me_w (lw M ((x42 p v1 J L).2)) ((x42 p v1 J L).1)) := by
  have k : nt_rn X d 42 (0, [(0, .ref (p 25)), (1, .long v1)], [], me_w (lw M L) J) o := k
  have k := ly_revb 1 (c' := (1, [(0, .ref (p 25)), (1, .long v1)], [.ref (p 25)], me_w (lw M L) J)) rfl k
  have k := lz_get (a := (p 25)) (g := 302) (M := me_w (lw M L) J) (v := .int (J (p 25) 2)) rfl (congrArg Value.int (rfl)) k
  have k := ly_revb 1 (c' := (5, [(0, .ref (p 25)), (1, .long v1)], [.ref (p 25), .int (J (p 25) 2)], me_w (lw M L) J)) rfl k
  have k := lz_get (a := (p 25)) (g := 301) (M := me_w (lw M L) J) (v := .ref (p 27)) rfl (nt_gfR rfl (hp.1 (25, 1, 27) (by decide))) k
  have k := lz_len rfl (hp.2.2.1 27 (by omega)) k
  rw [show nt_l (me_w (lw M L) J) (p 27) = 60 from hp.2.2.2] at k
  have k : nt_rn X _ 42 (9, [(0, .ref (p 25)), (1, .long v1)], [.int (Int32.ofNat 60), .int (J (p 25) 2)], me_w (lw M L) J) _ := k
  have k := ly_revb 1 (c' := (if (Int32.ofNat 60) ≤ (J (p 25) 2) then 32 else 12, [(0, .ref (p 25)), (1, .long v1)], [], me_w (lw M L) J)) rfl k
  by_cases h9 : (Int32.ofNat 60) ≤ (J (p 25) 2)
  · rw [if_pos h9] at k
    have k := lz_rv rfl rfl k
    rw [k, x42, if_pos h9]
  · rw [if_neg h9] at k
    have k := ly_revb 1 (c' := (13, [(0, .ref (p 25)), (1, .long v1)], [.ref (p 25)], me_w (lw M L) J)) rfl k
    have k := lz_get (a := (p 25)) (g := 301) (M := me_w (lw M L) J) (v := .ref (p 27)) rfl (nt_gfR rfl (hp.1 (25, 1, 27) (by decide))) k
    have k := ly_revb 1 (c' := (17, [(0, .ref (p 25)), (1, .long v1)], [.ref (p 25), .ref (p 27)], me_w (lw M L) J)) rfl k
    have k := lz_get (a := (p 25)) (g := 302) (M := me_w (lw M L) J) (v := .int (J (p 25) 2)) rfl (congrArg Value.int (rfl)) k
    have k := ly_revb 1 (c' := (21, [(0, .ref (p 25)), (1, .long v1)], [.long v1, .int (J (p 25) 2), .ref (p 27)], me_w (lw M L) J)) rfl k
    have k := mx_last (q := (J (p 25) 2).toNatClampNeg) rfl rfl k
    have k : nt_rn X _ 42 (22, [(0, .ref (p 25)), (1, .long v1)], [], me_w (lw M (nt_u L (p 27) ((J (p 25) 2).toNatClampNeg) v1)) J) _ := k
    have k := ly_revb 2 (c' := (24, [(0, .ref (p 25)), (1, .long v1)], [.ref (p 25), .ref (p 25)], me_w (lw M (nt_u L (p 27) ((J (p 25) 2).toNatClampNeg) v1)) J)) rfl k
    have k := lz_get (a := (p 25)) (g := 302) (M := me_w (lw M (nt_u L (p 27) ((J (p 25) 2).toNatClampNeg) v1)) J) (v := .int (J (p 25) 2)) rfl (congrArg Value.int (rfl)) k
    have k := ly_revb 2 (c' := (29, [(0, .ref (p 25)), (1, .long v1)], [.int ((J (p 25) 2) + (Int32.ofInt 1)), .ref (p 25)], me_w (lw M (nt_u L (p 27) ((J (p 25) 2).toNatClampNeg) v1)) J)) rfl k
    have k := me_put rfl (by decide) k
    have k : nt_rn X _ 42 (32, [(0, .ref (p 25)), (1, .long v1)], [], me_w (lw M (nt_u L (p 27) ((J (p 25) 2).toNatClampNeg) v1)) (nt_u J (p 25) 2 ((J (p 25) 2) + (Int32.ofInt 1)))) _ := k
    have k := lz_rv rfl rfl k
    rw [k, x42, if_neg h9]
theorem x42_frJ {p : Nat → Nat} {v1 : Int64} {J : Nat → Nat → Int32} {L : Nat → Nat → Int64} {b : Nat} (n0 : b ≠ p 25) : (x42 p v1 J L).1 b = J b := by
  unfold x42
  by_cases h : (Int32.ofNat 60) ≤ (J (p 25) 2)
  · rw [if_pos h]
    all_goals first | (dsimp only; exact (show J b = J b from rfl)) | exact (show J b = J b from rfl)
  · rw [if_neg h]
    all_goals first | (dsimp only; exact (show (nt_u J (p 25) 2 ((J (p 25) 2) + (Int32.ofInt 1))) b = J b from mu_o n0)) | exact (show (nt_u J (p 25) 2 ((J (p 25) 2) + (Int32.ofInt 1))) b = J b from mu_o n0)
/-! $Reckoner.joined -/
def x44 (v0 : Int32) (v1 : Int64) (v3 : Int64) : Int64 := if v0.toInt < 10 ∨ 19 < v0.toInt then (v1 ||| v3)
  else if v0 = Int32.ofInt 10 then (v1 + v3)
    else if v0 = Int32.ofInt 11 then (v1 - v3)
      else if v0 = Int32.ofInt 12 then (v1 * v3)
        else if v0 = Int32.ofInt 13 then if (lg_cmp v3 (Int64.ofNat 0)) = 0 then (Int64.ofNat 0)
            else (v1 / v3)
          else if v0 = Int32.ofInt 14 then if 0 ≤ (lg_cmp v1 v3) then (Int64.ofNat 0)
              else (Int64.ofNat 1)
            else if v0 = Int32.ofInt 15 then if 0 < (lg_cmp v1 v3) then (Int64.ofNat 0)
                else (Int64.ofNat 1)
              else if v0 = Int32.ofInt 16 then if (lg_cmp v1 v3) = 0 then (Int64.ofNat 1)
                  else (Int64.ofNat 0)
                else if v0 = Int32.ofInt 17 then if (lg_cmp v1 v3) < 0 then (Int64.ofNat 0)
                    else (Int64.ofNat 1)
                  else if v0 = Int32.ofInt 18 then if (lg_cmp v1 v3) ≤ 0 then (Int64.ofNat 0)
                      else (Int64.ofNat 1)
                    else (v1 &&& v3)
theorem xt44 {X : nt_X} {d : Nat} {M : nt_M} {o : Option Value × nt_M} {v0 : Int32} {v1 : Int64} {v3 : Int64} {J : Nat → Nat → Int32}  (k : nt_ev X d 44 [.int v0, .long v1, .long v3] (me_w M J) o) : o = (some (.long (x44 v0 v1 v3)), me_w M J) := by
  have k : nt_rn X d 44 (0, [(0, .int v0), (1, .long v1), (3, .long v3)], [], me_w M J) o := k
  have k := ly_revb 1 (c' := (1, [(0, .int v0), (1, .long v1), (3, .long v3)], [.int v0], me_w M J)) rfl k
  by_cases h1 : v0.toInt < 10 ∨ 19 < v0.toInt
  · have k := mx_tsd (q := 146) rfl h1 (by decide) k
    have k : nt_rn X _ 44 (146, [(0, .int v0), (1, .long v1), (3, .long v3)], [], me_w M J) _ := k
    have k := ly_revb 3 (c' := (149, [(0, .int v0), (1, .long v1), (3, .long v3)], [.long (v1 ||| v3)], me_w M J)) rfl k
    have k := mx_rl rfl rfl k
    rw [k, x44, if_pos h1]
  · by_cases h1_10 : v0 = Int32.ofInt 10
    · have k := mx_tsc (q := 56) (off := 55) rfl h1 (by rw [h1_10]; rfl) (by decide) k
      have k : nt_rn X _ 44 (56, [(0, .int v0), (1, .long v1), (3, .long v3)], [], me_w M J) _ := k
      have k := ly_revb 3 (c' := (59, [(0, .int v0), (1, .long v1), (3, .long v3)], [.long (v1 + v3)], me_w M J)) rfl k
      have k := mx_rl rfl rfl k
      rw [k, x44, if_neg h1, if_pos h1_10]
    · by_cases h1_11 : v0 = Int32.ofInt 11
      · have k := mx_tsc (q := 60) (off := 59) rfl h1 (by rw [h1_11]; rfl) (by decide) k
        have k : nt_rn X _ 44 (60, [(0, .int v0), (1, .long v1), (3, .long v3)], [], me_w M J) _ := k
        have k := ly_revb 3 (c' := (63, [(0, .int v0), (1, .long v1), (3, .long v3)], [.long (v1 - v3)], me_w M J)) rfl k
        have k := mx_rl rfl rfl k
        rw [k, x44, if_neg h1, if_neg h1_10, if_pos h1_11]
      · by_cases h1_12 : v0 = Int32.ofInt 12
        · have k := mx_tsc (q := 64) (off := 63) rfl h1 (by rw [h1_12]; rfl) (by decide) k
          have k : nt_rn X _ 44 (64, [(0, .int v0), (1, .long v1), (3, .long v3)], [], me_w M J) _ := k
          have k := ly_revb 3 (c' := (67, [(0, .int v0), (1, .long v1), (3, .long v3)], [.long (v1 * v3)], me_w M J)) rfl k
          have k := mx_rl rfl rfl k
          rw [k, x44, if_neg h1, if_neg h1_10, if_neg h1_11, if_pos h1_12]
        · by_cases h1_13 : v0 = Int32.ofInt 13
          · have k := mx_tsc (q := 68) (off := 67) rfl h1 (by rw [h1_13]; rfl) (by decide) k
            have k : nt_rn X _ 44 (68, [(0, .int v0), (1, .long v1), (3, .long v3)], [], me_w M J) _ := k
            have k := ly_revb 4 (c' := (if (lg_cmp v3 (Int64.ofNat 0)) = 0 then 74 else 78, [(0, .int v0), (1, .long v1), (3, .long v3)], [], me_w M J)) rfl k
            by_cases h71 : (lg_cmp v3 (Int64.ofNat 0)) = 0
            · rw [if_pos h71] at k
              have k := ly_revb 2 (c' := (81, [(0, .int v0), (1, .long v1), (3, .long v3)], [.long (Int64.ofNat 0)], me_w M J)) rfl k
              have k := mx_rl rfl rfl k
              rw [k, x44, if_neg h1, if_neg h1_10, if_neg h1_11, if_neg h1_12, if_pos h1_13, if_pos h71]
            · rw [if_neg h71] at k
              have k := ly_revb 2 (c' := (80, [(0, .int v0), (1, .long v1), (3, .long v3)], [.long v3, .long v1], me_w M J)) rfl k
              obtain ⟨hd80, k⟩ := mx_ldiv rfl k
              have k := mx_rl rfl rfl k
              rw [k, x44, if_neg h1, if_neg h1_10, if_neg h1_11, if_neg h1_12, if_pos h1_13, if_neg h71]
          · by_cases h1_14 : v0 = Int32.ofInt 14
            · have k := mx_tsc (q := 82) (off := 81) rfl h1 (by rw [h1_14]; rfl) (by decide) k
              have k : nt_rn X _ 44 (82, [(0, .int v0), (1, .long v1), (3, .long v3)], [], me_w M J) _ := k
              have k := ly_revb 4 (c' := (if 0 ≤ (lg_cmp v1 v3) then 92 else 88, [(0, .int v0), (1, .long v1), (3, .long v3)], [], me_w M J)) rfl k
              by_cases h85 : 0 ≤ (lg_cmp v1 v3)
              · rw [if_pos h85] at k
                have k := ly_revb 1 (c' := (93, [(0, .int v0), (1, .long v1), (3, .long v3)], [.long (Int64.ofNat 0)], me_w M J)) rfl k
                have k := mx_rl rfl rfl k
                rw [k, x44, if_neg h1, if_neg h1_10, if_neg h1_11, if_neg h1_12, if_neg h1_13, if_pos h1_14, if_pos h85]
              · rw [if_neg h85] at k
                have k := ly_revb 2 (c' := (93, [(0, .int v0), (1, .long v1), (3, .long v3)], [.long (Int64.ofNat 1)], me_w M J)) rfl k
                have k := mx_rl rfl rfl k
                rw [k, x44, if_neg h1, if_neg h1_10, if_neg h1_11, if_neg h1_12, if_neg h1_13, if_pos h1_14, if_neg h85]
            · by_cases h1_15 : v0 = Int32.ofInt 15
              · have k := mx_tsc (q := 94) (off := 93) rfl h1 (by rw [h1_15]; rfl) (by decide) k
                have k : nt_rn X _ 44 (94, [(0, .int v0), (1, .long v1), (3, .long v3)], [], me_w M J) _ := k
                have k := ly_revb 4 (c' := (if 0 < (lg_cmp v1 v3) then 104 else 100, [(0, .int v0), (1, .long v1), (3, .long v3)], [], me_w M J)) rfl k
                by_cases h97 : 0 < (lg_cmp v1 v3)
                · rw [if_pos h97] at k
                  have k := ly_revb 1 (c' := (105, [(0, .int v0), (1, .long v1), (3, .long v3)], [.long (Int64.ofNat 0)], me_w M J)) rfl k
                  have k := mx_rl rfl rfl k
                  rw [k, x44, if_neg h1, if_neg h1_10, if_neg h1_11, if_neg h1_12, if_neg h1_13, if_neg h1_14, if_pos h1_15, if_pos h97]
                · rw [if_neg h97] at k
                  have k := ly_revb 2 (c' := (105, [(0, .int v0), (1, .long v1), (3, .long v3)], [.long (Int64.ofNat 1)], me_w M J)) rfl k
                  have k := mx_rl rfl rfl k
                  rw [k, x44, if_neg h1, if_neg h1_10, if_neg h1_11, if_neg h1_12, if_neg h1_13, if_neg h1_14, if_pos h1_15, if_neg h97]
              · by_cases h1_16 : v0 = Int32.ofInt 16
                · have k := mx_tsc (q := 106) (off := 105) rfl h1 (by rw [h1_16]; rfl) (by decide) k
                  have k : nt_rn X _ 44 (106, [(0, .int v0), (1, .long v1), (3, .long v3)], [], me_w M J) _ := k
                  have k := ly_revb 4 (c' := (if (lg_cmp v1 v3) = 0 then 112 else 116, [(0, .int v0), (1, .long v1), (3, .long v3)], [], me_w M J)) rfl k
                  by_cases h109 : (lg_cmp v1 v3) = 0
                  · rw [if_pos h109] at k
                    have k := ly_revb 2 (c' := (117, [(0, .int v0), (1, .long v1), (3, .long v3)], [.long (Int64.ofNat 1)], me_w M J)) rfl k
                    have k := mx_rl rfl rfl k
                    rw [k, x44, if_neg h1, if_neg h1_10, if_neg h1_11, if_neg h1_12, if_neg h1_13, if_neg h1_14, if_neg h1_15, if_pos h1_16, if_pos h109]
                  · rw [if_neg h109] at k
                    have k := ly_revb 1 (c' := (117, [(0, .int v0), (1, .long v1), (3, .long v3)], [.long (Int64.ofNat 0)], me_w M J)) rfl k
                    have k := mx_rl rfl rfl k
                    rw [k, x44, if_neg h1, if_neg h1_10, if_neg h1_11, if_neg h1_12, if_neg h1_13, if_neg h1_14, if_neg h1_15, if_pos h1_16, if_neg h109]
                · by_cases h1_17 : v0 = Int32.ofInt 17
                  · have k := mx_tsc (q := 118) (off := 117) rfl h1 (by rw [h1_17]; rfl) (by decide) k
                    have k : nt_rn X _ 44 (118, [(0, .int v0), (1, .long v1), (3, .long v3)], [], me_w M J) _ := k
                    have k := ly_revb 4 (c' := (if (lg_cmp v1 v3) < 0 then 128 else 124, [(0, .int v0), (1, .long v1), (3, .long v3)], [], me_w M J)) rfl k
                    by_cases h121 : (lg_cmp v1 v3) < 0
                    · rw [if_pos h121] at k
                      have k := ly_revb 1 (c' := (129, [(0, .int v0), (1, .long v1), (3, .long v3)], [.long (Int64.ofNat 0)], me_w M J)) rfl k
                      have k := mx_rl rfl rfl k
                      rw [k, x44, if_neg h1, if_neg h1_10, if_neg h1_11, if_neg h1_12, if_neg h1_13, if_neg h1_14, if_neg h1_15, if_neg h1_16, if_pos h1_17, if_pos h121]
                    · rw [if_neg h121] at k
                      have k := ly_revb 2 (c' := (129, [(0, .int v0), (1, .long v1), (3, .long v3)], [.long (Int64.ofNat 1)], me_w M J)) rfl k
                      have k := mx_rl rfl rfl k
                      rw [k, x44, if_neg h1, if_neg h1_10, if_neg h1_11, if_neg h1_12, if_neg h1_13, if_neg h1_14, if_neg h1_15, if_neg h1_16, if_pos h1_17, if_neg h121]
                  · by_cases h1_18 : v0 = Int32.ofInt 18
                    · have k := mx_tsc (q := 130) (off := 129) rfl h1 (by rw [h1_18]; rfl) (by decide) k
                      have k : nt_rn X _ 44 (130, [(0, .int v0), (1, .long v1), (3, .long v3)], [], me_w M J) _ := k
                      have k := ly_revb 4 (c' := (if (lg_cmp v1 v3) ≤ 0 then 140 else 136, [(0, .int v0), (1, .long v1), (3, .long v3)], [], me_w M J)) rfl k
                      by_cases h133 : (lg_cmp v1 v3) ≤ 0
                      · rw [if_pos h133] at k
                        have k := ly_revb 1 (c' := (141, [(0, .int v0), (1, .long v1), (3, .long v3)], [.long (Int64.ofNat 0)], me_w M J)) rfl k
                        have k := mx_rl rfl rfl k
                        rw [k, x44, if_neg h1, if_neg h1_10, if_neg h1_11, if_neg h1_12, if_neg h1_13, if_neg h1_14, if_neg h1_15, if_neg h1_16, if_neg h1_17, if_pos h1_18, if_pos h133]
                      · rw [if_neg h133] at k
                        have k := ly_revb 2 (c' := (141, [(0, .int v0), (1, .long v1), (3, .long v3)], [.long (Int64.ofNat 1)], me_w M J)) rfl k
                        have k := mx_rl rfl rfl k
                        rw [k, x44, if_neg h1, if_neg h1_10, if_neg h1_11, if_neg h1_12, if_neg h1_13, if_neg h1_14, if_neg h1_15, if_neg h1_16, if_neg h1_17, if_pos h1_18, if_neg h133]
                    · have hz : v0 = Int32.ofInt 19 := by
                        have z1 := h1
                        have y0 : v0.toInt ≠ 10 := fun e => h1_10 (Int32.toInt_inj.mp (e.trans (by decide)))
                        have y1 : v0.toInt ≠ 11 := fun e => h1_11 (Int32.toInt_inj.mp (e.trans (by decide)))
                        have y2 : v0.toInt ≠ 12 := fun e => h1_12 (Int32.toInt_inj.mp (e.trans (by decide)))
                        have y3 : v0.toInt ≠ 13 := fun e => h1_13 (Int32.toInt_inj.mp (e.trans (by decide)))
                        have y4 : v0.toInt ≠ 14 := fun e => h1_14 (Int32.toInt_inj.mp (e.trans (by decide)))
                        have y5 : v0.toInt ≠ 15 := fun e => h1_15 (Int32.toInt_inj.mp (e.trans (by decide)))
                        have y6 : v0.toInt ≠ 16 := fun e => h1_16 (Int32.toInt_inj.mp (e.trans (by decide)))
                        have y7 : v0.toInt ≠ 17 := fun e => h1_17 (Int32.toInt_inj.mp (e.trans (by decide)))
                        have y8 : v0.toInt ≠ 18 := fun e => h1_18 (Int32.toInt_inj.mp (e.trans (by decide)))
                        exact Int32.toInt_inj.mp ((show v0.toInt = 19 by omega).trans (by decide))
                      have k := mx_tsc (q := 142) (off := 141) rfl h1 (by rw [hz]; rfl) (by decide) k
                      have k : nt_rn X _ 44 (142, [(0, .int v0), (1, .long v1), (3, .long v3)], [], me_w M J) _ := k
                      have k := ly_revb 3 (c' := (145, [(0, .int v0), (1, .long v1), (3, .long v3)], [.long (v1 &&& v3)], me_w M J)) rfl k
                      have k := mx_rl rfl rfl k
                      rw [k, x44, if_neg h1, if_neg h1_10, if_neg h1_11, if_neg h1_12, if_neg h1_13, if_neg h1_14, if_neg h1_15, if_neg h1_16, if_neg h1_17, if_neg h1_18]
/-! $Reckoner.apply -/
def x43 (p : Nat → Nat) (v1 : Int32) (J : Nat → Nat → Int32) (L : Nat → Nat → Int64) : (Nat → Nat → Int32) × (Nat → Nat → Int64) := if v1 = (Int32.ofInt 21) then if (J (p 25) 2) < (Int32.ofInt 1) then if (J (p 25) 2) < (Int32.ofInt 2) then (J, L)
      else (nt_u J (p 25) 2 ((J (p 25) 2) - (Int32.ofInt 1)), nt_u L (p 27) ((((J (p 25) 2) - (Int32.ofInt 1)) - (Int32.ofInt 1)).toNatClampNeg) (x44 v1 (L (p 27) ((((J (p 25) 2) - (Int32.ofInt 1)) - (Int32.ofInt 1)).toNatClampNeg)) (L (p 27) (((J (p 25) 2) - (Int32.ofInt 1)).toNatClampNeg))))
    else (J, nt_u L (p 27) (((J (p 25) 2) - (Int32.ofInt 1)).toNatClampNeg) ((Int64.ofNat 1) - (L (p 27) (((J (p 25) 2) - (Int32.ofInt 1)).toNatClampNeg))))
  else if (J (p 25) 2) < (Int32.ofInt 2) then (J, L)
    else (nt_u J (p 25) 2 ((J (p 25) 2) - (Int32.ofInt 1)), nt_u L (p 27) ((((J (p 25) 2) - (Int32.ofInt 1)) - (Int32.ofInt 1)).toNatClampNeg) (x44 v1 (L (p 27) ((((J (p 25) 2) - (Int32.ofInt 1)) - (Int32.ofInt 1)).toNatClampNeg)) (L (p 27) (((J (p 25) 2) - (Int32.ofInt 1)).toNatClampNeg))))
theorem xt43 {X : nt_X} {d : Nat} {M : nt_M} {o : Option Value × nt_M} {p : Nat → Nat} {v1 : Int32} {J : Nat → Nat → Int32} {L : Nat → Nat → Int64} (hp : xs_P M p) (k : nt_ev X d 43 [.ref (p 25), .int v1] (me_w (lw M L) J) o) : o = (none, me_w (lw M ((x43 p v1 J L).2)) ((x43 p v1 J L).1)) := by
  have k : nt_rn X d 43 (0, [(0, .ref (p 25)), (1, .int v1)], [], me_w (lw M L) J) o := k
  have k := ly_revb 3 (c' := (if v1 = (Int32.ofInt 21) then 6 else 41, [(0, .ref (p 25)), (1, .int v1)], [], me_w (lw M L) J)) rfl k
  by_cases h3 : v1 = (Int32.ofInt 21)
  · rw [if_pos h3] at k
    have k := ly_revb 1 (c' := (7, [(0, .ref (p 25)), (1, .int v1)], [.ref (p 25)], me_w (lw M L) J)) rfl k
    have k := lz_get (a := (p 25)) (g := 302) (M := me_w (lw M L) J) (v := .int (J (p 25) 2)) rfl (congrArg Value.int (rfl)) k
    have k := ly_revb 2 (c' := (if (J (p 25) 2) < (Int32.ofInt 1) then 41 else 14, [(0, .ref (p 25)), (1, .int v1)], [], me_w (lw M L) J)) rfl k
    by_cases h11 : (J (p 25) 2) < (Int32.ofInt 1)
    · rw [if_pos h11] at k
      have k := ly_revb 1 (c' := (42, [(0, .ref (p 25)), (1, .int v1)], [.ref (p 25)], me_w (lw M L) J)) rfl k
      have k := lz_get (a := (p 25)) (g := 302) (M := me_w (lw M L) J) (v := .int (J (p 25) 2)) rfl (congrArg Value.int (rfl)) k
      have k := ly_revb 2 (c' := (if (J (p 25) 2) < (Int32.ofInt 2) then 94 else 49, [(0, .ref (p 25)), (1, .int v1)], [], me_w (lw M L) J)) rfl k
      by_cases h46 : (J (p 25) 2) < (Int32.ofInt 2)
      · rw [if_pos h46] at k
        have k := lz_rv rfl rfl k
        rw [k, x43, if_pos h3, if_pos h11, if_pos h46]
      · rw [if_neg h46] at k
        have k := ly_revb 2 (c' := (51, [(0, .ref (p 25)), (1, .int v1)], [.ref (p 25), .ref (p 25)], me_w (lw M L) J)) rfl k
        have k := lz_get (a := (p 25)) (g := 302) (M := me_w (lw M L) J) (v := .int (J (p 25) 2)) rfl (congrArg Value.int (rfl)) k
        have k := ly_revb 2 (c' := (56, [(0, .ref (p 25)), (1, .int v1)], [.int ((J (p 25) 2) - (Int32.ofInt 1)), .ref (p 25)], me_w (lw M L) J)) rfl k
        have k := me_put rfl (by decide) k
        have k : nt_rn X _ 43 (59, [(0, .ref (p 25)), (1, .int v1)], [], me_w (lw M L) (nt_u J (p 25) 2 ((J (p 25) 2) - (Int32.ofInt 1)))) _ := k
        have k := ly_revb 1 (c' := (60, [(0, .ref (p 25)), (1, .int v1)], [.ref (p 25)], me_w (lw M L) (nt_u J (p 25) 2 ((J (p 25) 2) - (Int32.ofInt 1))))) rfl k
        have k := lz_get (a := (p 25)) (g := 301) (M := me_w (lw M L) (nt_u J (p 25) 2 ((J (p 25) 2) - (Int32.ofInt 1)))) (v := .ref (p 27)) rfl (nt_gfR rfl (hp.1 (25, 1, 27) (by decide))) k
        have k := ly_revb 1 (c' := (64, [(0, .ref (p 25)), (1, .int v1)], [.ref (p 25), .ref (p 27)], me_w (lw M L) (nt_u J (p 25) 2 ((J (p 25) 2) - (Int32.ofInt 1))))) rfl k
        have k := lz_get (a := (p 25)) (g := 302) (M := me_w (lw M L) (nt_u J (p 25) 2 ((J (p 25) 2) - (Int32.ofInt 1)))) (v := .int ((J (p 25) 2) - (Int32.ofInt 1))) rfl (congrArg Value.int (mu_s)) k
        have k := ly_revb 4 (c' := (71, [(0, .ref (p 25)), (1, .int v1)], [.ref (p 25), .int v1, .int (((J (p 25) 2) - (Int32.ofInt 1)) - (Int32.ofInt 1)), .ref (p 27)], me_w (lw M L) (nt_u J (p 25) 2 ((J (p 25) 2) - (Int32.ofInt 1))))) rfl k
        have k := lz_get (a := (p 25)) (g := 301) (M := me_w (lw M L) (nt_u J (p 25) 2 ((J (p 25) 2) - (Int32.ofInt 1)))) (v := .ref (p 27)) rfl (nt_gfR rfl (hp.1 (25, 1, 27) (by decide))) k
        have k := ly_revb 1 (c' := (75, [(0, .ref (p 25)), (1, .int v1)], [.ref (p 25), .ref (p 27), .int v1, .int (((J (p 25) 2) - (Int32.ofInt 1)) - (Int32.ofInt 1)), .ref (p 27)], me_w (lw M L) (nt_u J (p 25) 2 ((J (p 25) 2) - (Int32.ofInt 1))))) rfl k
        have k := lz_get (a := (p 25)) (g := 302) (M := me_w (lw M L) (nt_u J (p 25) 2 ((J (p 25) 2) - (Int32.ofInt 1)))) (v := .int ((J (p 25) 2) - (Int32.ofInt 1))) rfl (congrArg Value.int (mu_s)) k
        have k := ly_revb 2 (c' := (80, [(0, .ref (p 25)), (1, .int v1)], [.int (((J (p 25) 2) - (Int32.ofInt 1)) - (Int32.ofInt 1)), .ref (p 27), .int v1, .int (((J (p 25) 2) - (Int32.ofInt 1)) - (Int32.ofInt 1)), .ref (p 27)], me_w (lw M L) (nt_u J (p 25) 2 ((J (p 25) 2) - (Int32.ofInt 1))))) rfl k
        have k := mx_lald (v := L (p 27) ((((J (p 25) 2) - (Int32.ofInt 1)) - (Int32.ofInt 1)).toNatClampNeg)) rfl (rfl) k
        have k := ly_revb 1 (c' := (82, [(0, .ref (p 25)), (1, .int v1)], [.ref (p 25), .long (L (p 27) ((((J (p 25) 2) - (Int32.ofInt 1)) - (Int32.ofInt 1)).toNatClampNeg)), .int v1, .int (((J (p 25) 2) - (Int32.ofInt 1)) - (Int32.ofInt 1)), .ref (p 27)], me_w (lw M L) (nt_u J (p 25) 2 ((J (p 25) 2) - (Int32.ofInt 1))))) rfl k
        have k := lz_get (a := (p 25)) (g := 301) (M := me_w (lw M L) (nt_u J (p 25) 2 ((J (p 25) 2) - (Int32.ofInt 1)))) (v := .ref (p 27)) rfl (nt_gfR rfl (hp.1 (25, 1, 27) (by decide))) k
        have k := ly_revb 1 (c' := (86, [(0, .ref (p 25)), (1, .int v1)], [.ref (p 25), .ref (p 27), .long (L (p 27) ((((J (p 25) 2) - (Int32.ofInt 1)) - (Int32.ofInt 1)).toNatClampNeg)), .int v1, .int (((J (p 25) 2) - (Int32.ofInt 1)) - (Int32.ofInt 1)), .ref (p 27)], me_w (lw M L) (nt_u J (p 25) 2 ((J (p 25) 2) - (Int32.ofInt 1))))) rfl k
        have k := lz_get (a := (p 25)) (g := 302) (M := me_w (lw M L) (nt_u J (p 25) 2 ((J (p 25) 2) - (Int32.ofInt 1)))) (v := .int ((J (p 25) 2) - (Int32.ofInt 1))) rfl (congrArg Value.int (mu_s)) k
        have k := mx_lald (v := L (p 27) (((J (p 25) 2) - (Int32.ofInt 1)).toNatClampNeg)) rfl (rfl) k
        obtain ⟨d1, o1, ed, kc, k⟩ := lz_c (g := 44) (q := 0) (vs := [.int v1, .long (L (p 27) ((((J (p 25) 2) - (Int32.ofInt 1)) - (Int32.ofInt 1)).toNatClampNeg)), .long (L (p 27) (((J (p 25) 2) - (Int32.ofInt 1)).toNatClampNeg))]) (rest := [.int (((J (p 25) 2) - (Int32.ofInt 1)) - (Int32.ofInt 1)), .ref (p 27)]) rfl rfl (by decide) (Or.inl ⟨_, rfl, rfl⟩) rfl k
        have e1 := xt44  kc
        subst e1
        have k : nt_rn X _ 43 (93, [(0, .ref (p 25)), (1, .int v1)], [.long (x44 v1 (L (p 27) ((((J (p 25) 2) - (Int32.ofInt 1)) - (Int32.ofInt 1)).toNatClampNeg)) (L (p 27) (((J (p 25) 2) - (Int32.ofInt 1)).toNatClampNeg))), .int (((J (p 25) 2) - (Int32.ofInt 1)) - (Int32.ofInt 1)), .ref (p 27)], me_w (lw M L) (nt_u J (p 25) 2 ((J (p 25) 2) - (Int32.ofInt 1)))) _ := k
        have k := mx_last (q := (((J (p 25) 2) - (Int32.ofInt 1)) - (Int32.ofInt 1)).toNatClampNeg) rfl rfl k
        have k : nt_rn X _ 43 (94, [(0, .ref (p 25)), (1, .int v1)], [], me_w (lw M (nt_u L (p 27) ((((J (p 25) 2) - (Int32.ofInt 1)) - (Int32.ofInt 1)).toNatClampNeg) (x44 v1 (L (p 27) ((((J (p 25) 2) - (Int32.ofInt 1)) - (Int32.ofInt 1)).toNatClampNeg)) (L (p 27) (((J (p 25) 2) - (Int32.ofInt 1)).toNatClampNeg))))) (nt_u J (p 25) 2 ((J (p 25) 2) - (Int32.ofInt 1)))) _ := k
        have k := lz_rv rfl rfl k
        rw [k, x43, if_pos h3, if_pos h11, if_neg h46]
    · rw [if_neg h11] at k
      have k := ly_revb 1 (c' := (15, [(0, .ref (p 25)), (1, .int v1)], [.ref (p 25)], me_w (lw M L) J)) rfl k
      have k := lz_get (a := (p 25)) (g := 301) (M := me_w (lw M L) J) (v := .ref (p 27)) rfl (nt_gfR rfl (hp.1 (25, 1, 27) (by decide))) k
      have k := ly_revb 1 (c' := (19, [(0, .ref (p 25)), (1, .int v1)], [.ref (p 25), .ref (p 27)], me_w (lw M L) J)) rfl k
      have k := lz_get (a := (p 25)) (g := 302) (M := me_w (lw M L) J) (v := .int (J (p 25) 2)) rfl (congrArg Value.int (rfl)) k
      have k := ly_revb 4 (c' := (26, [(0, .ref (p 25)), (1, .int v1)], [.ref (p 25), .long (Int64.ofNat 1), .int ((J (p 25) 2) - (Int32.ofInt 1)), .ref (p 27)], me_w (lw M L) J)) rfl k
      have k := lz_get (a := (p 25)) (g := 301) (M := me_w (lw M L) J) (v := .ref (p 27)) rfl (nt_gfR rfl (hp.1 (25, 1, 27) (by decide))) k
      have k := ly_revb 1 (c' := (30, [(0, .ref (p 25)), (1, .int v1)], [.ref (p 25), .ref (p 27), .long (Int64.ofNat 1), .int ((J (p 25) 2) - (Int32.ofInt 1)), .ref (p 27)], me_w (lw M L) J)) rfl k
      have k := lz_get (a := (p 25)) (g := 302) (M := me_w (lw M L) J) (v := .int (J (p 25) 2)) rfl (congrArg Value.int (rfl)) k
      have k := ly_revb 2 (c' := (35, [(0, .ref (p 25)), (1, .int v1)], [.int ((J (p 25) 2) - (Int32.ofInt 1)), .ref (p 27), .long (Int64.ofNat 1), .int ((J (p 25) 2) - (Int32.ofInt 1)), .ref (p 27)], me_w (lw M L) J)) rfl k
      have k := mx_lald (v := L (p 27) (((J (p 25) 2) - (Int32.ofInt 1)).toNatClampNeg)) rfl (rfl) k
      have k := ly_revb 1 (c' := (37, [(0, .ref (p 25)), (1, .int v1)], [.long ((Int64.ofNat 1) - (L (p 27) (((J (p 25) 2) - (Int32.ofInt 1)).toNatClampNeg))), .int ((J (p 25) 2) - (Int32.ofInt 1)), .ref (p 27)], me_w (lw M L) J)) rfl k
      have k := mx_last (q := ((J (p 25) 2) - (Int32.ofInt 1)).toNatClampNeg) rfl rfl k
      have k : nt_rn X _ 43 (38, [(0, .ref (p 25)), (1, .int v1)], [], me_w (lw M (nt_u L (p 27) (((J (p 25) 2) - (Int32.ofInt 1)).toNatClampNeg) ((Int64.ofNat 1) - (L (p 27) (((J (p 25) 2) - (Int32.ofInt 1)).toNatClampNeg))))) J) _ := k
      have k := ly_revb 1 (c' := (94, [(0, .ref (p 25)), (1, .int v1)], [], me_w (lw M (nt_u L (p 27) (((J (p 25) 2) - (Int32.ofInt 1)).toNatClampNeg) ((Int64.ofNat 1) - (L (p 27) (((J (p 25) 2) - (Int32.ofInt 1)).toNatClampNeg))))) J)) rfl k
      have k := lz_rv rfl rfl k
      rw [k, x43, if_pos h3, if_neg h11]
  · rw [if_neg h3] at k
    have k := ly_revb 1 (c' := (42, [(0, .ref (p 25)), (1, .int v1)], [.ref (p 25)], me_w (lw M L) J)) rfl k
    have k := lz_get (a := (p 25)) (g := 302) (M := me_w (lw M L) J) (v := .int (J (p 25) 2)) rfl (congrArg Value.int (rfl)) k
    have k := ly_revb 2 (c' := (if (J (p 25) 2) < (Int32.ofInt 2) then 94 else 49, [(0, .ref (p 25)), (1, .int v1)], [], me_w (lw M L) J)) rfl k
    by_cases h46 : (J (p 25) 2) < (Int32.ofInt 2)
    · rw [if_pos h46] at k
      have k := lz_rv rfl rfl k
      rw [k, x43, if_neg h3, if_pos h46]
    · rw [if_neg h46] at k
      have k := ly_revb 2 (c' := (51, [(0, .ref (p 25)), (1, .int v1)], [.ref (p 25), .ref (p 25)], me_w (lw M L) J)) rfl k
      have k := lz_get (a := (p 25)) (g := 302) (M := me_w (lw M L) J) (v := .int (J (p 25) 2)) rfl (congrArg Value.int (rfl)) k
      have k := ly_revb 2 (c' := (56, [(0, .ref (p 25)), (1, .int v1)], [.int ((J (p 25) 2) - (Int32.ofInt 1)), .ref (p 25)], me_w (lw M L) J)) rfl k
      have k := me_put rfl (by decide) k
      have k : nt_rn X _ 43 (59, [(0, .ref (p 25)), (1, .int v1)], [], me_w (lw M L) (nt_u J (p 25) 2 ((J (p 25) 2) - (Int32.ofInt 1)))) _ := k
      have k := ly_revb 1 (c' := (60, [(0, .ref (p 25)), (1, .int v1)], [.ref (p 25)], me_w (lw M L) (nt_u J (p 25) 2 ((J (p 25) 2) - (Int32.ofInt 1))))) rfl k
      have k := lz_get (a := (p 25)) (g := 301) (M := me_w (lw M L) (nt_u J (p 25) 2 ((J (p 25) 2) - (Int32.ofInt 1)))) (v := .ref (p 27)) rfl (nt_gfR rfl (hp.1 (25, 1, 27) (by decide))) k
      have k := ly_revb 1 (c' := (64, [(0, .ref (p 25)), (1, .int v1)], [.ref (p 25), .ref (p 27)], me_w (lw M L) (nt_u J (p 25) 2 ((J (p 25) 2) - (Int32.ofInt 1))))) rfl k
      have k := lz_get (a := (p 25)) (g := 302) (M := me_w (lw M L) (nt_u J (p 25) 2 ((J (p 25) 2) - (Int32.ofInt 1)))) (v := .int ((J (p 25) 2) - (Int32.ofInt 1))) rfl (congrArg Value.int (mu_s)) k
      have k := ly_revb 4 (c' := (71, [(0, .ref (p 25)), (1, .int v1)], [.ref (p 25), .int v1, .int (((J (p 25) 2) - (Int32.ofInt 1)) - (Int32.ofInt 1)), .ref (p 27)], me_w (lw M L) (nt_u J (p 25) 2 ((J (p 25) 2) - (Int32.ofInt 1))))) rfl k
      have k := lz_get (a := (p 25)) (g := 301) (M := me_w (lw M L) (nt_u J (p 25) 2 ((J (p 25) 2) - (Int32.ofInt 1)))) (v := .ref (p 27)) rfl (nt_gfR rfl (hp.1 (25, 1, 27) (by decide))) k
      have k := ly_revb 1 (c' := (75, [(0, .ref (p 25)), (1, .int v1)], [.ref (p 25), .ref (p 27), .int v1, .int (((J (p 25) 2) - (Int32.ofInt 1)) - (Int32.ofInt 1)), .ref (p 27)], me_w (lw M L) (nt_u J (p 25) 2 ((J (p 25) 2) - (Int32.ofInt 1))))) rfl k
      have k := lz_get (a := (p 25)) (g := 302) (M := me_w (lw M L) (nt_u J (p 25) 2 ((J (p 25) 2) - (Int32.ofInt 1)))) (v := .int ((J (p 25) 2) - (Int32.ofInt 1))) rfl (congrArg Value.int (mu_s)) k
      have k := ly_revb 2 (c' := (80, [(0, .ref (p 25)), (1, .int v1)], [.int (((J (p 25) 2) - (Int32.ofInt 1)) - (Int32.ofInt 1)), .ref (p 27), .int v1, .int (((J (p 25) 2) - (Int32.ofInt 1)) - (Int32.ofInt 1)), .ref (p 27)], me_w (lw M L) (nt_u J (p 25) 2 ((J (p 25) 2) - (Int32.ofInt 1))))) rfl k
      have k := mx_lald (v := L (p 27) ((((J (p 25) 2) - (Int32.ofInt 1)) - (Int32.ofInt 1)).toNatClampNeg)) rfl (rfl) k
      have k := ly_revb 1 (c' := (82, [(0, .ref (p 25)), (1, .int v1)], [.ref (p 25), .long (L (p 27) ((((J (p 25) 2) - (Int32.ofInt 1)) - (Int32.ofInt 1)).toNatClampNeg)), .int v1, .int (((J (p 25) 2) - (Int32.ofInt 1)) - (Int32.ofInt 1)), .ref (p 27)], me_w (lw M L) (nt_u J (p 25) 2 ((J (p 25) 2) - (Int32.ofInt 1))))) rfl k
      have k := lz_get (a := (p 25)) (g := 301) (M := me_w (lw M L) (nt_u J (p 25) 2 ((J (p 25) 2) - (Int32.ofInt 1)))) (v := .ref (p 27)) rfl (nt_gfR rfl (hp.1 (25, 1, 27) (by decide))) k
      have k := ly_revb 1 (c' := (86, [(0, .ref (p 25)), (1, .int v1)], [.ref (p 25), .ref (p 27), .long (L (p 27) ((((J (p 25) 2) - (Int32.ofInt 1)) - (Int32.ofInt 1)).toNatClampNeg)), .int v1, .int (((J (p 25) 2) - (Int32.ofInt 1)) - (Int32.ofInt 1)), .ref (p 27)], me_w (lw M L) (nt_u J (p 25) 2 ((J (p 25) 2) - (Int32.ofInt 1))))) rfl k
      have k := lz_get (a := (p 25)) (g := 302) (M := me_w (lw M L) (nt_u J (p 25) 2 ((J (p 25) 2) - (Int32.ofInt 1)))) (v := .int ((J (p 25) 2) - (Int32.ofInt 1))) rfl (congrArg Value.int (mu_s)) k
      have k := mx_lald (v := L (p 27) (((J (p 25) 2) - (Int32.ofInt 1)).toNatClampNeg)) rfl (rfl) k
      obtain ⟨d1, o1, ed, kc, k⟩ := lz_c (g := 44) (q := 0) (vs := [.int v1, .long (L (p 27) ((((J (p 25) 2) - (Int32.ofInt 1)) - (Int32.ofInt 1)).toNatClampNeg)), .long (L (p 27) (((J (p 25) 2) - (Int32.ofInt 1)).toNatClampNeg))]) (rest := [.int (((J (p 25) 2) - (Int32.ofInt 1)) - (Int32.ofInt 1)), .ref (p 27)]) rfl rfl (by decide) (Or.inl ⟨_, rfl, rfl⟩) rfl k
      have e1 := xt44  kc
      subst e1
      have k : nt_rn X _ 43 (93, [(0, .ref (p 25)), (1, .int v1)], [.long (x44 v1 (L (p 27) ((((J (p 25) 2) - (Int32.ofInt 1)) - (Int32.ofInt 1)).toNatClampNeg)) (L (p 27) (((J (p 25) 2) - (Int32.ofInt 1)).toNatClampNeg))), .int (((J (p 25) 2) - (Int32.ofInt 1)) - (Int32.ofInt 1)), .ref (p 27)], me_w (lw M L) (nt_u J (p 25) 2 ((J (p 25) 2) - (Int32.ofInt 1)))) _ := k
      have k := mx_last (q := (((J (p 25) 2) - (Int32.ofInt 1)) - (Int32.ofInt 1)).toNatClampNeg) rfl rfl k
      have k : nt_rn X _ 43 (94, [(0, .ref (p 25)), (1, .int v1)], [], me_w (lw M (nt_u L (p 27) ((((J (p 25) 2) - (Int32.ofInt 1)) - (Int32.ofInt 1)).toNatClampNeg) (x44 v1 (L (p 27) ((((J (p 25) 2) - (Int32.ofInt 1)) - (Int32.ofInt 1)).toNatClampNeg)) (L (p 27) (((J (p 25) 2) - (Int32.ofInt 1)).toNatClampNeg))))) (nt_u J (p 25) 2 ((J (p 25) 2) - (Int32.ofInt 1)))) _ := k
      have k := lz_rv rfl rfl k
      rw [k, x43, if_neg h3, if_neg h46]
theorem x43_frJ {p : Nat → Nat} {v1 : Int32} {J : Nat → Nat → Int32} {L : Nat → Nat → Int64} {b : Nat} (n0 : b ≠ p 25) : (x43 p v1 J L).1 b = J b := by
  unfold x43
  by_cases h : v1 = (Int32.ofInt 21)
  · rw [if_pos h]
    by_cases h : (J (p 25) 2) < (Int32.ofInt 1)
    · rw [if_pos h]
      by_cases h : (J (p 25) 2) < (Int32.ofInt 2)
      · rw [if_pos h]
        all_goals first | (dsimp only; exact (show J b = J b from rfl)) | exact (show J b = J b from rfl)
      · rw [if_neg h]
        all_goals first | (dsimp only; exact (show (nt_u J (p 25) 2 ((J (p 25) 2) - (Int32.ofInt 1))) b = J b from mu_o n0)) | exact (show (nt_u J (p 25) 2 ((J (p 25) 2) - (Int32.ofInt 1))) b = J b from mu_o n0)
    · rw [if_neg h]
      all_goals first | (dsimp only; exact (show J b = J b from rfl)) | exact (show J b = J b from rfl)
  · rw [if_neg h]
    by_cases h : (J (p 25) 2) < (Int32.ofInt 2)
    · rw [if_pos h]
      all_goals first | (dsimp only; exact (show J b = J b from rfl)) | exact (show J b = J b from rfl)
    · rw [if_neg h]
      all_goals first | (dsimp only; exact (show (nt_u J (p 25) 2 ((J (p 25) 2) - (Int32.ofInt 1))) b = J b from mu_o n0)) | exact (show (nt_u J (p 25) 2 ((J (p 25) 2) - (Int32.ofInt 1))) b = J b from mu_o n0)
/-! $Reckoner.sum -/
def x45 (p : Nat → Nat) (J : Nat → Nat → Int32) (L : Nat → Nat → Int64) : Int64 := (L (p 25) 3)
theorem xt45 {X : nt_X} {d : Nat} {M : nt_M} {o : Option Value × nt_M} {p : Nat → Nat} {J : Nat → Nat → Int32} {L : Nat → Nat → Int64} (hp : xs_P M p) (k : nt_ev X d 45 [.ref (p 25)] (me_w (lw M L) J) o) : o = (some (.long (x45 p J L)), me_w (lw M L) J) := by
  have k : nt_rn X d 45 (0, [(0, .ref (p 25))], [], me_w (lw M L) J) o := k
  have k := ly_revb 1 (c' := (1, [(0, .ref (p 25))], [.ref (p 25)], me_w (lw M L) J)) rfl k
  have k := lz_get (a := (p 25)) (g := 303) (M := me_w (lw M L) J) (v := .long (L (p 25) 3)) rfl (congrArg Value.long (rfl)) k
  have k := mx_rl rfl rfl k
  rw [k, x45]
/-! $Reckoner.isTaken -/
def x41_7 (p : Nat → Nat) (sp : Nat) (ln : Nat) : Nat → Int32 → (Nat → Nat → Int32) → (Nat → Nat → Int64) → Int32 × (Nat → Nat → Int32) × (Nat → Nat → Int64)
  | 0, v2, J, L => (Int32.ofInt 0, J, L)
  | c + 1, v2, J, L => if (Int32.ofNat ln) ≤ v2 then (Int32.ofInt 0, J, L)
    else if (J sp v2.toNatClampNeg) < (Int32.ofInt 100) then if (J sp v2.toNatClampNeg) < 0 then if (J sp v2.toNatClampNeg) = (Int32.ofInt 22) then if (J sp v2.toNatClampNeg) = (Int32.ofInt 22) then (Int32.ofInt 1, J, nt_u L (p 25) 3 (L (p 27) 0))
            else if (lg_cmp (L (p 27) 1) (Int64.ofNat 0)) = 0 then (x41_7 p sp ln c (v2 + (Int32.ofInt 1)) (nt_u J (p 25) 2 (Int32.ofInt 0)) L)
              else (Int32.ofInt 1, J, nt_u L (p 25) 3 (L (p 27) 0))
          else if (J sp v2.toNatClampNeg) = (Int32.ofInt 23) then if (J sp v2.toNatClampNeg) = (Int32.ofInt 22) then (Int32.ofInt 1, J, nt_u L (p 25) 3 (L (p 27) 0))
              else if (lg_cmp (L (p 27) 1) (Int64.ofNat 0)) = 0 then (x41_7 p sp ln c (v2 + (Int32.ofInt 1)) (nt_u J (p 25) 2 (Int32.ofInt 0)) L)
                else (Int32.ofInt 1, J, nt_u L (p 25) 3 (L (p 27) 0))
            else (x41_7 p sp ln c (v2 + (Int32.ofInt 1)) ((x43 p (J sp v2.toNatClampNeg) J L).1) ((x43 p (J sp v2.toNatClampNeg) J L).2))
        else if (Int32.ofInt 10) ≤ (J sp v2.toNatClampNeg) then if (J sp v2.toNatClampNeg) = (Int32.ofInt 22) then if (J sp v2.toNatClampNeg) = (Int32.ofInt 22) then (Int32.ofInt 1, J, nt_u L (p 25) 3 (L (p 27) 0))
              else if (lg_cmp (L (p 27) 1) (Int64.ofNat 0)) = 0 then (x41_7 p sp ln c (v2 + (Int32.ofInt 1)) (nt_u J (p 25) 2 (Int32.ofInt 0)) L)
                else (Int32.ofInt 1, J, nt_u L (p 25) 3 (L (p 27) 0))
            else if (J sp v2.toNatClampNeg) = (Int32.ofInt 23) then if (J sp v2.toNatClampNeg) = (Int32.ofInt 22) then (Int32.ofInt 1, J, nt_u L (p 25) 3 (L (p 27) 0))
                else if (lg_cmp (L (p 27) 1) (Int64.ofNat 0)) = 0 then (x41_7 p sp ln c (v2 + (Int32.ofInt 1)) (nt_u J (p 25) 2 (Int32.ofInt 0)) L)
                  else (Int32.ofInt 1, J, nt_u L (p 25) 3 (L (p 27) 0))
              else (x41_7 p sp ln c (v2 + (Int32.ofInt 1)) ((x43 p (J sp v2.toNatClampNeg) J L).1) ((x43 p (J sp v2.toNatClampNeg) J L).2))
          else (x41_7 p sp ln c (v2 + (Int32.ofInt 1)) ((x42 p (L (p 26) ((J sp v2.toNatClampNeg).toNatClampNeg)) J L).1) ((x42 p (L (p 26) ((J sp v2.toNatClampNeg).toNatClampNeg)) J L).2))
      else (x41_7 p sp ln c (v2 + (Int32.ofInt 1)) ((x42 p (((J sp v2.toNatClampNeg) - (Int32.ofInt 100)).toInt64) J L).1) ((x42 p (((J sp v2.toNatClampNeg) - (Int32.ofInt 100)).toInt64) J L).2))
theorem xt41_7 {X : nt_X} {d : Nat} {M : nt_M} {o : Option Value × nt_M} {p : Nat → Nat} {sp : Nat} {ln : Nat} {ru : Nat} (hp : xs_P M p) (hs : xs_S M p ru sp ln) : ∀ (c : Nat) (v2 : Int32) (v3 : Int32) (J : Nat → Nat → Int32) (L : Nat → Nat → Int64), (Int32.ofNat ln).toInt - v2.toInt ≤ c → nt_rn X d 41 (7, [(0, .ref (p 25)), (1, .ref sp), (2, .int v2), (3, .int v3)], [], me_w (lw M L) J) o → o = (some (.int ((x41_7 p sp ln c v2 J L).1)), me_w (lw M ((x41_7 p sp ln c v2 J L).2.2)) ((x41_7 p sp ln c v2 J L).2.1)) := by
  intro c
  induction c with
  | zero =>
    intro v2 v3 J L hc k
    have k := ly_revb 2 (c' := (9, [(0, .ref (p 25)), (1, .ref sp), (2, .int v2), (3, .int v3)], [.ref sp, .int v2], me_w (lw M L) J)) rfl k
    have k := lz_len rfl (hs.2.2.1) k
    rw [show nt_l (me_w (lw M L) J) sp = ln from hs.2.2.2] at k
    have k : nt_rn X _ 41 (10, [(0, .ref (p 25)), (1, .ref sp), (2, .int v2), (3, .int v3)], [.int (Int32.ofNat ln), .int v2], me_w (lw M L) J) _ := k
    have k := ly_revb 1 (c' := (if (Int32.ofNat ln) ≤ v2 then 118 else 13, [(0, .ref (p 25)), (1, .ref sp), (2, .int v2), (3, .int v3)], [], me_w (lw M L) J)) rfl k
    have h10 : (Int32.ofNat ln) ≤ v2 := lx_end hc
    rw [if_pos h10] at k
    have k := ly_revb 1 (c' := (119, [(0, .ref (p 25)), (1, .ref sp), (2, .int v2), (3, .int v3)], [.int (Int32.ofInt 0)], me_w (lw M L) J)) rfl k
    have k := lz_ri rfl (by decide) k
    rw [k, x41_7]
  | succ c ih =>
    intro v2 v3 J L hc k
    have k := ly_revb 2 (c' := (9, [(0, .ref (p 25)), (1, .ref sp), (2, .int v2), (3, .int v3)], [.ref sp, .int v2], me_w (lw M L) J)) rfl k
    have k := lz_len rfl (hs.2.2.1) k
    rw [show nt_l (me_w (lw M L) J) sp = ln from hs.2.2.2] at k
    have k : nt_rn X _ 41 (10, [(0, .ref (p 25)), (1, .ref sp), (2, .int v2), (3, .int v3)], [.int (Int32.ofNat ln), .int v2], me_w (lw M L) J) _ := k
    have k := ly_revb 1 (c' := (if (Int32.ofNat ln) ≤ v2 then 118 else 13, [(0, .ref (p 25)), (1, .ref sp), (2, .int v2), (3, .int v3)], [], me_w (lw M L) J)) rfl k
    by_cases h10 : (Int32.ofNat ln) ≤ v2
    · rw [if_pos h10] at k
      have k := ly_revb 1 (c' := (119, [(0, .ref (p 25)), (1, .ref sp), (2, .int v2), (3, .int v3)], [.int (Int32.ofInt 0)], me_w (lw M L) J)) rfl k
      have k := lz_ri rfl (by decide) k
      rw [k, x41_7, if_pos h10]
    · rw [if_neg h10] at k
      have k := ly_revb 2 (c' := (15, [(0, .ref (p 25)), (1, .ref sp), (2, .int v2), (3, .int v3)], [.int v2, .ref sp], me_w (lw M L) J)) rfl k
      have k := mx_iald (v := J sp v2.toNatClampNeg) rfl (hs.2.2.1) (rfl) k
      have k := ly_revb 4 (c' := (if (J sp v2.toNatClampNeg) < (Int32.ofInt 100) then 35 else 23, [(3, .int (J sp v2.toNatClampNeg)), (0, .ref (p 25)), (1, .ref sp), (2, .int v2)], [], me_w (lw M L) J)) rfl k
      by_cases h20 : (J sp v2.toNatClampNeg) < (Int32.ofInt 100)
      · rw [if_pos h20] at k
        have k := ly_revb 2 (c' := (if (J sp v2.toNatClampNeg) < 0 then 58 else 39, [(3, .int (J sp v2.toNatClampNeg)), (0, .ref (p 25)), (1, .ref sp), (2, .int v2)], [], me_w (lw M L) J)) rfl k
        by_cases h36 : (J sp v2.toNatClampNeg) < 0
        · rw [if_pos h36] at k
          have k := ly_revb 3 (c' := (if (J sp v2.toNatClampNeg) = (Int32.ofInt 22) then 70 else 64, [(3, .int (J sp v2.toNatClampNeg)), (0, .ref (p 25)), (1, .ref sp), (2, .int v2)], [], me_w (lw M L) J)) rfl k
          by_cases h61 : (J sp v2.toNatClampNeg) = (Int32.ofInt 22)
          · rw [if_pos h61] at k
            have k := ly_revb 3 (c' := (if (J sp v2.toNatClampNeg) = (Int32.ofInt 22) then 87 else 76, [(3, .int (J sp v2.toNatClampNeg)), (0, .ref (p 25)), (1, .ref sp), (2, .int v2)], [], me_w (lw M L) J)) rfl k
            by_cases h73 : (J sp v2.toNatClampNeg) = (Int32.ofInt 22)
            · rw [if_pos h73] at k
              have k := ly_revb 2 (c' := (89, [(3, .int (J sp v2.toNatClampNeg)), (0, .ref (p 25)), (1, .ref sp), (2, .int v2)], [.ref (p 25), .ref (p 25)], me_w (lw M L) J)) rfl k
              have k := lz_get (a := (p 25)) (g := 301) (M := me_w (lw M L) J) (v := .ref (p 27)) rfl (nt_gfR rfl (hp.1 (25, 1, 27) (by decide))) k
              have k := ly_revb 1 (c' := (93, [(3, .int (J sp v2.toNatClampNeg)), (0, .ref (p 25)), (1, .ref sp), (2, .int v2)], [.int (Int32.ofInt 0), .ref (p 27), .ref (p 25)], me_w (lw M L) J)) rfl k
              have k := mx_lald (v := L (p 27) 0) rfl ((congrArg (L (p 27)) (show (Int32.ofInt 0).toNatClampNeg = 0 from rfl)).trans (rfl)) k
              have k := mx_putl rfl (by decide) k
              have k : nt_rn X _ 41 (97, [(3, .int (J sp v2.toNatClampNeg)), (0, .ref (p 25)), (1, .ref sp), (2, .int v2)], [], me_w (lw M (nt_u L (p 25) 3 (L (p 27) 0))) J) _ := k
              have k := ly_revb 1 (c' := (98, [(3, .int (J sp v2.toNatClampNeg)), (0, .ref (p 25)), (1, .ref sp), (2, .int v2)], [.int (Int32.ofInt 1)], me_w (lw M (nt_u L (p 25) 3 (L (p 27) 0))) J)) rfl k
              have k := lz_ri rfl (by decide) k
              rw [k, x41_7, if_neg h10, if_pos h20, if_pos h36, if_pos h61, if_pos h73]
            · rw [if_neg h73] at k
              have k := ly_revb 1 (c' := (77, [(3, .int (J sp v2.toNatClampNeg)), (0, .ref (p 25)), (1, .ref sp), (2, .int v2)], [.ref (p 25)], me_w (lw M L) J)) rfl k
              have k := lz_get (a := (p 25)) (g := 301) (M := me_w (lw M L) J) (v := .ref (p 27)) rfl (nt_gfR rfl (hp.1 (25, 1, 27) (by decide))) k
              have k := ly_revb 1 (c' := (81, [(3, .int (J sp v2.toNatClampNeg)), (0, .ref (p 25)), (1, .ref sp), (2, .int v2)], [.int (Int32.ofInt 1), .ref (p 27)], me_w (lw M L) J)) rfl k
              have k := mx_lald (v := L (p 27) 1) rfl ((congrArg (L (p 27)) (show (Int32.ofInt 1).toNatClampNeg = 1 from rfl)).trans (rfl)) k
              have k := ly_revb 3 (c' := (if (lg_cmp (L (p 27) 1) (Int64.ofNat 0)) = 0 then 99 else 87, [(3, .int (J sp v2.toNatClampNeg)), (0, .ref (p 25)), (1, .ref sp), (2, .int v2)], [], me_w (lw M L) J)) rfl k
              by_cases h84 : (lg_cmp (L (p 27) 1) (Int64.ofNat 0)) = 0
              · rw [if_pos h84] at k
                have k := ly_revb 2 (c' := (101, [(3, .int (J sp v2.toNatClampNeg)), (0, .ref (p 25)), (1, .ref sp), (2, .int v2)], [.int (Int32.ofInt 0), .ref (p 25)], me_w (lw M L) J)) rfl k
                have k := me_put rfl (by decide) k
                have k : nt_rn X _ 41 (104, [(3, .int (J sp v2.toNatClampNeg)), (0, .ref (p 25)), (1, .ref sp), (2, .int v2)], [], me_w (lw M L) (nt_u J (p 25) 2 (Int32.ofInt 0))) _ := k
                have k := ly_revb 3 (c' := (7, [(2, .int (v2 + (Int32.ofInt 1))), (3, .int (J sp v2.toNatClampNeg)), (0, .ref (p 25)), (1, .ref sp)], [], me_w (lw M L) (nt_u J (p 25) 2 (Int32.ofInt 0)))) rfl k
                have k := nt_rn_w (a := [(2, .int (v2 + (Int32.ofInt 1))), (3, .int (J sp v2.toNatClampNeg)), (0, .ref (p 25)), (1, .ref sp)]) (b := [(0, .ref (p 25)), (1, .ref sp), (2, .int (v2 + (Int32.ofInt 1))), (3, .int (J sp v2.toNatClampNeg))]) ⟨rfl, rfl, rfl, rfl, trivial⟩ rfl k
                have k := ih (v2 + (Int32.ofInt 1)) (J sp v2.toNatClampNeg) (nt_u J (p 25) 2 (Int32.ofInt 0)) L (lx_dec h10 hc) k
                rw [k, x41_7, if_neg h10, if_pos h20, if_pos h36, if_pos h61, if_neg h73, if_pos h84]
              · rw [if_neg h84] at k
                have k := ly_revb 2 (c' := (89, [(3, .int (J sp v2.toNatClampNeg)), (0, .ref (p 25)), (1, .ref sp), (2, .int v2)], [.ref (p 25), .ref (p 25)], me_w (lw M L) J)) rfl k
                have k := lz_get (a := (p 25)) (g := 301) (M := me_w (lw M L) J) (v := .ref (p 27)) rfl (nt_gfR rfl (hp.1 (25, 1, 27) (by decide))) k
                have k := ly_revb 1 (c' := (93, [(3, .int (J sp v2.toNatClampNeg)), (0, .ref (p 25)), (1, .ref sp), (2, .int v2)], [.int (Int32.ofInt 0), .ref (p 27), .ref (p 25)], me_w (lw M L) J)) rfl k
                have k := mx_lald (v := L (p 27) 0) rfl ((congrArg (L (p 27)) (show (Int32.ofInt 0).toNatClampNeg = 0 from rfl)).trans (rfl)) k
                have k := mx_putl rfl (by decide) k
                have k : nt_rn X _ 41 (97, [(3, .int (J sp v2.toNatClampNeg)), (0, .ref (p 25)), (1, .ref sp), (2, .int v2)], [], me_w (lw M (nt_u L (p 25) 3 (L (p 27) 0))) J) _ := k
                have k := ly_revb 1 (c' := (98, [(3, .int (J sp v2.toNatClampNeg)), (0, .ref (p 25)), (1, .ref sp), (2, .int v2)], [.int (Int32.ofInt 1)], me_w (lw M (nt_u L (p 25) 3 (L (p 27) 0))) J)) rfl k
                have k := lz_ri rfl (by decide) k
                rw [k, x41_7, if_neg h10, if_pos h20, if_pos h36, if_pos h61, if_neg h73, if_neg h84]
          · rw [if_neg h61] at k
            have k := ly_revb 3 (c' := (if (J sp v2.toNatClampNeg) = (Int32.ofInt 23) then 70 else 107, [(3, .int (J sp v2.toNatClampNeg)), (0, .ref (p 25)), (1, .ref sp), (2, .int v2)], [], me_w (lw M L) J)) rfl k
            by_cases h67 : (J sp v2.toNatClampNeg) = (Int32.ofInt 23)
            · rw [if_pos h67] at k
              have k := ly_revb 3 (c' := (if (J sp v2.toNatClampNeg) = (Int32.ofInt 22) then 87 else 76, [(3, .int (J sp v2.toNatClampNeg)), (0, .ref (p 25)), (1, .ref sp), (2, .int v2)], [], me_w (lw M L) J)) rfl k
              by_cases h73 : (J sp v2.toNatClampNeg) = (Int32.ofInt 22)
              · rw [if_pos h73] at k
                have k := ly_revb 2 (c' := (89, [(3, .int (J sp v2.toNatClampNeg)), (0, .ref (p 25)), (1, .ref sp), (2, .int v2)], [.ref (p 25), .ref (p 25)], me_w (lw M L) J)) rfl k
                have k := lz_get (a := (p 25)) (g := 301) (M := me_w (lw M L) J) (v := .ref (p 27)) rfl (nt_gfR rfl (hp.1 (25, 1, 27) (by decide))) k
                have k := ly_revb 1 (c' := (93, [(3, .int (J sp v2.toNatClampNeg)), (0, .ref (p 25)), (1, .ref sp), (2, .int v2)], [.int (Int32.ofInt 0), .ref (p 27), .ref (p 25)], me_w (lw M L) J)) rfl k
                have k := mx_lald (v := L (p 27) 0) rfl ((congrArg (L (p 27)) (show (Int32.ofInt 0).toNatClampNeg = 0 from rfl)).trans (rfl)) k
                have k := mx_putl rfl (by decide) k
                have k : nt_rn X _ 41 (97, [(3, .int (J sp v2.toNatClampNeg)), (0, .ref (p 25)), (1, .ref sp), (2, .int v2)], [], me_w (lw M (nt_u L (p 25) 3 (L (p 27) 0))) J) _ := k
                have k := ly_revb 1 (c' := (98, [(3, .int (J sp v2.toNatClampNeg)), (0, .ref (p 25)), (1, .ref sp), (2, .int v2)], [.int (Int32.ofInt 1)], me_w (lw M (nt_u L (p 25) 3 (L (p 27) 0))) J)) rfl k
                have k := lz_ri rfl (by decide) k
                rw [k, x41_7, if_neg h10, if_pos h20, if_pos h36, if_neg h61, if_pos h67, if_pos h73]
              · rw [if_neg h73] at k
                have k := ly_revb 1 (c' := (77, [(3, .int (J sp v2.toNatClampNeg)), (0, .ref (p 25)), (1, .ref sp), (2, .int v2)], [.ref (p 25)], me_w (lw M L) J)) rfl k
                have k := lz_get (a := (p 25)) (g := 301) (M := me_w (lw M L) J) (v := .ref (p 27)) rfl (nt_gfR rfl (hp.1 (25, 1, 27) (by decide))) k
                have k := ly_revb 1 (c' := (81, [(3, .int (J sp v2.toNatClampNeg)), (0, .ref (p 25)), (1, .ref sp), (2, .int v2)], [.int (Int32.ofInt 1), .ref (p 27)], me_w (lw M L) J)) rfl k
                have k := mx_lald (v := L (p 27) 1) rfl ((congrArg (L (p 27)) (show (Int32.ofInt 1).toNatClampNeg = 1 from rfl)).trans (rfl)) k
                have k := ly_revb 3 (c' := (if (lg_cmp (L (p 27) 1) (Int64.ofNat 0)) = 0 then 99 else 87, [(3, .int (J sp v2.toNatClampNeg)), (0, .ref (p 25)), (1, .ref sp), (2, .int v2)], [], me_w (lw M L) J)) rfl k
                by_cases h84 : (lg_cmp (L (p 27) 1) (Int64.ofNat 0)) = 0
                · rw [if_pos h84] at k
                  have k := ly_revb 2 (c' := (101, [(3, .int (J sp v2.toNatClampNeg)), (0, .ref (p 25)), (1, .ref sp), (2, .int v2)], [.int (Int32.ofInt 0), .ref (p 25)], me_w (lw M L) J)) rfl k
                  have k := me_put rfl (by decide) k
                  have k : nt_rn X _ 41 (104, [(3, .int (J sp v2.toNatClampNeg)), (0, .ref (p 25)), (1, .ref sp), (2, .int v2)], [], me_w (lw M L) (nt_u J (p 25) 2 (Int32.ofInt 0))) _ := k
                  have k := ly_revb 3 (c' := (7, [(2, .int (v2 + (Int32.ofInt 1))), (3, .int (J sp v2.toNatClampNeg)), (0, .ref (p 25)), (1, .ref sp)], [], me_w (lw M L) (nt_u J (p 25) 2 (Int32.ofInt 0)))) rfl k
                  have k := nt_rn_w (a := [(2, .int (v2 + (Int32.ofInt 1))), (3, .int (J sp v2.toNatClampNeg)), (0, .ref (p 25)), (1, .ref sp)]) (b := [(0, .ref (p 25)), (1, .ref sp), (2, .int (v2 + (Int32.ofInt 1))), (3, .int (J sp v2.toNatClampNeg))]) ⟨rfl, rfl, rfl, rfl, trivial⟩ rfl k
                  have k := ih (v2 + (Int32.ofInt 1)) (J sp v2.toNatClampNeg) (nt_u J (p 25) 2 (Int32.ofInt 0)) L (lx_dec h10 hc) k
                  rw [k, x41_7, if_neg h10, if_pos h20, if_pos h36, if_neg h61, if_pos h67, if_neg h73, if_pos h84]
                · rw [if_neg h84] at k
                  have k := ly_revb 2 (c' := (89, [(3, .int (J sp v2.toNatClampNeg)), (0, .ref (p 25)), (1, .ref sp), (2, .int v2)], [.ref (p 25), .ref (p 25)], me_w (lw M L) J)) rfl k
                  have k := lz_get (a := (p 25)) (g := 301) (M := me_w (lw M L) J) (v := .ref (p 27)) rfl (nt_gfR rfl (hp.1 (25, 1, 27) (by decide))) k
                  have k := ly_revb 1 (c' := (93, [(3, .int (J sp v2.toNatClampNeg)), (0, .ref (p 25)), (1, .ref sp), (2, .int v2)], [.int (Int32.ofInt 0), .ref (p 27), .ref (p 25)], me_w (lw M L) J)) rfl k
                  have k := mx_lald (v := L (p 27) 0) rfl ((congrArg (L (p 27)) (show (Int32.ofInt 0).toNatClampNeg = 0 from rfl)).trans (rfl)) k
                  have k := mx_putl rfl (by decide) k
                  have k : nt_rn X _ 41 (97, [(3, .int (J sp v2.toNatClampNeg)), (0, .ref (p 25)), (1, .ref sp), (2, .int v2)], [], me_w (lw M (nt_u L (p 25) 3 (L (p 27) 0))) J) _ := k
                  have k := ly_revb 1 (c' := (98, [(3, .int (J sp v2.toNatClampNeg)), (0, .ref (p 25)), (1, .ref sp), (2, .int v2)], [.int (Int32.ofInt 1)], me_w (lw M (nt_u L (p 25) 3 (L (p 27) 0))) J)) rfl k
                  have k := lz_ri rfl (by decide) k
                  rw [k, x41_7, if_neg h10, if_pos h20, if_pos h36, if_neg h61, if_pos h67, if_neg h73, if_neg h84]
            · rw [if_neg h67] at k
              have k := ly_revb 2 (c' := (109, [(3, .int (J sp v2.toNatClampNeg)), (0, .ref (p 25)), (1, .ref sp), (2, .int v2)], [.int (J sp v2.toNatClampNeg), .ref (p 25)], me_w (lw M L) J)) rfl k
              obtain ⟨d1, o1, ed, kc, k⟩ := lz_c (g := 43) (q := 1) (vs := [.ref (p 25), .int (J sp v2.toNatClampNeg)]) (rest := []) rfl rfl (by decide) (Or.inr (Or.inl ⟨_, rfl, rfl⟩)) rfl k
              have e1 := xt43 hp kc
              subst e1
              have k : nt_rn X _ 41 (112, [(3, .int (J sp v2.toNatClampNeg)), (0, .ref (p 25)), (1, .ref sp), (2, .int v2)], [], me_w (lw M ((x43 p (J sp v2.toNatClampNeg) J L).2)) ((x43 p (J sp v2.toNatClampNeg) J L).1)) _ := k
              have k := ly_revb 2 (c' := (7, [(2, .int (v2 + (Int32.ofInt 1))), (3, .int (J sp v2.toNatClampNeg)), (0, .ref (p 25)), (1, .ref sp)], [], me_w (lw M ((x43 p (J sp v2.toNatClampNeg) J L).2)) ((x43 p (J sp v2.toNatClampNeg) J L).1))) rfl k
              have k := nt_rn_w (a := [(2, .int (v2 + (Int32.ofInt 1))), (3, .int (J sp v2.toNatClampNeg)), (0, .ref (p 25)), (1, .ref sp)]) (b := [(0, .ref (p 25)), (1, .ref sp), (2, .int (v2 + (Int32.ofInt 1))), (3, .int (J sp v2.toNatClampNeg))]) ⟨rfl, rfl, rfl, rfl, trivial⟩ rfl k
              have k := ih (v2 + (Int32.ofInt 1)) (J sp v2.toNatClampNeg) ((x43 p (J sp v2.toNatClampNeg) J L).1) ((x43 p (J sp v2.toNatClampNeg) J L).2) (lx_dec h10 hc) k
              rw [k, x41_7, if_neg h10, if_pos h20, if_pos h36, if_neg h61, if_neg h67]
        · rw [if_neg h36] at k
          have k := ly_revb 3 (c' := (if (Int32.ofInt 10) ≤ (J sp v2.toNatClampNeg) then 58 else 45, [(3, .int (J sp v2.toNatClampNeg)), (0, .ref (p 25)), (1, .ref sp), (2, .int v2)], [], me_w (lw M L) J)) rfl k
          by_cases h42 : (Int32.ofInt 10) ≤ (J sp v2.toNatClampNeg)
          · rw [if_pos h42] at k
            have k := ly_revb 3 (c' := (if (J sp v2.toNatClampNeg) = (Int32.ofInt 22) then 70 else 64, [(3, .int (J sp v2.toNatClampNeg)), (0, .ref (p 25)), (1, .ref sp), (2, .int v2)], [], me_w (lw M L) J)) rfl k
            by_cases h61 : (J sp v2.toNatClampNeg) = (Int32.ofInt 22)
            · rw [if_pos h61] at k
              have k := ly_revb 3 (c' := (if (J sp v2.toNatClampNeg) = (Int32.ofInt 22) then 87 else 76, [(3, .int (J sp v2.toNatClampNeg)), (0, .ref (p 25)), (1, .ref sp), (2, .int v2)], [], me_w (lw M L) J)) rfl k
              by_cases h73 : (J sp v2.toNatClampNeg) = (Int32.ofInt 22)
              · rw [if_pos h73] at k
                have k := ly_revb 2 (c' := (89, [(3, .int (J sp v2.toNatClampNeg)), (0, .ref (p 25)), (1, .ref sp), (2, .int v2)], [.ref (p 25), .ref (p 25)], me_w (lw M L) J)) rfl k
                have k := lz_get (a := (p 25)) (g := 301) (M := me_w (lw M L) J) (v := .ref (p 27)) rfl (nt_gfR rfl (hp.1 (25, 1, 27) (by decide))) k
                have k := ly_revb 1 (c' := (93, [(3, .int (J sp v2.toNatClampNeg)), (0, .ref (p 25)), (1, .ref sp), (2, .int v2)], [.int (Int32.ofInt 0), .ref (p 27), .ref (p 25)], me_w (lw M L) J)) rfl k
                have k := mx_lald (v := L (p 27) 0) rfl ((congrArg (L (p 27)) (show (Int32.ofInt 0).toNatClampNeg = 0 from rfl)).trans (rfl)) k
                have k := mx_putl rfl (by decide) k
                have k : nt_rn X _ 41 (97, [(3, .int (J sp v2.toNatClampNeg)), (0, .ref (p 25)), (1, .ref sp), (2, .int v2)], [], me_w (lw M (nt_u L (p 25) 3 (L (p 27) 0))) J) _ := k
                have k := ly_revb 1 (c' := (98, [(3, .int (J sp v2.toNatClampNeg)), (0, .ref (p 25)), (1, .ref sp), (2, .int v2)], [.int (Int32.ofInt 1)], me_w (lw M (nt_u L (p 25) 3 (L (p 27) 0))) J)) rfl k
                have k := lz_ri rfl (by decide) k
                rw [k, x41_7, if_neg h10, if_pos h20, if_neg h36, if_pos h42, if_pos h61, if_pos h73]
              · rw [if_neg h73] at k
                have k := ly_revb 1 (c' := (77, [(3, .int (J sp v2.toNatClampNeg)), (0, .ref (p 25)), (1, .ref sp), (2, .int v2)], [.ref (p 25)], me_w (lw M L) J)) rfl k
                have k := lz_get (a := (p 25)) (g := 301) (M := me_w (lw M L) J) (v := .ref (p 27)) rfl (nt_gfR rfl (hp.1 (25, 1, 27) (by decide))) k
                have k := ly_revb 1 (c' := (81, [(3, .int (J sp v2.toNatClampNeg)), (0, .ref (p 25)), (1, .ref sp), (2, .int v2)], [.int (Int32.ofInt 1), .ref (p 27)], me_w (lw M L) J)) rfl k
                have k := mx_lald (v := L (p 27) 1) rfl ((congrArg (L (p 27)) (show (Int32.ofInt 1).toNatClampNeg = 1 from rfl)).trans (rfl)) k
                have k := ly_revb 3 (c' := (if (lg_cmp (L (p 27) 1) (Int64.ofNat 0)) = 0 then 99 else 87, [(3, .int (J sp v2.toNatClampNeg)), (0, .ref (p 25)), (1, .ref sp), (2, .int v2)], [], me_w (lw M L) J)) rfl k
                by_cases h84 : (lg_cmp (L (p 27) 1) (Int64.ofNat 0)) = 0
                · rw [if_pos h84] at k
                  have k := ly_revb 2 (c' := (101, [(3, .int (J sp v2.toNatClampNeg)), (0, .ref (p 25)), (1, .ref sp), (2, .int v2)], [.int (Int32.ofInt 0), .ref (p 25)], me_w (lw M L) J)) rfl k
                  have k := me_put rfl (by decide) k
                  have k : nt_rn X _ 41 (104, [(3, .int (J sp v2.toNatClampNeg)), (0, .ref (p 25)), (1, .ref sp), (2, .int v2)], [], me_w (lw M L) (nt_u J (p 25) 2 (Int32.ofInt 0))) _ := k
                  have k := ly_revb 3 (c' := (7, [(2, .int (v2 + (Int32.ofInt 1))), (3, .int (J sp v2.toNatClampNeg)), (0, .ref (p 25)), (1, .ref sp)], [], me_w (lw M L) (nt_u J (p 25) 2 (Int32.ofInt 0)))) rfl k
                  have k := nt_rn_w (a := [(2, .int (v2 + (Int32.ofInt 1))), (3, .int (J sp v2.toNatClampNeg)), (0, .ref (p 25)), (1, .ref sp)]) (b := [(0, .ref (p 25)), (1, .ref sp), (2, .int (v2 + (Int32.ofInt 1))), (3, .int (J sp v2.toNatClampNeg))]) ⟨rfl, rfl, rfl, rfl, trivial⟩ rfl k
                  have k := ih (v2 + (Int32.ofInt 1)) (J sp v2.toNatClampNeg) (nt_u J (p 25) 2 (Int32.ofInt 0)) L (lx_dec h10 hc) k
                  rw [k, x41_7, if_neg h10, if_pos h20, if_neg h36, if_pos h42, if_pos h61, if_neg h73, if_pos h84]
                · rw [if_neg h84] at k
                  have k := ly_revb 2 (c' := (89, [(3, .int (J sp v2.toNatClampNeg)), (0, .ref (p 25)), (1, .ref sp), (2, .int v2)], [.ref (p 25), .ref (p 25)], me_w (lw M L) J)) rfl k
                  have k := lz_get (a := (p 25)) (g := 301) (M := me_w (lw M L) J) (v := .ref (p 27)) rfl (nt_gfR rfl (hp.1 (25, 1, 27) (by decide))) k
                  have k := ly_revb 1 (c' := (93, [(3, .int (J sp v2.toNatClampNeg)), (0, .ref (p 25)), (1, .ref sp), (2, .int v2)], [.int (Int32.ofInt 0), .ref (p 27), .ref (p 25)], me_w (lw M L) J)) rfl k
                  have k := mx_lald (v := L (p 27) 0) rfl ((congrArg (L (p 27)) (show (Int32.ofInt 0).toNatClampNeg = 0 from rfl)).trans (rfl)) k
                  have k := mx_putl rfl (by decide) k
                  have k : nt_rn X _ 41 (97, [(3, .int (J sp v2.toNatClampNeg)), (0, .ref (p 25)), (1, .ref sp), (2, .int v2)], [], me_w (lw M (nt_u L (p 25) 3 (L (p 27) 0))) J) _ := k
                  have k := ly_revb 1 (c' := (98, [(3, .int (J sp v2.toNatClampNeg)), (0, .ref (p 25)), (1, .ref sp), (2, .int v2)], [.int (Int32.ofInt 1)], me_w (lw M (nt_u L (p 25) 3 (L (p 27) 0))) J)) rfl k
                  have k := lz_ri rfl (by decide) k
                  rw [k, x41_7, if_neg h10, if_pos h20, if_neg h36, if_pos h42, if_pos h61, if_neg h73, if_neg h84]
            · rw [if_neg h61] at k
              have k := ly_revb 3 (c' := (if (J sp v2.toNatClampNeg) = (Int32.ofInt 23) then 70 else 107, [(3, .int (J sp v2.toNatClampNeg)), (0, .ref (p 25)), (1, .ref sp), (2, .int v2)], [], me_w (lw M L) J)) rfl k
              by_cases h67 : (J sp v2.toNatClampNeg) = (Int32.ofInt 23)
              · rw [if_pos h67] at k
                have k := ly_revb 3 (c' := (if (J sp v2.toNatClampNeg) = (Int32.ofInt 22) then 87 else 76, [(3, .int (J sp v2.toNatClampNeg)), (0, .ref (p 25)), (1, .ref sp), (2, .int v2)], [], me_w (lw M L) J)) rfl k
                by_cases h73 : (J sp v2.toNatClampNeg) = (Int32.ofInt 22)
                · rw [if_pos h73] at k
                  have k := ly_revb 2 (c' := (89, [(3, .int (J sp v2.toNatClampNeg)), (0, .ref (p 25)), (1, .ref sp), (2, .int v2)], [.ref (p 25), .ref (p 25)], me_w (lw M L) J)) rfl k
                  have k := lz_get (a := (p 25)) (g := 301) (M := me_w (lw M L) J) (v := .ref (p 27)) rfl (nt_gfR rfl (hp.1 (25, 1, 27) (by decide))) k
                  have k := ly_revb 1 (c' := (93, [(3, .int (J sp v2.toNatClampNeg)), (0, .ref (p 25)), (1, .ref sp), (2, .int v2)], [.int (Int32.ofInt 0), .ref (p 27), .ref (p 25)], me_w (lw M L) J)) rfl k
                  have k := mx_lald (v := L (p 27) 0) rfl ((congrArg (L (p 27)) (show (Int32.ofInt 0).toNatClampNeg = 0 from rfl)).trans (rfl)) k
                  have k := mx_putl rfl (by decide) k
                  have k : nt_rn X _ 41 (97, [(3, .int (J sp v2.toNatClampNeg)), (0, .ref (p 25)), (1, .ref sp), (2, .int v2)], [], me_w (lw M (nt_u L (p 25) 3 (L (p 27) 0))) J) _ := k
                  have k := ly_revb 1 (c' := (98, [(3, .int (J sp v2.toNatClampNeg)), (0, .ref (p 25)), (1, .ref sp), (2, .int v2)], [.int (Int32.ofInt 1)], me_w (lw M (nt_u L (p 25) 3 (L (p 27) 0))) J)) rfl k
                  have k := lz_ri rfl (by decide) k
                  rw [k, x41_7, if_neg h10, if_pos h20, if_neg h36, if_pos h42, if_neg h61, if_pos h67, if_pos h73]
                · rw [if_neg h73] at k
                  have k := ly_revb 1 (c' := (77, [(3, .int (J sp v2.toNatClampNeg)), (0, .ref (p 25)), (1, .ref sp), (2, .int v2)], [.ref (p 25)], me_w (lw M L) J)) rfl k
                  have k := lz_get (a := (p 25)) (g := 301) (M := me_w (lw M L) J) (v := .ref (p 27)) rfl (nt_gfR rfl (hp.1 (25, 1, 27) (by decide))) k
                  have k := ly_revb 1 (c' := (81, [(3, .int (J sp v2.toNatClampNeg)), (0, .ref (p 25)), (1, .ref sp), (2, .int v2)], [.int (Int32.ofInt 1), .ref (p 27)], me_w (lw M L) J)) rfl k
                  have k := mx_lald (v := L (p 27) 1) rfl ((congrArg (L (p 27)) (show (Int32.ofInt 1).toNatClampNeg = 1 from rfl)).trans (rfl)) k
                  have k := ly_revb 3 (c' := (if (lg_cmp (L (p 27) 1) (Int64.ofNat 0)) = 0 then 99 else 87, [(3, .int (J sp v2.toNatClampNeg)), (0, .ref (p 25)), (1, .ref sp), (2, .int v2)], [], me_w (lw M L) J)) rfl k
                  by_cases h84 : (lg_cmp (L (p 27) 1) (Int64.ofNat 0)) = 0
                  · rw [if_pos h84] at k
                    have k := ly_revb 2 (c' := (101, [(3, .int (J sp v2.toNatClampNeg)), (0, .ref (p 25)), (1, .ref sp), (2, .int v2)], [.int (Int32.ofInt 0), .ref (p 25)], me_w (lw M L) J)) rfl k
                    have k := me_put rfl (by decide) k
                    have k : nt_rn X _ 41 (104, [(3, .int (J sp v2.toNatClampNeg)), (0, .ref (p 25)), (1, .ref sp), (2, .int v2)], [], me_w (lw M L) (nt_u J (p 25) 2 (Int32.ofInt 0))) _ := k
                    have k := ly_revb 3 (c' := (7, [(2, .int (v2 + (Int32.ofInt 1))), (3, .int (J sp v2.toNatClampNeg)), (0, .ref (p 25)), (1, .ref sp)], [], me_w (lw M L) (nt_u J (p 25) 2 (Int32.ofInt 0)))) rfl k
                    have k := nt_rn_w (a := [(2, .int (v2 + (Int32.ofInt 1))), (3, .int (J sp v2.toNatClampNeg)), (0, .ref (p 25)), (1, .ref sp)]) (b := [(0, .ref (p 25)), (1, .ref sp), (2, .int (v2 + (Int32.ofInt 1))), (3, .int (J sp v2.toNatClampNeg))]) ⟨rfl, rfl, rfl, rfl, trivial⟩ rfl k
                    have k := ih (v2 + (Int32.ofInt 1)) (J sp v2.toNatClampNeg) (nt_u J (p 25) 2 (Int32.ofInt 0)) L (lx_dec h10 hc) k
                    rw [k, x41_7, if_neg h10, if_pos h20, if_neg h36, if_pos h42, if_neg h61, if_pos h67, if_neg h73, if_pos h84]
                  · rw [if_neg h84] at k
                    have k := ly_revb 2 (c' := (89, [(3, .int (J sp v2.toNatClampNeg)), (0, .ref (p 25)), (1, .ref sp), (2, .int v2)], [.ref (p 25), .ref (p 25)], me_w (lw M L) J)) rfl k
                    have k := lz_get (a := (p 25)) (g := 301) (M := me_w (lw M L) J) (v := .ref (p 27)) rfl (nt_gfR rfl (hp.1 (25, 1, 27) (by decide))) k
                    have k := ly_revb 1 (c' := (93, [(3, .int (J sp v2.toNatClampNeg)), (0, .ref (p 25)), (1, .ref sp), (2, .int v2)], [.int (Int32.ofInt 0), .ref (p 27), .ref (p 25)], me_w (lw M L) J)) rfl k
                    have k := mx_lald (v := L (p 27) 0) rfl ((congrArg (L (p 27)) (show (Int32.ofInt 0).toNatClampNeg = 0 from rfl)).trans (rfl)) k
                    have k := mx_putl rfl (by decide) k
                    have k : nt_rn X _ 41 (97, [(3, .int (J sp v2.toNatClampNeg)), (0, .ref (p 25)), (1, .ref sp), (2, .int v2)], [], me_w (lw M (nt_u L (p 25) 3 (L (p 27) 0))) J) _ := k
                    have k := ly_revb 1 (c' := (98, [(3, .int (J sp v2.toNatClampNeg)), (0, .ref (p 25)), (1, .ref sp), (2, .int v2)], [.int (Int32.ofInt 1)], me_w (lw M (nt_u L (p 25) 3 (L (p 27) 0))) J)) rfl k
                    have k := lz_ri rfl (by decide) k
                    rw [k, x41_7, if_neg h10, if_pos h20, if_neg h36, if_pos h42, if_neg h61, if_pos h67, if_neg h73, if_neg h84]
              · rw [if_neg h67] at k
                have k := ly_revb 2 (c' := (109, [(3, .int (J sp v2.toNatClampNeg)), (0, .ref (p 25)), (1, .ref sp), (2, .int v2)], [.int (J sp v2.toNatClampNeg), .ref (p 25)], me_w (lw M L) J)) rfl k
                obtain ⟨d1, o1, ed, kc, k⟩ := lz_c (g := 43) (q := 1) (vs := [.ref (p 25), .int (J sp v2.toNatClampNeg)]) (rest := []) rfl rfl (by decide) (Or.inr (Or.inl ⟨_, rfl, rfl⟩)) rfl k
                have e1 := xt43 hp kc
                subst e1
                have k : nt_rn X _ 41 (112, [(3, .int (J sp v2.toNatClampNeg)), (0, .ref (p 25)), (1, .ref sp), (2, .int v2)], [], me_w (lw M ((x43 p (J sp v2.toNatClampNeg) J L).2)) ((x43 p (J sp v2.toNatClampNeg) J L).1)) _ := k
                have k := ly_revb 2 (c' := (7, [(2, .int (v2 + (Int32.ofInt 1))), (3, .int (J sp v2.toNatClampNeg)), (0, .ref (p 25)), (1, .ref sp)], [], me_w (lw M ((x43 p (J sp v2.toNatClampNeg) J L).2)) ((x43 p (J sp v2.toNatClampNeg) J L).1))) rfl k
                have k := nt_rn_w (a := [(2, .int (v2 + (Int32.ofInt 1))), (3, .int (J sp v2.toNatClampNeg)), (0, .ref (p 25)), (1, .ref sp)]) (b := [(0, .ref (p 25)), (1, .ref sp), (2, .int (v2 + (Int32.ofInt 1))), (3, .int (J sp v2.toNatClampNeg))]) ⟨rfl, rfl, rfl, rfl, trivial⟩ rfl k
                have k := ih (v2 + (Int32.ofInt 1)) (J sp v2.toNatClampNeg) ((x43 p (J sp v2.toNatClampNeg) J L).1) ((x43 p (J sp v2.toNatClampNeg) J L).2) (lx_dec h10 hc) k
                rw [k, x41_7, if_neg h10, if_pos h20, if_neg h36, if_pos h42, if_neg h61, if_neg h67]
          · rw [if_neg h42] at k
            have k := ly_revb 2 (c' := (47, [(3, .int (J sp v2.toNatClampNeg)), (0, .ref (p 25)), (1, .ref sp), (2, .int v2)], [.ref (p 25), .ref (p 25)], me_w (lw M L) J)) rfl k
            have k := lz_get (a := (p 25)) (g := 300) (M := me_w (lw M L) J) (v := .ref (p 26)) rfl (nt_gfR rfl (hp.1 (25, 0, 26) (by decide))) k
            have k := ly_revb 1 (c' := (51, [(3, .int (J sp v2.toNatClampNeg)), (0, .ref (p 25)), (1, .ref sp), (2, .int v2)], [.int (J sp v2.toNatClampNeg), .ref (p 26), .ref (p 25)], me_w (lw M L) J)) rfl k
            have k := mx_lald (v := L (p 26) ((J sp v2.toNatClampNeg).toNatClampNeg)) rfl (rfl) k
            obtain ⟨d1, o1, ed, kc, k⟩ := lz_c (g := 42) (q := 1) (vs := [.ref (p 25), .long (L (p 26) ((J sp v2.toNatClampNeg).toNatClampNeg))]) (rest := []) rfl rfl (by decide) (Or.inr (Or.inl ⟨_, rfl, rfl⟩)) rfl k
            have e1 := xt42 hp kc
            subst e1
            have k : nt_rn X _ 41 (55, [(3, .int (J sp v2.toNatClampNeg)), (0, .ref (p 25)), (1, .ref sp), (2, .int v2)], [], me_w (lw M ((x42 p (L (p 26) ((J sp v2.toNatClampNeg).toNatClampNeg)) J L).2)) ((x42 p (L (p 26) ((J sp v2.toNatClampNeg).toNatClampNeg)) J L).1)) _ := k
            have k := ly_revb 3 (c' := (7, [(2, .int (v2 + (Int32.ofInt 1))), (3, .int (J sp v2.toNatClampNeg)), (0, .ref (p 25)), (1, .ref sp)], [], me_w (lw M ((x42 p (L (p 26) ((J sp v2.toNatClampNeg).toNatClampNeg)) J L).2)) ((x42 p (L (p 26) ((J sp v2.toNatClampNeg).toNatClampNeg)) J L).1))) rfl k
            have k := nt_rn_w (a := [(2, .int (v2 + (Int32.ofInt 1))), (3, .int (J sp v2.toNatClampNeg)), (0, .ref (p 25)), (1, .ref sp)]) (b := [(0, .ref (p 25)), (1, .ref sp), (2, .int (v2 + (Int32.ofInt 1))), (3, .int (J sp v2.toNatClampNeg))]) ⟨rfl, rfl, rfl, rfl, trivial⟩ rfl k
            have k := ih (v2 + (Int32.ofInt 1)) (J sp v2.toNatClampNeg) ((x42 p (L (p 26) ((J sp v2.toNatClampNeg).toNatClampNeg)) J L).1) ((x42 p (L (p 26) ((J sp v2.toNatClampNeg).toNatClampNeg)) J L).2) (lx_dec h10 hc) k
            rw [k, x41_7, if_neg h10, if_pos h20, if_neg h36, if_neg h42]
      · rw [if_neg h20] at k
        have k := ly_revb 5 (c' := (29, [(3, .int (J sp v2.toNatClampNeg)), (0, .ref (p 25)), (1, .ref sp), (2, .int v2)], [.long (((J sp v2.toNatClampNeg) - (Int32.ofInt 100)).toInt64), .ref (p 25)], me_w (lw M L) J)) rfl k
        obtain ⟨d1, o1, ed, kc, k⟩ := lz_c (g := 42) (q := 1) (vs := [.ref (p 25), .long (((J sp v2.toNatClampNeg) - (Int32.ofInt 100)).toInt64)]) (rest := []) rfl rfl (by decide) (Or.inr (Or.inl ⟨_, rfl, rfl⟩)) rfl k
        have e1 := xt42 hp kc
        subst e1
        have k : nt_rn X _ 41 (32, [(3, .int (J sp v2.toNatClampNeg)), (0, .ref (p 25)), (1, .ref sp), (2, .int v2)], [], me_w (lw M ((x42 p (((J sp v2.toNatClampNeg) - (Int32.ofInt 100)).toInt64) J L).2)) ((x42 p (((J sp v2.toNatClampNeg) - (Int32.ofInt 100)).toInt64) J L).1)) _ := k
        have k := ly_revb 3 (c' := (7, [(2, .int (v2 + (Int32.ofInt 1))), (3, .int (J sp v2.toNatClampNeg)), (0, .ref (p 25)), (1, .ref sp)], [], me_w (lw M ((x42 p (((J sp v2.toNatClampNeg) - (Int32.ofInt 100)).toInt64) J L).2)) ((x42 p (((J sp v2.toNatClampNeg) - (Int32.ofInt 100)).toInt64) J L).1))) rfl k
        have k := nt_rn_w (a := [(2, .int (v2 + (Int32.ofInt 1))), (3, .int (J sp v2.toNatClampNeg)), (0, .ref (p 25)), (1, .ref sp)]) (b := [(0, .ref (p 25)), (1, .ref sp), (2, .int (v2 + (Int32.ofInt 1))), (3, .int (J sp v2.toNatClampNeg))]) ⟨rfl, rfl, rfl, rfl, trivial⟩ rfl k
        have k := ih (v2 + (Int32.ofInt 1)) (J sp v2.toNatClampNeg) ((x42 p (((J sp v2.toNatClampNeg) - (Int32.ofInt 100)).toInt64) J L).1) ((x42 p (((J sp v2.toNatClampNeg) - (Int32.ofInt 100)).toInt64) J L).2) (lx_dec h10 hc) k
        rw [k, x41_7, if_neg h10, if_neg h20]
def x41 (p : Nat → Nat) (sp : Nat) (ln : Nat) (J : Nat → Nat → Int32) (L : Nat → Nat → Int64) : Int32 × (Nat → Nat → Int32) × (Nat → Nat → Int64) := (x41_7 p sp ln ((Int32.ofNat ln).toNatClampNeg) (Int32.ofInt 0) (nt_u J (p 25) 2 (Int32.ofInt 0)) L)
theorem xt41 {X : nt_X} {d : Nat} {M : nt_M} {o : Option Value × nt_M} {p : Nat → Nat} {sp : Nat} {ln : Nat} {ru : Nat} {J : Nat → Nat → Int32} {L : Nat → Nat → Int64} (hp : xs_P M p) (hs : xs_S M p ru sp ln) (k : nt_ev X d 41 [.ref (p 25), .ref sp] (me_w (lw M L) J) o) : o = (some (.int ((x41 p sp ln J L).1)), me_w (lw M ((x41 p sp ln J L).2.2)) ((x41 p sp ln J L).2.1)) := by
  have k : nt_rn X d 41 (0, [(0, .ref (p 25)), (1, .ref sp)], [], me_w (lw M L) J) o := k
  have k := ly_revb 2 (c' := (2, [(0, .ref (p 25)), (1, .ref sp)], [.int (Int32.ofInt 0), .ref (p 25)], me_w (lw M L) J)) rfl k
  have k := me_put rfl (by decide) k
  have k : nt_rn X _ 41 (5, [(0, .ref (p 25)), (1, .ref sp)], [], me_w (lw M L) (nt_u J (p 25) 2 (Int32.ofInt 0))) _ := k
  have k := ly_revb 2 (c' := (7, [(2, .int (Int32.ofInt 0)), (0, .ref (p 25)), (1, .ref sp)], [], me_w (lw M L) (nt_u J (p 25) 2 (Int32.ofInt 0)))) rfl k
  have k := nt_rn_w (a := [(2, .int (Int32.ofInt 0)), (0, .ref (p 25)), (1, .ref sp)]) (b := [(0, .ref (p 25)), (1, .ref sp), (2, .int (Int32.ofInt 0)), (3, .int (Int32.ofInt 0))]) ⟨rfl, rfl, rfl, trivial⟩ rfl k
  have k := xt41_7 hp hs  ((Int32.ofNat ln).toNatClampNeg) (Int32.ofInt 0) (Int32.ofInt 0) (nt_u J (p 25) 2 (Int32.ofInt 0)) L (lx_beg (by decide)) k
  rw [k, x41]
theorem x41_7_frJ {p : Nat → Nat} {sp : Nat} {ln : Nat} {b : Nat} : ∀ (c : Nat) (v2 : Int32) (J : Nat → Nat → Int32) (L : Nat → Nat → Int64), b ≠ p 25 → (x41_7 p sp ln c v2 J L).2.1 b = J b := by
  intro c
  induction c with
  | zero =>
    intro v2 J L n0
    rw [x41_7]
    all_goals first | (dsimp only; exact (show J b = J b from rfl)) | exact (show J b = J b from rfl)
  | succ c ih =>
    intro v2 J L n0
    rw [x41_7]
    by_cases h : (Int32.ofNat ln) ≤ v2
    · rw [if_pos h]
      all_goals first | (dsimp only; exact (show J b = J b from rfl)) | exact (show J b = J b from rfl)
    · rw [if_neg h]
      by_cases h : (J sp v2.toNatClampNeg) < (Int32.ofInt 100)
      · rw [if_pos h]
        by_cases h : (J sp v2.toNatClampNeg) < 0
        · rw [if_pos h]
          by_cases h : (J sp v2.toNatClampNeg) = (Int32.ofInt 22)
          · rw [if_pos h]
            by_cases h : (J sp v2.toNatClampNeg) = (Int32.ofInt 22)
            · rw [if_pos h]
              all_goals first | (dsimp only; exact (show J b = J b from rfl)) | exact (show J b = J b from rfl)
            · rw [if_neg h]
              by_cases h : (lg_cmp (L (p 27) 1) (Int64.ofNat 0)) = 0
              · rw [if_pos h]
                exact (ih _ _ _ n0).trans (mu_o n0)
              · rw [if_neg h]
                all_goals first | (dsimp only; exact (show J b = J b from rfl)) | exact (show J b = J b from rfl)
          · rw [if_neg h]
            by_cases h : (J sp v2.toNatClampNeg) = (Int32.ofInt 23)
            · rw [if_pos h]
              by_cases h : (J sp v2.toNatClampNeg) = (Int32.ofInt 22)
              · rw [if_pos h]
                all_goals first | (dsimp only; exact (show J b = J b from rfl)) | exact (show J b = J b from rfl)
              · rw [if_neg h]
                by_cases h : (lg_cmp (L (p 27) 1) (Int64.ofNat 0)) = 0
                · rw [if_pos h]
                  exact (ih _ _ _ n0).trans (mu_o n0)
                · rw [if_neg h]
                  all_goals first | (dsimp only; exact (show J b = J b from rfl)) | exact (show J b = J b from rfl)
            · rw [if_neg h]
              exact (ih _ _ _ n0).trans (x43_frJ  n0)
        · rw [if_neg h]
          by_cases h : (Int32.ofInt 10) ≤ (J sp v2.toNatClampNeg)
          · rw [if_pos h]
            by_cases h : (J sp v2.toNatClampNeg) = (Int32.ofInt 22)
            · rw [if_pos h]
              by_cases h : (J sp v2.toNatClampNeg) = (Int32.ofInt 22)
              · rw [if_pos h]
                all_goals first | (dsimp only; exact (show J b = J b from rfl)) | exact (show J b = J b from rfl)
              · rw [if_neg h]
                by_cases h : (lg_cmp (L (p 27) 1) (Int64.ofNat 0)) = 0
                · rw [if_pos h]
                  exact (ih _ _ _ n0).trans (mu_o n0)
                · rw [if_neg h]
                  all_goals first | (dsimp only; exact (show J b = J b from rfl)) | exact (show J b = J b from rfl)
            · rw [if_neg h]
              by_cases h : (J sp v2.toNatClampNeg) = (Int32.ofInt 23)
              · rw [if_pos h]
                by_cases h : (J sp v2.toNatClampNeg) = (Int32.ofInt 22)
                · rw [if_pos h]
                  all_goals first | (dsimp only; exact (show J b = J b from rfl)) | exact (show J b = J b from rfl)
                · rw [if_neg h]
                  by_cases h : (lg_cmp (L (p 27) 1) (Int64.ofNat 0)) = 0
                  · rw [if_pos h]
                    exact (ih _ _ _ n0).trans (mu_o n0)
                  · rw [if_neg h]
                    all_goals first | (dsimp only; exact (show J b = J b from rfl)) | exact (show J b = J b from rfl)
              · rw [if_neg h]
                exact (ih _ _ _ n0).trans (x43_frJ  n0)
          · rw [if_neg h]
            exact (ih _ _ _ n0).trans (x42_frJ  n0)
      · rw [if_neg h]
        exact (ih _ _ _ n0).trans (x42_frJ  n0)
theorem x41_frJ {p : Nat → Nat} {sp : Nat} {ln : Nat} {J : Nat → Nat → Int32} {L : Nat → Nat → Int64} {b : Nat} (n0 : b ≠ p 25) : (x41 p sp ln J L).2.1 b = J b := by
  unfold x41
  exact (x41_7_frJ _ _ _ _ n0).trans (mu_o n0)
/-! $Calendar.tell -/
def x8 (p : Nat → Nat) (q : Nat → Nat) (v2 : Int32) (v3 : Int32) (J : Nat → Nat → Int32) (L : Nat → Nat → Int64) : (Nat → Nat → Int64) := if (J (q 14) v2.toNatClampNeg) = (Int32.ofInt (-1)) then if (J (q 5) v2.toNatClampNeg) = (J (q 6) v3.toNatClampNeg) then (nt_u (nt_u (nt_u (nt_u (nt_u (nt_u (nt_u (nt_u (nt_u (nt_u L (p 26) 0 v2.toInt64) (p 26) 1 ((J (q 3) v2.toNatClampNeg).toInt64)) (p 26) 2 ((J (q 13) v2.toNatClampNeg).toInt64)) (p 26) 3 ((J (q 5) v2.toNatClampNeg).toInt64)) (p 26) 4 ((J (q 6) v3.toNatClampNeg).toInt64)) (p 26) 5 99) (p 26) 6 (Int64.ofNat 1)) (p 26) 7 ((J (q 0) 2).toInt64)) (p 26) 8 ((J (q 0) 3).toInt64)) (p 26) 9 ((x89 q v3 J).toInt64))
    else (nt_u (nt_u (nt_u (nt_u (nt_u (nt_u (nt_u (nt_u (nt_u (nt_u L (p 26) 0 v2.toInt64) (p 26) 1 ((J (q 3) v2.toNatClampNeg).toInt64)) (p 26) 2 ((J (q 13) v2.toNatClampNeg).toInt64)) (p 26) 3 ((J (q 5) v2.toNatClampNeg).toInt64)) (p 26) 4 ((J (q 6) v3.toNatClampNeg).toInt64)) (p 26) 5 99) (p 26) 6 (Int64.ofNat 0)) (p 26) 7 ((J (q 0) 2).toInt64)) (p 26) 8 ((J (q 0) 3).toInt64)) (p 26) 9 ((x89 q v3 J).toInt64))
  else if (J (q 5) v2.toNatClampNeg) = (J (q 6) v3.toNatClampNeg) then (nt_u (nt_u (nt_u (nt_u (nt_u (nt_u (nt_u (nt_u (nt_u (nt_u L (p 26) 0 v2.toInt64) (p 26) 1 ((J (q 3) v2.toNatClampNeg).toInt64)) (p 26) 2 ((J (q 13) v2.toNatClampNeg).toInt64)) (p 26) 3 ((J (q 5) v2.toNatClampNeg).toInt64)) (p 26) 4 ((J (q 6) v3.toNatClampNeg).toInt64)) (p 26) 5 ((J (q 14) v2.toNatClampNeg).toInt64)) (p 26) 6 (Int64.ofNat 1)) (p 26) 7 ((J (q 0) 2).toInt64)) (p 26) 8 ((J (q 0) 3).toInt64)) (p 26) 9 ((x89 q v3 J).toInt64))
    else (nt_u (nt_u (nt_u (nt_u (nt_u (nt_u (nt_u (nt_u (nt_u (nt_u L (p 26) 0 v2.toInt64) (p 26) 1 ((J (q 3) v2.toNatClampNeg).toInt64)) (p 26) 2 ((J (q 13) v2.toNatClampNeg).toInt64)) (p 26) 3 ((J (q 5) v2.toNatClampNeg).toInt64)) (p 26) 4 ((J (q 6) v3.toNatClampNeg).toInt64)) (p 26) 5 ((J (q 14) v2.toNatClampNeg).toInt64)) (p 26) 6 (Int64.ofNat 0)) (p 26) 7 ((J (q 0) 2).toInt64)) (p 26) 8 ((J (q 0) 3).toInt64)) (p 26) 9 ((x89 q v3 J).toInt64))
theorem xt8 {X : nt_X} {d : Nat} {M : nt_M} {o : Option Value × nt_M} {p : Nat → Nat} {q : Nat → Nat} {v2 : Int32} {v3 : Int32} {J : Nat → Nat → Int32} {L : Nat → Nat → Int64} (hp : xs_P M p) (hq : xs_Q M q) (hx : xs_X p q) (k : nt_ev X d 8 [.ref (p 24), .ref (q 0), .int v2, .int v3] (me_w (lw M L) J) o) : o = (none, me_w (lw M (x8 p q v2 v3 J L)) J) := by
  have k : nt_rn X d 8 (0, [(0, .ref (p 24)), (1, .ref (q 0)), (2, .int v2), (3, .int v3)], [], me_w (lw M L) J) o := k
  have k := ly_revb 1 (c' := (1, [(0, .ref (p 24)), (1, .ref (q 0)), (2, .int v2), (3, .int v3)], [.ref (q 0)], me_w (lw M L) J)) rfl k
  have k := lz_get (a := (q 0)) (g := 611) (M := me_w (lw M L) J) (v := .ref (q 14)) rfl (nt_gfR rfl (hq.1 (0, 11, 14) (by decide))) k
  have k := ly_revb 1 (c' := (5, [(0, .ref (p 24)), (1, .ref (q 0)), (2, .int v2), (3, .int v3)], [.int v2, .ref (q 14)], me_w (lw M L) J)) rfl k
  have k := mx_iald (v := J (q 14) v2.toNatClampNeg) rfl (hq.2.2.1 14 (by omega)) (rfl) k
  have k := ly_revb 2 (c' := (9, [(4, .int (J (q 14) v2.toNatClampNeg)), (0, .ref (p 24)), (1, .ref (q 0)), (2, .int v2), (3, .int v3)], [.ref (q 0)], me_w (lw M L) J)) rfl k
  have k := lz_get (a := (q 0)) (g := 600) (M := me_w (lw M L) J) (v := .ref (q 1)) rfl (nt_gfR rfl (hq.1 (0, 0, 1) (by decide))) k
  have k := lz_get (a := (q 1)) (g := 809) (M := me_w (lw M L) J) (v := .ref (q 6)) rfl (nt_gfR rfl (hq.1 (1, 9, 6) (by decide))) k
  have k := ly_revb 1 (c' := (16, [(4, .int (J (q 14) v2.toNatClampNeg)), (0, .ref (p 24)), (1, .ref (q 0)), (2, .int v2), (3, .int v3)], [.int v3, .ref (q 6)], me_w (lw M L) J)) rfl k
  have k := mx_iald (v := J (q 6) v3.toNatClampNeg) rfl (hq.2.2.1 6 (by omega)) (rfl) k
  have k := ly_revb 2 (c' := (20, [(5, .int (J (q 6) v3.toNatClampNeg)), (4, .int (J (q 14) v2.toNatClampNeg)), (0, .ref (p 24)), (1, .ref (q 0)), (2, .int v2), (3, .int v3)], [.ref (p 24)], me_w (lw M L) J)) rfl k
  have k := lz_get (a := (p 24)) (g := 0) (M := me_w (lw M L) J) (v := .ref (p 25)) rfl (nt_gfR rfl (hp.1 (24, 0, 25) (by decide))) k
  have k := lz_get (a := (p 25)) (g := 300) (M := me_w (lw M L) J) (v := .ref (p 26)) rfl (nt_gfR rfl (hp.1 (25, 0, 26) (by decide))) k
  have k := ly_revb 5 (c' := (33, [(6, .ref (p 26)), (5, .int (J (q 6) v3.toNatClampNeg)), (4, .int (J (q 14) v2.toNatClampNeg)), (0, .ref (p 24)), (1, .ref (q 0)), (2, .int v2), (3, .int v3)], [.long v2.toInt64, .int (Int32.ofInt 0), .ref (p 26)], me_w (lw M L) J)) rfl k
  have k := mx_last (q := 0) rfl (show (Int32.ofInt 0).toNatClampNeg = 0 from rfl) k
  have k : nt_rn X _ 8 (34, [(6, .ref (p 26)), (5, .int (J (q 6) v3.toNatClampNeg)), (4, .int (J (q 14) v2.toNatClampNeg)), (0, .ref (p 24)), (1, .ref (q 0)), (2, .int v2), (3, .int v3)], [], me_w (lw M (nt_u L (p 26) 0 v2.toInt64)) J) _ := k
  have k := ly_revb 3 (c' := (38, [(6, .ref (p 26)), (5, .int (J (q 6) v3.toNatClampNeg)), (4, .int (J (q 14) v2.toNatClampNeg)), (0, .ref (p 24)), (1, .ref (q 0)), (2, .int v2), (3, .int v3)], [.ref (q 0), .int (Int32.ofInt 1), .ref (p 26)], me_w (lw M (nt_u L (p 26) 0 v2.toInt64)) J)) rfl k
  have k := lz_get (a := (q 0)) (g := 600) (M := me_w (lw M (nt_u L (p 26) 0 v2.toInt64)) J) (v := .ref (q 1)) rfl (nt_gfR rfl (hq.1 (0, 0, 1) (by decide))) k
  have k := lz_get (a := (q 1)) (g := 806) (M := me_w (lw M (nt_u L (p 26) 0 v2.toInt64)) J) (v := .ref (q 3)) rfl (nt_gfR rfl (hq.1 (1, 6, 3) (by decide))) k
  have k := ly_revb 1 (c' := (45, [(6, .ref (p 26)), (5, .int (J (q 6) v3.toNatClampNeg)), (4, .int (J (q 14) v2.toNatClampNeg)), (0, .ref (p 24)), (1, .ref (q 0)), (2, .int v2), (3, .int v3)], [.int v2, .ref (q 3), .int (Int32.ofInt 1), .ref (p 26)], me_w (lw M (nt_u L (p 26) 0 v2.toInt64)) J)) rfl k
  have k := mx_iald (v := J (q 3) v2.toNatClampNeg) rfl (hq.2.2.1 3 (by omega)) (rfl) k
  have k := ly_revb 1 (c' := (47, [(6, .ref (p 26)), (5, .int (J (q 6) v3.toNatClampNeg)), (4, .int (J (q 14) v2.toNatClampNeg)), (0, .ref (p 24)), (1, .ref (q 0)), (2, .int v2), (3, .int v3)], [.long ((J (q 3) v2.toNatClampNeg).toInt64), .int (Int32.ofInt 1), .ref (p 26)], me_w (lw M (nt_u L (p 26) 0 v2.toInt64)) J)) rfl k
  have k := mx_last (q := 1) rfl (show (Int32.ofInt 1).toNatClampNeg = 1 from rfl) k
  have k : nt_rn X _ 8 (48, [(6, .ref (p 26)), (5, .int (J (q 6) v3.toNatClampNeg)), (4, .int (J (q 14) v2.toNatClampNeg)), (0, .ref (p 24)), (1, .ref (q 0)), (2, .int v2), (3, .int v3)], [], me_w (lw M (nt_u (nt_u L (p 26) 0 v2.toInt64) (p 26) 1 ((J (q 3) v2.toNatClampNeg).toInt64))) J) _ := k
  have k := ly_revb 3 (c' := (52, [(6, .ref (p 26)), (5, .int (J (q 6) v3.toNatClampNeg)), (4, .int (J (q 14) v2.toNatClampNeg)), (0, .ref (p 24)), (1, .ref (q 0)), (2, .int v2), (3, .int v3)], [.ref (q 0), .int (Int32.ofInt 2), .ref (p 26)], me_w (lw M (nt_u (nt_u L (p 26) 0 v2.toInt64) (p 26) 1 ((J (q 3) v2.toNatClampNeg).toInt64))) J)) rfl k
  have k := lz_get (a := (q 0)) (g := 610) (M := me_w (lw M (nt_u (nt_u L (p 26) 0 v2.toInt64) (p 26) 1 ((J (q 3) v2.toNatClampNeg).toInt64))) J) (v := .ref (q 13)) rfl (nt_gfR rfl (hq.1 (0, 10, 13) (by decide))) k
  have k := ly_revb 1 (c' := (56, [(6, .ref (p 26)), (5, .int (J (q 6) v3.toNatClampNeg)), (4, .int (J (q 14) v2.toNatClampNeg)), (0, .ref (p 24)), (1, .ref (q 0)), (2, .int v2), (3, .int v3)], [.int v2, .ref (q 13), .int (Int32.ofInt 2), .ref (p 26)], me_w (lw M (nt_u (nt_u L (p 26) 0 v2.toInt64) (p 26) 1 ((J (q 3) v2.toNatClampNeg).toInt64))) J)) rfl k
  have k := mx_iald (v := J (q 13) v2.toNatClampNeg) rfl (hq.2.2.1 13 (by omega)) (rfl) k
  have k := ly_revb 1 (c' := (58, [(6, .ref (p 26)), (5, .int (J (q 6) v3.toNatClampNeg)), (4, .int (J (q 14) v2.toNatClampNeg)), (0, .ref (p 24)), (1, .ref (q 0)), (2, .int v2), (3, .int v3)], [.long ((J (q 13) v2.toNatClampNeg).toInt64), .int (Int32.ofInt 2), .ref (p 26)], me_w (lw M (nt_u (nt_u L (p 26) 0 v2.toInt64) (p 26) 1 ((J (q 3) v2.toNatClampNeg).toInt64))) J)) rfl k
  have k := mx_last (q := 2) rfl (show (Int32.ofInt 2).toNatClampNeg = 2 from rfl) k
  have k : nt_rn X _ 8 (59, [(6, .ref (p 26)), (5, .int (J (q 6) v3.toNatClampNeg)), (4, .int (J (q 14) v2.toNatClampNeg)), (0, .ref (p 24)), (1, .ref (q 0)), (2, .int v2), (3, .int v3)], [], me_w (lw M (nt_u (nt_u (nt_u L (p 26) 0 v2.toInt64) (p 26) 1 ((J (q 3) v2.toNatClampNeg).toInt64)) (p 26) 2 ((J (q 13) v2.toNatClampNeg).toInt64))) J) _ := k
  have k := ly_revb 3 (c' := (63, [(6, .ref (p 26)), (5, .int (J (q 6) v3.toNatClampNeg)), (4, .int (J (q 14) v2.toNatClampNeg)), (0, .ref (p 24)), (1, .ref (q 0)), (2, .int v2), (3, .int v3)], [.ref (q 0), .int (Int32.ofInt 3), .ref (p 26)], me_w (lw M (nt_u (nt_u (nt_u L (p 26) 0 v2.toInt64) (p 26) 1 ((J (q 3) v2.toNatClampNeg).toInt64)) (p 26) 2 ((J (q 13) v2.toNatClampNeg).toInt64))) J)) rfl k
  have k := lz_get (a := (q 0)) (g := 600) (M := me_w (lw M (nt_u (nt_u (nt_u L (p 26) 0 v2.toInt64) (p 26) 1 ((J (q 3) v2.toNatClampNeg).toInt64)) (p 26) 2 ((J (q 13) v2.toNatClampNeg).toInt64))) J) (v := .ref (q 1)) rfl (nt_gfR rfl (hq.1 (0, 0, 1) (by decide))) k
  have k := lz_get (a := (q 1)) (g := 808) (M := me_w (lw M (nt_u (nt_u (nt_u L (p 26) 0 v2.toInt64) (p 26) 1 ((J (q 3) v2.toNatClampNeg).toInt64)) (p 26) 2 ((J (q 13) v2.toNatClampNeg).toInt64))) J) (v := .ref (q 5)) rfl (nt_gfR rfl (hq.1 (1, 8, 5) (by decide))) k
  have k := ly_revb 1 (c' := (70, [(6, .ref (p 26)), (5, .int (J (q 6) v3.toNatClampNeg)), (4, .int (J (q 14) v2.toNatClampNeg)), (0, .ref (p 24)), (1, .ref (q 0)), (2, .int v2), (3, .int v3)], [.int v2, .ref (q 5), .int (Int32.ofInt 3), .ref (p 26)], me_w (lw M (nt_u (nt_u (nt_u L (p 26) 0 v2.toInt64) (p 26) 1 ((J (q 3) v2.toNatClampNeg).toInt64)) (p 26) 2 ((J (q 13) v2.toNatClampNeg).toInt64))) J)) rfl k
  have k := mx_iald (v := J (q 5) v2.toNatClampNeg) rfl (hq.2.2.1 5 (by omega)) (rfl) k
  have k := ly_revb 1 (c' := (72, [(6, .ref (p 26)), (5, .int (J (q 6) v3.toNatClampNeg)), (4, .int (J (q 14) v2.toNatClampNeg)), (0, .ref (p 24)), (1, .ref (q 0)), (2, .int v2), (3, .int v3)], [.long ((J (q 5) v2.toNatClampNeg).toInt64), .int (Int32.ofInt 3), .ref (p 26)], me_w (lw M (nt_u (nt_u (nt_u L (p 26) 0 v2.toInt64) (p 26) 1 ((J (q 3) v2.toNatClampNeg).toInt64)) (p 26) 2 ((J (q 13) v2.toNatClampNeg).toInt64))) J)) rfl k
  have k := mx_last (q := 3) rfl (show (Int32.ofInt 3).toNatClampNeg = 3 from rfl) k
  have k : nt_rn X _ 8 (73, [(6, .ref (p 26)), (5, .int (J (q 6) v3.toNatClampNeg)), (4, .int (J (q 14) v2.toNatClampNeg)), (0, .ref (p 24)), (1, .ref (q 0)), (2, .int v2), (3, .int v3)], [], me_w (lw M (nt_u (nt_u (nt_u (nt_u L (p 26) 0 v2.toInt64) (p 26) 1 ((J (q 3) v2.toNatClampNeg).toInt64)) (p 26) 2 ((J (q 13) v2.toNatClampNeg).toInt64)) (p 26) 3 ((J (q 5) v2.toNatClampNeg).toInt64))) J) _ := k
  have k := ly_revb 4 (c' := (79, [(6, .ref (p 26)), (5, .int (J (q 6) v3.toNatClampNeg)), (4, .int (J (q 14) v2.toNatClampNeg)), (0, .ref (p 24)), (1, .ref (q 0)), (2, .int v2), (3, .int v3)], [.long ((J (q 6) v3.toNatClampNeg).toInt64), .int (Int32.ofInt 4), .ref (p 26)], me_w (lw M (nt_u (nt_u (nt_u (nt_u L (p 26) 0 v2.toInt64) (p 26) 1 ((J (q 3) v2.toNatClampNeg).toInt64)) (p 26) 2 ((J (q 13) v2.toNatClampNeg).toInt64)) (p 26) 3 ((J (q 5) v2.toNatClampNeg).toInt64))) J)) rfl k
  have k := mx_last (q := 4) rfl (show (Int32.ofInt 4).toNatClampNeg = 4 from rfl) k
  have k : nt_rn X _ 8 (80, [(6, .ref (p 26)), (5, .int (J (q 6) v3.toNatClampNeg)), (4, .int (J (q 14) v2.toNatClampNeg)), (0, .ref (p 24)), (1, .ref (q 0)), (2, .int v2), (3, .int v3)], [], me_w (lw M (nt_u (nt_u (nt_u (nt_u (nt_u L (p 26) 0 v2.toInt64) (p 26) 1 ((J (q 3) v2.toNatClampNeg).toInt64)) (p 26) 2 ((J (q 13) v2.toNatClampNeg).toInt64)) (p 26) 3 ((J (q 5) v2.toNatClampNeg).toInt64)) (p 26) 4 ((J (q 6) v3.toNatClampNeg).toInt64))) J) _ := k
  have k := ly_revb 5 (c' := (if (J (q 14) v2.toNatClampNeg) = (Int32.ofInt (-1)) then 89 else 95, [(6, .ref (p 26)), (5, .int (J (q 6) v3.toNatClampNeg)), (4, .int (J (q 14) v2.toNatClampNeg)), (0, .ref (p 24)), (1, .ref (q 0)), (2, .int v2), (3, .int v3)], [.int (Int32.ofInt 5), .ref (p 26)], me_w (lw M (nt_u (nt_u (nt_u (nt_u (nt_u L (p 26) 0 v2.toInt64) (p 26) 1 ((J (q 3) v2.toNatClampNeg).toInt64)) (p 26) 2 ((J (q 13) v2.toNatClampNeg).toInt64)) (p 26) 3 ((J (q 5) v2.toNatClampNeg).toInt64)) (p 26) 4 ((J (q 6) v3.toNatClampNeg).toInt64))) J)) rfl k
  by_cases h86 : (J (q 14) v2.toNatClampNeg) = (Int32.ofInt (-1))
  · rw [if_pos h86] at k
    have k := ly_revb 2 (c' := (98, [(6, .ref (p 26)), (5, .int (J (q 6) v3.toNatClampNeg)), (4, .int (J (q 14) v2.toNatClampNeg)), (0, .ref (p 24)), (1, .ref (q 0)), (2, .int v2), (3, .int v3)], [.long 99, .int (Int32.ofInt 5), .ref (p 26)], me_w (lw M (nt_u (nt_u (nt_u (nt_u (nt_u L (p 26) 0 v2.toInt64) (p 26) 1 ((J (q 3) v2.toNatClampNeg).toInt64)) (p 26) 2 ((J (q 13) v2.toNatClampNeg).toInt64)) (p 26) 3 ((J (q 5) v2.toNatClampNeg).toInt64)) (p 26) 4 ((J (q 6) v3.toNatClampNeg).toInt64))) J)) rfl k
    have k := mx_last (q := 5) rfl (show (Int32.ofInt 5).toNatClampNeg = 5 from rfl) k
    have k : nt_rn X _ 8 (99, [(6, .ref (p 26)), (5, .int (J (q 6) v3.toNatClampNeg)), (4, .int (J (q 14) v2.toNatClampNeg)), (0, .ref (p 24)), (1, .ref (q 0)), (2, .int v2), (3, .int v3)], [], me_w (lw M (nt_u (nt_u (nt_u (nt_u (nt_u (nt_u L (p 26) 0 v2.toInt64) (p 26) 1 ((J (q 3) v2.toNatClampNeg).toInt64)) (p 26) 2 ((J (q 13) v2.toNatClampNeg).toInt64)) (p 26) 3 ((J (q 5) v2.toNatClampNeg).toInt64)) (p 26) 4 ((J (q 6) v3.toNatClampNeg).toInt64)) (p 26) 5 99)) J) _ := k
    have k := ly_revb 3 (c' := (104, [(6, .ref (p 26)), (5, .int (J (q 6) v3.toNatClampNeg)), (4, .int (J (q 14) v2.toNatClampNeg)), (0, .ref (p 24)), (1, .ref (q 0)), (2, .int v2), (3, .int v3)], [.ref (q 0), .int (Int32.ofInt 6), .ref (p 26)], me_w (lw M (nt_u (nt_u (nt_u (nt_u (nt_u (nt_u L (p 26) 0 v2.toInt64) (p 26) 1 ((J (q 3) v2.toNatClampNeg).toInt64)) (p 26) 2 ((J (q 13) v2.toNatClampNeg).toInt64)) (p 26) 3 ((J (q 5) v2.toNatClampNeg).toInt64)) (p 26) 4 ((J (q 6) v3.toNatClampNeg).toInt64)) (p 26) 5 99)) J)) rfl k
    have k := lz_get (a := (q 0)) (g := 600) (M := me_w (lw M (nt_u (nt_u (nt_u (nt_u (nt_u (nt_u L (p 26) 0 v2.toInt64) (p 26) 1 ((J (q 3) v2.toNatClampNeg).toInt64)) (p 26) 2 ((J (q 13) v2.toNatClampNeg).toInt64)) (p 26) 3 ((J (q 5) v2.toNatClampNeg).toInt64)) (p 26) 4 ((J (q 6) v3.toNatClampNeg).toInt64)) (p 26) 5 99)) J) (v := .ref (q 1)) rfl (nt_gfR rfl (hq.1 (0, 0, 1) (by decide))) k
    have k := lz_get (a := (q 1)) (g := 808) (M := me_w (lw M (nt_u (nt_u (nt_u (nt_u (nt_u (nt_u L (p 26) 0 v2.toInt64) (p 26) 1 ((J (q 3) v2.toNatClampNeg).toInt64)) (p 26) 2 ((J (q 13) v2.toNatClampNeg).toInt64)) (p 26) 3 ((J (q 5) v2.toNatClampNeg).toInt64)) (p 26) 4 ((J (q 6) v3.toNatClampNeg).toInt64)) (p 26) 5 99)) J) (v := .ref (q 5)) rfl (nt_gfR rfl (hq.1 (1, 8, 5) (by decide))) k
    have k := ly_revb 1 (c' := (111, [(6, .ref (p 26)), (5, .int (J (q 6) v3.toNatClampNeg)), (4, .int (J (q 14) v2.toNatClampNeg)), (0, .ref (p 24)), (1, .ref (q 0)), (2, .int v2), (3, .int v3)], [.int v2, .ref (q 5), .int (Int32.ofInt 6), .ref (p 26)], me_w (lw M (nt_u (nt_u (nt_u (nt_u (nt_u (nt_u L (p 26) 0 v2.toInt64) (p 26) 1 ((J (q 3) v2.toNatClampNeg).toInt64)) (p 26) 2 ((J (q 13) v2.toNatClampNeg).toInt64)) (p 26) 3 ((J (q 5) v2.toNatClampNeg).toInt64)) (p 26) 4 ((J (q 6) v3.toNatClampNeg).toInt64)) (p 26) 5 99)) J)) rfl k
    have k := mx_iald (v := J (q 5) v2.toNatClampNeg) rfl (hq.2.2.1 5 (by omega)) (rfl) k
    have k := ly_revb 2 (c' := (if (J (q 5) v2.toNatClampNeg) = (J (q 6) v3.toNatClampNeg) then 117 else 121, [(6, .ref (p 26)), (5, .int (J (q 6) v3.toNatClampNeg)), (4, .int (J (q 14) v2.toNatClampNeg)), (0, .ref (p 24)), (1, .ref (q 0)), (2, .int v2), (3, .int v3)], [.int (Int32.ofInt 6), .ref (p 26)], me_w (lw M (nt_u (nt_u (nt_u (nt_u (nt_u (nt_u L (p 26) 0 v2.toInt64) (p 26) 1 ((J (q 3) v2.toNatClampNeg).toInt64)) (p 26) 2 ((J (q 13) v2.toNatClampNeg).toInt64)) (p 26) 3 ((J (q 5) v2.toNatClampNeg).toInt64)) (p 26) 4 ((J (q 6) v3.toNatClampNeg).toInt64)) (p 26) 5 99)) J)) rfl k
    by_cases h114 : (J (q 5) v2.toNatClampNeg) = (J (q 6) v3.toNatClampNeg)
    · rw [if_pos h114] at k
      have k := ly_revb 2 (c' := (122, [(6, .ref (p 26)), (5, .int (J (q 6) v3.toNatClampNeg)), (4, .int (J (q 14) v2.toNatClampNeg)), (0, .ref (p 24)), (1, .ref (q 0)), (2, .int v2), (3, .int v3)], [.long (Int64.ofNat 1), .int (Int32.ofInt 6), .ref (p 26)], me_w (lw M (nt_u (nt_u (nt_u (nt_u (nt_u (nt_u L (p 26) 0 v2.toInt64) (p 26) 1 ((J (q 3) v2.toNatClampNeg).toInt64)) (p 26) 2 ((J (q 13) v2.toNatClampNeg).toInt64)) (p 26) 3 ((J (q 5) v2.toNatClampNeg).toInt64)) (p 26) 4 ((J (q 6) v3.toNatClampNeg).toInt64)) (p 26) 5 99)) J)) rfl k
      have k := mx_last (q := 6) rfl (show (Int32.ofInt 6).toNatClampNeg = 6 from rfl) k
      have k : nt_rn X _ 8 (123, [(6, .ref (p 26)), (5, .int (J (q 6) v3.toNatClampNeg)), (4, .int (J (q 14) v2.toNatClampNeg)), (0, .ref (p 24)), (1, .ref (q 0)), (2, .int v2), (3, .int v3)], [], me_w (lw M (nt_u (nt_u (nt_u (nt_u (nt_u (nt_u (nt_u L (p 26) 0 v2.toInt64) (p 26) 1 ((J (q 3) v2.toNatClampNeg).toInt64)) (p 26) 2 ((J (q 13) v2.toNatClampNeg).toInt64)) (p 26) 3 ((J (q 5) v2.toNatClampNeg).toInt64)) (p 26) 4 ((J (q 6) v3.toNatClampNeg).toInt64)) (p 26) 5 99) (p 26) 6 (Int64.ofNat 1))) J) _ := k
      have k := ly_revb 3 (c' := (128, [(6, .ref (p 26)), (5, .int (J (q 6) v3.toNatClampNeg)), (4, .int (J (q 14) v2.toNatClampNeg)), (0, .ref (p 24)), (1, .ref (q 0)), (2, .int v2), (3, .int v3)], [.ref (q 0), .int (Int32.ofInt 7), .ref (p 26)], me_w (lw M (nt_u (nt_u (nt_u (nt_u (nt_u (nt_u (nt_u L (p 26) 0 v2.toInt64) (p 26) 1 ((J (q 3) v2.toNatClampNeg).toInt64)) (p 26) 2 ((J (q 13) v2.toNatClampNeg).toInt64)) (p 26) 3 ((J (q 5) v2.toNatClampNeg).toInt64)) (p 26) 4 ((J (q 6) v3.toNatClampNeg).toInt64)) (p 26) 5 99) (p 26) 6 (Int64.ofNat 1))) J)) rfl k
      have k := lz_get (a := (q 0)) (g := 602) (M := me_w (lw M (nt_u (nt_u (nt_u (nt_u (nt_u (nt_u (nt_u L (p 26) 0 v2.toInt64) (p 26) 1 ((J (q 3) v2.toNatClampNeg).toInt64)) (p 26) 2 ((J (q 13) v2.toNatClampNeg).toInt64)) (p 26) 3 ((J (q 5) v2.toNatClampNeg).toInt64)) (p 26) 4 ((J (q 6) v3.toNatClampNeg).toInt64)) (p 26) 5 99) (p 26) 6 (Int64.ofNat 1))) J) (v := .int (J (q 0) 2)) rfl (congrArg Value.int (rfl)) k
      have k := ly_revb 1 (c' := (132, [(6, .ref (p 26)), (5, .int (J (q 6) v3.toNatClampNeg)), (4, .int (J (q 14) v2.toNatClampNeg)), (0, .ref (p 24)), (1, .ref (q 0)), (2, .int v2), (3, .int v3)], [.long ((J (q 0) 2).toInt64), .int (Int32.ofInt 7), .ref (p 26)], me_w (lw M (nt_u (nt_u (nt_u (nt_u (nt_u (nt_u (nt_u L (p 26) 0 v2.toInt64) (p 26) 1 ((J (q 3) v2.toNatClampNeg).toInt64)) (p 26) 2 ((J (q 13) v2.toNatClampNeg).toInt64)) (p 26) 3 ((J (q 5) v2.toNatClampNeg).toInt64)) (p 26) 4 ((J (q 6) v3.toNatClampNeg).toInt64)) (p 26) 5 99) (p 26) 6 (Int64.ofNat 1))) J)) rfl k
      have k := mx_last (q := 7) rfl (show (Int32.ofInt 7).toNatClampNeg = 7 from rfl) k
      have k : nt_rn X _ 8 (133, [(6, .ref (p 26)), (5, .int (J (q 6) v3.toNatClampNeg)), (4, .int (J (q 14) v2.toNatClampNeg)), (0, .ref (p 24)), (1, .ref (q 0)), (2, .int v2), (3, .int v3)], [], me_w (lw M (nt_u (nt_u (nt_u (nt_u (nt_u (nt_u (nt_u (nt_u L (p 26) 0 v2.toInt64) (p 26) 1 ((J (q 3) v2.toNatClampNeg).toInt64)) (p 26) 2 ((J (q 13) v2.toNatClampNeg).toInt64)) (p 26) 3 ((J (q 5) v2.toNatClampNeg).toInt64)) (p 26) 4 ((J (q 6) v3.toNatClampNeg).toInt64)) (p 26) 5 99) (p 26) 6 (Int64.ofNat 1)) (p 26) 7 ((J (q 0) 2).toInt64))) J) _ := k
      have k := ly_revb 3 (c' := (138, [(6, .ref (p 26)), (5, .int (J (q 6) v3.toNatClampNeg)), (4, .int (J (q 14) v2.toNatClampNeg)), (0, .ref (p 24)), (1, .ref (q 0)), (2, .int v2), (3, .int v3)], [.ref (q 0), .int (Int32.ofInt 8), .ref (p 26)], me_w (lw M (nt_u (nt_u (nt_u (nt_u (nt_u (nt_u (nt_u (nt_u L (p 26) 0 v2.toInt64) (p 26) 1 ((J (q 3) v2.toNatClampNeg).toInt64)) (p 26) 2 ((J (q 13) v2.toNatClampNeg).toInt64)) (p 26) 3 ((J (q 5) v2.toNatClampNeg).toInt64)) (p 26) 4 ((J (q 6) v3.toNatClampNeg).toInt64)) (p 26) 5 99) (p 26) 6 (Int64.ofNat 1)) (p 26) 7 ((J (q 0) 2).toInt64))) J)) rfl k
      have k := lz_get (a := (q 0)) (g := 603) (M := me_w (lw M (nt_u (nt_u (nt_u (nt_u (nt_u (nt_u (nt_u (nt_u L (p 26) 0 v2.toInt64) (p 26) 1 ((J (q 3) v2.toNatClampNeg).toInt64)) (p 26) 2 ((J (q 13) v2.toNatClampNeg).toInt64)) (p 26) 3 ((J (q 5) v2.toNatClampNeg).toInt64)) (p 26) 4 ((J (q 6) v3.toNatClampNeg).toInt64)) (p 26) 5 99) (p 26) 6 (Int64.ofNat 1)) (p 26) 7 ((J (q 0) 2).toInt64))) J) (v := .int (J (q 0) 3)) rfl (congrArg Value.int (rfl)) k
      have k := ly_revb 1 (c' := (142, [(6, .ref (p 26)), (5, .int (J (q 6) v3.toNatClampNeg)), (4, .int (J (q 14) v2.toNatClampNeg)), (0, .ref (p 24)), (1, .ref (q 0)), (2, .int v2), (3, .int v3)], [.long ((J (q 0) 3).toInt64), .int (Int32.ofInt 8), .ref (p 26)], me_w (lw M (nt_u (nt_u (nt_u (nt_u (nt_u (nt_u (nt_u (nt_u L (p 26) 0 v2.toInt64) (p 26) 1 ((J (q 3) v2.toNatClampNeg).toInt64)) (p 26) 2 ((J (q 13) v2.toNatClampNeg).toInt64)) (p 26) 3 ((J (q 5) v2.toNatClampNeg).toInt64)) (p 26) 4 ((J (q 6) v3.toNatClampNeg).toInt64)) (p 26) 5 99) (p 26) 6 (Int64.ofNat 1)) (p 26) 7 ((J (q 0) 2).toInt64))) J)) rfl k
      have k := mx_last (q := 8) rfl (show (Int32.ofInt 8).toNatClampNeg = 8 from rfl) k
      have k : nt_rn X _ 8 (143, [(6, .ref (p 26)), (5, .int (J (q 6) v3.toNatClampNeg)), (4, .int (J (q 14) v2.toNatClampNeg)), (0, .ref (p 24)), (1, .ref (q 0)), (2, .int v2), (3, .int v3)], [], me_w (lw M (nt_u (nt_u (nt_u (nt_u (nt_u (nt_u (nt_u (nt_u (nt_u L (p 26) 0 v2.toInt64) (p 26) 1 ((J (q 3) v2.toNatClampNeg).toInt64)) (p 26) 2 ((J (q 13) v2.toNatClampNeg).toInt64)) (p 26) 3 ((J (q 5) v2.toNatClampNeg).toInt64)) (p 26) 4 ((J (q 6) v3.toNatClampNeg).toInt64)) (p 26) 5 99) (p 26) 6 (Int64.ofNat 1)) (p 26) 7 ((J (q 0) 2).toInt64)) (p 26) 8 ((J (q 0) 3).toInt64))) J) _ := k
      have k := ly_revb 3 (c' := (148, [(6, .ref (p 26)), (5, .int (J (q 6) v3.toNatClampNeg)), (4, .int (J (q 14) v2.toNatClampNeg)), (0, .ref (p 24)), (1, .ref (q 0)), (2, .int v2), (3, .int v3)], [.ref (q 0), .int (Int32.ofInt 9), .ref (p 26)], me_w (lw M (nt_u (nt_u (nt_u (nt_u (nt_u (nt_u (nt_u (nt_u (nt_u L (p 26) 0 v2.toInt64) (p 26) 1 ((J (q 3) v2.toNatClampNeg).toInt64)) (p 26) 2 ((J (q 13) v2.toNatClampNeg).toInt64)) (p 26) 3 ((J (q 5) v2.toNatClampNeg).toInt64)) (p 26) 4 ((J (q 6) v3.toNatClampNeg).toInt64)) (p 26) 5 99) (p 26) 6 (Int64.ofNat 1)) (p 26) 7 ((J (q 0) 2).toInt64)) (p 26) 8 ((J (q 0) 3).toInt64))) J)) rfl k
      have k := lz_get (a := (q 0)) (g := 600) (M := me_w (lw M (nt_u (nt_u (nt_u (nt_u (nt_u (nt_u (nt_u (nt_u (nt_u L (p 26) 0 v2.toInt64) (p 26) 1 ((J (q 3) v2.toNatClampNeg).toInt64)) (p 26) 2 ((J (q 13) v2.toNatClampNeg).toInt64)) (p 26) 3 ((J (q 5) v2.toNatClampNeg).toInt64)) (p 26) 4 ((J (q 6) v3.toNatClampNeg).toInt64)) (p 26) 5 99) (p 26) 6 (Int64.ofNat 1)) (p 26) 7 ((J (q 0) 2).toInt64)) (p 26) 8 ((J (q 0) 3).toInt64))) J) (v := .ref (q 1)) rfl (nt_gfR rfl (hq.1 (0, 0, 1) (by decide))) k
      have k := ly_revb 1 (c' := (152, [(6, .ref (p 26)), (5, .int (J (q 6) v3.toNatClampNeg)), (4, .int (J (q 14) v2.toNatClampNeg)), (0, .ref (p 24)), (1, .ref (q 0)), (2, .int v2), (3, .int v3)], [.int v3, .ref (q 1), .int (Int32.ofInt 9), .ref (p 26)], me_w (lw M (nt_u (nt_u (nt_u (nt_u (nt_u (nt_u (nt_u (nt_u (nt_u L (p 26) 0 v2.toInt64) (p 26) 1 ((J (q 3) v2.toNatClampNeg).toInt64)) (p 26) 2 ((J (q 13) v2.toNatClampNeg).toInt64)) (p 26) 3 ((J (q 5) v2.toNatClampNeg).toInt64)) (p 26) 4 ((J (q 6) v3.toNatClampNeg).toInt64)) (p 26) 5 99) (p 26) 6 (Int64.ofNat 1)) (p 26) 7 ((J (q 0) 2).toInt64)) (p 26) 8 ((J (q 0) 3).toInt64))) J)) rfl k
      obtain ⟨d1, o1, ed, kc, k⟩ := lz_c (g := 89) (q := 1) (vs := [.ref (q 1), .int v3]) (rest := [.int (Int32.ofInt 9), .ref (p 26)]) rfl rfl (by decide) (Or.inr (Or.inl ⟨_, rfl, rfl⟩)) rfl k
      have e1 := xt89 (xs_lq hq) kc
      subst e1
      have k : nt_rn X _ 8 (155, [(6, .ref (p 26)), (5, .int (J (q 6) v3.toNatClampNeg)), (4, .int (J (q 14) v2.toNatClampNeg)), (0, .ref (p 24)), (1, .ref (q 0)), (2, .int v2), (3, .int v3)], [.int (x89 q v3 J), .int (Int32.ofInt 9), .ref (p 26)], me_w (lw M (nt_u (nt_u (nt_u (nt_u (nt_u (nt_u (nt_u (nt_u (nt_u L (p 26) 0 v2.toInt64) (p 26) 1 ((J (q 3) v2.toNatClampNeg).toInt64)) (p 26) 2 ((J (q 13) v2.toNatClampNeg).toInt64)) (p 26) 3 ((J (q 5) v2.toNatClampNeg).toInt64)) (p 26) 4 ((J (q 6) v3.toNatClampNeg).toInt64)) (p 26) 5 99) (p 26) 6 (Int64.ofNat 1)) (p 26) 7 ((J (q 0) 2).toInt64)) (p 26) 8 ((J (q 0) 3).toInt64))) J) _ := k
      have k := ly_revb 1 (c' := (156, [(6, .ref (p 26)), (5, .int (J (q 6) v3.toNatClampNeg)), (4, .int (J (q 14) v2.toNatClampNeg)), (0, .ref (p 24)), (1, .ref (q 0)), (2, .int v2), (3, .int v3)], [.long ((x89 q v3 J).toInt64), .int (Int32.ofInt 9), .ref (p 26)], me_w (lw M (nt_u (nt_u (nt_u (nt_u (nt_u (nt_u (nt_u (nt_u (nt_u L (p 26) 0 v2.toInt64) (p 26) 1 ((J (q 3) v2.toNatClampNeg).toInt64)) (p 26) 2 ((J (q 13) v2.toNatClampNeg).toInt64)) (p 26) 3 ((J (q 5) v2.toNatClampNeg).toInt64)) (p 26) 4 ((J (q 6) v3.toNatClampNeg).toInt64)) (p 26) 5 99) (p 26) 6 (Int64.ofNat 1)) (p 26) 7 ((J (q 0) 2).toInt64)) (p 26) 8 ((J (q 0) 3).toInt64))) J)) rfl k
      have k := mx_last (q := 9) rfl (show (Int32.ofInt 9).toNatClampNeg = 9 from rfl) k
      have k : nt_rn X _ 8 (157, [(6, .ref (p 26)), (5, .int (J (q 6) v3.toNatClampNeg)), (4, .int (J (q 14) v2.toNatClampNeg)), (0, .ref (p 24)), (1, .ref (q 0)), (2, .int v2), (3, .int v3)], [], me_w (lw M (nt_u (nt_u (nt_u (nt_u (nt_u (nt_u (nt_u (nt_u (nt_u (nt_u L (p 26) 0 v2.toInt64) (p 26) 1 ((J (q 3) v2.toNatClampNeg).toInt64)) (p 26) 2 ((J (q 13) v2.toNatClampNeg).toInt64)) (p 26) 3 ((J (q 5) v2.toNatClampNeg).toInt64)) (p 26) 4 ((J (q 6) v3.toNatClampNeg).toInt64)) (p 26) 5 99) (p 26) 6 (Int64.ofNat 1)) (p 26) 7 ((J (q 0) 2).toInt64)) (p 26) 8 ((J (q 0) 3).toInt64)) (p 26) 9 ((x89 q v3 J).toInt64))) J) _ := k
      have k := lz_rv rfl rfl k
      rw [k, x8, if_pos h86, if_pos h114]
    · rw [if_neg h114] at k
      have k := ly_revb 1 (c' := (122, [(6, .ref (p 26)), (5, .int (J (q 6) v3.toNatClampNeg)), (4, .int (J (q 14) v2.toNatClampNeg)), (0, .ref (p 24)), (1, .ref (q 0)), (2, .int v2), (3, .int v3)], [.long (Int64.ofNat 0), .int (Int32.ofInt 6), .ref (p 26)], me_w (lw M (nt_u (nt_u (nt_u (nt_u (nt_u (nt_u L (p 26) 0 v2.toInt64) (p 26) 1 ((J (q 3) v2.toNatClampNeg).toInt64)) (p 26) 2 ((J (q 13) v2.toNatClampNeg).toInt64)) (p 26) 3 ((J (q 5) v2.toNatClampNeg).toInt64)) (p 26) 4 ((J (q 6) v3.toNatClampNeg).toInt64)) (p 26) 5 99)) J)) rfl k
      have k := mx_last (q := 6) rfl (show (Int32.ofInt 6).toNatClampNeg = 6 from rfl) k
      have k : nt_rn X _ 8 (123, [(6, .ref (p 26)), (5, .int (J (q 6) v3.toNatClampNeg)), (4, .int (J (q 14) v2.toNatClampNeg)), (0, .ref (p 24)), (1, .ref (q 0)), (2, .int v2), (3, .int v3)], [], me_w (lw M (nt_u (nt_u (nt_u (nt_u (nt_u (nt_u (nt_u L (p 26) 0 v2.toInt64) (p 26) 1 ((J (q 3) v2.toNatClampNeg).toInt64)) (p 26) 2 ((J (q 13) v2.toNatClampNeg).toInt64)) (p 26) 3 ((J (q 5) v2.toNatClampNeg).toInt64)) (p 26) 4 ((J (q 6) v3.toNatClampNeg).toInt64)) (p 26) 5 99) (p 26) 6 (Int64.ofNat 0))) J) _ := k
      have k := ly_revb 3 (c' := (128, [(6, .ref (p 26)), (5, .int (J (q 6) v3.toNatClampNeg)), (4, .int (J (q 14) v2.toNatClampNeg)), (0, .ref (p 24)), (1, .ref (q 0)), (2, .int v2), (3, .int v3)], [.ref (q 0), .int (Int32.ofInt 7), .ref (p 26)], me_w (lw M (nt_u (nt_u (nt_u (nt_u (nt_u (nt_u (nt_u L (p 26) 0 v2.toInt64) (p 26) 1 ((J (q 3) v2.toNatClampNeg).toInt64)) (p 26) 2 ((J (q 13) v2.toNatClampNeg).toInt64)) (p 26) 3 ((J (q 5) v2.toNatClampNeg).toInt64)) (p 26) 4 ((J (q 6) v3.toNatClampNeg).toInt64)) (p 26) 5 99) (p 26) 6 (Int64.ofNat 0))) J)) rfl k
      have k := lz_get (a := (q 0)) (g := 602) (M := me_w (lw M (nt_u (nt_u (nt_u (nt_u (nt_u (nt_u (nt_u L (p 26) 0 v2.toInt64) (p 26) 1 ((J (q 3) v2.toNatClampNeg).toInt64)) (p 26) 2 ((J (q 13) v2.toNatClampNeg).toInt64)) (p 26) 3 ((J (q 5) v2.toNatClampNeg).toInt64)) (p 26) 4 ((J (q 6) v3.toNatClampNeg).toInt64)) (p 26) 5 99) (p 26) 6 (Int64.ofNat 0))) J) (v := .int (J (q 0) 2)) rfl (congrArg Value.int (rfl)) k
      have k := ly_revb 1 (c' := (132, [(6, .ref (p 26)), (5, .int (J (q 6) v3.toNatClampNeg)), (4, .int (J (q 14) v2.toNatClampNeg)), (0, .ref (p 24)), (1, .ref (q 0)), (2, .int v2), (3, .int v3)], [.long ((J (q 0) 2).toInt64), .int (Int32.ofInt 7), .ref (p 26)], me_w (lw M (nt_u (nt_u (nt_u (nt_u (nt_u (nt_u (nt_u L (p 26) 0 v2.toInt64) (p 26) 1 ((J (q 3) v2.toNatClampNeg).toInt64)) (p 26) 2 ((J (q 13) v2.toNatClampNeg).toInt64)) (p 26) 3 ((J (q 5) v2.toNatClampNeg).toInt64)) (p 26) 4 ((J (q 6) v3.toNatClampNeg).toInt64)) (p 26) 5 99) (p 26) 6 (Int64.ofNat 0))) J)) rfl k
      have k := mx_last (q := 7) rfl (show (Int32.ofInt 7).toNatClampNeg = 7 from rfl) k
      have k : nt_rn X _ 8 (133, [(6, .ref (p 26)), (5, .int (J (q 6) v3.toNatClampNeg)), (4, .int (J (q 14) v2.toNatClampNeg)), (0, .ref (p 24)), (1, .ref (q 0)), (2, .int v2), (3, .int v3)], [], me_w (lw M (nt_u (nt_u (nt_u (nt_u (nt_u (nt_u (nt_u (nt_u L (p 26) 0 v2.toInt64) (p 26) 1 ((J (q 3) v2.toNatClampNeg).toInt64)) (p 26) 2 ((J (q 13) v2.toNatClampNeg).toInt64)) (p 26) 3 ((J (q 5) v2.toNatClampNeg).toInt64)) (p 26) 4 ((J (q 6) v3.toNatClampNeg).toInt64)) (p 26) 5 99) (p 26) 6 (Int64.ofNat 0)) (p 26) 7 ((J (q 0) 2).toInt64))) J) _ := k
      have k := ly_revb 3 (c' := (138, [(6, .ref (p 26)), (5, .int (J (q 6) v3.toNatClampNeg)), (4, .int (J (q 14) v2.toNatClampNeg)), (0, .ref (p 24)), (1, .ref (q 0)), (2, .int v2), (3, .int v3)], [.ref (q 0), .int (Int32.ofInt 8), .ref (p 26)], me_w (lw M (nt_u (nt_u (nt_u (nt_u (nt_u (nt_u (nt_u (nt_u L (p 26) 0 v2.toInt64) (p 26) 1 ((J (q 3) v2.toNatClampNeg).toInt64)) (p 26) 2 ((J (q 13) v2.toNatClampNeg).toInt64)) (p 26) 3 ((J (q 5) v2.toNatClampNeg).toInt64)) (p 26) 4 ((J (q 6) v3.toNatClampNeg).toInt64)) (p 26) 5 99) (p 26) 6 (Int64.ofNat 0)) (p 26) 7 ((J (q 0) 2).toInt64))) J)) rfl k
      have k := lz_get (a := (q 0)) (g := 603) (M := me_w (lw M (nt_u (nt_u (nt_u (nt_u (nt_u (nt_u (nt_u (nt_u L (p 26) 0 v2.toInt64) (p 26) 1 ((J (q 3) v2.toNatClampNeg).toInt64)) (p 26) 2 ((J (q 13) v2.toNatClampNeg).toInt64)) (p 26) 3 ((J (q 5) v2.toNatClampNeg).toInt64)) (p 26) 4 ((J (q 6) v3.toNatClampNeg).toInt64)) (p 26) 5 99) (p 26) 6 (Int64.ofNat 0)) (p 26) 7 ((J (q 0) 2).toInt64))) J) (v := .int (J (q 0) 3)) rfl (congrArg Value.int (rfl)) k
      have k := ly_revb 1 (c' := (142, [(6, .ref (p 26)), (5, .int (J (q 6) v3.toNatClampNeg)), (4, .int (J (q 14) v2.toNatClampNeg)), (0, .ref (p 24)), (1, .ref (q 0)), (2, .int v2), (3, .int v3)], [.long ((J (q 0) 3).toInt64), .int (Int32.ofInt 8), .ref (p 26)], me_w (lw M (nt_u (nt_u (nt_u (nt_u (nt_u (nt_u (nt_u (nt_u L (p 26) 0 v2.toInt64) (p 26) 1 ((J (q 3) v2.toNatClampNeg).toInt64)) (p 26) 2 ((J (q 13) v2.toNatClampNeg).toInt64)) (p 26) 3 ((J (q 5) v2.toNatClampNeg).toInt64)) (p 26) 4 ((J (q 6) v3.toNatClampNeg).toInt64)) (p 26) 5 99) (p 26) 6 (Int64.ofNat 0)) (p 26) 7 ((J (q 0) 2).toInt64))) J)) rfl k
      have k := mx_last (q := 8) rfl (show (Int32.ofInt 8).toNatClampNeg = 8 from rfl) k
      have k : nt_rn X _ 8 (143, [(6, .ref (p 26)), (5, .int (J (q 6) v3.toNatClampNeg)), (4, .int (J (q 14) v2.toNatClampNeg)), (0, .ref (p 24)), (1, .ref (q 0)), (2, .int v2), (3, .int v3)], [], me_w (lw M (nt_u (nt_u (nt_u (nt_u (nt_u (nt_u (nt_u (nt_u (nt_u L (p 26) 0 v2.toInt64) (p 26) 1 ((J (q 3) v2.toNatClampNeg).toInt64)) (p 26) 2 ((J (q 13) v2.toNatClampNeg).toInt64)) (p 26) 3 ((J (q 5) v2.toNatClampNeg).toInt64)) (p 26) 4 ((J (q 6) v3.toNatClampNeg).toInt64)) (p 26) 5 99) (p 26) 6 (Int64.ofNat 0)) (p 26) 7 ((J (q 0) 2).toInt64)) (p 26) 8 ((J (q 0) 3).toInt64))) J) _ := k
      have k := ly_revb 3 (c' := (148, [(6, .ref (p 26)), (5, .int (J (q 6) v3.toNatClampNeg)), (4, .int (J (q 14) v2.toNatClampNeg)), (0, .ref (p 24)), (1, .ref (q 0)), (2, .int v2), (3, .int v3)], [.ref (q 0), .int (Int32.ofInt 9), .ref (p 26)], me_w (lw M (nt_u (nt_u (nt_u (nt_u (nt_u (nt_u (nt_u (nt_u (nt_u L (p 26) 0 v2.toInt64) (p 26) 1 ((J (q 3) v2.toNatClampNeg).toInt64)) (p 26) 2 ((J (q 13) v2.toNatClampNeg).toInt64)) (p 26) 3 ((J (q 5) v2.toNatClampNeg).toInt64)) (p 26) 4 ((J (q 6) v3.toNatClampNeg).toInt64)) (p 26) 5 99) (p 26) 6 (Int64.ofNat 0)) (p 26) 7 ((J (q 0) 2).toInt64)) (p 26) 8 ((J (q 0) 3).toInt64))) J)) rfl k
      have k := lz_get (a := (q 0)) (g := 600) (M := me_w (lw M (nt_u (nt_u (nt_u (nt_u (nt_u (nt_u (nt_u (nt_u (nt_u L (p 26) 0 v2.toInt64) (p 26) 1 ((J (q 3) v2.toNatClampNeg).toInt64)) (p 26) 2 ((J (q 13) v2.toNatClampNeg).toInt64)) (p 26) 3 ((J (q 5) v2.toNatClampNeg).toInt64)) (p 26) 4 ((J (q 6) v3.toNatClampNeg).toInt64)) (p 26) 5 99) (p 26) 6 (Int64.ofNat 0)) (p 26) 7 ((J (q 0) 2).toInt64)) (p 26) 8 ((J (q 0) 3).toInt64))) J) (v := .ref (q 1)) rfl (nt_gfR rfl (hq.1 (0, 0, 1) (by decide))) k
      have k := ly_revb 1 (c' := (152, [(6, .ref (p 26)), (5, .int (J (q 6) v3.toNatClampNeg)), (4, .int (J (q 14) v2.toNatClampNeg)), (0, .ref (p 24)), (1, .ref (q 0)), (2, .int v2), (3, .int v3)], [.int v3, .ref (q 1), .int (Int32.ofInt 9), .ref (p 26)], me_w (lw M (nt_u (nt_u (nt_u (nt_u (nt_u (nt_u (nt_u (nt_u (nt_u L (p 26) 0 v2.toInt64) (p 26) 1 ((J (q 3) v2.toNatClampNeg).toInt64)) (p 26) 2 ((J (q 13) v2.toNatClampNeg).toInt64)) (p 26) 3 ((J (q 5) v2.toNatClampNeg).toInt64)) (p 26) 4 ((J (q 6) v3.toNatClampNeg).toInt64)) (p 26) 5 99) (p 26) 6 (Int64.ofNat 0)) (p 26) 7 ((J (q 0) 2).toInt64)) (p 26) 8 ((J (q 0) 3).toInt64))) J)) rfl k
      obtain ⟨d1, o1, ed, kc, k⟩ := lz_c (g := 89) (q := 1) (vs := [.ref (q 1), .int v3]) (rest := [.int (Int32.ofInt 9), .ref (p 26)]) rfl rfl (by decide) (Or.inr (Or.inl ⟨_, rfl, rfl⟩)) rfl k
      have e1 := xt89 (xs_lq hq) kc
      subst e1
      have k : nt_rn X _ 8 (155, [(6, .ref (p 26)), (5, .int (J (q 6) v3.toNatClampNeg)), (4, .int (J (q 14) v2.toNatClampNeg)), (0, .ref (p 24)), (1, .ref (q 0)), (2, .int v2), (3, .int v3)], [.int (x89 q v3 J), .int (Int32.ofInt 9), .ref (p 26)], me_w (lw M (nt_u (nt_u (nt_u (nt_u (nt_u (nt_u (nt_u (nt_u (nt_u L (p 26) 0 v2.toInt64) (p 26) 1 ((J (q 3) v2.toNatClampNeg).toInt64)) (p 26) 2 ((J (q 13) v2.toNatClampNeg).toInt64)) (p 26) 3 ((J (q 5) v2.toNatClampNeg).toInt64)) (p 26) 4 ((J (q 6) v3.toNatClampNeg).toInt64)) (p 26) 5 99) (p 26) 6 (Int64.ofNat 0)) (p 26) 7 ((J (q 0) 2).toInt64)) (p 26) 8 ((J (q 0) 3).toInt64))) J) _ := k
      have k := ly_revb 1 (c' := (156, [(6, .ref (p 26)), (5, .int (J (q 6) v3.toNatClampNeg)), (4, .int (J (q 14) v2.toNatClampNeg)), (0, .ref (p 24)), (1, .ref (q 0)), (2, .int v2), (3, .int v3)], [.long ((x89 q v3 J).toInt64), .int (Int32.ofInt 9), .ref (p 26)], me_w (lw M (nt_u (nt_u (nt_u (nt_u (nt_u (nt_u (nt_u (nt_u (nt_u L (p 26) 0 v2.toInt64) (p 26) 1 ((J (q 3) v2.toNatClampNeg).toInt64)) (p 26) 2 ((J (q 13) v2.toNatClampNeg).toInt64)) (p 26) 3 ((J (q 5) v2.toNatClampNeg).toInt64)) (p 26) 4 ((J (q 6) v3.toNatClampNeg).toInt64)) (p 26) 5 99) (p 26) 6 (Int64.ofNat 0)) (p 26) 7 ((J (q 0) 2).toInt64)) (p 26) 8 ((J (q 0) 3).toInt64))) J)) rfl k
      have k := mx_last (q := 9) rfl (show (Int32.ofInt 9).toNatClampNeg = 9 from rfl) k
      have k : nt_rn X _ 8 (157, [(6, .ref (p 26)), (5, .int (J (q 6) v3.toNatClampNeg)), (4, .int (J (q 14) v2.toNatClampNeg)), (0, .ref (p 24)), (1, .ref (q 0)), (2, .int v2), (3, .int v3)], [], me_w (lw M (nt_u (nt_u (nt_u (nt_u (nt_u (nt_u (nt_u (nt_u (nt_u (nt_u L (p 26) 0 v2.toInt64) (p 26) 1 ((J (q 3) v2.toNatClampNeg).toInt64)) (p 26) 2 ((J (q 13) v2.toNatClampNeg).toInt64)) (p 26) 3 ((J (q 5) v2.toNatClampNeg).toInt64)) (p 26) 4 ((J (q 6) v3.toNatClampNeg).toInt64)) (p 26) 5 99) (p 26) 6 (Int64.ofNat 0)) (p 26) 7 ((J (q 0) 2).toInt64)) (p 26) 8 ((J (q 0) 3).toInt64)) (p 26) 9 ((x89 q v3 J).toInt64))) J) _ := k
      have k := lz_rv rfl rfl k
      rw [k, x8, if_pos h86, if_neg h114]
  · rw [if_neg h86] at k
    have k := ly_revb 2 (c' := (98, [(6, .ref (p 26)), (5, .int (J (q 6) v3.toNatClampNeg)), (4, .int (J (q 14) v2.toNatClampNeg)), (0, .ref (p 24)), (1, .ref (q 0)), (2, .int v2), (3, .int v3)], [.long ((J (q 14) v2.toNatClampNeg).toInt64), .int (Int32.ofInt 5), .ref (p 26)], me_w (lw M (nt_u (nt_u (nt_u (nt_u (nt_u L (p 26) 0 v2.toInt64) (p 26) 1 ((J (q 3) v2.toNatClampNeg).toInt64)) (p 26) 2 ((J (q 13) v2.toNatClampNeg).toInt64)) (p 26) 3 ((J (q 5) v2.toNatClampNeg).toInt64)) (p 26) 4 ((J (q 6) v3.toNatClampNeg).toInt64))) J)) rfl k
    have k := mx_last (q := 5) rfl (show (Int32.ofInt 5).toNatClampNeg = 5 from rfl) k
    have k : nt_rn X _ 8 (99, [(6, .ref (p 26)), (5, .int (J (q 6) v3.toNatClampNeg)), (4, .int (J (q 14) v2.toNatClampNeg)), (0, .ref (p 24)), (1, .ref (q 0)), (2, .int v2), (3, .int v3)], [], me_w (lw M (nt_u (nt_u (nt_u (nt_u (nt_u (nt_u L (p 26) 0 v2.toInt64) (p 26) 1 ((J (q 3) v2.toNatClampNeg).toInt64)) (p 26) 2 ((J (q 13) v2.toNatClampNeg).toInt64)) (p 26) 3 ((J (q 5) v2.toNatClampNeg).toInt64)) (p 26) 4 ((J (q 6) v3.toNatClampNeg).toInt64)) (p 26) 5 ((J (q 14) v2.toNatClampNeg).toInt64))) J) _ := k
    have k := ly_revb 3 (c' := (104, [(6, .ref (p 26)), (5, .int (J (q 6) v3.toNatClampNeg)), (4, .int (J (q 14) v2.toNatClampNeg)), (0, .ref (p 24)), (1, .ref (q 0)), (2, .int v2), (3, .int v3)], [.ref (q 0), .int (Int32.ofInt 6), .ref (p 26)], me_w (lw M (nt_u (nt_u (nt_u (nt_u (nt_u (nt_u L (p 26) 0 v2.toInt64) (p 26) 1 ((J (q 3) v2.toNatClampNeg).toInt64)) (p 26) 2 ((J (q 13) v2.toNatClampNeg).toInt64)) (p 26) 3 ((J (q 5) v2.toNatClampNeg).toInt64)) (p 26) 4 ((J (q 6) v3.toNatClampNeg).toInt64)) (p 26) 5 ((J (q 14) v2.toNatClampNeg).toInt64))) J)) rfl k
    have k := lz_get (a := (q 0)) (g := 600) (M := me_w (lw M (nt_u (nt_u (nt_u (nt_u (nt_u (nt_u L (p 26) 0 v2.toInt64) (p 26) 1 ((J (q 3) v2.toNatClampNeg).toInt64)) (p 26) 2 ((J (q 13) v2.toNatClampNeg).toInt64)) (p 26) 3 ((J (q 5) v2.toNatClampNeg).toInt64)) (p 26) 4 ((J (q 6) v3.toNatClampNeg).toInt64)) (p 26) 5 ((J (q 14) v2.toNatClampNeg).toInt64))) J) (v := .ref (q 1)) rfl (nt_gfR rfl (hq.1 (0, 0, 1) (by decide))) k
    have k := lz_get (a := (q 1)) (g := 808) (M := me_w (lw M (nt_u (nt_u (nt_u (nt_u (nt_u (nt_u L (p 26) 0 v2.toInt64) (p 26) 1 ((J (q 3) v2.toNatClampNeg).toInt64)) (p 26) 2 ((J (q 13) v2.toNatClampNeg).toInt64)) (p 26) 3 ((J (q 5) v2.toNatClampNeg).toInt64)) (p 26) 4 ((J (q 6) v3.toNatClampNeg).toInt64)) (p 26) 5 ((J (q 14) v2.toNatClampNeg).toInt64))) J) (v := .ref (q 5)) rfl (nt_gfR rfl (hq.1 (1, 8, 5) (by decide))) k
    have k := ly_revb 1 (c' := (111, [(6, .ref (p 26)), (5, .int (J (q 6) v3.toNatClampNeg)), (4, .int (J (q 14) v2.toNatClampNeg)), (0, .ref (p 24)), (1, .ref (q 0)), (2, .int v2), (3, .int v3)], [.int v2, .ref (q 5), .int (Int32.ofInt 6), .ref (p 26)], me_w (lw M (nt_u (nt_u (nt_u (nt_u (nt_u (nt_u L (p 26) 0 v2.toInt64) (p 26) 1 ((J (q 3) v2.toNatClampNeg).toInt64)) (p 26) 2 ((J (q 13) v2.toNatClampNeg).toInt64)) (p 26) 3 ((J (q 5) v2.toNatClampNeg).toInt64)) (p 26) 4 ((J (q 6) v3.toNatClampNeg).toInt64)) (p 26) 5 ((J (q 14) v2.toNatClampNeg).toInt64))) J)) rfl k
    have k := mx_iald (v := J (q 5) v2.toNatClampNeg) rfl (hq.2.2.1 5 (by omega)) (rfl) k
    have k := ly_revb 2 (c' := (if (J (q 5) v2.toNatClampNeg) = (J (q 6) v3.toNatClampNeg) then 117 else 121, [(6, .ref (p 26)), (5, .int (J (q 6) v3.toNatClampNeg)), (4, .int (J (q 14) v2.toNatClampNeg)), (0, .ref (p 24)), (1, .ref (q 0)), (2, .int v2), (3, .int v3)], [.int (Int32.ofInt 6), .ref (p 26)], me_w (lw M (nt_u (nt_u (nt_u (nt_u (nt_u (nt_u L (p 26) 0 v2.toInt64) (p 26) 1 ((J (q 3) v2.toNatClampNeg).toInt64)) (p 26) 2 ((J (q 13) v2.toNatClampNeg).toInt64)) (p 26) 3 ((J (q 5) v2.toNatClampNeg).toInt64)) (p 26) 4 ((J (q 6) v3.toNatClampNeg).toInt64)) (p 26) 5 ((J (q 14) v2.toNatClampNeg).toInt64))) J)) rfl k
    by_cases h114 : (J (q 5) v2.toNatClampNeg) = (J (q 6) v3.toNatClampNeg)
    · rw [if_pos h114] at k
      have k := ly_revb 2 (c' := (122, [(6, .ref (p 26)), (5, .int (J (q 6) v3.toNatClampNeg)), (4, .int (J (q 14) v2.toNatClampNeg)), (0, .ref (p 24)), (1, .ref (q 0)), (2, .int v2), (3, .int v3)], [.long (Int64.ofNat 1), .int (Int32.ofInt 6), .ref (p 26)], me_w (lw M (nt_u (nt_u (nt_u (nt_u (nt_u (nt_u L (p 26) 0 v2.toInt64) (p 26) 1 ((J (q 3) v2.toNatClampNeg).toInt64)) (p 26) 2 ((J (q 13) v2.toNatClampNeg).toInt64)) (p 26) 3 ((J (q 5) v2.toNatClampNeg).toInt64)) (p 26) 4 ((J (q 6) v3.toNatClampNeg).toInt64)) (p 26) 5 ((J (q 14) v2.toNatClampNeg).toInt64))) J)) rfl k
      have k := mx_last (q := 6) rfl (show (Int32.ofInt 6).toNatClampNeg = 6 from rfl) k
      have k : nt_rn X _ 8 (123, [(6, .ref (p 26)), (5, .int (J (q 6) v3.toNatClampNeg)), (4, .int (J (q 14) v2.toNatClampNeg)), (0, .ref (p 24)), (1, .ref (q 0)), (2, .int v2), (3, .int v3)], [], me_w (lw M (nt_u (nt_u (nt_u (nt_u (nt_u (nt_u (nt_u L (p 26) 0 v2.toInt64) (p 26) 1 ((J (q 3) v2.toNatClampNeg).toInt64)) (p 26) 2 ((J (q 13) v2.toNatClampNeg).toInt64)) (p 26) 3 ((J (q 5) v2.toNatClampNeg).toInt64)) (p 26) 4 ((J (q 6) v3.toNatClampNeg).toInt64)) (p 26) 5 ((J (q 14) v2.toNatClampNeg).toInt64)) (p 26) 6 (Int64.ofNat 1))) J) _ := k
      have k := ly_revb 3 (c' := (128, [(6, .ref (p 26)), (5, .int (J (q 6) v3.toNatClampNeg)), (4, .int (J (q 14) v2.toNatClampNeg)), (0, .ref (p 24)), (1, .ref (q 0)), (2, .int v2), (3, .int v3)], [.ref (q 0), .int (Int32.ofInt 7), .ref (p 26)], me_w (lw M (nt_u (nt_u (nt_u (nt_u (nt_u (nt_u (nt_u L (p 26) 0 v2.toInt64) (p 26) 1 ((J (q 3) v2.toNatClampNeg).toInt64)) (p 26) 2 ((J (q 13) v2.toNatClampNeg).toInt64)) (p 26) 3 ((J (q 5) v2.toNatClampNeg).toInt64)) (p 26) 4 ((J (q 6) v3.toNatClampNeg).toInt64)) (p 26) 5 ((J (q 14) v2.toNatClampNeg).toInt64)) (p 26) 6 (Int64.ofNat 1))) J)) rfl k
      have k := lz_get (a := (q 0)) (g := 602) (M := me_w (lw M (nt_u (nt_u (nt_u (nt_u (nt_u (nt_u (nt_u L (p 26) 0 v2.toInt64) (p 26) 1 ((J (q 3) v2.toNatClampNeg).toInt64)) (p 26) 2 ((J (q 13) v2.toNatClampNeg).toInt64)) (p 26) 3 ((J (q 5) v2.toNatClampNeg).toInt64)) (p 26) 4 ((J (q 6) v3.toNatClampNeg).toInt64)) (p 26) 5 ((J (q 14) v2.toNatClampNeg).toInt64)) (p 26) 6 (Int64.ofNat 1))) J) (v := .int (J (q 0) 2)) rfl (congrArg Value.int (rfl)) k
      have k := ly_revb 1 (c' := (132, [(6, .ref (p 26)), (5, .int (J (q 6) v3.toNatClampNeg)), (4, .int (J (q 14) v2.toNatClampNeg)), (0, .ref (p 24)), (1, .ref (q 0)), (2, .int v2), (3, .int v3)], [.long ((J (q 0) 2).toInt64), .int (Int32.ofInt 7), .ref (p 26)], me_w (lw M (nt_u (nt_u (nt_u (nt_u (nt_u (nt_u (nt_u L (p 26) 0 v2.toInt64) (p 26) 1 ((J (q 3) v2.toNatClampNeg).toInt64)) (p 26) 2 ((J (q 13) v2.toNatClampNeg).toInt64)) (p 26) 3 ((J (q 5) v2.toNatClampNeg).toInt64)) (p 26) 4 ((J (q 6) v3.toNatClampNeg).toInt64)) (p 26) 5 ((J (q 14) v2.toNatClampNeg).toInt64)) (p 26) 6 (Int64.ofNat 1))) J)) rfl k
      have k := mx_last (q := 7) rfl (show (Int32.ofInt 7).toNatClampNeg = 7 from rfl) k
      have k : nt_rn X _ 8 (133, [(6, .ref (p 26)), (5, .int (J (q 6) v3.toNatClampNeg)), (4, .int (J (q 14) v2.toNatClampNeg)), (0, .ref (p 24)), (1, .ref (q 0)), (2, .int v2), (3, .int v3)], [], me_w (lw M (nt_u (nt_u (nt_u (nt_u (nt_u (nt_u (nt_u (nt_u L (p 26) 0 v2.toInt64) (p 26) 1 ((J (q 3) v2.toNatClampNeg).toInt64)) (p 26) 2 ((J (q 13) v2.toNatClampNeg).toInt64)) (p 26) 3 ((J (q 5) v2.toNatClampNeg).toInt64)) (p 26) 4 ((J (q 6) v3.toNatClampNeg).toInt64)) (p 26) 5 ((J (q 14) v2.toNatClampNeg).toInt64)) (p 26) 6 (Int64.ofNat 1)) (p 26) 7 ((J (q 0) 2).toInt64))) J) _ := k
      have k := ly_revb 3 (c' := (138, [(6, .ref (p 26)), (5, .int (J (q 6) v3.toNatClampNeg)), (4, .int (J (q 14) v2.toNatClampNeg)), (0, .ref (p 24)), (1, .ref (q 0)), (2, .int v2), (3, .int v3)], [.ref (q 0), .int (Int32.ofInt 8), .ref (p 26)], me_w (lw M (nt_u (nt_u (nt_u (nt_u (nt_u (nt_u (nt_u (nt_u L (p 26) 0 v2.toInt64) (p 26) 1 ((J (q 3) v2.toNatClampNeg).toInt64)) (p 26) 2 ((J (q 13) v2.toNatClampNeg).toInt64)) (p 26) 3 ((J (q 5) v2.toNatClampNeg).toInt64)) (p 26) 4 ((J (q 6) v3.toNatClampNeg).toInt64)) (p 26) 5 ((J (q 14) v2.toNatClampNeg).toInt64)) (p 26) 6 (Int64.ofNat 1)) (p 26) 7 ((J (q 0) 2).toInt64))) J)) rfl k
      have k := lz_get (a := (q 0)) (g := 603) (M := me_w (lw M (nt_u (nt_u (nt_u (nt_u (nt_u (nt_u (nt_u (nt_u L (p 26) 0 v2.toInt64) (p 26) 1 ((J (q 3) v2.toNatClampNeg).toInt64)) (p 26) 2 ((J (q 13) v2.toNatClampNeg).toInt64)) (p 26) 3 ((J (q 5) v2.toNatClampNeg).toInt64)) (p 26) 4 ((J (q 6) v3.toNatClampNeg).toInt64)) (p 26) 5 ((J (q 14) v2.toNatClampNeg).toInt64)) (p 26) 6 (Int64.ofNat 1)) (p 26) 7 ((J (q 0) 2).toInt64))) J) (v := .int (J (q 0) 3)) rfl (congrArg Value.int (rfl)) k
      have k := ly_revb 1 (c' := (142, [(6, .ref (p 26)), (5, .int (J (q 6) v3.toNatClampNeg)), (4, .int (J (q 14) v2.toNatClampNeg)), (0, .ref (p 24)), (1, .ref (q 0)), (2, .int v2), (3, .int v3)], [.long ((J (q 0) 3).toInt64), .int (Int32.ofInt 8), .ref (p 26)], me_w (lw M (nt_u (nt_u (nt_u (nt_u (nt_u (nt_u (nt_u (nt_u L (p 26) 0 v2.toInt64) (p 26) 1 ((J (q 3) v2.toNatClampNeg).toInt64)) (p 26) 2 ((J (q 13) v2.toNatClampNeg).toInt64)) (p 26) 3 ((J (q 5) v2.toNatClampNeg).toInt64)) (p 26) 4 ((J (q 6) v3.toNatClampNeg).toInt64)) (p 26) 5 ((J (q 14) v2.toNatClampNeg).toInt64)) (p 26) 6 (Int64.ofNat 1)) (p 26) 7 ((J (q 0) 2).toInt64))) J)) rfl k
      have k := mx_last (q := 8) rfl (show (Int32.ofInt 8).toNatClampNeg = 8 from rfl) k
      have k : nt_rn X _ 8 (143, [(6, .ref (p 26)), (5, .int (J (q 6) v3.toNatClampNeg)), (4, .int (J (q 14) v2.toNatClampNeg)), (0, .ref (p 24)), (1, .ref (q 0)), (2, .int v2), (3, .int v3)], [], me_w (lw M (nt_u (nt_u (nt_u (nt_u (nt_u (nt_u (nt_u (nt_u (nt_u L (p 26) 0 v2.toInt64) (p 26) 1 ((J (q 3) v2.toNatClampNeg).toInt64)) (p 26) 2 ((J (q 13) v2.toNatClampNeg).toInt64)) (p 26) 3 ((J (q 5) v2.toNatClampNeg).toInt64)) (p 26) 4 ((J (q 6) v3.toNatClampNeg).toInt64)) (p 26) 5 ((J (q 14) v2.toNatClampNeg).toInt64)) (p 26) 6 (Int64.ofNat 1)) (p 26) 7 ((J (q 0) 2).toInt64)) (p 26) 8 ((J (q 0) 3).toInt64))) J) _ := k
      have k := ly_revb 3 (c' := (148, [(6, .ref (p 26)), (5, .int (J (q 6) v3.toNatClampNeg)), (4, .int (J (q 14) v2.toNatClampNeg)), (0, .ref (p 24)), (1, .ref (q 0)), (2, .int v2), (3, .int v3)], [.ref (q 0), .int (Int32.ofInt 9), .ref (p 26)], me_w (lw M (nt_u (nt_u (nt_u (nt_u (nt_u (nt_u (nt_u (nt_u (nt_u L (p 26) 0 v2.toInt64) (p 26) 1 ((J (q 3) v2.toNatClampNeg).toInt64)) (p 26) 2 ((J (q 13) v2.toNatClampNeg).toInt64)) (p 26) 3 ((J (q 5) v2.toNatClampNeg).toInt64)) (p 26) 4 ((J (q 6) v3.toNatClampNeg).toInt64)) (p 26) 5 ((J (q 14) v2.toNatClampNeg).toInt64)) (p 26) 6 (Int64.ofNat 1)) (p 26) 7 ((J (q 0) 2).toInt64)) (p 26) 8 ((J (q 0) 3).toInt64))) J)) rfl k
      have k := lz_get (a := (q 0)) (g := 600) (M := me_w (lw M (nt_u (nt_u (nt_u (nt_u (nt_u (nt_u (nt_u (nt_u (nt_u L (p 26) 0 v2.toInt64) (p 26) 1 ((J (q 3) v2.toNatClampNeg).toInt64)) (p 26) 2 ((J (q 13) v2.toNatClampNeg).toInt64)) (p 26) 3 ((J (q 5) v2.toNatClampNeg).toInt64)) (p 26) 4 ((J (q 6) v3.toNatClampNeg).toInt64)) (p 26) 5 ((J (q 14) v2.toNatClampNeg).toInt64)) (p 26) 6 (Int64.ofNat 1)) (p 26) 7 ((J (q 0) 2).toInt64)) (p 26) 8 ((J (q 0) 3).toInt64))) J) (v := .ref (q 1)) rfl (nt_gfR rfl (hq.1 (0, 0, 1) (by decide))) k
      have k := ly_revb 1 (c' := (152, [(6, .ref (p 26)), (5, .int (J (q 6) v3.toNatClampNeg)), (4, .int (J (q 14) v2.toNatClampNeg)), (0, .ref (p 24)), (1, .ref (q 0)), (2, .int v2), (3, .int v3)], [.int v3, .ref (q 1), .int (Int32.ofInt 9), .ref (p 26)], me_w (lw M (nt_u (nt_u (nt_u (nt_u (nt_u (nt_u (nt_u (nt_u (nt_u L (p 26) 0 v2.toInt64) (p 26) 1 ((J (q 3) v2.toNatClampNeg).toInt64)) (p 26) 2 ((J (q 13) v2.toNatClampNeg).toInt64)) (p 26) 3 ((J (q 5) v2.toNatClampNeg).toInt64)) (p 26) 4 ((J (q 6) v3.toNatClampNeg).toInt64)) (p 26) 5 ((J (q 14) v2.toNatClampNeg).toInt64)) (p 26) 6 (Int64.ofNat 1)) (p 26) 7 ((J (q 0) 2).toInt64)) (p 26) 8 ((J (q 0) 3).toInt64))) J)) rfl k
      obtain ⟨d1, o1, ed, kc, k⟩ := lz_c (g := 89) (q := 1) (vs := [.ref (q 1), .int v3]) (rest := [.int (Int32.ofInt 9), .ref (p 26)]) rfl rfl (by decide) (Or.inr (Or.inl ⟨_, rfl, rfl⟩)) rfl k
      have e1 := xt89 (xs_lq hq) kc
      subst e1
      have k : nt_rn X _ 8 (155, [(6, .ref (p 26)), (5, .int (J (q 6) v3.toNatClampNeg)), (4, .int (J (q 14) v2.toNatClampNeg)), (0, .ref (p 24)), (1, .ref (q 0)), (2, .int v2), (3, .int v3)], [.int (x89 q v3 J), .int (Int32.ofInt 9), .ref (p 26)], me_w (lw M (nt_u (nt_u (nt_u (nt_u (nt_u (nt_u (nt_u (nt_u (nt_u L (p 26) 0 v2.toInt64) (p 26) 1 ((J (q 3) v2.toNatClampNeg).toInt64)) (p 26) 2 ((J (q 13) v2.toNatClampNeg).toInt64)) (p 26) 3 ((J (q 5) v2.toNatClampNeg).toInt64)) (p 26) 4 ((J (q 6) v3.toNatClampNeg).toInt64)) (p 26) 5 ((J (q 14) v2.toNatClampNeg).toInt64)) (p 26) 6 (Int64.ofNat 1)) (p 26) 7 ((J (q 0) 2).toInt64)) (p 26) 8 ((J (q 0) 3).toInt64))) J) _ := k
      have k := ly_revb 1 (c' := (156, [(6, .ref (p 26)), (5, .int (J (q 6) v3.toNatClampNeg)), (4, .int (J (q 14) v2.toNatClampNeg)), (0, .ref (p 24)), (1, .ref (q 0)), (2, .int v2), (3, .int v3)], [.long ((x89 q v3 J).toInt64), .int (Int32.ofInt 9), .ref (p 26)], me_w (lw M (nt_u (nt_u (nt_u (nt_u (nt_u (nt_u (nt_u (nt_u (nt_u L (p 26) 0 v2.toInt64) (p 26) 1 ((J (q 3) v2.toNatClampNeg).toInt64)) (p 26) 2 ((J (q 13) v2.toNatClampNeg).toInt64)) (p 26) 3 ((J (q 5) v2.toNatClampNeg).toInt64)) (p 26) 4 ((J (q 6) v3.toNatClampNeg).toInt64)) (p 26) 5 ((J (q 14) v2.toNatClampNeg).toInt64)) (p 26) 6 (Int64.ofNat 1)) (p 26) 7 ((J (q 0) 2).toInt64)) (p 26) 8 ((J (q 0) 3).toInt64))) J)) rfl k
      have k := mx_last (q := 9) rfl (show (Int32.ofInt 9).toNatClampNeg = 9 from rfl) k
      have k : nt_rn X _ 8 (157, [(6, .ref (p 26)), (5, .int (J (q 6) v3.toNatClampNeg)), (4, .int (J (q 14) v2.toNatClampNeg)), (0, .ref (p 24)), (1, .ref (q 0)), (2, .int v2), (3, .int v3)], [], me_w (lw M (nt_u (nt_u (nt_u (nt_u (nt_u (nt_u (nt_u (nt_u (nt_u (nt_u L (p 26) 0 v2.toInt64) (p 26) 1 ((J (q 3) v2.toNatClampNeg).toInt64)) (p 26) 2 ((J (q 13) v2.toNatClampNeg).toInt64)) (p 26) 3 ((J (q 5) v2.toNatClampNeg).toInt64)) (p 26) 4 ((J (q 6) v3.toNatClampNeg).toInt64)) (p 26) 5 ((J (q 14) v2.toNatClampNeg).toInt64)) (p 26) 6 (Int64.ofNat 1)) (p 26) 7 ((J (q 0) 2).toInt64)) (p 26) 8 ((J (q 0) 3).toInt64)) (p 26) 9 ((x89 q v3 J).toInt64))) J) _ := k
      have k := lz_rv rfl rfl k
      rw [k, x8, if_neg h86, if_pos h114]
    · rw [if_neg h114] at k
      have k := ly_revb 1 (c' := (122, [(6, .ref (p 26)), (5, .int (J (q 6) v3.toNatClampNeg)), (4, .int (J (q 14) v2.toNatClampNeg)), (0, .ref (p 24)), (1, .ref (q 0)), (2, .int v2), (3, .int v3)], [.long (Int64.ofNat 0), .int (Int32.ofInt 6), .ref (p 26)], me_w (lw M (nt_u (nt_u (nt_u (nt_u (nt_u (nt_u L (p 26) 0 v2.toInt64) (p 26) 1 ((J (q 3) v2.toNatClampNeg).toInt64)) (p 26) 2 ((J (q 13) v2.toNatClampNeg).toInt64)) (p 26) 3 ((J (q 5) v2.toNatClampNeg).toInt64)) (p 26) 4 ((J (q 6) v3.toNatClampNeg).toInt64)) (p 26) 5 ((J (q 14) v2.toNatClampNeg).toInt64))) J)) rfl k
      have k := mx_last (q := 6) rfl (show (Int32.ofInt 6).toNatClampNeg = 6 from rfl) k
      have k : nt_rn X _ 8 (123, [(6, .ref (p 26)), (5, .int (J (q 6) v3.toNatClampNeg)), (4, .int (J (q 14) v2.toNatClampNeg)), (0, .ref (p 24)), (1, .ref (q 0)), (2, .int v2), (3, .int v3)], [], me_w (lw M (nt_u (nt_u (nt_u (nt_u (nt_u (nt_u (nt_u L (p 26) 0 v2.toInt64) (p 26) 1 ((J (q 3) v2.toNatClampNeg).toInt64)) (p 26) 2 ((J (q 13) v2.toNatClampNeg).toInt64)) (p 26) 3 ((J (q 5) v2.toNatClampNeg).toInt64)) (p 26) 4 ((J (q 6) v3.toNatClampNeg).toInt64)) (p 26) 5 ((J (q 14) v2.toNatClampNeg).toInt64)) (p 26) 6 (Int64.ofNat 0))) J) _ := k
      have k := ly_revb 3 (c' := (128, [(6, .ref (p 26)), (5, .int (J (q 6) v3.toNatClampNeg)), (4, .int (J (q 14) v2.toNatClampNeg)), (0, .ref (p 24)), (1, .ref (q 0)), (2, .int v2), (3, .int v3)], [.ref (q 0), .int (Int32.ofInt 7), .ref (p 26)], me_w (lw M (nt_u (nt_u (nt_u (nt_u (nt_u (nt_u (nt_u L (p 26) 0 v2.toInt64) (p 26) 1 ((J (q 3) v2.toNatClampNeg).toInt64)) (p 26) 2 ((J (q 13) v2.toNatClampNeg).toInt64)) (p 26) 3 ((J (q 5) v2.toNatClampNeg).toInt64)) (p 26) 4 ((J (q 6) v3.toNatClampNeg).toInt64)) (p 26) 5 ((J (q 14) v2.toNatClampNeg).toInt64)) (p 26) 6 (Int64.ofNat 0))) J)) rfl k
      have k := lz_get (a := (q 0)) (g := 602) (M := me_w (lw M (nt_u (nt_u (nt_u (nt_u (nt_u (nt_u (nt_u L (p 26) 0 v2.toInt64) (p 26) 1 ((J (q 3) v2.toNatClampNeg).toInt64)) (p 26) 2 ((J (q 13) v2.toNatClampNeg).toInt64)) (p 26) 3 ((J (q 5) v2.toNatClampNeg).toInt64)) (p 26) 4 ((J (q 6) v3.toNatClampNeg).toInt64)) (p 26) 5 ((J (q 14) v2.toNatClampNeg).toInt64)) (p 26) 6 (Int64.ofNat 0))) J) (v := .int (J (q 0) 2)) rfl (congrArg Value.int (rfl)) k
      have k := ly_revb 1 (c' := (132, [(6, .ref (p 26)), (5, .int (J (q 6) v3.toNatClampNeg)), (4, .int (J (q 14) v2.toNatClampNeg)), (0, .ref (p 24)), (1, .ref (q 0)), (2, .int v2), (3, .int v3)], [.long ((J (q 0) 2).toInt64), .int (Int32.ofInt 7), .ref (p 26)], me_w (lw M (nt_u (nt_u (nt_u (nt_u (nt_u (nt_u (nt_u L (p 26) 0 v2.toInt64) (p 26) 1 ((J (q 3) v2.toNatClampNeg).toInt64)) (p 26) 2 ((J (q 13) v2.toNatClampNeg).toInt64)) (p 26) 3 ((J (q 5) v2.toNatClampNeg).toInt64)) (p 26) 4 ((J (q 6) v3.toNatClampNeg).toInt64)) (p 26) 5 ((J (q 14) v2.toNatClampNeg).toInt64)) (p 26) 6 (Int64.ofNat 0))) J)) rfl k
      have k := mx_last (q := 7) rfl (show (Int32.ofInt 7).toNatClampNeg = 7 from rfl) k
      have k : nt_rn X _ 8 (133, [(6, .ref (p 26)), (5, .int (J (q 6) v3.toNatClampNeg)), (4, .int (J (q 14) v2.toNatClampNeg)), (0, .ref (p 24)), (1, .ref (q 0)), (2, .int v2), (3, .int v3)], [], me_w (lw M (nt_u (nt_u (nt_u (nt_u (nt_u (nt_u (nt_u (nt_u L (p 26) 0 v2.toInt64) (p 26) 1 ((J (q 3) v2.toNatClampNeg).toInt64)) (p 26) 2 ((J (q 13) v2.toNatClampNeg).toInt64)) (p 26) 3 ((J (q 5) v2.toNatClampNeg).toInt64)) (p 26) 4 ((J (q 6) v3.toNatClampNeg).toInt64)) (p 26) 5 ((J (q 14) v2.toNatClampNeg).toInt64)) (p 26) 6 (Int64.ofNat 0)) (p 26) 7 ((J (q 0) 2).toInt64))) J) _ := k
      have k := ly_revb 3 (c' := (138, [(6, .ref (p 26)), (5, .int (J (q 6) v3.toNatClampNeg)), (4, .int (J (q 14) v2.toNatClampNeg)), (0, .ref (p 24)), (1, .ref (q 0)), (2, .int v2), (3, .int v3)], [.ref (q 0), .int (Int32.ofInt 8), .ref (p 26)], me_w (lw M (nt_u (nt_u (nt_u (nt_u (nt_u (nt_u (nt_u (nt_u L (p 26) 0 v2.toInt64) (p 26) 1 ((J (q 3) v2.toNatClampNeg).toInt64)) (p 26) 2 ((J (q 13) v2.toNatClampNeg).toInt64)) (p 26) 3 ((J (q 5) v2.toNatClampNeg).toInt64)) (p 26) 4 ((J (q 6) v3.toNatClampNeg).toInt64)) (p 26) 5 ((J (q 14) v2.toNatClampNeg).toInt64)) (p 26) 6 (Int64.ofNat 0)) (p 26) 7 ((J (q 0) 2).toInt64))) J)) rfl k
      have k := lz_get (a := (q 0)) (g := 603) (M := me_w (lw M (nt_u (nt_u (nt_u (nt_u (nt_u (nt_u (nt_u (nt_u L (p 26) 0 v2.toInt64) (p 26) 1 ((J (q 3) v2.toNatClampNeg).toInt64)) (p 26) 2 ((J (q 13) v2.toNatClampNeg).toInt64)) (p 26) 3 ((J (q 5) v2.toNatClampNeg).toInt64)) (p 26) 4 ((J (q 6) v3.toNatClampNeg).toInt64)) (p 26) 5 ((J (q 14) v2.toNatClampNeg).toInt64)) (p 26) 6 (Int64.ofNat 0)) (p 26) 7 ((J (q 0) 2).toInt64))) J) (v := .int (J (q 0) 3)) rfl (congrArg Value.int (rfl)) k
      have k := ly_revb 1 (c' := (142, [(6, .ref (p 26)), (5, .int (J (q 6) v3.toNatClampNeg)), (4, .int (J (q 14) v2.toNatClampNeg)), (0, .ref (p 24)), (1, .ref (q 0)), (2, .int v2), (3, .int v3)], [.long ((J (q 0) 3).toInt64), .int (Int32.ofInt 8), .ref (p 26)], me_w (lw M (nt_u (nt_u (nt_u (nt_u (nt_u (nt_u (nt_u (nt_u L (p 26) 0 v2.toInt64) (p 26) 1 ((J (q 3) v2.toNatClampNeg).toInt64)) (p 26) 2 ((J (q 13) v2.toNatClampNeg).toInt64)) (p 26) 3 ((J (q 5) v2.toNatClampNeg).toInt64)) (p 26) 4 ((J (q 6) v3.toNatClampNeg).toInt64)) (p 26) 5 ((J (q 14) v2.toNatClampNeg).toInt64)) (p 26) 6 (Int64.ofNat 0)) (p 26) 7 ((J (q 0) 2).toInt64))) J)) rfl k
      have k := mx_last (q := 8) rfl (show (Int32.ofInt 8).toNatClampNeg = 8 from rfl) k
      have k : nt_rn X _ 8 (143, [(6, .ref (p 26)), (5, .int (J (q 6) v3.toNatClampNeg)), (4, .int (J (q 14) v2.toNatClampNeg)), (0, .ref (p 24)), (1, .ref (q 0)), (2, .int v2), (3, .int v3)], [], me_w (lw M (nt_u (nt_u (nt_u (nt_u (nt_u (nt_u (nt_u (nt_u (nt_u L (p 26) 0 v2.toInt64) (p 26) 1 ((J (q 3) v2.toNatClampNeg).toInt64)) (p 26) 2 ((J (q 13) v2.toNatClampNeg).toInt64)) (p 26) 3 ((J (q 5) v2.toNatClampNeg).toInt64)) (p 26) 4 ((J (q 6) v3.toNatClampNeg).toInt64)) (p 26) 5 ((J (q 14) v2.toNatClampNeg).toInt64)) (p 26) 6 (Int64.ofNat 0)) (p 26) 7 ((J (q 0) 2).toInt64)) (p 26) 8 ((J (q 0) 3).toInt64))) J) _ := k
      have k := ly_revb 3 (c' := (148, [(6, .ref (p 26)), (5, .int (J (q 6) v3.toNatClampNeg)), (4, .int (J (q 14) v2.toNatClampNeg)), (0, .ref (p 24)), (1, .ref (q 0)), (2, .int v2), (3, .int v3)], [.ref (q 0), .int (Int32.ofInt 9), .ref (p 26)], me_w (lw M (nt_u (nt_u (nt_u (nt_u (nt_u (nt_u (nt_u (nt_u (nt_u L (p 26) 0 v2.toInt64) (p 26) 1 ((J (q 3) v2.toNatClampNeg).toInt64)) (p 26) 2 ((J (q 13) v2.toNatClampNeg).toInt64)) (p 26) 3 ((J (q 5) v2.toNatClampNeg).toInt64)) (p 26) 4 ((J (q 6) v3.toNatClampNeg).toInt64)) (p 26) 5 ((J (q 14) v2.toNatClampNeg).toInt64)) (p 26) 6 (Int64.ofNat 0)) (p 26) 7 ((J (q 0) 2).toInt64)) (p 26) 8 ((J (q 0) 3).toInt64))) J)) rfl k
      have k := lz_get (a := (q 0)) (g := 600) (M := me_w (lw M (nt_u (nt_u (nt_u (nt_u (nt_u (nt_u (nt_u (nt_u (nt_u L (p 26) 0 v2.toInt64) (p 26) 1 ((J (q 3) v2.toNatClampNeg).toInt64)) (p 26) 2 ((J (q 13) v2.toNatClampNeg).toInt64)) (p 26) 3 ((J (q 5) v2.toNatClampNeg).toInt64)) (p 26) 4 ((J (q 6) v3.toNatClampNeg).toInt64)) (p 26) 5 ((J (q 14) v2.toNatClampNeg).toInt64)) (p 26) 6 (Int64.ofNat 0)) (p 26) 7 ((J (q 0) 2).toInt64)) (p 26) 8 ((J (q 0) 3).toInt64))) J) (v := .ref (q 1)) rfl (nt_gfR rfl (hq.1 (0, 0, 1) (by decide))) k
      have k := ly_revb 1 (c' := (152, [(6, .ref (p 26)), (5, .int (J (q 6) v3.toNatClampNeg)), (4, .int (J (q 14) v2.toNatClampNeg)), (0, .ref (p 24)), (1, .ref (q 0)), (2, .int v2), (3, .int v3)], [.int v3, .ref (q 1), .int (Int32.ofInt 9), .ref (p 26)], me_w (lw M (nt_u (nt_u (nt_u (nt_u (nt_u (nt_u (nt_u (nt_u (nt_u L (p 26) 0 v2.toInt64) (p 26) 1 ((J (q 3) v2.toNatClampNeg).toInt64)) (p 26) 2 ((J (q 13) v2.toNatClampNeg).toInt64)) (p 26) 3 ((J (q 5) v2.toNatClampNeg).toInt64)) (p 26) 4 ((J (q 6) v3.toNatClampNeg).toInt64)) (p 26) 5 ((J (q 14) v2.toNatClampNeg).toInt64)) (p 26) 6 (Int64.ofNat 0)) (p 26) 7 ((J (q 0) 2).toInt64)) (p 26) 8 ((J (q 0) 3).toInt64))) J)) rfl k
      obtain ⟨d1, o1, ed, kc, k⟩ := lz_c (g := 89) (q := 1) (vs := [.ref (q 1), .int v3]) (rest := [.int (Int32.ofInt 9), .ref (p 26)]) rfl rfl (by decide) (Or.inr (Or.inl ⟨_, rfl, rfl⟩)) rfl k
      have e1 := xt89 (xs_lq hq) kc
      subst e1
      have k : nt_rn X _ 8 (155, [(6, .ref (p 26)), (5, .int (J (q 6) v3.toNatClampNeg)), (4, .int (J (q 14) v2.toNatClampNeg)), (0, .ref (p 24)), (1, .ref (q 0)), (2, .int v2), (3, .int v3)], [.int (x89 q v3 J), .int (Int32.ofInt 9), .ref (p 26)], me_w (lw M (nt_u (nt_u (nt_u (nt_u (nt_u (nt_u (nt_u (nt_u (nt_u L (p 26) 0 v2.toInt64) (p 26) 1 ((J (q 3) v2.toNatClampNeg).toInt64)) (p 26) 2 ((J (q 13) v2.toNatClampNeg).toInt64)) (p 26) 3 ((J (q 5) v2.toNatClampNeg).toInt64)) (p 26) 4 ((J (q 6) v3.toNatClampNeg).toInt64)) (p 26) 5 ((J (q 14) v2.toNatClampNeg).toInt64)) (p 26) 6 (Int64.ofNat 0)) (p 26) 7 ((J (q 0) 2).toInt64)) (p 26) 8 ((J (q 0) 3).toInt64))) J) _ := k
      have k := ly_revb 1 (c' := (156, [(6, .ref (p 26)), (5, .int (J (q 6) v3.toNatClampNeg)), (4, .int (J (q 14) v2.toNatClampNeg)), (0, .ref (p 24)), (1, .ref (q 0)), (2, .int v2), (3, .int v3)], [.long ((x89 q v3 J).toInt64), .int (Int32.ofInt 9), .ref (p 26)], me_w (lw M (nt_u (nt_u (nt_u (nt_u (nt_u (nt_u (nt_u (nt_u (nt_u L (p 26) 0 v2.toInt64) (p 26) 1 ((J (q 3) v2.toNatClampNeg).toInt64)) (p 26) 2 ((J (q 13) v2.toNatClampNeg).toInt64)) (p 26) 3 ((J (q 5) v2.toNatClampNeg).toInt64)) (p 26) 4 ((J (q 6) v3.toNatClampNeg).toInt64)) (p 26) 5 ((J (q 14) v2.toNatClampNeg).toInt64)) (p 26) 6 (Int64.ofNat 0)) (p 26) 7 ((J (q 0) 2).toInt64)) (p 26) 8 ((J (q 0) 3).toInt64))) J)) rfl k
      have k := mx_last (q := 9) rfl (show (Int32.ofInt 9).toNatClampNeg = 9 from rfl) k
      have k : nt_rn X _ 8 (157, [(6, .ref (p 26)), (5, .int (J (q 6) v3.toNatClampNeg)), (4, .int (J (q 14) v2.toNatClampNeg)), (0, .ref (p 24)), (1, .ref (q 0)), (2, .int v2), (3, .int v3)], [], me_w (lw M (nt_u (nt_u (nt_u (nt_u (nt_u (nt_u (nt_u (nt_u (nt_u (nt_u L (p 26) 0 v2.toInt64) (p 26) 1 ((J (q 3) v2.toNatClampNeg).toInt64)) (p 26) 2 ((J (q 13) v2.toNatClampNeg).toInt64)) (p 26) 3 ((J (q 5) v2.toNatClampNeg).toInt64)) (p 26) 4 ((J (q 6) v3.toNatClampNeg).toInt64)) (p 26) 5 ((J (q 14) v2.toNatClampNeg).toInt64)) (p 26) 6 (Int64.ofNat 0)) (p 26) 7 ((J (q 0) 2).toInt64)) (p 26) 8 ((J (q 0) 3).toInt64)) (p 26) 9 ((x89 q v3 J).toInt64))) J) _ := k
      have k := lz_rv rfl rfl k
      rw [k, x8, if_neg h86, if_neg h114]
/-! $Calendar.chosen -/
def x6_9 (p : Nat → Nat) (q : Nat → Nat) (sp : Nat) (ln : Nat) (v3 : Int32) (v4 : Int32) : Nat → Int32 → Int64 → Int32 → (Nat → Nat → Int32) → (Nat → Nat → Int64) → Int32 × (Nat → Nat → Int32) × (Nat → Nat → Int64)
  | 0, v5, v6, v8, J, L => (v5, J, L)
  | c + 1, v5, v6, v8, J, L => if (J (q 1) 2) ≤ v8 then (v5, J, L)
    else if (J (q 3) v8.toNatClampNeg) = v4 then if (x7 q v8 (J (q 6) v3.toNatClampNeg) J) = 0 then (x6_9 p q sp ln v3 v4 c v5 v6 (v8 + (Int32.ofInt 1)) J L)
        else if ((x41 p sp ln J (x8 p q v8 v3 J L)).1) = 0 then (x6_9 p q sp ln v3 v4 c v5 v6 (v8 + (Int32.ofInt 1)) ((x41 p sp ln J (x8 p q v8 v3 J L)).2.1) ((x41 p sp ln J (x8 p q v8 v3 J L)).2.2))
          else if v5 = (Int32.ofInt (-1)) then (x6_9 p q sp ln v3 v4 c v8 (x45 p ((x41 p sp ln J (x8 p q v8 v3 J L)).2.1) ((x41 p sp ln J (x8 p q v8 v3 J L)).2.2)) (v8 + (Int32.ofInt 1)) ((x41 p sp ln J (x8 p q v8 v3 J L)).2.1) ((x41 p sp ln J (x8 p q v8 v3 J L)).2.2))
            else if 0 ≤ (lg_cmp (x45 p ((x41 p sp ln J (x8 p q v8 v3 J L)).2.1) ((x41 p sp ln J (x8 p q v8 v3 J L)).2.2)) v6) then (x6_9 p q sp ln v3 v4 c v5 v6 (v8 + (Int32.ofInt 1)) ((x41 p sp ln J (x8 p q v8 v3 J L)).2.1) ((x41 p sp ln J (x8 p q v8 v3 J L)).2.2))
              else (x6_9 p q sp ln v3 v4 c v8 (x45 p ((x41 p sp ln J (x8 p q v8 v3 J L)).2.1) ((x41 p sp ln J (x8 p q v8 v3 J L)).2.2)) (v8 + (Int32.ofInt 1)) ((x41 p sp ln J (x8 p q v8 v3 J L)).2.1) ((x41 p sp ln J (x8 p q v8 v3 J L)).2.2))
      else (x6_9 p q sp ln v3 v4 c v5 v6 (v8 + (Int32.ofInt 1)) J L)
theorem xt6_9 {X : nt_X} {d : Nat} {M : nt_M} {o : Option Value × nt_M} {p : Nat → Nat} {q : Nat → Nat} {sp : Nat} {ln : Nat} {ru : Nat} {v3 : Int32} {v4 : Int32} (hp : xs_P M p) (hq : xs_Q M q) (hx : xs_X p q) (hs : xs_S M p ru sp ln) : ∀ (c : Nat) (v5 : Int32) (v6 : Int64) (v8 : Int32) (J : Nat → Nat → Int32) (L : Nat → Nat → Int64), (J (q 1) 2).toInt - v8.toInt ≤ c → nt_rn X d 6 (9, [(0, .ref (p 24)), (1, .ref (q 0)), (2, .ref ru), (3, .int v3), (4, .int v4), (5, .int v5), (6, .long v6), (8, .int v8)], [], me_w (lw M L) J) o → o = (some (.int ((x6_9 p q sp ln v3 v4 c v5 v6 v8 J L).1)), me_w (lw M ((x6_9 p q sp ln v3 v4 c v5 v6 v8 J L).2.2)) ((x6_9 p q sp ln v3 v4 c v5 v6 v8 J L).2.1)) := by
  intro c
  induction c with
  | zero =>
    intro v5 v6 v8 J L hc k
    have k := ly_revb 2 (c' := (12, [(0, .ref (p 24)), (1, .ref (q 0)), (2, .ref ru), (3, .int v3), (4, .int v4), (5, .int v5), (6, .long v6), (8, .int v8)], [.ref (q 0), .int v8], me_w (lw M L) J)) rfl k
    have k := lz_get (a := (q 0)) (g := 600) (M := me_w (lw M L) J) (v := .ref (q 1)) rfl (nt_gfR rfl (hq.1 (0, 0, 1) (by decide))) k
    have k := lz_get (a := (q 1)) (g := 802) (M := me_w (lw M L) J) (v := .int (J (q 1) 2)) rfl (congrArg Value.int (rfl)) k
    have k := ly_revb 1 (c' := (if (J (q 1) 2) ≤ v8 then 114 else 21, [(0, .ref (p 24)), (1, .ref (q 0)), (2, .ref ru), (3, .int v3), (4, .int v4), (5, .int v5), (6, .long v6), (8, .int v8)], [], me_w (lw M L) J)) rfl k
    have h18 : (J (q 1) 2) ≤ v8 := lx_end hc
    rw [if_pos h18] at k
    have k := ly_revb 1 (c' := (116, [(0, .ref (p 24)), (1, .ref (q 0)), (2, .ref ru), (3, .int v3), (4, .int v4), (5, .int v5), (6, .long v6), (8, .int v8)], [.int v5], me_w (lw M L) J)) rfl k
    have k := lz_ri rfl (by decide) k
    rw [k, x6_9]
  | succ c ih =>
    intro v5 v6 v8 J L hc k
    have k := ly_revb 2 (c' := (12, [(0, .ref (p 24)), (1, .ref (q 0)), (2, .ref ru), (3, .int v3), (4, .int v4), (5, .int v5), (6, .long v6), (8, .int v8)], [.ref (q 0), .int v8], me_w (lw M L) J)) rfl k
    have k := lz_get (a := (q 0)) (g := 600) (M := me_w (lw M L) J) (v := .ref (q 1)) rfl (nt_gfR rfl (hq.1 (0, 0, 1) (by decide))) k
    have k := lz_get (a := (q 1)) (g := 802) (M := me_w (lw M L) J) (v := .int (J (q 1) 2)) rfl (congrArg Value.int (rfl)) k
    have k := ly_revb 1 (c' := (if (J (q 1) 2) ≤ v8 then 114 else 21, [(0, .ref (p 24)), (1, .ref (q 0)), (2, .ref ru), (3, .int v3), (4, .int v4), (5, .int v5), (6, .long v6), (8, .int v8)], [], me_w (lw M L) J)) rfl k
    by_cases h18 : (J (q 1) 2) ≤ v8
    · rw [if_pos h18] at k
      have k := ly_revb 1 (c' := (116, [(0, .ref (p 24)), (1, .ref (q 0)), (2, .ref ru), (3, .int v3), (4, .int v4), (5, .int v5), (6, .long v6), (8, .int v8)], [.int v5], me_w (lw M L) J)) rfl k
      have k := lz_ri rfl (by decide) k
      rw [k, x6_9, if_pos h18]
    · rw [if_neg h18] at k
      have k := ly_revb 1 (c' := (22, [(0, .ref (p 24)), (1, .ref (q 0)), (2, .ref ru), (3, .int v3), (4, .int v4), (5, .int v5), (6, .long v6), (8, .int v8)], [.ref (q 0)], me_w (lw M L) J)) rfl k
      have k := lz_get (a := (q 0)) (g := 600) (M := me_w (lw M L) J) (v := .ref (q 1)) rfl (nt_gfR rfl (hq.1 (0, 0, 1) (by decide))) k
      have k := lz_get (a := (q 1)) (g := 806) (M := me_w (lw M L) J) (v := .ref (q 3)) rfl (nt_gfR rfl (hq.1 (1, 6, 3) (by decide))) k
      have k := ly_revb 1 (c' := (30, [(0, .ref (p 24)), (1, .ref (q 0)), (2, .ref ru), (3, .int v3), (4, .int v4), (5, .int v5), (6, .long v6), (8, .int v8)], [.int v8, .ref (q 3)], me_w (lw M L) J)) rfl k
      have k := mx_iald (v := J (q 3) v8.toNatClampNeg) rfl (hq.2.2.1 3 (by omega)) (rfl) k
      have k := ly_revb 2 (c' := (if (J (q 3) v8.toNatClampNeg) = v4 then 36 else 108, [(0, .ref (p 24)), (1, .ref (q 0)), (2, .ref ru), (3, .int v3), (4, .int v4), (5, .int v5), (6, .long v6), (8, .int v8)], [], me_w (lw M L) J)) rfl k
      by_cases h33 : (J (q 3) v8.toNatClampNeg) = v4
      · rw [if_pos h33] at k
        have k := ly_revb 3 (c' := (40, [(0, .ref (p 24)), (1, .ref (q 0)), (2, .ref ru), (3, .int v3), (4, .int v4), (5, .int v5), (6, .long v6), (8, .int v8)], [.ref (q 0), .int v8, .ref (q 0)], me_w (lw M L) J)) rfl k
        have k := lz_get (a := (q 0)) (g := 600) (M := me_w (lw M L) J) (v := .ref (q 1)) rfl (nt_gfR rfl (hq.1 (0, 0, 1) (by decide))) k
        have k := lz_get (a := (q 1)) (g := 809) (M := me_w (lw M L) J) (v := .ref (q 6)) rfl (nt_gfR rfl (hq.1 (1, 9, 6) (by decide))) k
        have k := ly_revb 1 (c' := (47, [(0, .ref (p 24)), (1, .ref (q 0)), (2, .ref ru), (3, .int v3), (4, .int v4), (5, .int v5), (6, .long v6), (8, .int v8)], [.int v3, .ref (q 6), .int v8, .ref (q 0)], me_w (lw M L) J)) rfl k
        have k := mx_iald (v := J (q 6) v3.toNatClampNeg) rfl (hq.2.2.1 6 (by omega)) (rfl) k
        obtain ⟨d1, o1, ed, kc, k⟩ := lz_c (g := 7) (q := 0) (vs := [.ref (q 0), .int v8, .int (J (q 6) v3.toNatClampNeg)]) (rest := []) rfl rfl (by decide) (Or.inl ⟨_, rfl, rfl⟩) rfl k
        have e1 := xt7 (xs_lq hq) kc
        subst e1
        have k : nt_rn X _ 6 (51, [(0, .ref (p 24)), (1, .ref (q 0)), (2, .ref ru), (3, .int v3), (4, .int v4), (5, .int v5), (6, .long v6), (8, .int v8)], [.int (x7 q v8 (J (q 6) v3.toNatClampNeg) J)], me_w (lw M L) J) _ := k
        have k := ly_revb 1 (c' := (if (x7 q v8 (J (q 6) v3.toNatClampNeg) J) = 0 then 108 else 54, [(0, .ref (p 24)), (1, .ref (q 0)), (2, .ref ru), (3, .int v3), (4, .int v4), (5, .int v5), (6, .long v6), (8, .int v8)], [], me_w (lw M L) J)) rfl k
        by_cases h51 : (x7 q v8 (J (q 6) v3.toNatClampNeg) J) = 0
        · rw [if_pos h51] at k
          have k := ly_revb 2 (c' := (9, [(8, .int (v8 + (Int32.ofInt 1))), (0, .ref (p 24)), (1, .ref (q 0)), (2, .ref ru), (3, .int v3), (4, .int v4), (5, .int v5), (6, .long v6)], [], me_w (lw M L) J)) rfl k
          have k := nt_rn_w (a := [(8, .int (v8 + (Int32.ofInt 1))), (0, .ref (p 24)), (1, .ref (q 0)), (2, .ref ru), (3, .int v3), (4, .int v4), (5, .int v5), (6, .long v6)]) (b := [(0, .ref (p 24)), (1, .ref (q 0)), (2, .ref ru), (3, .int v3), (4, .int v4), (5, .int v5), (6, .long v6), (8, .int (v8 + (Int32.ofInt 1)))]) ⟨rfl, rfl, rfl, rfl, rfl, rfl, rfl, rfl, trivial⟩ rfl k
          have k := ih v5 v6 (v8 + (Int32.ofInt 1)) J L (lx_dec h18 hc) k
          rw [k, x6_9, if_neg h18, if_pos h33, if_pos h51]
        · rw [if_neg h51] at k
          have k := ly_revb 4 (c' := (59, [(0, .ref (p 24)), (1, .ref (q 0)), (2, .ref ru), (3, .int v3), (4, .int v4), (5, .int v5), (6, .long v6), (8, .int v8)], [.int v3, .int v8, .ref (q 0), .ref (p 24)], me_w (lw M L) J)) rfl k
          obtain ⟨d1, o1, ed, kc, k⟩ := lz_c (g := 8) (q := 1) (vs := [.ref (p 24), .ref (q 0), .int v8, .int v3]) (rest := []) rfl rfl (by decide) (Or.inr (Or.inl ⟨_, rfl, rfl⟩)) rfl k
          have e1 := xt8 hp hq hx kc
          subst e1
          have k : nt_rn X _ 6 (62, [(0, .ref (p 24)), (1, .ref (q 0)), (2, .ref ru), (3, .int v3), (4, .int v4), (5, .int v5), (6, .long v6), (8, .int v8)], [], me_w (lw M (x8 p q v8 v3 J L)) J) _ := k
          have k := ly_revb 1 (c' := (63, [(0, .ref (p 24)), (1, .ref (q 0)), (2, .ref ru), (3, .int v3), (4, .int v4), (5, .int v5), (6, .long v6), (8, .int v8)], [.ref (p 24)], me_w (lw M (x8 p q v8 v3 J L)) J)) rfl k
          have k := lz_get (a := (p 24)) (g := 0) (M := me_w (lw M (x8 p q v8 v3 J L)) J) (v := .ref (p 25)) rfl (nt_gfR rfl (hp.1 (24, 0, 25) (by decide))) k
          have k := ly_revb 1 (c' := (67, [(0, .ref (p 24)), (1, .ref (q 0)), (2, .ref ru), (3, .int v3), (4, .int v4), (5, .int v5), (6, .long v6), (8, .int v8)], [.ref ru, .ref (p 25)], me_w (lw M (x8 p q v8 v3 J L)) J)) rfl k
          have k := lz_get (a := ru) (g := 400) (M := me_w (lw M (x8 p q v8 v3 J L)) J) (v := .ref sp) rfl (nt_gfR rfl hs.1) k
          obtain ⟨d1, o1, ed, kc, k⟩ := lz_c (g := 41) (q := 1) (vs := [.ref (p 25), .ref sp]) (rest := []) rfl rfl (by decide) (Or.inr (Or.inl ⟨_, rfl, rfl⟩)) rfl k
          have e1 := xt41 hp hs kc
          subst e1
          have k : nt_rn X _ 6 (73, [(0, .ref (p 24)), (1, .ref (q 0)), (2, .ref ru), (3, .int v3), (4, .int v4), (5, .int v5), (6, .long v6), (8, .int v8)], [.int ((x41 p sp ln J (x8 p q v8 v3 J L)).1)], me_w (lw M ((x41 p sp ln J (x8 p q v8 v3 J L)).2.2)) ((x41 p sp ln J (x8 p q v8 v3 J L)).2.1)) _ := k
          have k := ly_revb 1 (c' := (if ((x41 p sp ln J (x8 p q v8 v3 J L)).1) = 0 then 108 else 76, [(0, .ref (p 24)), (1, .ref (q 0)), (2, .ref ru), (3, .int v3), (4, .int v4), (5, .int v5), (6, .long v6), (8, .int v8)], [], me_w (lw M ((x41 p sp ln J (x8 p q v8 v3 J L)).2.2)) ((x41 p sp ln J (x8 p q v8 v3 J L)).2.1))) rfl k
          by_cases h73 : ((x41 p sp ln J (x8 p q v8 v3 J L)).1) = 0
          · rw [if_pos h73] at k
            have k := ly_revb 2 (c' := (9, [(8, .int (v8 + (Int32.ofInt 1))), (0, .ref (p 24)), (1, .ref (q 0)), (2, .ref ru), (3, .int v3), (4, .int v4), (5, .int v5), (6, .long v6)], [], me_w (lw M ((x41 p sp ln J (x8 p q v8 v3 J L)).2.2)) ((x41 p sp ln J (x8 p q v8 v3 J L)).2.1))) rfl k
            have k := nt_rn_w (a := [(8, .int (v8 + (Int32.ofInt 1))), (0, .ref (p 24)), (1, .ref (q 0)), (2, .ref ru), (3, .int v3), (4, .int v4), (5, .int v5), (6, .long v6)]) (b := [(0, .ref (p 24)), (1, .ref (q 0)), (2, .ref ru), (3, .int v3), (4, .int v4), (5, .int v5), (6, .long v6), (8, .int (v8 + (Int32.ofInt 1)))]) ⟨rfl, rfl, rfl, rfl, rfl, rfl, rfl, rfl, trivial⟩ rfl k
            have k := ih v5 v6 (v8 + (Int32.ofInt 1)) ((x41 p sp ln J (x8 p q v8 v3 J L)).2.1) ((x41 p sp ln J (x8 p q v8 v3 J L)).2.2) (by rw [show ((x41 p sp ln J (x8 p q v8 v3 J L)).2.1) (q 1) 2 = J (q 1) 2 from congrFun (x41_frJ  (hx 1 25 (by omega) (by omega))) 2]; exact lx_dec h18 hc) k
            rw [k, x6_9, if_neg h18, if_pos h33, if_neg h51, if_pos h73]
          · rw [if_neg h73] at k
            have k := ly_revb 3 (c' := (if v5 = (Int32.ofInt (-1)) then 95 else 82, [(0, .ref (p 24)), (1, .ref (q 0)), (2, .ref ru), (3, .int v3), (4, .int v4), (5, .int v5), (6, .long v6), (8, .int v8)], [], me_w (lw M ((x41 p sp ln J (x8 p q v8 v3 J L)).2.2)) ((x41 p sp ln J (x8 p q v8 v3 J L)).2.1))) rfl k
            by_cases h79 : v5 = (Int32.ofInt (-1))
            · rw [if_pos h79] at k
              have k := ly_revb 3 (c' := (100, [(5, .int v8), (0, .ref (p 24)), (1, .ref (q 0)), (2, .ref ru), (3, .int v3), (4, .int v4), (6, .long v6), (8, .int v8)], [.ref (p 24)], me_w (lw M ((x41 p sp ln J (x8 p q v8 v3 J L)).2.2)) ((x41 p sp ln J (x8 p q v8 v3 J L)).2.1))) rfl k
              have k := lz_get (a := (p 24)) (g := 0) (M := me_w (lw M ((x41 p sp ln J (x8 p q v8 v3 J L)).2.2)) ((x41 p sp ln J (x8 p q v8 v3 J L)).2.1)) (v := .ref (p 25)) rfl (nt_gfR rfl (hp.1 (24, 0, 25) (by decide))) k
              obtain ⟨d1, o1, ed, kc, k⟩ := lz_c (g := 45) (q := 1) (vs := [.ref (p 25)]) (rest := []) rfl rfl (by decide) (Or.inr (Or.inl ⟨_, rfl, rfl⟩)) rfl k
              have e1 := xt45 hp kc
              subst e1
              have k : nt_rn X _ 6 (106, [(5, .int v8), (0, .ref (p 24)), (1, .ref (q 0)), (2, .ref ru), (3, .int v3), (4, .int v4), (6, .long v6), (8, .int v8)], [.long (x45 p ((x41 p sp ln J (x8 p q v8 v3 J L)).2.1) ((x41 p sp ln J (x8 p q v8 v3 J L)).2.2))], me_w (lw M ((x41 p sp ln J (x8 p q v8 v3 J L)).2.2)) ((x41 p sp ln J (x8 p q v8 v3 J L)).2.1)) _ := k
              have k := ly_revb 3 (c' := (9, [(8, .int (v8 + (Int32.ofInt 1))), (6, .long (x45 p ((x41 p sp ln J (x8 p q v8 v3 J L)).2.1) ((x41 p sp ln J (x8 p q v8 v3 J L)).2.2))), (5, .int v8), (0, .ref (p 24)), (1, .ref (q 0)), (2, .ref ru), (3, .int v3), (4, .int v4)], [], me_w (lw M ((x41 p sp ln J (x8 p q v8 v3 J L)).2.2)) ((x41 p sp ln J (x8 p q v8 v3 J L)).2.1))) rfl k
              have k := nt_rn_w (a := [(8, .int (v8 + (Int32.ofInt 1))), (6, .long (x45 p ((x41 p sp ln J (x8 p q v8 v3 J L)).2.1) ((x41 p sp ln J (x8 p q v8 v3 J L)).2.2))), (5, .int v8), (0, .ref (p 24)), (1, .ref (q 0)), (2, .ref ru), (3, .int v3), (4, .int v4)]) (b := [(0, .ref (p 24)), (1, .ref (q 0)), (2, .ref ru), (3, .int v3), (4, .int v4), (5, .int v8), (6, .long (x45 p ((x41 p sp ln J (x8 p q v8 v3 J L)).2.1) ((x41 p sp ln J (x8 p q v8 v3 J L)).2.2))), (8, .int (v8 + (Int32.ofInt 1)))]) ⟨rfl, rfl, rfl, rfl, rfl, rfl, rfl, rfl, trivial⟩ rfl k
              have k := ih v8 (x45 p ((x41 p sp ln J (x8 p q v8 v3 J L)).2.1) ((x41 p sp ln J (x8 p q v8 v3 J L)).2.2)) (v8 + (Int32.ofInt 1)) ((x41 p sp ln J (x8 p q v8 v3 J L)).2.1) ((x41 p sp ln J (x8 p q v8 v3 J L)).2.2) (by rw [show ((x41 p sp ln J (x8 p q v8 v3 J L)).2.1) (q 1) 2 = J (q 1) 2 from congrFun (x41_frJ  (hx 1 25 (by omega) (by omega))) 2]; exact lx_dec h18 hc) k
              rw [k, x6_9, if_neg h18, if_pos h33, if_neg h51, if_neg h73, if_pos h79]
            · rw [if_neg h79] at k
              have k := ly_revb 1 (c' := (83, [(0, .ref (p 24)), (1, .ref (q 0)), (2, .ref ru), (3, .int v3), (4, .int v4), (5, .int v5), (6, .long v6), (8, .int v8)], [.ref (p 24)], me_w (lw M ((x41 p sp ln J (x8 p q v8 v3 J L)).2.2)) ((x41 p sp ln J (x8 p q v8 v3 J L)).2.1))) rfl k
              have k := lz_get (a := (p 24)) (g := 0) (M := me_w (lw M ((x41 p sp ln J (x8 p q v8 v3 J L)).2.2)) ((x41 p sp ln J (x8 p q v8 v3 J L)).2.1)) (v := .ref (p 25)) rfl (nt_gfR rfl (hp.1 (24, 0, 25) (by decide))) k
              obtain ⟨d1, o1, ed, kc, k⟩ := lz_c (g := 45) (q := 1) (vs := [.ref (p 25)]) (rest := []) rfl rfl (by decide) (Or.inr (Or.inl ⟨_, rfl, rfl⟩)) rfl k
              have e1 := xt45 hp kc
              subst e1
              have k : nt_rn X _ 6 (89, [(0, .ref (p 24)), (1, .ref (q 0)), (2, .ref ru), (3, .int v3), (4, .int v4), (5, .int v5), (6, .long v6), (8, .int v8)], [.long (x45 p ((x41 p sp ln J (x8 p q v8 v3 J L)).2.1) ((x41 p sp ln J (x8 p q v8 v3 J L)).2.2))], me_w (lw M ((x41 p sp ln J (x8 p q v8 v3 J L)).2.2)) ((x41 p sp ln J (x8 p q v8 v3 J L)).2.1)) _ := k
              have k := ly_revb 3 (c' := (if 0 ≤ (lg_cmp (x45 p ((x41 p sp ln J (x8 p q v8 v3 J L)).2.1) ((x41 p sp ln J (x8 p q v8 v3 J L)).2.2)) v6) then 108 else 95, [(0, .ref (p 24)), (1, .ref (q 0)), (2, .ref ru), (3, .int v3), (4, .int v4), (5, .int v5), (6, .long v6), (8, .int v8)], [], me_w (lw M ((x41 p sp ln J (x8 p q v8 v3 J L)).2.2)) ((x41 p sp ln J (x8 p q v8 v3 J L)).2.1))) rfl k
              by_cases h92 : 0 ≤ (lg_cmp (x45 p ((x41 p sp ln J (x8 p q v8 v3 J L)).2.1) ((x41 p sp ln J (x8 p q v8 v3 J L)).2.2)) v6)
              · rw [if_pos h92] at k
                have k := ly_revb 2 (c' := (9, [(8, .int (v8 + (Int32.ofInt 1))), (0, .ref (p 24)), (1, .ref (q 0)), (2, .ref ru), (3, .int v3), (4, .int v4), (5, .int v5), (6, .long v6)], [], me_w (lw M ((x41 p sp ln J (x8 p q v8 v3 J L)).2.2)) ((x41 p sp ln J (x8 p q v8 v3 J L)).2.1))) rfl k
                have k := nt_rn_w (a := [(8, .int (v8 + (Int32.ofInt 1))), (0, .ref (p 24)), (1, .ref (q 0)), (2, .ref ru), (3, .int v3), (4, .int v4), (5, .int v5), (6, .long v6)]) (b := [(0, .ref (p 24)), (1, .ref (q 0)), (2, .ref ru), (3, .int v3), (4, .int v4), (5, .int v5), (6, .long v6), (8, .int (v8 + (Int32.ofInt 1)))]) ⟨rfl, rfl, rfl, rfl, rfl, rfl, rfl, rfl, trivial⟩ rfl k
                have k := ih v5 v6 (v8 + (Int32.ofInt 1)) ((x41 p sp ln J (x8 p q v8 v3 J L)).2.1) ((x41 p sp ln J (x8 p q v8 v3 J L)).2.2) (by rw [show ((x41 p sp ln J (x8 p q v8 v3 J L)).2.1) (q 1) 2 = J (q 1) 2 from congrFun (x41_frJ  (hx 1 25 (by omega) (by omega))) 2]; exact lx_dec h18 hc) k
                rw [k, x6_9, if_neg h18, if_pos h33, if_neg h51, if_neg h73, if_neg h79, if_pos h92]
              · rw [if_neg h92] at k
                have k := ly_revb 3 (c' := (100, [(5, .int v8), (0, .ref (p 24)), (1, .ref (q 0)), (2, .ref ru), (3, .int v3), (4, .int v4), (6, .long v6), (8, .int v8)], [.ref (p 24)], me_w (lw M ((x41 p sp ln J (x8 p q v8 v3 J L)).2.2)) ((x41 p sp ln J (x8 p q v8 v3 J L)).2.1))) rfl k
                have k := lz_get (a := (p 24)) (g := 0) (M := me_w (lw M ((x41 p sp ln J (x8 p q v8 v3 J L)).2.2)) ((x41 p sp ln J (x8 p q v8 v3 J L)).2.1)) (v := .ref (p 25)) rfl (nt_gfR rfl (hp.1 (24, 0, 25) (by decide))) k
                obtain ⟨d1, o1, ed, kc, k⟩ := lz_c (g := 45) (q := 1) (vs := [.ref (p 25)]) (rest := []) rfl rfl (by decide) (Or.inr (Or.inl ⟨_, rfl, rfl⟩)) rfl k
                have e1 := xt45 hp kc
                subst e1
                have k : nt_rn X _ 6 (106, [(5, .int v8), (0, .ref (p 24)), (1, .ref (q 0)), (2, .ref ru), (3, .int v3), (4, .int v4), (6, .long v6), (8, .int v8)], [.long (x45 p ((x41 p sp ln J (x8 p q v8 v3 J L)).2.1) ((x41 p sp ln J (x8 p q v8 v3 J L)).2.2))], me_w (lw M ((x41 p sp ln J (x8 p q v8 v3 J L)).2.2)) ((x41 p sp ln J (x8 p q v8 v3 J L)).2.1)) _ := k
                have k := ly_revb 3 (c' := (9, [(8, .int (v8 + (Int32.ofInt 1))), (6, .long (x45 p ((x41 p sp ln J (x8 p q v8 v3 J L)).2.1) ((x41 p sp ln J (x8 p q v8 v3 J L)).2.2))), (5, .int v8), (0, .ref (p 24)), (1, .ref (q 0)), (2, .ref ru), (3, .int v3), (4, .int v4)], [], me_w (lw M ((x41 p sp ln J (x8 p q v8 v3 J L)).2.2)) ((x41 p sp ln J (x8 p q v8 v3 J L)).2.1))) rfl k
                have k := nt_rn_w (a := [(8, .int (v8 + (Int32.ofInt 1))), (6, .long (x45 p ((x41 p sp ln J (x8 p q v8 v3 J L)).2.1) ((x41 p sp ln J (x8 p q v8 v3 J L)).2.2))), (5, .int v8), (0, .ref (p 24)), (1, .ref (q 0)), (2, .ref ru), (3, .int v3), (4, .int v4)]) (b := [(0, .ref (p 24)), (1, .ref (q 0)), (2, .ref ru), (3, .int v3), (4, .int v4), (5, .int v8), (6, .long (x45 p ((x41 p sp ln J (x8 p q v8 v3 J L)).2.1) ((x41 p sp ln J (x8 p q v8 v3 J L)).2.2))), (8, .int (v8 + (Int32.ofInt 1)))]) ⟨rfl, rfl, rfl, rfl, rfl, rfl, rfl, rfl, trivial⟩ rfl k
                have k := ih v8 (x45 p ((x41 p sp ln J (x8 p q v8 v3 J L)).2.1) ((x41 p sp ln J (x8 p q v8 v3 J L)).2.2)) (v8 + (Int32.ofInt 1)) ((x41 p sp ln J (x8 p q v8 v3 J L)).2.1) ((x41 p sp ln J (x8 p q v8 v3 J L)).2.2) (by rw [show ((x41 p sp ln J (x8 p q v8 v3 J L)).2.1) (q 1) 2 = J (q 1) 2 from congrFun (x41_frJ  (hx 1 25 (by omega) (by omega))) 2]; exact lx_dec h18 hc) k
                rw [k, x6_9, if_neg h18, if_pos h33, if_neg h51, if_neg h73, if_neg h79, if_neg h92]
      · rw [if_neg h33] at k
        have k := ly_revb 2 (c' := (9, [(8, .int (v8 + (Int32.ofInt 1))), (0, .ref (p 24)), (1, .ref (q 0)), (2, .ref ru), (3, .int v3), (4, .int v4), (5, .int v5), (6, .long v6)], [], me_w (lw M L) J)) rfl k
        have k := nt_rn_w (a := [(8, .int (v8 + (Int32.ofInt 1))), (0, .ref (p 24)), (1, .ref (q 0)), (2, .ref ru), (3, .int v3), (4, .int v4), (5, .int v5), (6, .long v6)]) (b := [(0, .ref (p 24)), (1, .ref (q 0)), (2, .ref ru), (3, .int v3), (4, .int v4), (5, .int v5), (6, .long v6), (8, .int (v8 + (Int32.ofInt 1)))]) ⟨rfl, rfl, rfl, rfl, rfl, rfl, rfl, rfl, trivial⟩ rfl k
        have k := ih v5 v6 (v8 + (Int32.ofInt 1)) J L (lx_dec h18 hc) k
        rw [k, x6_9, if_neg h18, if_neg h33]
def x6 (p : Nat → Nat) (q : Nat → Nat) (sp : Nat) (ln : Nat) (v3 : Int32) (v4 : Int32) (J : Nat → Nat → Int32) (L : Nat → Nat → Int64) : Int32 × (Nat → Nat → Int32) × (Nat → Nat → Int64) := (x6_9 p q sp ln v3 v4 ((J (q 1) 2).toNatClampNeg) (Int32.ofInt (-1)) (Int64.ofNat 0) (Int32.ofInt 0) J L)
theorem xt6 {X : nt_X} {d : Nat} {M : nt_M} {o : Option Value × nt_M} {p : Nat → Nat} {q : Nat → Nat} {sp : Nat} {ln : Nat} {ru : Nat} {v3 : Int32} {v4 : Int32} {J : Nat → Nat → Int32} {L : Nat → Nat → Int64} (hp : xs_P M p) (hq : xs_Q M q) (hx : xs_X p q) (hs : xs_S M p ru sp ln) (k : nt_ev X d 6 [.ref (p 24), .ref (q 0), .ref ru, .int v3, .int v4] (me_w (lw M L) J) o) : o = (some (.int ((x6 p q sp ln v3 v4 J L).1)), me_w (lw M ((x6 p q sp ln v3 v4 J L).2.2)) ((x6 p q sp ln v3 v4 J L).2.1)) := by
  have k : nt_rn X d 6 (0, [(0, .ref (p 24)), (1, .ref (q 0)), (2, .ref ru), (3, .int v3), (4, .int v4)], [], me_w (lw M L) J) o := k
  have k := ly_revb 6 (c' := (9, [(8, .int (Int32.ofInt 0)), (6, .long (Int64.ofNat 0)), (5, .int (Int32.ofInt (-1))), (0, .ref (p 24)), (1, .ref (q 0)), (2, .ref ru), (3, .int v3), (4, .int v4)], [], me_w (lw M L) J)) rfl k
  have k := nt_rn_w (a := [(8, .int (Int32.ofInt 0)), (6, .long (Int64.ofNat 0)), (5, .int (Int32.ofInt (-1))), (0, .ref (p 24)), (1, .ref (q 0)), (2, .ref ru), (3, .int v3), (4, .int v4)]) (b := [(0, .ref (p 24)), (1, .ref (q 0)), (2, .ref ru), (3, .int v3), (4, .int v4), (5, .int (Int32.ofInt (-1))), (6, .long (Int64.ofNat 0)), (8, .int (Int32.ofInt 0))]) ⟨rfl, rfl, rfl, rfl, rfl, rfl, rfl, rfl, trivial⟩ rfl k
  have k := xt6_9 hp hq hx hs  ((J (q 1) 2).toNatClampNeg) (Int32.ofInt (-1)) (Int64.ofNat 0) (Int32.ofInt 0) J L (lx_beg (by decide)) k
  rw [k, x6]
theorem x6_9_frJ {p : Nat → Nat} {q : Nat → Nat} {sp : Nat} {ln : Nat} {v3 : Int32} {v4 : Int32} {b : Nat} : ∀ (c : Nat) (v5 : Int32) (v6 : Int64) (v8 : Int32) (J : Nat → Nat → Int32) (L : Nat → Nat → Int64), b ≠ p 25 → (x6_9 p q sp ln v3 v4 c v5 v6 v8 J L).2.1 b = J b := by
  intro c
  induction c with
  | zero =>
    intro v5 v6 v8 J L n0
    rw [x6_9]
    all_goals first | (dsimp only; exact (show J b = J b from rfl)) | exact (show J b = J b from rfl)
  | succ c ih =>
    intro v5 v6 v8 J L n0
    rw [x6_9]
    by_cases h : (J (q 1) 2) ≤ v8
    · rw [if_pos h]
      all_goals first | (dsimp only; exact (show J b = J b from rfl)) | exact (show J b = J b from rfl)
    · rw [if_neg h]
      by_cases h : (J (q 3) v8.toNatClampNeg) = v4
      · rw [if_pos h]
        by_cases h : (x7 q v8 (J (q 6) v3.toNatClampNeg) J) = 0
        · rw [if_pos h]
          exact (ih _ _ _ _ _ n0).trans (rfl)
        · rw [if_neg h]
          by_cases h : ((x41 p sp ln J (x8 p q v8 v3 J L)).1) = 0
          · rw [if_pos h]
            exact (ih _ _ _ _ _ n0).trans (x41_frJ  n0)
          · rw [if_neg h]
            by_cases h : v5 = (Int32.ofInt (-1))
            · rw [if_pos h]
              exact (ih _ _ _ _ _ n0).trans (x41_frJ  n0)
            · rw [if_neg h]
              by_cases h : 0 ≤ (lg_cmp (x45 p ((x41 p sp ln J (x8 p q v8 v3 J L)).2.1) ((x41 p sp ln J (x8 p q v8 v3 J L)).2.2)) v6)
              · rw [if_pos h]
                exact (ih _ _ _ _ _ n0).trans (x41_frJ  n0)
              · rw [if_neg h]
                exact (ih _ _ _ _ _ n0).trans (x41_frJ  n0)
      · rw [if_neg h]
        exact (ih _ _ _ _ _ n0).trans (rfl)
theorem x6_frJ {p : Nat → Nat} {q : Nat → Nat} {sp : Nat} {ln : Nat} {v3 : Int32} {v4 : Int32} {J : Nat → Nat → Int32} {L : Nat → Nat → Int64} {b : Nat} (n0 : b ≠ p 25) : (x6 p q sp ln v3 v4 J L).2.1 b = J b := by
  unfold x6
  exact (x6_9_frJ _ _ _ _ _ _ n0).trans (rfl)
/-! $Calendar.fill -/
def x5_31 (p : Nat → Nat) (q : Nat → Nat) (sp : Nat) (ln : Nat) (v3 : Int32) (v4 : Int32) (v5 : Int32) (v6 : Int32) : Nat → Int32 → (Nat → Nat → Int32) → (Nat → Nat → Int64) → (Nat → Nat → Int32) × (Nat → Nat → Int64)
  | 0, v7, J, L => (J, L)
  | c + 1, v7, J, L => if v6 ≤ v7 then (J, L)
    else if ((x6 p q sp ln v3 v4 J L).1) = (Int32.ofInt (-1)) then ((x6 p q sp ln v3 v4 J L).2.1, (x6 p q sp ln v3 v4 J L).2.2)
      else (x5_31 p q sp ln v3 v4 v5 v6 c (v7 + (Int32.ofInt 1)) (x74 q ((x6 p q sp ln v3 v4 J L).1) v5 ((x6 p q sp ln v3 v4 J L).2.1)) ((x6 p q sp ln v3 v4 J L).2.2))
theorem xt5_31 {X : nt_X} {d : Nat} {M : nt_M} {o : Option Value × nt_M} {p : Nat → Nat} {q : Nat → Nat} {sp : Nat} {ln : Nat} {ru : Nat} {v3 : Int32} {v4 : Int32} {v5 : Int32} {v6 : Int32} (hp : xs_P M p) (hq : xs_Q M q) (hx : xs_X p q) (hs : xs_S M p ru sp ln) : ∀ (c : Nat) (v7 : Int32) (v8 : Int32) (J : Nat → Nat → Int32) (L : Nat → Nat → Int64), v6.toInt - v7.toInt ≤ c → nt_rn X d 5 (31, [(0, .ref (p 24)), (1, .ref (q 0)), (2, .ref ru), (3, .int v3), (4, .int v4), (5, .int v5), (6, .int v6), (7, .int v7), (8, .int v8)], [], me_w (lw M L) J) o → o = (none, me_w (lw M ((x5_31 p q sp ln v3 v4 v5 v6 c v7 J L).2)) ((x5_31 p q sp ln v3 v4 v5 v6 c v7 J L).1)) := by
  intro c
  induction c with
  | zero =>
    intro v7 v8 J L hc k
    have k := ly_revb 3 (c' := (if v6 ≤ v7 then 70 else 38, [(0, .ref (p 24)), (1, .ref (q 0)), (2, .ref ru), (3, .int v3), (4, .int v4), (5, .int v5), (6, .int v6), (7, .int v7), (8, .int v8)], [], me_w (lw M L) J)) rfl k
    have h35 : v6 ≤ v7 := lx_end hc
    rw [if_pos h35] at k
    have k := lz_rv rfl rfl k
    rw [k, x5_31]
  | succ c ih =>
    intro v7 v8 J L hc k
    have k := ly_revb 3 (c' := (if v6 ≤ v7 then 70 else 38, [(0, .ref (p 24)), (1, .ref (q 0)), (2, .ref ru), (3, .int v3), (4, .int v4), (5, .int v5), (6, .int v6), (7, .int v7), (8, .int v8)], [], me_w (lw M L) J)) rfl k
    by_cases h35 : v6 ≤ v7
    · rw [if_pos h35] at k
      have k := lz_rv rfl rfl k
      rw [k, x5_31, if_pos h35]
    · rw [if_neg h35] at k
      have k := ly_revb 5 (c' := (44, [(0, .ref (p 24)), (1, .ref (q 0)), (2, .ref ru), (3, .int v3), (4, .int v4), (5, .int v5), (6, .int v6), (7, .int v7), (8, .int v8)], [.int v4, .int v3, .ref ru, .ref (q 0), .ref (p 24)], me_w (lw M L) J)) rfl k
      obtain ⟨d1, o1, ed, kc, k⟩ := lz_c (g := 6) (q := 1) (vs := [.ref (p 24), .ref (q 0), .ref ru, .int v3, .int v4]) (rest := []) rfl rfl (by decide) (Or.inr (Or.inl ⟨_, rfl, rfl⟩)) rfl k
      have e1 := xt6 hp hq hx hs kc
      subst e1
      have k : nt_rn X _ 5 (47, [(0, .ref (p 24)), (1, .ref (q 0)), (2, .ref ru), (3, .int v3), (4, .int v4), (5, .int v5), (6, .int v6), (7, .int v7), (8, .int v8)], [.int ((x6 p q sp ln v3 v4 J L).1)], me_w (lw M ((x6 p q sp ln v3 v4 J L).2.2)) ((x6 p q sp ln v3 v4 J L).2.1)) _ := k
      have k := ly_revb 4 (c' := (if ((x6 p q sp ln v3 v4 J L).1) = (Int32.ofInt (-1)) then 55 else 56, [(8, .int ((x6 p q sp ln v3 v4 J L).1)), (0, .ref (p 24)), (1, .ref (q 0)), (2, .ref ru), (3, .int v3), (4, .int v4), (5, .int v5), (6, .int v6), (7, .int v7)], [], me_w (lw M ((x6 p q sp ln v3 v4 J L).2.2)) ((x6 p q sp ln v3 v4 J L).2.1))) rfl k
      by_cases h52 : ((x6 p q sp ln v3 v4 J L).1) = (Int32.ofInt (-1))
      · rw [if_pos h52] at k
        have k := lz_rv rfl rfl k
        rw [k, x5_31, if_neg h35, if_pos h52]
      · rw [if_neg h52] at k
        have k := ly_revb 3 (c' := (61, [(8, .int ((x6 p q sp ln v3 v4 J L).1)), (0, .ref (p 24)), (1, .ref (q 0)), (2, .ref ru), (3, .int v3), (4, .int v4), (5, .int v5), (6, .int v6), (7, .int v7)], [.int v5, .int ((x6 p q sp ln v3 v4 J L).1), .ref (q 0)], me_w (lw M ((x6 p q sp ln v3 v4 J L).2.2)) ((x6 p q sp ln v3 v4 J L).2.1))) rfl k
        obtain ⟨d1, o1, ed, kc, k⟩ := lz_c (g := 74) (q := 1) (vs := [.ref (q 0), .int ((x6 p q sp ln v3 v4 J L).1), .int v5]) (rest := []) rfl rfl (by decide) (Or.inr (Or.inl ⟨_, rfl, rfl⟩)) rfl k
        have e1 := xt74 (xs_lq hq) kc
        subst e1
        have k : nt_rn X _ 5 (64, [(8, .int ((x6 p q sp ln v3 v4 J L).1)), (0, .ref (p 24)), (1, .ref (q 0)), (2, .ref ru), (3, .int v3), (4, .int v4), (5, .int v5), (6, .int v6), (7, .int v7)], [], me_w (lw M ((x6 p q sp ln v3 v4 J L).2.2)) (x74 q ((x6 p q sp ln v3 v4 J L).1) v5 ((x6 p q sp ln v3 v4 J L).2.1))) _ := k
        have k := ly_revb 2 (c' := (31, [(7, .int (v7 + (Int32.ofInt 1))), (8, .int ((x6 p q sp ln v3 v4 J L).1)), (0, .ref (p 24)), (1, .ref (q 0)), (2, .ref ru), (3, .int v3), (4, .int v4), (5, .int v5), (6, .int v6)], [], me_w (lw M ((x6 p q sp ln v3 v4 J L).2.2)) (x74 q ((x6 p q sp ln v3 v4 J L).1) v5 ((x6 p q sp ln v3 v4 J L).2.1)))) rfl k
        have k := nt_rn_w (a := [(7, .int (v7 + (Int32.ofInt 1))), (8, .int ((x6 p q sp ln v3 v4 J L).1)), (0, .ref (p 24)), (1, .ref (q 0)), (2, .ref ru), (3, .int v3), (4, .int v4), (5, .int v5), (6, .int v6)]) (b := [(0, .ref (p 24)), (1, .ref (q 0)), (2, .ref ru), (3, .int v3), (4, .int v4), (5, .int v5), (6, .int v6), (7, .int (v7 + (Int32.ofInt 1))), (8, .int ((x6 p q sp ln v3 v4 J L).1))]) ⟨rfl, rfl, rfl, rfl, rfl, rfl, rfl, rfl, rfl, trivial⟩ rfl k
        have k := ih (v7 + (Int32.ofInt 1)) ((x6 p q sp ln v3 v4 J L).1) (x74 q ((x6 p q sp ln v3 v4 J L).1) v5 ((x6 p q sp ln v3 v4 J L).2.1)) ((x6 p q sp ln v3 v4 J L).2.2) (lx_dec h35 hc) k
        rw [k, x5_31, if_neg h35, if_neg h52]
def x5 (p : Nat → Nat) (q : Nat → Nat) (sp : Nat) (ln : Nat) (v3 : Int32) (v4 : Int32) (J : Nat → Nat → Int32) (L : Nat → Nat → Int64) : (Nat → Nat → Int32) × (Nat → Nat → Int64) := (x5_31 p q sp ln v3 v4 (J (q 6) v3.toNatClampNeg) (if (x72 q J) < (x68 q (J (q 6) v3.toNatClampNeg) v4 J) then (x72 q J) else (x68 q (J (q 6) v3.toNatClampNeg) v4 J)) ((if (x72 q J) < (x68 q (J (q 6) v3.toNatClampNeg) v4 J) then (x72 q J) else (x68 q (J (q 6) v3.toNatClampNeg) v4 J)).toNatClampNeg) (Int32.ofInt 0) J L)
theorem xt5 {X : nt_X} {d : Nat} {M : nt_M} {o : Option Value × nt_M} {p : Nat → Nat} {q : Nat → Nat} {sp : Nat} {ln : Nat} {ru : Nat} {v3 : Int32} {v4 : Int32} {J : Nat → Nat → Int32} {L : Nat → Nat → Int64} (hp : xs_P M p) (hq : xs_Q M q) (hx : xs_X p q) (hs : xs_S M p ru sp ln) (k : nt_ev X d 5 [.ref (p 24), .ref (q 0), .ref ru, .int v3, .int v4] (me_w (lw M L) J) o) : o = (none, me_w (lw M ((x5 p q sp ln v3 v4 J L).2)) ((x5 p q sp ln v3 v4 J L).1)) := by
  have k : nt_rn X d 5 (0, [(0, .ref (p 24)), (1, .ref (q 0)), (2, .ref ru), (3, .int v3), (4, .int v4)], [], me_w (lw M L) J) o := k
  have k := ly_revb 1 (c' := (1, [(0, .ref (p 24)), (1, .ref (q 0)), (2, .ref ru), (3, .int v3), (4, .int v4)], [.ref (q 0)], me_w (lw M L) J)) rfl k
  have k := lz_get (a := (q 0)) (g := 600) (M := me_w (lw M L) J) (v := .ref (q 1)) rfl (nt_gfR rfl (hq.1 (0, 0, 1) (by decide))) k
  have k := lz_get (a := (q 1)) (g := 809) (M := me_w (lw M L) J) (v := .ref (q 6)) rfl (nt_gfR rfl (hq.1 (1, 9, 6) (by decide))) k
  have k := ly_revb 1 (c' := (8, [(0, .ref (p 24)), (1, .ref (q 0)), (2, .ref ru), (3, .int v3), (4, .int v4)], [.int v3, .ref (q 6)], me_w (lw M L) J)) rfl k
  have k := mx_iald (v := J (q 6) v3.toNatClampNeg) rfl (hq.2.2.1 6 (by omega)) (rfl) k
  have k := ly_revb 4 (c' := (16, [(5, .int (J (q 6) v3.toNatClampNeg)), (0, .ref (p 24)), (1, .ref (q 0)), (2, .ref ru), (3, .int v3), (4, .int v4)], [.int v4, .int (J (q 6) v3.toNatClampNeg), .ref (q 0)], me_w (lw M L) J)) rfl k
  obtain ⟨d1, o1, ed, kc, k⟩ := lz_c (g := 68) (q := 1) (vs := [.ref (q 0), .int (J (q 6) v3.toNatClampNeg), .int v4]) (rest := []) rfl rfl (by decide) (Or.inr (Or.inl ⟨_, rfl, rfl⟩)) rfl k
  have e1 := xt68 (xs_lq hq) kc
  subst e1
  have k : nt_rn X _ 5 (19, [(5, .int (J (q 6) v3.toNatClampNeg)), (0, .ref (p 24)), (1, .ref (q 0)), (2, .ref ru), (3, .int v3), (4, .int v4)], [.int (x68 q (J (q 6) v3.toNatClampNeg) v4 J)], me_w (lw M L) J) _ := k
  have k := ly_revb 1 (c' := (20, [(5, .int (J (q 6) v3.toNatClampNeg)), (0, .ref (p 24)), (1, .ref (q 0)), (2, .ref ru), (3, .int v3), (4, .int v4)], [.ref (q 0), .int (x68 q (J (q 6) v3.toNatClampNeg) v4 J)], me_w (lw M L) J)) rfl k
  obtain ⟨d1, o1, ed, kc, k⟩ := lz_c (g := 72) (q := 1) (vs := [.ref (q 0)]) (rest := [.int (x68 q (J (q 6) v3.toNatClampNeg) v4 J)]) rfl rfl (by decide) (Or.inr (Or.inl ⟨_, rfl, rfl⟩)) rfl k
  have e1 := xt72 (xs_lq hq) kc
  subst e1
  have k : nt_rn X _ 5 (23, [(5, .int (J (q 6) v3.toNatClampNeg)), (0, .ref (p 24)), (1, .ref (q 0)), (2, .ref ru), (3, .int v3), (4, .int v4)], [.int (x72 q J), .int (x68 q (J (q 6) v3.toNatClampNeg) v4 J)], me_w (lw M L) J) _ := k
  have k := mx_min rfl k
  have k := ly_revb 3 (c' := (31, [(7, .int (Int32.ofInt 0)), (6, .int (if (x72 q J) < (x68 q (J (q 6) v3.toNatClampNeg) v4 J) then (x72 q J) else (x68 q (J (q 6) v3.toNatClampNeg) v4 J))), (5, .int (J (q 6) v3.toNatClampNeg)), (0, .ref (p 24)), (1, .ref (q 0)), (2, .ref ru), (3, .int v3), (4, .int v4)], [], me_w (lw M L) J)) rfl k
  have k := nt_rn_w (a := [(7, .int (Int32.ofInt 0)), (6, .int (if (x72 q J) < (x68 q (J (q 6) v3.toNatClampNeg) v4 J) then (x72 q J) else (x68 q (J (q 6) v3.toNatClampNeg) v4 J))), (5, .int (J (q 6) v3.toNatClampNeg)), (0, .ref (p 24)), (1, .ref (q 0)), (2, .ref ru), (3, .int v3), (4, .int v4)]) (b := [(0, .ref (p 24)), (1, .ref (q 0)), (2, .ref ru), (3, .int v3), (4, .int v4), (5, .int (J (q 6) v3.toNatClampNeg)), (6, .int (if (x72 q J) < (x68 q (J (q 6) v3.toNatClampNeg) v4 J) then (x72 q J) else (x68 q (J (q 6) v3.toNatClampNeg) v4 J))), (7, .int (Int32.ofInt 0)), (8, .int (Int32.ofInt 0))]) ⟨rfl, rfl, rfl, rfl, rfl, rfl, rfl, rfl, trivial⟩ rfl k
  have k := xt5_31 hp hq hx hs  ((if (x72 q J) < (x68 q (J (q 6) v3.toNatClampNeg) v4 J) then (x72 q J) else (x68 q (J (q 6) v3.toNatClampNeg) v4 J)).toNatClampNeg) (Int32.ofInt 0) (Int32.ofInt 0) J L (lx_beg (by decide)) k
  rw [k, x5]
theorem x5_31_frJ {p : Nat → Nat} {q : Nat → Nat} {sp : Nat} {ln : Nat} {v3 : Int32} {v4 : Int32} {v5 : Int32} {v6 : Int32} {b : Nat} : ∀ (c : Nat) (v7 : Int32) (J : Nat → Nat → Int32) (L : Nat → Nat → Int64), b ≠ p 25 → b ≠ q 0 → b ≠ q 14 → (x5_31 p q sp ln v3 v4 v5 v6 c v7 J L).1 b = J b := by
  intro c
  induction c with
  | zero =>
    intro v7 J L n0 n1 n2
    rw [x5_31]
    all_goals first | (dsimp only; exact (show J b = J b from rfl)) | exact (show J b = J b from rfl)
  | succ c ih =>
    intro v7 J L n0 n1 n2
    rw [x5_31]
    by_cases h : v6 ≤ v7
    · rw [if_pos h]
      all_goals first | (dsimp only; exact (show J b = J b from rfl)) | exact (show J b = J b from rfl)
    · rw [if_neg h]
      by_cases h : ((x6 p q sp ln v3 v4 J L).1) = (Int32.ofInt (-1))
      · rw [if_pos h]
        all_goals first | (dsimp only; exact (show ((x6 p q sp ln v3 v4 J L).2.1) b = J b from x6_frJ  n0)) | exact (show ((x6 p q sp ln v3 v4 J L).2.1) b = J b from x6_frJ  n0)
      · rw [if_neg h]
        exact (ih _ _ _ n0 n1 n2).trans ((x74_frJ  n1 n2).trans (x6_frJ  n0))
theorem x5_frJ {p : Nat → Nat} {q : Nat → Nat} {sp : Nat} {ln : Nat} {v3 : Int32} {v4 : Int32} {J : Nat → Nat → Int32} {L : Nat → Nat → Int64} {b : Nat} (n0 : b ≠ p 25) (n1 : b ≠ q 0) (n2 : b ≠ q 14) : (x5 p q sp ln v3 v4 J L).1 b = J b := by
  unfold x5
  exact (x5_31_frJ _ _ _ _ n0 n1 n2).trans (rfl)
/-! $Calendar.setOut -/
def x4_18 (p : Nat → Nat) (q : Nat → Nat) (sp : Nat) (ln : Nat) (v3 : Int32) (v4 : Int32) : Nat → Int32 → (Nat → Nat → Int32) → (Nat → Nat → Int64) → (Nat → Nat → Int32) × (Nat → Nat → Int64)
  | 0, v5, J, L => if (x67 q v4 J) = 0 then (J, L)
    else (nt_u (nt_u (nt_u J (q 10) v4.toNatClampNeg (Int32.ofInt 1)) (q 12) v4.toNatClampNeg v3) (q 16) v3.toNatClampNeg (Int32.ofInt 1), L)
  | c + 1, v5, J, L => if (J (q 1) 0) ≤ v5 then if (x67 q v4 J) = 0 then (J, L)
      else (nt_u (nt_u (nt_u J (q 10) v4.toNatClampNeg (Int32.ofInt 1)) (q 12) v4.toNatClampNeg v3) (q 16) v3.toNatClampNeg (Int32.ofInt 1), L)
    else (x4_18 p q sp ln v3 v4 c (v5 + (Int32.ofInt 1)) ((x5 p q sp ln v3 v5 J L).1) ((x5 p q sp ln v3 v5 J L).2))
theorem xt4_18 {X : nt_X} {d : Nat} {M : nt_M} {o : Option Value × nt_M} {p : Nat → Nat} {q : Nat → Nat} {sp : Nat} {ln : Nat} {ru : Nat} {v3 : Int32} {v4 : Int32} (hp : xs_P M p) (hq : xs_Q M q) (hx : xs_X p q) (hs : xs_S M p ru sp ln) : ∀ (c : Nat) (v5 : Int32) (J : Nat → Nat → Int32) (L : Nat → Nat → Int64), (J (q 1) 0).toInt - v5.toInt ≤ c → nt_rn X d 4 (18, [(0, .ref (p 24)), (1, .ref (q 0)), (2, .ref ru), (3, .int v3), (4, .int v4), (5, .int v5)], [], me_w (lw M L) J) o → o = (none, me_w (lw M ((x4_18 p q sp ln v3 v4 c v5 J L).2)) ((x4_18 p q sp ln v3 v4 c v5 J L).1)) := by
  intro c
  induction c with
  | zero =>
    intro v5 J L hc k
    have k := ly_revb 2 (c' := (21, [(0, .ref (p 24)), (1, .ref (q 0)), (2, .ref ru), (3, .int v3), (4, .int v4), (5, .int v5)], [.ref (q 0), .int v5], me_w (lw M L) J)) rfl k
    have k := lz_get (a := (q 0)) (g := 600) (M := me_w (lw M L) J) (v := .ref (q 1)) rfl (nt_gfR rfl (hq.1 (0, 0, 1) (by decide))) k
    have k := lz_get (a := (q 1)) (g := 800) (M := me_w (lw M L) J) (v := .int (J (q 1) 0)) rfl (congrArg Value.int (rfl)) k
    have k := ly_revb 1 (c' := (if (J (q 1) 0) ≤ v5 then 45 else 30, [(0, .ref (p 24)), (1, .ref (q 0)), (2, .ref ru), (3, .int v3), (4, .int v4), (5, .int v5)], [], me_w (lw M L) J)) rfl k
    have h27 : (J (q 1) 0) ≤ v5 := lx_end hc
    rw [if_pos h27] at k
    have k := ly_revb 2 (c' := (48, [(0, .ref (p 24)), (1, .ref (q 0)), (2, .ref ru), (3, .int v3), (4, .int v4), (5, .int v5)], [.int v4, .ref (q 0)], me_w (lw M L) J)) rfl k
    obtain ⟨d1, o1, ed, kc, k⟩ := lz_c (g := 67) (q := 1) (vs := [.ref (q 0), .int v4]) (rest := []) rfl rfl (by decide) (Or.inr (Or.inl ⟨_, rfl, rfl⟩)) rfl k
    have e1 := xt67 (xs_lq hq) kc
    subst e1
    have k : nt_rn X _ 4 (51, [(0, .ref (p 24)), (1, .ref (q 0)), (2, .ref ru), (3, .int v3), (4, .int v4), (5, .int v5)], [.int (x67 q v4 J)], me_w (lw M L) J) _ := k
    have k := ly_revb 1 (c' := (if (x67 q v4 J) = 0 then 77 else 54, [(0, .ref (p 24)), (1, .ref (q 0)), (2, .ref ru), (3, .int v3), (4, .int v4), (5, .int v5)], [], me_w (lw M L) J)) rfl k
    by_cases h51 : (x67 q v4 J) = 0
    · rw [if_pos h51] at k
      have k := lz_rv rfl rfl k
      rw [k, x4_18, if_pos h51]
    · rw [if_neg h51] at k
      have k := ly_revb 1 (c' := (55, [(0, .ref (p 24)), (1, .ref (q 0)), (2, .ref ru), (3, .int v3), (4, .int v4), (5, .int v5)], [.ref (q 0)], me_w (lw M L) J)) rfl k
      have k := lz_get (a := (q 0)) (g := 607) (M := me_w (lw M L) J) (v := .ref (q 10)) rfl (nt_gfR rfl (hq.1 (0, 7, 10) (by decide))) k
      have k := ly_revb 2 (c' := (61, [(0, .ref (p 24)), (1, .ref (q 0)), (2, .ref ru), (3, .int v3), (4, .int v4), (5, .int v5)], [.int (Int32.ofInt 1), .int v4, .ref (q 10)], me_w (lw M L) J)) rfl k
      have k := mx_iast (q := v4.toNatClampNeg) rfl rfl k
      have k : nt_rn X _ 4 (62, [(0, .ref (p 24)), (1, .ref (q 0)), (2, .ref ru), (3, .int v3), (4, .int v4), (5, .int v5)], [], me_w (lw M L) (nt_u J (q 10) v4.toNatClampNeg (Int32.ofInt 1))) _ := k
      have k := ly_revb 1 (c' := (63, [(0, .ref (p 24)), (1, .ref (q 0)), (2, .ref ru), (3, .int v3), (4, .int v4), (5, .int v5)], [.ref (q 0)], me_w (lw M L) (nt_u J (q 10) v4.toNatClampNeg (Int32.ofInt 1)))) rfl k
      have k := lz_get (a := (q 0)) (g := 609) (M := me_w (lw M L) (nt_u J (q 10) v4.toNatClampNeg (Int32.ofInt 1))) (v := .ref (q 12)) rfl (nt_gfR rfl (hq.1 (0, 9, 12) (by decide))) k
      have k := ly_revb 2 (c' := (69, [(0, .ref (p 24)), (1, .ref (q 0)), (2, .ref ru), (3, .int v3), (4, .int v4), (5, .int v5)], [.int v3, .int v4, .ref (q 12)], me_w (lw M L) (nt_u J (q 10) v4.toNatClampNeg (Int32.ofInt 1)))) rfl k
      have k := mx_iast (q := v4.toNatClampNeg) rfl rfl k
      have k : nt_rn X _ 4 (70, [(0, .ref (p 24)), (1, .ref (q 0)), (2, .ref ru), (3, .int v3), (4, .int v4), (5, .int v5)], [], me_w (lw M L) (nt_u (nt_u J (q 10) v4.toNatClampNeg (Int32.ofInt 1)) (q 12) v4.toNatClampNeg v3)) _ := k
      have k := ly_revb 1 (c' := (71, [(0, .ref (p 24)), (1, .ref (q 0)), (2, .ref ru), (3, .int v3), (4, .int v4), (5, .int v5)], [.ref (q 0)], me_w (lw M L) (nt_u (nt_u J (q 10) v4.toNatClampNeg (Int32.ofInt 1)) (q 12) v4.toNatClampNeg v3))) rfl k
      have k := lz_get (a := (q 0)) (g := 613) (M := me_w (lw M L) (nt_u (nt_u J (q 10) v4.toNatClampNeg (Int32.ofInt 1)) (q 12) v4.toNatClampNeg v3)) (v := .ref (q 16)) rfl (nt_gfR rfl (hq.1 (0, 13, 16) (by decide))) k
      have k := ly_revb 2 (c' := (76, [(0, .ref (p 24)), (1, .ref (q 0)), (2, .ref ru), (3, .int v3), (4, .int v4), (5, .int v5)], [.int (Int32.ofInt 1), .int v3, .ref (q 16)], me_w (lw M L) (nt_u (nt_u J (q 10) v4.toNatClampNeg (Int32.ofInt 1)) (q 12) v4.toNatClampNeg v3))) rfl k
      have k := mx_iast (q := v3.toNatClampNeg) rfl rfl k
      have k : nt_rn X _ 4 (77, [(0, .ref (p 24)), (1, .ref (q 0)), (2, .ref ru), (3, .int v3), (4, .int v4), (5, .int v5)], [], me_w (lw M L) (nt_u (nt_u (nt_u J (q 10) v4.toNatClampNeg (Int32.ofInt 1)) (q 12) v4.toNatClampNeg v3) (q 16) v3.toNatClampNeg (Int32.ofInt 1))) _ := k
      have k := lz_rv rfl rfl k
      rw [k, x4_18, if_neg h51]
  | succ c ih =>
    intro v5 J L hc k
    have k := ly_revb 2 (c' := (21, [(0, .ref (p 24)), (1, .ref (q 0)), (2, .ref ru), (3, .int v3), (4, .int v4), (5, .int v5)], [.ref (q 0), .int v5], me_w (lw M L) J)) rfl k
    have k := lz_get (a := (q 0)) (g := 600) (M := me_w (lw M L) J) (v := .ref (q 1)) rfl (nt_gfR rfl (hq.1 (0, 0, 1) (by decide))) k
    have k := lz_get (a := (q 1)) (g := 800) (M := me_w (lw M L) J) (v := .int (J (q 1) 0)) rfl (congrArg Value.int (rfl)) k
    have k := ly_revb 1 (c' := (if (J (q 1) 0) ≤ v5 then 45 else 30, [(0, .ref (p 24)), (1, .ref (q 0)), (2, .ref ru), (3, .int v3), (4, .int v4), (5, .int v5)], [], me_w (lw M L) J)) rfl k
    by_cases h27 : (J (q 1) 0) ≤ v5
    · rw [if_pos h27] at k
      have k := ly_revb 2 (c' := (48, [(0, .ref (p 24)), (1, .ref (q 0)), (2, .ref ru), (3, .int v3), (4, .int v4), (5, .int v5)], [.int v4, .ref (q 0)], me_w (lw M L) J)) rfl k
      obtain ⟨d1, o1, ed, kc, k⟩ := lz_c (g := 67) (q := 1) (vs := [.ref (q 0), .int v4]) (rest := []) rfl rfl (by decide) (Or.inr (Or.inl ⟨_, rfl, rfl⟩)) rfl k
      have e1 := xt67 (xs_lq hq) kc
      subst e1
      have k : nt_rn X _ 4 (51, [(0, .ref (p 24)), (1, .ref (q 0)), (2, .ref ru), (3, .int v3), (4, .int v4), (5, .int v5)], [.int (x67 q v4 J)], me_w (lw M L) J) _ := k
      have k := ly_revb 1 (c' := (if (x67 q v4 J) = 0 then 77 else 54, [(0, .ref (p 24)), (1, .ref (q 0)), (2, .ref ru), (3, .int v3), (4, .int v4), (5, .int v5)], [], me_w (lw M L) J)) rfl k
      by_cases h51 : (x67 q v4 J) = 0
      · rw [if_pos h51] at k
        have k := lz_rv rfl rfl k
        rw [k, x4_18, if_pos h27, if_pos h51]
      · rw [if_neg h51] at k
        have k := ly_revb 1 (c' := (55, [(0, .ref (p 24)), (1, .ref (q 0)), (2, .ref ru), (3, .int v3), (4, .int v4), (5, .int v5)], [.ref (q 0)], me_w (lw M L) J)) rfl k
        have k := lz_get (a := (q 0)) (g := 607) (M := me_w (lw M L) J) (v := .ref (q 10)) rfl (nt_gfR rfl (hq.1 (0, 7, 10) (by decide))) k
        have k := ly_revb 2 (c' := (61, [(0, .ref (p 24)), (1, .ref (q 0)), (2, .ref ru), (3, .int v3), (4, .int v4), (5, .int v5)], [.int (Int32.ofInt 1), .int v4, .ref (q 10)], me_w (lw M L) J)) rfl k
        have k := mx_iast (q := v4.toNatClampNeg) rfl rfl k
        have k : nt_rn X _ 4 (62, [(0, .ref (p 24)), (1, .ref (q 0)), (2, .ref ru), (3, .int v3), (4, .int v4), (5, .int v5)], [], me_w (lw M L) (nt_u J (q 10) v4.toNatClampNeg (Int32.ofInt 1))) _ := k
        have k := ly_revb 1 (c' := (63, [(0, .ref (p 24)), (1, .ref (q 0)), (2, .ref ru), (3, .int v3), (4, .int v4), (5, .int v5)], [.ref (q 0)], me_w (lw M L) (nt_u J (q 10) v4.toNatClampNeg (Int32.ofInt 1)))) rfl k
        have k := lz_get (a := (q 0)) (g := 609) (M := me_w (lw M L) (nt_u J (q 10) v4.toNatClampNeg (Int32.ofInt 1))) (v := .ref (q 12)) rfl (nt_gfR rfl (hq.1 (0, 9, 12) (by decide))) k
        have k := ly_revb 2 (c' := (69, [(0, .ref (p 24)), (1, .ref (q 0)), (2, .ref ru), (3, .int v3), (4, .int v4), (5, .int v5)], [.int v3, .int v4, .ref (q 12)], me_w (lw M L) (nt_u J (q 10) v4.toNatClampNeg (Int32.ofInt 1)))) rfl k
        have k := mx_iast (q := v4.toNatClampNeg) rfl rfl k
        have k : nt_rn X _ 4 (70, [(0, .ref (p 24)), (1, .ref (q 0)), (2, .ref ru), (3, .int v3), (4, .int v4), (5, .int v5)], [], me_w (lw M L) (nt_u (nt_u J (q 10) v4.toNatClampNeg (Int32.ofInt 1)) (q 12) v4.toNatClampNeg v3)) _ := k
        have k := ly_revb 1 (c' := (71, [(0, .ref (p 24)), (1, .ref (q 0)), (2, .ref ru), (3, .int v3), (4, .int v4), (5, .int v5)], [.ref (q 0)], me_w (lw M L) (nt_u (nt_u J (q 10) v4.toNatClampNeg (Int32.ofInt 1)) (q 12) v4.toNatClampNeg v3))) rfl k
        have k := lz_get (a := (q 0)) (g := 613) (M := me_w (lw M L) (nt_u (nt_u J (q 10) v4.toNatClampNeg (Int32.ofInt 1)) (q 12) v4.toNatClampNeg v3)) (v := .ref (q 16)) rfl (nt_gfR rfl (hq.1 (0, 13, 16) (by decide))) k
        have k := ly_revb 2 (c' := (76, [(0, .ref (p 24)), (1, .ref (q 0)), (2, .ref ru), (3, .int v3), (4, .int v4), (5, .int v5)], [.int (Int32.ofInt 1), .int v3, .ref (q 16)], me_w (lw M L) (nt_u (nt_u J (q 10) v4.toNatClampNeg (Int32.ofInt 1)) (q 12) v4.toNatClampNeg v3))) rfl k
        have k := mx_iast (q := v3.toNatClampNeg) rfl rfl k
        have k : nt_rn X _ 4 (77, [(0, .ref (p 24)), (1, .ref (q 0)), (2, .ref ru), (3, .int v3), (4, .int v4), (5, .int v5)], [], me_w (lw M L) (nt_u (nt_u (nt_u J (q 10) v4.toNatClampNeg (Int32.ofInt 1)) (q 12) v4.toNatClampNeg v3) (q 16) v3.toNatClampNeg (Int32.ofInt 1))) _ := k
        have k := lz_rv rfl rfl k
        rw [k, x4_18, if_pos h27, if_neg h51]
    · rw [if_neg h27] at k
      have k := ly_revb 5 (c' := (36, [(0, .ref (p 24)), (1, .ref (q 0)), (2, .ref ru), (3, .int v3), (4, .int v4), (5, .int v5)], [.int v5, .int v3, .ref ru, .ref (q 0), .ref (p 24)], me_w (lw M L) J)) rfl k
      obtain ⟨d1, o1, ed, kc, k⟩ := lz_c (g := 5) (q := 1) (vs := [.ref (p 24), .ref (q 0), .ref ru, .int v3, .int v5]) (rest := []) rfl rfl (by decide) (Or.inr (Or.inl ⟨_, rfl, rfl⟩)) rfl k
      have e1 := xt5 hp hq hx hs kc
      subst e1
      have k : nt_rn X _ 4 (39, [(0, .ref (p 24)), (1, .ref (q 0)), (2, .ref ru), (3, .int v3), (4, .int v4), (5, .int v5)], [], me_w (lw M ((x5 p q sp ln v3 v5 J L).2)) ((x5 p q sp ln v3 v5 J L).1)) _ := k
      have k := ly_revb 2 (c' := (18, [(5, .int (v5 + (Int32.ofInt 1))), (0, .ref (p 24)), (1, .ref (q 0)), (2, .ref ru), (3, .int v3), (4, .int v4)], [], me_w (lw M ((x5 p q sp ln v3 v5 J L).2)) ((x5 p q sp ln v3 v5 J L).1))) rfl k
      have k := nt_rn_w (a := [(5, .int (v5 + (Int32.ofInt 1))), (0, .ref (p 24)), (1, .ref (q 0)), (2, .ref ru), (3, .int v3), (4, .int v4)]) (b := [(0, .ref (p 24)), (1, .ref (q 0)), (2, .ref ru), (3, .int v3), (4, .int v4), (5, .int (v5 + (Int32.ofInt 1)))]) ⟨rfl, rfl, rfl, rfl, rfl, rfl, trivial⟩ rfl k
      have k := ih (v5 + (Int32.ofInt 1)) ((x5 p q sp ln v3 v5 J L).1) ((x5 p q sp ln v3 v5 J L).2) (by rw [show ((x5 p q sp ln v3 v5 J L).1) (q 1) 0 = J (q 1) 0 from congrFun (x5_frJ  (hx 1 25 (by omega) (by omega)) (hq.2.1 1 0 (by omega) (by omega) (by decide)) (hq.2.1 1 14 (by omega) (by omega) (by decide))) 0]; exact lx_dec h27 hc) k
      rw [k, x4_18, if_neg h27]
def x4 (p : Nat → Nat) (q : Nat → Nat) (sp : Nat) (ln : Nat) (v3 : Int32) (J : Nat → Nat → Int32) (L : Nat → Nat → Int64) : (Nat → Nat → Int32) × (Nat → Nat → Int64) := (x4_18 p q sp ln v3 (J (q 6) v3.toNatClampNeg) ((J (q 1) 0).toNatClampNeg) (Int32.ofInt 0) J L)
theorem xt4 {X : nt_X} {d : Nat} {M : nt_M} {o : Option Value × nt_M} {p : Nat → Nat} {q : Nat → Nat} {sp : Nat} {ln : Nat} {ru : Nat} {v3 : Int32} {J : Nat → Nat → Int32} {L : Nat → Nat → Int64} (hp : xs_P M p) (hq : xs_Q M q) (hx : xs_X p q) (hs : xs_S M p ru sp ln) (k : nt_ev X d 4 [.ref (p 24), .ref (q 0), .ref ru, .int v3] (me_w (lw M L) J) o) : o = (none, me_w (lw M ((x4 p q sp ln v3 J L).2)) ((x4 p q sp ln v3 J L).1)) := by
  have k : nt_rn X d 4 (0, [(0, .ref (p 24)), (1, .ref (q 0)), (2, .ref ru), (3, .int v3)], [], me_w (lw M L) J) o := k
  have k := ly_revb 1 (c' := (1, [(0, .ref (p 24)), (1, .ref (q 0)), (2, .ref ru), (3, .int v3)], [.ref (q 0)], me_w (lw M L) J)) rfl k
  have k := lz_get (a := (q 0)) (g := 600) (M := me_w (lw M L) J) (v := .ref (q 1)) rfl (nt_gfR rfl (hq.1 (0, 0, 1) (by decide))) k
  have k := lz_get (a := (q 1)) (g := 809) (M := me_w (lw M L) J) (v := .ref (q 6)) rfl (nt_gfR rfl (hq.1 (1, 9, 6) (by decide))) k
  have k := ly_revb 1 (c' := (8, [(0, .ref (p 24)), (1, .ref (q 0)), (2, .ref ru), (3, .int v3)], [.int v3, .ref (q 6)], me_w (lw M L) J)) rfl k
  have k := mx_iald (v := J (q 6) v3.toNatClampNeg) rfl (hq.2.2.1 6 (by omega)) (rfl) k
  have k := ly_revb 5 (c' := (18, [(5, .int (Int32.ofInt 0)), (4, .int (J (q 6) v3.toNatClampNeg)), (0, .ref (p 24)), (1, .ref (q 0)), (2, .ref ru), (3, .int v3)], [], me_w (lw M L) J)) rfl k
  have k := nt_rn_w (a := [(5, .int (Int32.ofInt 0)), (4, .int (J (q 6) v3.toNatClampNeg)), (0, .ref (p 24)), (1, .ref (q 0)), (2, .ref ru), (3, .int v3)]) (b := [(0, .ref (p 24)), (1, .ref (q 0)), (2, .ref ru), (3, .int v3), (4, .int (J (q 6) v3.toNatClampNeg)), (5, .int (Int32.ofInt 0))]) ⟨rfl, rfl, rfl, rfl, rfl, rfl, trivial⟩ rfl k
  have k := xt4_18 hp hq hx hs  ((J (q 1) 0).toNatClampNeg) (Int32.ofInt 0) J L (lx_beg (by decide)) k
  rw [k, x4]
theorem x4_18_frJ {p : Nat → Nat} {q : Nat → Nat} {sp : Nat} {ln : Nat} {v3 : Int32} {v4 : Int32} {b : Nat} : ∀ (c : Nat) (v5 : Int32) (J : Nat → Nat → Int32) (L : Nat → Nat → Int64), b ≠ p 25 → b ≠ q 0 → b ≠ q 10 → b ≠ q 12 → b ≠ q 14 → b ≠ q 16 → (x4_18 p q sp ln v3 v4 c v5 J L).1 b = J b := by
  intro c
  induction c with
  | zero =>
    intro v5 J L n0 n1 n2 n3 n4 n5
    rw [x4_18]
    by_cases h : (x67 q v4 J) = 0
    · rw [if_pos h]
      all_goals first | (dsimp only; exact (show J b = J b from rfl)) | exact (show J b = J b from rfl)
    · rw [if_neg h]
      all_goals first | (dsimp only; exact (show (nt_u (nt_u (nt_u J (q 10) v4.toNatClampNeg (Int32.ofInt 1)) (q 12) v4.toNatClampNeg v3) (q 16) v3.toNatClampNeg (Int32.ofInt 1)) b = J b from (mu_o n5).trans ((mu_o n3).trans (mu_o n2)))) | exact (show (nt_u (nt_u (nt_u J (q 10) v4.toNatClampNeg (Int32.ofInt 1)) (q 12) v4.toNatClampNeg v3) (q 16) v3.toNatClampNeg (Int32.ofInt 1)) b = J b from (mu_o n5).trans ((mu_o n3).trans (mu_o n2)))
  | succ c ih =>
    intro v5 J L n0 n1 n2 n3 n4 n5
    rw [x4_18]
    by_cases h : (J (q 1) 0) ≤ v5
    · rw [if_pos h]
      by_cases h : (x67 q v4 J) = 0
      · rw [if_pos h]
        all_goals first | (dsimp only; exact (show J b = J b from rfl)) | exact (show J b = J b from rfl)
      · rw [if_neg h]
        all_goals first | (dsimp only; exact (show (nt_u (nt_u (nt_u J (q 10) v4.toNatClampNeg (Int32.ofInt 1)) (q 12) v4.toNatClampNeg v3) (q 16) v3.toNatClampNeg (Int32.ofInt 1)) b = J b from (mu_o n5).trans ((mu_o n3).trans (mu_o n2)))) | exact (show (nt_u (nt_u (nt_u J (q 10) v4.toNatClampNeg (Int32.ofInt 1)) (q 12) v4.toNatClampNeg v3) (q 16) v3.toNatClampNeg (Int32.ofInt 1)) b = J b from (mu_o n5).trans ((mu_o n3).trans (mu_o n2)))
    · rw [if_neg h]
      exact (ih _ _ _ n0 n1 n2 n3 n4 n5).trans (x5_frJ  n0 n1 n4)
theorem x4_frJ {p : Nat → Nat} {q : Nat → Nat} {sp : Nat} {ln : Nat} {v3 : Int32} {J : Nat → Nat → Int32} {L : Nat → Nat → Int64} {b : Nat} (n0 : b ≠ p 25) (n1 : b ≠ q 0) (n2 : b ≠ q 10) (n3 : b ≠ q 12) (n4 : b ≠ q 14) (n5 : b ≠ q 16) : (x4 p q sp ln v3 J L).1 b = J b := by
  unfold x4
  exact (x4_18_frJ _ _ _ _ n0 n1 n2 n3 n4 n5).trans (rfl)
/-! $Calendar.setOut -/
def x4N (p : Nat → Nat) (q : Nat → Nat) (v3 : Int32) (J : Nat → Nat → Int32) : (Nat → Nat → Int32) := if (x67 q (J (q 6) v3.toNatClampNeg) J) = 0 then J
  else (nt_u (nt_u (nt_u J (q 10) ((J (q 6) v3.toNatClampNeg).toNatClampNeg) (Int32.ofInt 1)) (q 12) ((J (q 6) v3.toNatClampNeg).toNatClampNeg) v3) (q 16) v3.toNatClampNeg (Int32.ofInt 1))
theorem xt4N {X : nt_X} {d : Nat} {M : nt_M} {o : Option Value × nt_M} {p : Nat → Nat} {q : Nat → Nat} {v3 : Int32} {J : Nat → Nat → Int32} (hp : xs_P M p) (hq : xs_Q M q) (hx : xs_X p q) (k : nt_ev X d 4 [.ref (p 24), .ref (q 0), .null, .int v3] (me_w M J) o) : o = (none, me_w M (x4N p q v3 J)) := by
  have k : nt_rn X d 4 (0, [(0, .ref (p 24)), (1, .ref (q 0)), (2, .null), (3, .int v3)], [], me_w M J) o := k
  have k := ly_revb 1 (c' := (1, [(0, .ref (p 24)), (1, .ref (q 0)), (2, .null), (3, .int v3)], [.ref (q 0)], me_w M J)) rfl k
  have k := lz_get (a := (q 0)) (g := 600) (M := me_w M J) (v := .ref (q 1)) rfl (nt_gfR rfl (hq.1 (0, 0, 1) (by decide))) k
  have k := lz_get (a := (q 1)) (g := 809) (M := me_w M J) (v := .ref (q 6)) rfl (nt_gfR rfl (hq.1 (1, 9, 6) (by decide))) k
  have k := ly_revb 1 (c' := (8, [(0, .ref (p 24)), (1, .ref (q 0)), (2, .null), (3, .int v3)], [.int v3, .ref (q 6)], me_w M J)) rfl k
  have k := mx_iald (v := J (q 6) v3.toNatClampNeg) rfl (hq.2.2.1 6 (by omega)) (rfl) k
  have k := ly_revb 5 (c' := (48, [(4, .int (J (q 6) v3.toNatClampNeg)), (0, .ref (p 24)), (1, .ref (q 0)), (2, .null), (3, .int v3)], [.int (J (q 6) v3.toNatClampNeg), .ref (q 0)], me_w M J)) rfl k
  obtain ⟨d1, o1, ed, kc, k⟩ := lz_c (g := 67) (q := 1) (vs := [.ref (q 0), .int (J (q 6) v3.toNatClampNeg)]) (rest := []) rfl rfl (by decide) (Or.inr (Or.inl ⟨_, rfl, rfl⟩)) rfl k
  have e1 := xt67 hq kc
  subst e1
  have k : nt_rn X _ 4 (51, [(4, .int (J (q 6) v3.toNatClampNeg)), (0, .ref (p 24)), (1, .ref (q 0)), (2, .null), (3, .int v3)], [.int (x67 q (J (q 6) v3.toNatClampNeg) J)], me_w M J) _ := k
  have k := ly_revb 1 (c' := (if (x67 q (J (q 6) v3.toNatClampNeg) J) = 0 then 77 else 54, [(4, .int (J (q 6) v3.toNatClampNeg)), (0, .ref (p 24)), (1, .ref (q 0)), (2, .null), (3, .int v3)], [], me_w M J)) rfl k
  by_cases h51 : (x67 q (J (q 6) v3.toNatClampNeg) J) = 0
  · rw [if_pos h51] at k
    have k := lz_rv rfl rfl k
    rw [k, x4N, if_pos h51]
  · rw [if_neg h51] at k
    have k := ly_revb 1 (c' := (55, [(4, .int (J (q 6) v3.toNatClampNeg)), (0, .ref (p 24)), (1, .ref (q 0)), (2, .null), (3, .int v3)], [.ref (q 0)], me_w M J)) rfl k
    have k := lz_get (a := (q 0)) (g := 607) (M := me_w M J) (v := .ref (q 10)) rfl (nt_gfR rfl (hq.1 (0, 7, 10) (by decide))) k
    have k := ly_revb 2 (c' := (61, [(4, .int (J (q 6) v3.toNatClampNeg)), (0, .ref (p 24)), (1, .ref (q 0)), (2, .null), (3, .int v3)], [.int (Int32.ofInt 1), .int (J (q 6) v3.toNatClampNeg), .ref (q 10)], me_w M J)) rfl k
    have k := mx_iast (q := (J (q 6) v3.toNatClampNeg).toNatClampNeg) rfl rfl k
    have k : nt_rn X _ 4 (62, [(4, .int (J (q 6) v3.toNatClampNeg)), (0, .ref (p 24)), (1, .ref (q 0)), (2, .null), (3, .int v3)], [], me_w M (nt_u J (q 10) ((J (q 6) v3.toNatClampNeg).toNatClampNeg) (Int32.ofInt 1))) _ := k
    have k := ly_revb 1 (c' := (63, [(4, .int (J (q 6) v3.toNatClampNeg)), (0, .ref (p 24)), (1, .ref (q 0)), (2, .null), (3, .int v3)], [.ref (q 0)], me_w M (nt_u J (q 10) ((J (q 6) v3.toNatClampNeg).toNatClampNeg) (Int32.ofInt 1)))) rfl k
    have k := lz_get (a := (q 0)) (g := 609) (M := me_w M (nt_u J (q 10) ((J (q 6) v3.toNatClampNeg).toNatClampNeg) (Int32.ofInt 1))) (v := .ref (q 12)) rfl (nt_gfR rfl (hq.1 (0, 9, 12) (by decide))) k
    have k := ly_revb 2 (c' := (69, [(4, .int (J (q 6) v3.toNatClampNeg)), (0, .ref (p 24)), (1, .ref (q 0)), (2, .null), (3, .int v3)], [.int v3, .int (J (q 6) v3.toNatClampNeg), .ref (q 12)], me_w M (nt_u J (q 10) ((J (q 6) v3.toNatClampNeg).toNatClampNeg) (Int32.ofInt 1)))) rfl k
    have k := mx_iast (q := (J (q 6) v3.toNatClampNeg).toNatClampNeg) rfl rfl k
    have k : nt_rn X _ 4 (70, [(4, .int (J (q 6) v3.toNatClampNeg)), (0, .ref (p 24)), (1, .ref (q 0)), (2, .null), (3, .int v3)], [], me_w M (nt_u (nt_u J (q 10) ((J (q 6) v3.toNatClampNeg).toNatClampNeg) (Int32.ofInt 1)) (q 12) ((J (q 6) v3.toNatClampNeg).toNatClampNeg) v3)) _ := k
    have k := ly_revb 1 (c' := (71, [(4, .int (J (q 6) v3.toNatClampNeg)), (0, .ref (p 24)), (1, .ref (q 0)), (2, .null), (3, .int v3)], [.ref (q 0)], me_w M (nt_u (nt_u J (q 10) ((J (q 6) v3.toNatClampNeg).toNatClampNeg) (Int32.ofInt 1)) (q 12) ((J (q 6) v3.toNatClampNeg).toNatClampNeg) v3))) rfl k
    have k := lz_get (a := (q 0)) (g := 613) (M := me_w M (nt_u (nt_u J (q 10) ((J (q 6) v3.toNatClampNeg).toNatClampNeg) (Int32.ofInt 1)) (q 12) ((J (q 6) v3.toNatClampNeg).toNatClampNeg) v3)) (v := .ref (q 16)) rfl (nt_gfR rfl (hq.1 (0, 13, 16) (by decide))) k
    have k := ly_revb 2 (c' := (76, [(4, .int (J (q 6) v3.toNatClampNeg)), (0, .ref (p 24)), (1, .ref (q 0)), (2, .null), (3, .int v3)], [.int (Int32.ofInt 1), .int v3, .ref (q 16)], me_w M (nt_u (nt_u J (q 10) ((J (q 6) v3.toNatClampNeg).toNatClampNeg) (Int32.ofInt 1)) (q 12) ((J (q 6) v3.toNatClampNeg).toNatClampNeg) v3))) rfl k
    have k := mx_iast (q := v3.toNatClampNeg) rfl rfl k
    have k : nt_rn X _ 4 (77, [(4, .int (J (q 6) v3.toNatClampNeg)), (0, .ref (p 24)), (1, .ref (q 0)), (2, .null), (3, .int v3)], [], me_w M (nt_u (nt_u (nt_u J (q 10) ((J (q 6) v3.toNatClampNeg).toNatClampNeg) (Int32.ofInt 1)) (q 12) ((J (q 6) v3.toNatClampNeg).toNatClampNeg) v3) (q 16) v3.toNatClampNeg (Int32.ofInt 1))) _ := k
    have k := lz_rv rfl rfl k
    rw [k, x4N, if_neg h51]
theorem x4N_frJ {p : Nat → Nat} {q : Nat → Nat} {v3 : Int32} {J : Nat → Nat → Int32} {b : Nat} (n0 : b ≠ q 10) (n1 : b ≠ q 12) (n2 : b ≠ q 16) : x4N p q v3 J b = J b := by
  unfold x4N
  by_cases h : (x67 q (J (q 6) v3.toNatClampNeg) J) = 0
  · rw [if_pos h]
    all_goals first | (dsimp only; exact (show J b = J b from rfl)) | exact (show J b = J b from rfl)
  · rw [if_neg h]
    all_goals first | (dsimp only; exact (show (nt_u (nt_u (nt_u J (q 10) ((J (q 6) v3.toNatClampNeg).toNatClampNeg) (Int32.ofInt 1)) (q 12) ((J (q 6) v3.toNatClampNeg).toNatClampNeg) v3) (q 16) v3.toNatClampNeg (Int32.ofInt 1)) b = J b from (mu_o n2).trans ((mu_o n1).trans (mu_o n0)))) | exact (show (nt_u (nt_u (nt_u J (q 10) ((J (q 6) v3.toNatClampNeg).toNatClampNeg) (Int32.ofInt 1)) (q 12) ((J (q 6) v3.toNatClampNeg).toNatClampNeg) v3) (q 16) v3.toNatClampNeg (Int32.ofInt 1)) b = J b from (mu_o n2).trans ((mu_o n1).trans (mu_o n0)))
/-! $Calendar.pass -/
def x1_111 (p : Nat → Nat) (q : Nat → Nat) (sp : Nat) (ln : Nat) (L : Nat → Nat → Int64) : Nat → Int32 → (Nat → Nat → Int32) → (Nat → Nat → Int32) × (Nat → Nat → Int64)
  | 0, v3, J => (nt_u (nt_u J (q 0) 2 ((J (q 0) 2) + (Int32.ofInt 1))) (q 0) 3 (Int32.ofInt 0), L)
  | c + 1, v3, J => if (J (q 1) 1) ≤ v3 then (nt_u (nt_u J (q 0) 2 ((J (q 0) 2) + (Int32.ofInt 1))) (q 0) 3 (Int32.ofInt 0), L)
    else if (J (q 10) v3.toNatClampNeg) = (Int32.ofInt 1) then (x1_111 p q sp ln L c (v3 + (Int32.ofInt 1)) (x9 q v3 J))
      else (x1_111 p q sp ln L c (v3 + (Int32.ofInt 1)) J)
theorem xt1_111 {X : nt_X} {d : Nat} {M : nt_M} {o : Option Value × nt_M} {p : Nat → Nat} {q : Nat → Nat} {sp : Nat} {ln : Nat} {ru : Nat} {v4 : Int32} {L : Nat → Nat → Int64} (hp : xs_P M p) (hq : xs_Q M q) (hx : xs_X p q) (hs : xs_S M p ru sp ln) : ∀ (c : Nat) (v3 : Int32) (J : Nat → Nat → Int32), (J (q 1) 1).toInt - v3.toInt ≤ c → nt_rn X d 1 (111, [(0, .ref (p 24)), (1, .ref (q 0)), (2, .ref ru), (3, .int v3), (4, .int v4)], [], me_w (lw M L) J) o → o = (none, me_w (lw M ((x1_111 p q sp ln L c v3 J).2)) ((x1_111 p q sp ln L c v3 J).1)) := by
  intro c
  induction c with
  | zero =>
    intro v3 J hc k
    have k := ly_revb 2 (c' := (113, [(0, .ref (p 24)), (1, .ref (q 0)), (2, .ref ru), (3, .int v3), (4, .int v4)], [.ref (q 0), .int v3], me_w (lw M L) J)) rfl k
    have k := lz_get (a := (q 0)) (g := 600) (M := me_w (lw M L) J) (v := .ref (q 1)) rfl (nt_gfR rfl (hq.1 (0, 0, 1) (by decide))) k
    have k := lz_get (a := (q 1)) (g := 801) (M := me_w (lw M L) J) (v := .int (J (q 1) 1)) rfl (congrArg Value.int (rfl)) k
    have k := ly_revb 1 (c' := (if (J (q 1) 1) ≤ v3 then 143 else 122, [(0, .ref (p 24)), (1, .ref (q 0)), (2, .ref ru), (3, .int v3), (4, .int v4)], [], me_w (lw M L) J)) rfl k
    have h119 : (J (q 1) 1) ≤ v3 := lx_end hc
    rw [if_pos h119] at k
    have k := ly_revb 2 (c' := (145, [(0, .ref (p 24)), (1, .ref (q 0)), (2, .ref ru), (3, .int v3), (4, .int v4)], [.ref (q 0), .ref (q 0)], me_w (lw M L) J)) rfl k
    have k := lz_get (a := (q 0)) (g := 602) (M := me_w (lw M L) J) (v := .int (J (q 0) 2)) rfl (congrArg Value.int (rfl)) k
    have k := ly_revb 2 (c' := (150, [(0, .ref (p 24)), (1, .ref (q 0)), (2, .ref ru), (3, .int v3), (4, .int v4)], [.int ((J (q 0) 2) + (Int32.ofInt 1)), .ref (q 0)], me_w (lw M L) J)) rfl k
    have k := me_put rfl (by decide) k
    have k : nt_rn X _ 1 (153, [(0, .ref (p 24)), (1, .ref (q 0)), (2, .ref ru), (3, .int v3), (4, .int v4)], [], me_w (lw M L) (nt_u J (q 0) 2 ((J (q 0) 2) + (Int32.ofInt 1)))) _ := k
    have k := ly_revb 2 (c' := (155, [(0, .ref (p 24)), (1, .ref (q 0)), (2, .ref ru), (3, .int v3), (4, .int v4)], [.int (Int32.ofInt 0), .ref (q 0)], me_w (lw M L) (nt_u J (q 0) 2 ((J (q 0) 2) + (Int32.ofInt 1))))) rfl k
    have k := me_put rfl (by decide) k
    have k : nt_rn X _ 1 (158, [(0, .ref (p 24)), (1, .ref (q 0)), (2, .ref ru), (3, .int v3), (4, .int v4)], [], me_w (lw M L) (nt_u (nt_u J (q 0) 2 ((J (q 0) 2) + (Int32.ofInt 1))) (q 0) 3 (Int32.ofInt 0))) _ := k
    have k := lz_rv rfl rfl k
    rw [k, x1_111]
  | succ c ih =>
    intro v3 J hc k
    have k := ly_revb 2 (c' := (113, [(0, .ref (p 24)), (1, .ref (q 0)), (2, .ref ru), (3, .int v3), (4, .int v4)], [.ref (q 0), .int v3], me_w (lw M L) J)) rfl k
    have k := lz_get (a := (q 0)) (g := 600) (M := me_w (lw M L) J) (v := .ref (q 1)) rfl (nt_gfR rfl (hq.1 (0, 0, 1) (by decide))) k
    have k := lz_get (a := (q 1)) (g := 801) (M := me_w (lw M L) J) (v := .int (J (q 1) 1)) rfl (congrArg Value.int (rfl)) k
    have k := ly_revb 1 (c' := (if (J (q 1) 1) ≤ v3 then 143 else 122, [(0, .ref (p 24)), (1, .ref (q 0)), (2, .ref ru), (3, .int v3), (4, .int v4)], [], me_w (lw M L) J)) rfl k
    by_cases h119 : (J (q 1) 1) ≤ v3
    · rw [if_pos h119] at k
      have k := ly_revb 2 (c' := (145, [(0, .ref (p 24)), (1, .ref (q 0)), (2, .ref ru), (3, .int v3), (4, .int v4)], [.ref (q 0), .ref (q 0)], me_w (lw M L) J)) rfl k
      have k := lz_get (a := (q 0)) (g := 602) (M := me_w (lw M L) J) (v := .int (J (q 0) 2)) rfl (congrArg Value.int (rfl)) k
      have k := ly_revb 2 (c' := (150, [(0, .ref (p 24)), (1, .ref (q 0)), (2, .ref ru), (3, .int v3), (4, .int v4)], [.int ((J (q 0) 2) + (Int32.ofInt 1)), .ref (q 0)], me_w (lw M L) J)) rfl k
      have k := me_put rfl (by decide) k
      have k : nt_rn X _ 1 (153, [(0, .ref (p 24)), (1, .ref (q 0)), (2, .ref ru), (3, .int v3), (4, .int v4)], [], me_w (lw M L) (nt_u J (q 0) 2 ((J (q 0) 2) + (Int32.ofInt 1)))) _ := k
      have k := ly_revb 2 (c' := (155, [(0, .ref (p 24)), (1, .ref (q 0)), (2, .ref ru), (3, .int v3), (4, .int v4)], [.int (Int32.ofInt 0), .ref (q 0)], me_w (lw M L) (nt_u J (q 0) 2 ((J (q 0) 2) + (Int32.ofInt 1))))) rfl k
      have k := me_put rfl (by decide) k
      have k : nt_rn X _ 1 (158, [(0, .ref (p 24)), (1, .ref (q 0)), (2, .ref ru), (3, .int v3), (4, .int v4)], [], me_w (lw M L) (nt_u (nt_u J (q 0) 2 ((J (q 0) 2) + (Int32.ofInt 1))) (q 0) 3 (Int32.ofInt 0))) _ := k
      have k := lz_rv rfl rfl k
      rw [k, x1_111, if_pos h119]
    · rw [if_neg h119] at k
      have k := ly_revb 1 (c' := (123, [(0, .ref (p 24)), (1, .ref (q 0)), (2, .ref ru), (3, .int v3), (4, .int v4)], [.ref (q 0)], me_w (lw M L) J)) rfl k
      have k := lz_get (a := (q 0)) (g := 607) (M := me_w (lw M L) J) (v := .ref (q 10)) rfl (nt_gfR rfl (hq.1 (0, 7, 10) (by decide))) k
      have k := ly_revb 1 (c' := (127, [(0, .ref (p 24)), (1, .ref (q 0)), (2, .ref ru), (3, .int v3), (4, .int v4)], [.int v3, .ref (q 10)], me_w (lw M L) J)) rfl k
      have k := mx_iald (v := J (q 10) v3.toNatClampNeg) rfl (hq.2.2.1 10 (by omega)) (rfl) k
      have k := ly_revb 2 (c' := (if (J (q 10) v3.toNatClampNeg) = (Int32.ofInt 1) then 132 else 137, [(0, .ref (p 24)), (1, .ref (q 0)), (2, .ref ru), (3, .int v3), (4, .int v4)], [], me_w (lw M L) J)) rfl k
      by_cases h129 : (J (q 10) v3.toNatClampNeg) = (Int32.ofInt 1)
      · rw [if_pos h129] at k
        have k := ly_revb 2 (c' := (134, [(0, .ref (p 24)), (1, .ref (q 0)), (2, .ref ru), (3, .int v3), (4, .int v4)], [.int v3, .ref (q 0)], me_w (lw M L) J)) rfl k
        obtain ⟨d1, o1, ed, kc, k⟩ := lz_c (g := 9) (q := 0) (vs := [.ref (q 0), .int v3]) (rest := []) rfl rfl (by decide) (Or.inl ⟨_, rfl, rfl⟩) rfl k
        have e1 := xt9 (xs_lq hq) kc
        subst e1
        have k : nt_rn X _ 1 (137, [(0, .ref (p 24)), (1, .ref (q 0)), (2, .ref ru), (3, .int v3), (4, .int v4)], [], me_w (lw M L) (x9 q v3 J)) _ := k
        have k := ly_revb 2 (c' := (111, [(3, .int (v3 + (Int32.ofInt 1))), (0, .ref (p 24)), (1, .ref (q 0)), (2, .ref ru), (4, .int v4)], [], me_w (lw M L) (x9 q v3 J))) rfl k
        have k := nt_rn_w (a := [(3, .int (v3 + (Int32.ofInt 1))), (0, .ref (p 24)), (1, .ref (q 0)), (2, .ref ru), (4, .int v4)]) (b := [(0, .ref (p 24)), (1, .ref (q 0)), (2, .ref ru), (3, .int (v3 + (Int32.ofInt 1))), (4, .int v4)]) ⟨rfl, rfl, rfl, rfl, rfl, trivial⟩ rfl k
        have k := ih (v3 + (Int32.ofInt 1)) (x9 q v3 J) (by rw [show (x9 q v3 J) (q 1) 1 = J (q 1) 1 from congrFun (x9_frJ  (hq.2.1 1 10 (by omega) (by omega) (by decide)) (hq.2.1 1 12 (by omega) (by omega) (by decide)) (hq.2.1 1 13 (by omega) (by omega) (by decide)) (hq.2.1 1 15 (by omega) (by omega) (by decide)) (hq.2.1 1 16 (by omega) (by omega) (by decide))) 1]; exact lx_dec h119 hc) k
        rw [k, x1_111, if_neg h119, if_pos h129]
      · rw [if_neg h129] at k
        have k := ly_revb 2 (c' := (111, [(3, .int (v3 + (Int32.ofInt 1))), (0, .ref (p 24)), (1, .ref (q 0)), (2, .ref ru), (4, .int v4)], [], me_w (lw M L) J)) rfl k
        have k := nt_rn_w (a := [(3, .int (v3 + (Int32.ofInt 1))), (0, .ref (p 24)), (1, .ref (q 0)), (2, .ref ru), (4, .int v4)]) (b := [(0, .ref (p 24)), (1, .ref (q 0)), (2, .ref ru), (3, .int (v3 + (Int32.ofInt 1))), (4, .int v4)]) ⟨rfl, rfl, rfl, rfl, rfl, trivial⟩ rfl k
        have k := ih (v3 + (Int32.ofInt 1)) J (lx_dec h119 hc) k
        rw [k, x1_111, if_neg h119, if_neg h129]
def x1_48 (p : Nat → Nat) (q : Nat → Nat) (sp : Nat) (ln : Nat) : Nat → Int32 → (Nat → Nat → Int32) → (Nat → Nat → Int64) → (Nat → Nat → Int32) × (Nat → Nat → Int64)
  | 0, v3, J, L => (x1_111 p q sp ln L ((J (q 1) 1).toNatClampNeg) (Int32.ofInt 0) J)
  | c + 1, v3, J, L => if (J (q 1) 3) ≤ v3 then (x1_111 p q sp ln L ((J (q 1) 1).toNatClampNeg) (Int32.ofInt 0) J)
    else if (J (q 7) v3.toNatClampNeg) = (J (q 0) 2) then if (J (q 10) ((J (q 6) v3.toNatClampNeg).toNatClampNeg)) = 0 then (x1_48 p q sp ln c (v3 + (Int32.ofInt 1)) ((x4 p q sp ln v3 J L).1) ((x4 p q sp ln v3 J L).2))
        else (x1_48 p q sp ln c (v3 + (Int32.ofInt 1)) J L)
      else (x1_48 p q sp ln c (v3 + (Int32.ofInt 1)) J L)
theorem xt1_48 {X : nt_X} {d : Nat} {M : nt_M} {o : Option Value × nt_M} {p : Nat → Nat} {q : Nat → Nat} {sp : Nat} {ln : Nat} {ru : Nat} (hp : xs_P M p) (hq : xs_Q M q) (hx : xs_X p q) (hs : xs_S M p ru sp ln) : ∀ (c : Nat) (v3 : Int32) (v4 : Int32) (J : Nat → Nat → Int32) (L : Nat → Nat → Int64), (J (q 1) 3).toInt - v3.toInt ≤ c → nt_rn X d 1 (48, [(0, .ref (p 24)), (1, .ref (q 0)), (2, .ref ru), (3, .int v3), (4, .int v4)], [], me_w (lw M L) J) o → o = (none, me_w (lw M ((x1_48 p q sp ln c v3 J L).2)) ((x1_48 p q sp ln c v3 J L).1)) := by
  intro c
  induction c with
  | zero =>
    intro v3 v4 J L hc k
    have k := ly_revb 2 (c' := (50, [(0, .ref (p 24)), (1, .ref (q 0)), (2, .ref ru), (3, .int v3), (4, .int v4)], [.ref (q 0), .int v3], me_w (lw M L) J)) rfl k
    have k := lz_get (a := (q 0)) (g := 600) (M := me_w (lw M L) J) (v := .ref (q 1)) rfl (nt_gfR rfl (hq.1 (0, 0, 1) (by decide))) k
    have k := lz_get (a := (q 1)) (g := 803) (M := me_w (lw M L) J) (v := .int (J (q 1) 3)) rfl (congrArg Value.int (rfl)) k
    have k := ly_revb 1 (c' := (if (J (q 1) 3) ≤ v3 then 109 else 59, [(0, .ref (p 24)), (1, .ref (q 0)), (2, .ref ru), (3, .int v3), (4, .int v4)], [], me_w (lw M L) J)) rfl k
    have h56 : (J (q 1) 3) ≤ v3 := lx_end hc
    rw [if_pos h56] at k
    have k := ly_revb 2 (c' := (111, [(3, .int (Int32.ofInt 0)), (0, .ref (p 24)), (1, .ref (q 0)), (2, .ref ru), (4, .int v4)], [], me_w (lw M L) J)) rfl k
    have k := nt_rn_w (a := [(3, .int (Int32.ofInt 0)), (0, .ref (p 24)), (1, .ref (q 0)), (2, .ref ru), (4, .int v4)]) (b := [(0, .ref (p 24)), (1, .ref (q 0)), (2, .ref ru), (3, .int (Int32.ofInt 0)), (4, .int v4)]) ⟨rfl, rfl, rfl, rfl, rfl, trivial⟩ rfl k
    have k := xt1_111 hp hq hx hs  ((J (q 1) 1).toNatClampNeg) (Int32.ofInt 0) J (lx_beg (by decide)) k
    rw [k, x1_48]
  | succ c ih =>
    intro v3 v4 J L hc k
    have k := ly_revb 2 (c' := (50, [(0, .ref (p 24)), (1, .ref (q 0)), (2, .ref ru), (3, .int v3), (4, .int v4)], [.ref (q 0), .int v3], me_w (lw M L) J)) rfl k
    have k := lz_get (a := (q 0)) (g := 600) (M := me_w (lw M L) J) (v := .ref (q 1)) rfl (nt_gfR rfl (hq.1 (0, 0, 1) (by decide))) k
    have k := lz_get (a := (q 1)) (g := 803) (M := me_w (lw M L) J) (v := .int (J (q 1) 3)) rfl (congrArg Value.int (rfl)) k
    have k := ly_revb 1 (c' := (if (J (q 1) 3) ≤ v3 then 109 else 59, [(0, .ref (p 24)), (1, .ref (q 0)), (2, .ref ru), (3, .int v3), (4, .int v4)], [], me_w (lw M L) J)) rfl k
    by_cases h56 : (J (q 1) 3) ≤ v3
    · rw [if_pos h56] at k
      have k := ly_revb 2 (c' := (111, [(3, .int (Int32.ofInt 0)), (0, .ref (p 24)), (1, .ref (q 0)), (2, .ref ru), (4, .int v4)], [], me_w (lw M L) J)) rfl k
      have k := nt_rn_w (a := [(3, .int (Int32.ofInt 0)), (0, .ref (p 24)), (1, .ref (q 0)), (2, .ref ru), (4, .int v4)]) (b := [(0, .ref (p 24)), (1, .ref (q 0)), (2, .ref ru), (3, .int (Int32.ofInt 0)), (4, .int v4)]) ⟨rfl, rfl, rfl, rfl, rfl, trivial⟩ rfl k
      have k := xt1_111 hp hq hx hs  ((J (q 1) 1).toNatClampNeg) (Int32.ofInt 0) J (lx_beg (by decide)) k
      rw [k, x1_48, if_pos h56]
    · rw [if_neg h56] at k
      have k := ly_revb 1 (c' := (60, [(0, .ref (p 24)), (1, .ref (q 0)), (2, .ref ru), (3, .int v3), (4, .int v4)], [.ref (q 0)], me_w (lw M L) J)) rfl k
      have k := lz_get (a := (q 0)) (g := 600) (M := me_w (lw M L) J) (v := .ref (q 1)) rfl (nt_gfR rfl (hq.1 (0, 0, 1) (by decide))) k
      have k := lz_get (a := (q 1)) (g := 809) (M := me_w (lw M L) J) (v := .ref (q 6)) rfl (nt_gfR rfl (hq.1 (1, 9, 6) (by decide))) k
      have k := ly_revb 1 (c' := (67, [(0, .ref (p 24)), (1, .ref (q 0)), (2, .ref ru), (3, .int v3), (4, .int v4)], [.int v3, .ref (q 6)], me_w (lw M L) J)) rfl k
      have k := mx_iald (v := J (q 6) v3.toNatClampNeg) rfl (hq.2.2.1 6 (by omega)) (rfl) k
      have k := ly_revb 2 (c' := (71, [(4, .int (J (q 6) v3.toNatClampNeg)), (0, .ref (p 24)), (1, .ref (q 0)), (2, .ref ru), (3, .int v3)], [.ref (q 0)], me_w (lw M L) J)) rfl k
      have k := lz_get (a := (q 0)) (g := 600) (M := me_w (lw M L) J) (v := .ref (q 1)) rfl (nt_gfR rfl (hq.1 (0, 0, 1) (by decide))) k
      have k := lz_get (a := (q 1)) (g := 810) (M := me_w (lw M L) J) (v := .ref (q 7)) rfl (nt_gfR rfl (hq.1 (1, 10, 7) (by decide))) k
      have k := ly_revb 1 (c' := (78, [(4, .int (J (q 6) v3.toNatClampNeg)), (0, .ref (p 24)), (1, .ref (q 0)), (2, .ref ru), (3, .int v3)], [.int v3, .ref (q 7)], me_w (lw M L) J)) rfl k
      have k := mx_iald (v := J (q 7) v3.toNatClampNeg) rfl (hq.2.2.1 7 (by omega)) (rfl) k
      have k := ly_revb 1 (c' := (80, [(4, .int (J (q 6) v3.toNatClampNeg)), (0, .ref (p 24)), (1, .ref (q 0)), (2, .ref ru), (3, .int v3)], [.ref (q 0), .int (J (q 7) v3.toNatClampNeg)], me_w (lw M L) J)) rfl k
      have k := lz_get (a := (q 0)) (g := 602) (M := me_w (lw M L) J) (v := .int (J (q 0) 2)) rfl (congrArg Value.int (rfl)) k
      have k := ly_revb 1 (c' := (if (J (q 7) v3.toNatClampNeg) = (J (q 0) 2) then 86 else 103, [(4, .int (J (q 6) v3.toNatClampNeg)), (0, .ref (p 24)), (1, .ref (q 0)), (2, .ref ru), (3, .int v3)], [], me_w (lw M L) J)) rfl k
      by_cases h83 : (J (q 7) v3.toNatClampNeg) = (J (q 0) 2)
      · rw [if_pos h83] at k
        have k := ly_revb 1 (c' := (87, [(4, .int (J (q 6) v3.toNatClampNeg)), (0, .ref (p 24)), (1, .ref (q 0)), (2, .ref ru), (3, .int v3)], [.ref (q 0)], me_w (lw M L) J)) rfl k
        have k := lz_get (a := (q 0)) (g := 607) (M := me_w (lw M L) J) (v := .ref (q 10)) rfl (nt_gfR rfl (hq.1 (0, 7, 10) (by decide))) k
        have k := ly_revb 1 (c' := (92, [(4, .int (J (q 6) v3.toNatClampNeg)), (0, .ref (p 24)), (1, .ref (q 0)), (2, .ref ru), (3, .int v3)], [.int (J (q 6) v3.toNatClampNeg), .ref (q 10)], me_w (lw M L) J)) rfl k
        have k := mx_iald (v := J (q 10) ((J (q 6) v3.toNatClampNeg).toNatClampNeg)) rfl (hq.2.2.1 10 (by omega)) (rfl) k
        have k := ly_revb 1 (c' := (if (J (q 10) ((J (q 6) v3.toNatClampNeg).toNatClampNeg)) = 0 then 96 else 103, [(4, .int (J (q 6) v3.toNatClampNeg)), (0, .ref (p 24)), (1, .ref (q 0)), (2, .ref ru), (3, .int v3)], [], me_w (lw M L) J)) rfl k
        by_cases h93 : (J (q 10) ((J (q 6) v3.toNatClampNeg).toNatClampNeg)) = 0
        · rw [if_pos h93] at k
          have k := ly_revb 4 (c' := (100, [(4, .int (J (q 6) v3.toNatClampNeg)), (0, .ref (p 24)), (1, .ref (q 0)), (2, .ref ru), (3, .int v3)], [.int v3, .ref ru, .ref (q 0), .ref (p 24)], me_w (lw M L) J)) rfl k
          obtain ⟨d1, o1, ed, kc, k⟩ := lz_c (g := 4) (q := 1) (vs := [.ref (p 24), .ref (q 0), .ref ru, .int v3]) (rest := []) rfl rfl (by decide) (Or.inr (Or.inl ⟨_, rfl, rfl⟩)) rfl k
          have e1 := xt4 hp hq hx hs kc
          subst e1
          have k : nt_rn X _ 1 (103, [(4, .int (J (q 6) v3.toNatClampNeg)), (0, .ref (p 24)), (1, .ref (q 0)), (2, .ref ru), (3, .int v3)], [], me_w (lw M ((x4 p q sp ln v3 J L).2)) ((x4 p q sp ln v3 J L).1)) _ := k
          have k := ly_revb 2 (c' := (48, [(3, .int (v3 + (Int32.ofInt 1))), (4, .int (J (q 6) v3.toNatClampNeg)), (0, .ref (p 24)), (1, .ref (q 0)), (2, .ref ru)], [], me_w (lw M ((x4 p q sp ln v3 J L).2)) ((x4 p q sp ln v3 J L).1))) rfl k
          have k := nt_rn_w (a := [(3, .int (v3 + (Int32.ofInt 1))), (4, .int (J (q 6) v3.toNatClampNeg)), (0, .ref (p 24)), (1, .ref (q 0)), (2, .ref ru)]) (b := [(0, .ref (p 24)), (1, .ref (q 0)), (2, .ref ru), (3, .int (v3 + (Int32.ofInt 1))), (4, .int (J (q 6) v3.toNatClampNeg))]) ⟨rfl, rfl, rfl, rfl, rfl, trivial⟩ rfl k
          have k := ih (v3 + (Int32.ofInt 1)) (J (q 6) v3.toNatClampNeg) ((x4 p q sp ln v3 J L).1) ((x4 p q sp ln v3 J L).2) (by rw [show ((x4 p q sp ln v3 J L).1) (q 1) 3 = J (q 1) 3 from congrFun (x4_frJ  (hx 1 25 (by omega) (by omega)) (hq.2.1 1 0 (by omega) (by omega) (by decide)) (hq.2.1 1 10 (by omega) (by omega) (by decide)) (hq.2.1 1 12 (by omega) (by omega) (by decide)) (hq.2.1 1 14 (by omega) (by omega) (by decide)) (hq.2.1 1 16 (by omega) (by omega) (by decide))) 3]; exact lx_dec h56 hc) k
          rw [k, x1_48, if_neg h56, if_pos h83, if_pos h93]
        · rw [if_neg h93] at k
          have k := ly_revb 2 (c' := (48, [(3, .int (v3 + (Int32.ofInt 1))), (4, .int (J (q 6) v3.toNatClampNeg)), (0, .ref (p 24)), (1, .ref (q 0)), (2, .ref ru)], [], me_w (lw M L) J)) rfl k
          have k := nt_rn_w (a := [(3, .int (v3 + (Int32.ofInt 1))), (4, .int (J (q 6) v3.toNatClampNeg)), (0, .ref (p 24)), (1, .ref (q 0)), (2, .ref ru)]) (b := [(0, .ref (p 24)), (1, .ref (q 0)), (2, .ref ru), (3, .int (v3 + (Int32.ofInt 1))), (4, .int (J (q 6) v3.toNatClampNeg))]) ⟨rfl, rfl, rfl, rfl, rfl, trivial⟩ rfl k
          have k := ih (v3 + (Int32.ofInt 1)) (J (q 6) v3.toNatClampNeg) J L (lx_dec h56 hc) k
          rw [k, x1_48, if_neg h56, if_pos h83, if_neg h93]
      · rw [if_neg h83] at k
        have k := ly_revb 2 (c' := (48, [(3, .int (v3 + (Int32.ofInt 1))), (4, .int (J (q 6) v3.toNatClampNeg)), (0, .ref (p 24)), (1, .ref (q 0)), (2, .ref ru)], [], me_w (lw M L) J)) rfl k
        have k := nt_rn_w (a := [(3, .int (v3 + (Int32.ofInt 1))), (4, .int (J (q 6) v3.toNatClampNeg)), (0, .ref (p 24)), (1, .ref (q 0)), (2, .ref ru)]) (b := [(0, .ref (p 24)), (1, .ref (q 0)), (2, .ref ru), (3, .int (v3 + (Int32.ofInt 1))), (4, .int (J (q 6) v3.toNatClampNeg))]) ⟨rfl, rfl, rfl, rfl, rfl, trivial⟩ rfl k
        have k := ih (v3 + (Int32.ofInt 1)) (J (q 6) v3.toNatClampNeg) J L (lx_dec h56 hc) k
        rw [k, x1_48, if_neg h56, if_neg h83]
def x1_2 (p : Nat → Nat) (q : Nat → Nat) (sp : Nat) (ln : Nat) (L : Nat → Nat → Int64) : Nat → Int32 → (Nat → Nat → Int32) → (Nat → Nat → Int32) × (Nat → Nat → Int64)
  | 0, v3, J => (x1_48 p q sp ln ((J (q 1) 3).toNatClampNeg) (Int32.ofInt 0) J L)
  | c + 1, v3, J => if (J (q 1) 1) ≤ v3 then (x1_48 p q sp ln ((J (q 1) 3).toNatClampNeg) (Int32.ofInt 0) J L)
    else if (J (q 10) v3.toNatClampNeg) = (Int32.ofInt 1) then if (x2 q v3 (J (q 0) 2) J) = 0 then (x1_2 p q sp ln L c (v3 + (Int32.ofInt 1)) J)
        else (x1_2 p q sp ln L c (v3 + (Int32.ofInt 1)) (x3 q v3 J))
      else (x1_2 p q sp ln L c (v3 + (Int32.ofInt 1)) J)
theorem xt1_2 {X : nt_X} {d : Nat} {M : nt_M} {o : Option Value × nt_M} {p : Nat → Nat} {q : Nat → Nat} {sp : Nat} {ln : Nat} {ru : Nat} {L : Nat → Nat → Int64} (hp : xs_P M p) (hq : xs_Q M q) (hx : xs_X p q) (hs : xs_S M p ru sp ln) : ∀ (c : Nat) (v3 : Int32) (J : Nat → Nat → Int32), (J (q 1) 1).toInt - v3.toInt ≤ c → nt_rn X d 1 (2, [(0, .ref (p 24)), (1, .ref (q 0)), (2, .ref ru), (3, .int v3)], [], me_w (lw M L) J) o → o = (none, me_w (lw M ((x1_2 p q sp ln L c v3 J).2)) ((x1_2 p q sp ln L c v3 J).1)) := by
  intro c
  induction c with
  | zero =>
    intro v3 J hc k
    have k := ly_revb 2 (c' := (4, [(0, .ref (p 24)), (1, .ref (q 0)), (2, .ref ru), (3, .int v3)], [.ref (q 0), .int v3], me_w (lw M L) J)) rfl k
    have k := lz_get (a := (q 0)) (g := 600) (M := me_w (lw M L) J) (v := .ref (q 1)) rfl (nt_gfR rfl (hq.1 (0, 0, 1) (by decide))) k
    have k := lz_get (a := (q 1)) (g := 801) (M := me_w (lw M L) J) (v := .int (J (q 1) 1)) rfl (congrArg Value.int (rfl)) k
    have k := ly_revb 1 (c' := (if (J (q 1) 1) ≤ v3 then 46 else 13, [(0, .ref (p 24)), (1, .ref (q 0)), (2, .ref ru), (3, .int v3)], [], me_w (lw M L) J)) rfl k
    have h10 : (J (q 1) 1) ≤ v3 := lx_end hc
    rw [if_pos h10] at k
    have k := ly_revb 2 (c' := (48, [(3, .int (Int32.ofInt 0)), (0, .ref (p 24)), (1, .ref (q 0)), (2, .ref ru)], [], me_w (lw M L) J)) rfl k
    have k := nt_rn_w (a := [(3, .int (Int32.ofInt 0)), (0, .ref (p 24)), (1, .ref (q 0)), (2, .ref ru)]) (b := [(0, .ref (p 24)), (1, .ref (q 0)), (2, .ref ru), (3, .int (Int32.ofInt 0)), (4, .int (Int32.ofInt 0))]) ⟨rfl, rfl, rfl, rfl, trivial⟩ rfl k
    have k := xt1_48 hp hq hx hs  ((J (q 1) 3).toNatClampNeg) (Int32.ofInt 0) (Int32.ofInt 0) J L (lx_beg (by decide)) k
    rw [k, x1_2]
  | succ c ih =>
    intro v3 J hc k
    have k := ly_revb 2 (c' := (4, [(0, .ref (p 24)), (1, .ref (q 0)), (2, .ref ru), (3, .int v3)], [.ref (q 0), .int v3], me_w (lw M L) J)) rfl k
    have k := lz_get (a := (q 0)) (g := 600) (M := me_w (lw M L) J) (v := .ref (q 1)) rfl (nt_gfR rfl (hq.1 (0, 0, 1) (by decide))) k
    have k := lz_get (a := (q 1)) (g := 801) (M := me_w (lw M L) J) (v := .int (J (q 1) 1)) rfl (congrArg Value.int (rfl)) k
    have k := ly_revb 1 (c' := (if (J (q 1) 1) ≤ v3 then 46 else 13, [(0, .ref (p 24)), (1, .ref (q 0)), (2, .ref ru), (3, .int v3)], [], me_w (lw M L) J)) rfl k
    by_cases h10 : (J (q 1) 1) ≤ v3
    · rw [if_pos h10] at k
      have k := ly_revb 2 (c' := (48, [(3, .int (Int32.ofInt 0)), (0, .ref (p 24)), (1, .ref (q 0)), (2, .ref ru)], [], me_w (lw M L) J)) rfl k
      have k := nt_rn_w (a := [(3, .int (Int32.ofInt 0)), (0, .ref (p 24)), (1, .ref (q 0)), (2, .ref ru)]) (b := [(0, .ref (p 24)), (1, .ref (q 0)), (2, .ref ru), (3, .int (Int32.ofInt 0)), (4, .int (Int32.ofInt 0))]) ⟨rfl, rfl, rfl, rfl, trivial⟩ rfl k
      have k := xt1_48 hp hq hx hs  ((J (q 1) 3).toNatClampNeg) (Int32.ofInt 0) (Int32.ofInt 0) J L (lx_beg (by decide)) k
      rw [k, x1_2, if_pos h10]
    · rw [if_neg h10] at k
      have k := ly_revb 1 (c' := (14, [(0, .ref (p 24)), (1, .ref (q 0)), (2, .ref ru), (3, .int v3)], [.ref (q 0)], me_w (lw M L) J)) rfl k
      have k := lz_get (a := (q 0)) (g := 607) (M := me_w (lw M L) J) (v := .ref (q 10)) rfl (nt_gfR rfl (hq.1 (0, 7, 10) (by decide))) k
      have k := ly_revb 1 (c' := (18, [(0, .ref (p 24)), (1, .ref (q 0)), (2, .ref ru), (3, .int v3)], [.int v3, .ref (q 10)], me_w (lw M L) J)) rfl k
      have k := mx_iald (v := J (q 10) v3.toNatClampNeg) rfl (hq.2.2.1 10 (by omega)) (rfl) k
      have k := ly_revb 2 (c' := (if (J (q 10) v3.toNatClampNeg) = (Int32.ofInt 1) then 23 else 40, [(0, .ref (p 24)), (1, .ref (q 0)), (2, .ref ru), (3, .int v3)], [], me_w (lw M L) J)) rfl k
      by_cases h20 : (J (q 10) v3.toNatClampNeg) = (Int32.ofInt 1)
      · rw [if_pos h20] at k
        have k := ly_revb 3 (c' := (26, [(0, .ref (p 24)), (1, .ref (q 0)), (2, .ref ru), (3, .int v3)], [.ref (q 0), .int v3, .ref (q 0)], me_w (lw M L) J)) rfl k
        have k := lz_get (a := (q 0)) (g := 602) (M := me_w (lw M L) J) (v := .int (J (q 0) 2)) rfl (congrArg Value.int (rfl)) k
        obtain ⟨d1, o1, ed, kc, k⟩ := lz_c (g := 2) (q := 0) (vs := [.ref (q 0), .int v3, .int (J (q 0) 2)]) (rest := []) rfl rfl (by decide) (Or.inl ⟨_, rfl, rfl⟩) rfl k
        have e1 := xt2 (xs_lq hq) kc
        subst e1
        have k : nt_rn X _ 1 (32, [(0, .ref (p 24)), (1, .ref (q 0)), (2, .ref ru), (3, .int v3)], [.int (x2 q v3 (J (q 0) 2) J)], me_w (lw M L) J) _ := k
        have k := ly_revb 1 (c' := (if (x2 q v3 (J (q 0) 2) J) = 0 then 40 else 35, [(0, .ref (p 24)), (1, .ref (q 0)), (2, .ref ru), (3, .int v3)], [], me_w (lw M L) J)) rfl k
        by_cases h32 : (x2 q v3 (J (q 0) 2) J) = 0
        · rw [if_pos h32] at k
          have k := ly_revb 2 (c' := (2, [(3, .int (v3 + (Int32.ofInt 1))), (0, .ref (p 24)), (1, .ref (q 0)), (2, .ref ru)], [], me_w (lw M L) J)) rfl k
          have k := nt_rn_w (a := [(3, .int (v3 + (Int32.ofInt 1))), (0, .ref (p 24)), (1, .ref (q 0)), (2, .ref ru)]) (b := [(0, .ref (p 24)), (1, .ref (q 0)), (2, .ref ru), (3, .int (v3 + (Int32.ofInt 1)))]) ⟨rfl, rfl, rfl, rfl, trivial⟩ rfl k
          have k := ih (v3 + (Int32.ofInt 1)) J (lx_dec h10 hc) k
          rw [k, x1_2, if_neg h10, if_pos h20, if_pos h32]
        · rw [if_neg h32] at k
          have k := ly_revb 2 (c' := (37, [(0, .ref (p 24)), (1, .ref (q 0)), (2, .ref ru), (3, .int v3)], [.int v3, .ref (q 0)], me_w (lw M L) J)) rfl k
          obtain ⟨d1, o1, ed, kc, k⟩ := lz_c (g := 3) (q := 0) (vs := [.ref (q 0), .int v3]) (rest := []) rfl rfl (by decide) (Or.inl ⟨_, rfl, rfl⟩) rfl k
          have e1 := xt3 (xs_lq hq) kc
          subst e1
          have k : nt_rn X _ 1 (40, [(0, .ref (p 24)), (1, .ref (q 0)), (2, .ref ru), (3, .int v3)], [], me_w (lw M L) (x3 q v3 J)) _ := k
          have k := ly_revb 2 (c' := (2, [(3, .int (v3 + (Int32.ofInt 1))), (0, .ref (p 24)), (1, .ref (q 0)), (2, .ref ru)], [], me_w (lw M L) (x3 q v3 J))) rfl k
          have k := nt_rn_w (a := [(3, .int (v3 + (Int32.ofInt 1))), (0, .ref (p 24)), (1, .ref (q 0)), (2, .ref ru)]) (b := [(0, .ref (p 24)), (1, .ref (q 0)), (2, .ref ru), (3, .int (v3 + (Int32.ofInt 1)))]) ⟨rfl, rfl, rfl, rfl, trivial⟩ rfl k
          have k := ih (v3 + (Int32.ofInt 1)) (x3 q v3 J) (by rw [show (x3 q v3 J) (q 1) 1 = J (q 1) 1 from congrFun (x3_frJ  (hq.2.1 1 0 (by omega) (by omega) (by decide)) (hq.2.1 1 10 (by omega) (by omega) (by decide)) (hq.2.1 1 11 (by omega) (by omega) (by decide)) (hq.2.1 1 12 (by omega) (by omega) (by decide)) (hq.2.1 1 16 (by omega) (by omega) (by decide))) 1]; exact lx_dec h10 hc) k
          rw [k, x1_2, if_neg h10, if_pos h20, if_neg h32]
      · rw [if_neg h20] at k
        have k := ly_revb 2 (c' := (2, [(3, .int (v3 + (Int32.ofInt 1))), (0, .ref (p 24)), (1, .ref (q 0)), (2, .ref ru)], [], me_w (lw M L) J)) rfl k
        have k := nt_rn_w (a := [(3, .int (v3 + (Int32.ofInt 1))), (0, .ref (p 24)), (1, .ref (q 0)), (2, .ref ru)]) (b := [(0, .ref (p 24)), (1, .ref (q 0)), (2, .ref ru), (3, .int (v3 + (Int32.ofInt 1)))]) ⟨rfl, rfl, rfl, rfl, trivial⟩ rfl k
        have k := ih (v3 + (Int32.ofInt 1)) J (lx_dec h10 hc) k
        rw [k, x1_2, if_neg h10, if_neg h20]
def x1 (p : Nat → Nat) (q : Nat → Nat) (sp : Nat) (ln : Nat) (J : Nat → Nat → Int32) (L : Nat → Nat → Int64) : (Nat → Nat → Int32) × (Nat → Nat → Int64) := (x1_2 p q sp ln L ((J (q 1) 1).toNatClampNeg) (Int32.ofInt 0) J)
theorem xt1 {X : nt_X} {d : Nat} {M : nt_M} {o : Option Value × nt_M} {p : Nat → Nat} {q : Nat → Nat} {sp : Nat} {ln : Nat} {ru : Nat} {J : Nat → Nat → Int32} {L : Nat → Nat → Int64} (hp : xs_P M p) (hq : xs_Q M q) (hx : xs_X p q) (hs : xs_S M p ru sp ln) (k : nt_ev X d 1 [.ref (p 24), .ref (q 0), .ref ru] (me_w (lw M L) J) o) : o = (none, me_w (lw M ((x1 p q sp ln J L).2)) ((x1 p q sp ln J L).1)) := by
  have k : nt_rn X d 1 (0, [(0, .ref (p 24)), (1, .ref (q 0)), (2, .ref ru)], [], me_w (lw M L) J) o := k
  have k := ly_revb 2 (c' := (2, [(3, .int (Int32.ofInt 0)), (0, .ref (p 24)), (1, .ref (q 0)), (2, .ref ru)], [], me_w (lw M L) J)) rfl k
  have k := nt_rn_w (a := [(3, .int (Int32.ofInt 0)), (0, .ref (p 24)), (1, .ref (q 0)), (2, .ref ru)]) (b := [(0, .ref (p 24)), (1, .ref (q 0)), (2, .ref ru), (3, .int (Int32.ofInt 0))]) ⟨rfl, rfl, rfl, rfl, trivial⟩ rfl k
  have k := xt1_2 hp hq hx hs  ((J (q 1) 1).toNatClampNeg) (Int32.ofInt 0) J (lx_beg (by decide)) k
  rw [k, x1]
theorem x1_111_frJ {p : Nat → Nat} {q : Nat → Nat} {sp : Nat} {ln : Nat} {L : Nat → Nat → Int64} {b : Nat} : ∀ (c : Nat) (v3 : Int32) (J : Nat → Nat → Int32), b ≠ p 25 → b ≠ q 0 → b ≠ q 10 → b ≠ q 11 → b ≠ q 12 → b ≠ q 13 → b ≠ q 14 → b ≠ q 15 → b ≠ q 16 → (x1_111 p q sp ln L c v3 J).1 b = J b := by
  intro c
  induction c with
  | zero =>
    intro v3 J n0 n1 n2 n3 n4 n5 n6 n7 n8
    rw [x1_111]
    all_goals first | (dsimp only; exact (show (nt_u (nt_u J (q 0) 2 ((J (q 0) 2) + (Int32.ofInt 1))) (q 0) 3 (Int32.ofInt 0)) b = J b from (mu_o n1).trans (mu_o n1))) | exact (show (nt_u (nt_u J (q 0) 2 ((J (q 0) 2) + (Int32.ofInt 1))) (q 0) 3 (Int32.ofInt 0)) b = J b from (mu_o n1).trans (mu_o n1))
  | succ c ih =>
    intro v3 J n0 n1 n2 n3 n4 n5 n6 n7 n8
    rw [x1_111]
    by_cases h : (J (q 1) 1) ≤ v3
    · rw [if_pos h]
      all_goals first | (dsimp only; exact (show (nt_u (nt_u J (q 0) 2 ((J (q 0) 2) + (Int32.ofInt 1))) (q 0) 3 (Int32.ofInt 0)) b = J b from (mu_o n1).trans (mu_o n1))) | exact (show (nt_u (nt_u J (q 0) 2 ((J (q 0) 2) + (Int32.ofInt 1))) (q 0) 3 (Int32.ofInt 0)) b = J b from (mu_o n1).trans (mu_o n1))
    · rw [if_neg h]
      by_cases h : (J (q 10) v3.toNatClampNeg) = (Int32.ofInt 1)
      · rw [if_pos h]
        exact (ih _ _ n0 n1 n2 n3 n4 n5 n6 n7 n8).trans (x9_frJ  n2 n4 n5 n7 n8)
      · rw [if_neg h]
        exact (ih _ _ n0 n1 n2 n3 n4 n5 n6 n7 n8).trans (rfl)
theorem x1_48_frJ {p : Nat → Nat} {q : Nat → Nat} {sp : Nat} {ln : Nat} {b : Nat} : ∀ (c : Nat) (v3 : Int32) (J : Nat → Nat → Int32) (L : Nat → Nat → Int64), b ≠ p 25 → b ≠ q 0 → b ≠ q 10 → b ≠ q 11 → b ≠ q 12 → b ≠ q 13 → b ≠ q 14 → b ≠ q 15 → b ≠ q 16 → (x1_48 p q sp ln c v3 J L).1 b = J b := by
  intro c
  induction c with
  | zero =>
    intro v3 J L n0 n1 n2 n3 n4 n5 n6 n7 n8
    rw [x1_48]
    exact (x1_111_frJ _ _ _ n0 n1 n2 n3 n4 n5 n6 n7 n8).trans (rfl)
  | succ c ih =>
    intro v3 J L n0 n1 n2 n3 n4 n5 n6 n7 n8
    rw [x1_48]
    by_cases h : (J (q 1) 3) ≤ v3
    · rw [if_pos h]
      exact (x1_111_frJ _ _ _ n0 n1 n2 n3 n4 n5 n6 n7 n8).trans (rfl)
    · rw [if_neg h]
      by_cases h : (J (q 7) v3.toNatClampNeg) = (J (q 0) 2)
      · rw [if_pos h]
        by_cases h : (J (q 10) ((J (q 6) v3.toNatClampNeg).toNatClampNeg)) = 0
        · rw [if_pos h]
          exact (ih _ _ _ n0 n1 n2 n3 n4 n5 n6 n7 n8).trans (x4_frJ  n0 n1 n2 n4 n6 n8)
        · rw [if_neg h]
          exact (ih _ _ _ n0 n1 n2 n3 n4 n5 n6 n7 n8).trans (rfl)
      · rw [if_neg h]
        exact (ih _ _ _ n0 n1 n2 n3 n4 n5 n6 n7 n8).trans (rfl)
theorem x1_2_frJ {p : Nat → Nat} {q : Nat → Nat} {sp : Nat} {ln : Nat} {L : Nat → Nat → Int64} {b : Nat} : ∀ (c : Nat) (v3 : Int32) (J : Nat → Nat → Int32), b ≠ p 25 → b ≠ q 0 → b ≠ q 10 → b ≠ q 11 → b ≠ q 12 → b ≠ q 13 → b ≠ q 14 → b ≠ q 15 → b ≠ q 16 → (x1_2 p q sp ln L c v3 J).1 b = J b := by
  intro c
  induction c with
  | zero =>
    intro v3 J n0 n1 n2 n3 n4 n5 n6 n7 n8
    rw [x1_2]
    exact (x1_48_frJ _ _ _ _ n0 n1 n2 n3 n4 n5 n6 n7 n8).trans (rfl)
  | succ c ih =>
    intro v3 J n0 n1 n2 n3 n4 n5 n6 n7 n8
    rw [x1_2]
    by_cases h : (J (q 1) 1) ≤ v3
    · rw [if_pos h]
      exact (x1_48_frJ _ _ _ _ n0 n1 n2 n3 n4 n5 n6 n7 n8).trans (rfl)
    · rw [if_neg h]
      by_cases h : (J (q 10) v3.toNatClampNeg) = (Int32.ofInt 1)
      · rw [if_pos h]
        by_cases h : (x2 q v3 (J (q 0) 2) J) = 0
        · rw [if_pos h]
          exact (ih _ _ n0 n1 n2 n3 n4 n5 n6 n7 n8).trans (rfl)
        · rw [if_neg h]
          exact (ih _ _ n0 n1 n2 n3 n4 n5 n6 n7 n8).trans (x3_frJ  n1 n2 n3 n4 n8)
      · rw [if_neg h]
        exact (ih _ _ n0 n1 n2 n3 n4 n5 n6 n7 n8).trans (rfl)
theorem x1_frJ {p : Nat → Nat} {q : Nat → Nat} {sp : Nat} {ln : Nat} {J : Nat → Nat → Int32} {L : Nat → Nat → Int64} {b : Nat} (n0 : b ≠ p 25) (n1 : b ≠ q 0) (n2 : b ≠ q 10) (n3 : b ≠ q 11) (n4 : b ≠ q 12) (n5 : b ≠ q 13) (n6 : b ≠ q 14) (n7 : b ≠ q 15) (n8 : b ≠ q 16) : (x1 p q sp ln J L).1 b = J b := by
  unfold x1
  exact (x1_2_frJ _ _ _ n0 n1 n2 n3 n4 n5 n6 n7 n8).trans (rfl)
/-! $Calendar.pass -/
def x1N_111 (p : Nat → Nat) (q : Nat → Nat) : Nat → Int32 → (Nat → Nat → Int32) → (Nat → Nat → Int32)
  | 0, v3, J => (nt_u (nt_u J (q 0) 2 ((J (q 0) 2) + (Int32.ofInt 1))) (q 0) 3 (Int32.ofInt 0))
  | c + 1, v3, J => if (J (q 1) 1) ≤ v3 then (nt_u (nt_u J (q 0) 2 ((J (q 0) 2) + (Int32.ofInt 1))) (q 0) 3 (Int32.ofInt 0))
    else if (J (q 10) v3.toNatClampNeg) = (Int32.ofInt 1) then (x1N_111 p q c (v3 + (Int32.ofInt 1)) (x9 q v3 J))
      else (x1N_111 p q c (v3 + (Int32.ofInt 1)) J)
theorem xt1N_111 {X : nt_X} {d : Nat} {M : nt_M} {o : Option Value × nt_M} {p : Nat → Nat} {q : Nat → Nat} {v4 : Int32} (hp : xs_P M p) (hq : xs_Q M q) (hx : xs_X p q) : ∀ (c : Nat) (v3 : Int32) (J : Nat → Nat → Int32), (J (q 1) 1).toInt - v3.toInt ≤ c → nt_rn X d 1 (111, [(0, .ref (p 24)), (1, .ref (q 0)), (2, .null), (3, .int v3), (4, .int v4)], [], me_w M J) o → o = (none, me_w M (x1N_111 p q c v3 J)) := by
  intro c
  induction c with
  | zero =>
    intro v3 J hc k
    have k := ly_revb 2 (c' := (113, [(0, .ref (p 24)), (1, .ref (q 0)), (2, .null), (3, .int v3), (4, .int v4)], [.ref (q 0), .int v3], me_w M J)) rfl k
    have k := lz_get (a := (q 0)) (g := 600) (M := me_w M J) (v := .ref (q 1)) rfl (nt_gfR rfl (hq.1 (0, 0, 1) (by decide))) k
    have k := lz_get (a := (q 1)) (g := 801) (M := me_w M J) (v := .int (J (q 1) 1)) rfl (congrArg Value.int (rfl)) k
    have k := ly_revb 1 (c' := (if (J (q 1) 1) ≤ v3 then 143 else 122, [(0, .ref (p 24)), (1, .ref (q 0)), (2, .null), (3, .int v3), (4, .int v4)], [], me_w M J)) rfl k
    have h119 : (J (q 1) 1) ≤ v3 := lx_end hc
    rw [if_pos h119] at k
    have k := ly_revb 2 (c' := (145, [(0, .ref (p 24)), (1, .ref (q 0)), (2, .null), (3, .int v3), (4, .int v4)], [.ref (q 0), .ref (q 0)], me_w M J)) rfl k
    have k := lz_get (a := (q 0)) (g := 602) (M := me_w M J) (v := .int (J (q 0) 2)) rfl (congrArg Value.int (rfl)) k
    have k := ly_revb 2 (c' := (150, [(0, .ref (p 24)), (1, .ref (q 0)), (2, .null), (3, .int v3), (4, .int v4)], [.int ((J (q 0) 2) + (Int32.ofInt 1)), .ref (q 0)], me_w M J)) rfl k
    have k := me_put rfl (by decide) k
    have k : nt_rn X _ 1 (153, [(0, .ref (p 24)), (1, .ref (q 0)), (2, .null), (3, .int v3), (4, .int v4)], [], me_w M (nt_u J (q 0) 2 ((J (q 0) 2) + (Int32.ofInt 1)))) _ := k
    have k := ly_revb 2 (c' := (155, [(0, .ref (p 24)), (1, .ref (q 0)), (2, .null), (3, .int v3), (4, .int v4)], [.int (Int32.ofInt 0), .ref (q 0)], me_w M (nt_u J (q 0) 2 ((J (q 0) 2) + (Int32.ofInt 1))))) rfl k
    have k := me_put rfl (by decide) k
    have k : nt_rn X _ 1 (158, [(0, .ref (p 24)), (1, .ref (q 0)), (2, .null), (3, .int v3), (4, .int v4)], [], me_w M (nt_u (nt_u J (q 0) 2 ((J (q 0) 2) + (Int32.ofInt 1))) (q 0) 3 (Int32.ofInt 0))) _ := k
    have k := lz_rv rfl rfl k
    rw [k, x1N_111]
  | succ c ih =>
    intro v3 J hc k
    have k := ly_revb 2 (c' := (113, [(0, .ref (p 24)), (1, .ref (q 0)), (2, .null), (3, .int v3), (4, .int v4)], [.ref (q 0), .int v3], me_w M J)) rfl k
    have k := lz_get (a := (q 0)) (g := 600) (M := me_w M J) (v := .ref (q 1)) rfl (nt_gfR rfl (hq.1 (0, 0, 1) (by decide))) k
    have k := lz_get (a := (q 1)) (g := 801) (M := me_w M J) (v := .int (J (q 1) 1)) rfl (congrArg Value.int (rfl)) k
    have k := ly_revb 1 (c' := (if (J (q 1) 1) ≤ v3 then 143 else 122, [(0, .ref (p 24)), (1, .ref (q 0)), (2, .null), (3, .int v3), (4, .int v4)], [], me_w M J)) rfl k
    by_cases h119 : (J (q 1) 1) ≤ v3
    · rw [if_pos h119] at k
      have k := ly_revb 2 (c' := (145, [(0, .ref (p 24)), (1, .ref (q 0)), (2, .null), (3, .int v3), (4, .int v4)], [.ref (q 0), .ref (q 0)], me_w M J)) rfl k
      have k := lz_get (a := (q 0)) (g := 602) (M := me_w M J) (v := .int (J (q 0) 2)) rfl (congrArg Value.int (rfl)) k
      have k := ly_revb 2 (c' := (150, [(0, .ref (p 24)), (1, .ref (q 0)), (2, .null), (3, .int v3), (4, .int v4)], [.int ((J (q 0) 2) + (Int32.ofInt 1)), .ref (q 0)], me_w M J)) rfl k
      have k := me_put rfl (by decide) k
      have k : nt_rn X _ 1 (153, [(0, .ref (p 24)), (1, .ref (q 0)), (2, .null), (3, .int v3), (4, .int v4)], [], me_w M (nt_u J (q 0) 2 ((J (q 0) 2) + (Int32.ofInt 1)))) _ := k
      have k := ly_revb 2 (c' := (155, [(0, .ref (p 24)), (1, .ref (q 0)), (2, .null), (3, .int v3), (4, .int v4)], [.int (Int32.ofInt 0), .ref (q 0)], me_w M (nt_u J (q 0) 2 ((J (q 0) 2) + (Int32.ofInt 1))))) rfl k
      have k := me_put rfl (by decide) k
      have k : nt_rn X _ 1 (158, [(0, .ref (p 24)), (1, .ref (q 0)), (2, .null), (3, .int v3), (4, .int v4)], [], me_w M (nt_u (nt_u J (q 0) 2 ((J (q 0) 2) + (Int32.ofInt 1))) (q 0) 3 (Int32.ofInt 0))) _ := k
      have k := lz_rv rfl rfl k
      rw [k, x1N_111, if_pos h119]
    · rw [if_neg h119] at k
      have k := ly_revb 1 (c' := (123, [(0, .ref (p 24)), (1, .ref (q 0)), (2, .null), (3, .int v3), (4, .int v4)], [.ref (q 0)], me_w M J)) rfl k
      have k := lz_get (a := (q 0)) (g := 607) (M := me_w M J) (v := .ref (q 10)) rfl (nt_gfR rfl (hq.1 (0, 7, 10) (by decide))) k
      have k := ly_revb 1 (c' := (127, [(0, .ref (p 24)), (1, .ref (q 0)), (2, .null), (3, .int v3), (4, .int v4)], [.int v3, .ref (q 10)], me_w M J)) rfl k
      have k := mx_iald (v := J (q 10) v3.toNatClampNeg) rfl (hq.2.2.1 10 (by omega)) (rfl) k
      have k := ly_revb 2 (c' := (if (J (q 10) v3.toNatClampNeg) = (Int32.ofInt 1) then 132 else 137, [(0, .ref (p 24)), (1, .ref (q 0)), (2, .null), (3, .int v3), (4, .int v4)], [], me_w M J)) rfl k
      by_cases h129 : (J (q 10) v3.toNatClampNeg) = (Int32.ofInt 1)
      · rw [if_pos h129] at k
        have k := ly_revb 2 (c' := (134, [(0, .ref (p 24)), (1, .ref (q 0)), (2, .null), (3, .int v3), (4, .int v4)], [.int v3, .ref (q 0)], me_w M J)) rfl k
        obtain ⟨d1, o1, ed, kc, k⟩ := lz_c (g := 9) (q := 0) (vs := [.ref (q 0), .int v3]) (rest := []) rfl rfl (by decide) (Or.inl ⟨_, rfl, rfl⟩) rfl k
        have e1 := xt9 hq kc
        subst e1
        have k : nt_rn X _ 1 (137, [(0, .ref (p 24)), (1, .ref (q 0)), (2, .null), (3, .int v3), (4, .int v4)], [], me_w M (x9 q v3 J)) _ := k
        have k := ly_revb 2 (c' := (111, [(3, .int (v3 + (Int32.ofInt 1))), (0, .ref (p 24)), (1, .ref (q 0)), (2, .null), (4, .int v4)], [], me_w M (x9 q v3 J))) rfl k
        have k := nt_rn_w (a := [(3, .int (v3 + (Int32.ofInt 1))), (0, .ref (p 24)), (1, .ref (q 0)), (2, .null), (4, .int v4)]) (b := [(0, .ref (p 24)), (1, .ref (q 0)), (2, .null), (3, .int (v3 + (Int32.ofInt 1))), (4, .int v4)]) ⟨rfl, rfl, rfl, rfl, rfl, trivial⟩ rfl k
        have k := ih (v3 + (Int32.ofInt 1)) (x9 q v3 J) (by rw [show (x9 q v3 J) (q 1) 1 = J (q 1) 1 from congrFun (x9_frJ  (hq.2.1 1 10 (by omega) (by omega) (by decide)) (hq.2.1 1 12 (by omega) (by omega) (by decide)) (hq.2.1 1 13 (by omega) (by omega) (by decide)) (hq.2.1 1 15 (by omega) (by omega) (by decide)) (hq.2.1 1 16 (by omega) (by omega) (by decide))) 1]; exact lx_dec h119 hc) k
        rw [k, x1N_111, if_neg h119, if_pos h129]
      · rw [if_neg h129] at k
        have k := ly_revb 2 (c' := (111, [(3, .int (v3 + (Int32.ofInt 1))), (0, .ref (p 24)), (1, .ref (q 0)), (2, .null), (4, .int v4)], [], me_w M J)) rfl k
        have k := nt_rn_w (a := [(3, .int (v3 + (Int32.ofInt 1))), (0, .ref (p 24)), (1, .ref (q 0)), (2, .null), (4, .int v4)]) (b := [(0, .ref (p 24)), (1, .ref (q 0)), (2, .null), (3, .int (v3 + (Int32.ofInt 1))), (4, .int v4)]) ⟨rfl, rfl, rfl, rfl, rfl, trivial⟩ rfl k
        have k := ih (v3 + (Int32.ofInt 1)) J (lx_dec h119 hc) k
        rw [k, x1N_111, if_neg h119, if_neg h129]
def x1N_48 (p : Nat → Nat) (q : Nat → Nat) : Nat → Int32 → (Nat → Nat → Int32) → (Nat → Nat → Int32)
  | 0, v3, J => (x1N_111 p q ((J (q 1) 1).toNatClampNeg) (Int32.ofInt 0) J)
  | c + 1, v3, J => if (J (q 1) 3) ≤ v3 then (x1N_111 p q ((J (q 1) 1).toNatClampNeg) (Int32.ofInt 0) J)
    else if (J (q 7) v3.toNatClampNeg) = (J (q 0) 2) then if (J (q 10) ((J (q 6) v3.toNatClampNeg).toNatClampNeg)) = 0 then (x1N_48 p q c (v3 + (Int32.ofInt 1)) (x4N p q v3 J))
        else (x1N_48 p q c (v3 + (Int32.ofInt 1)) J)
      else (x1N_48 p q c (v3 + (Int32.ofInt 1)) J)
theorem xt1N_48 {X : nt_X} {d : Nat} {M : nt_M} {o : Option Value × nt_M} {p : Nat → Nat} {q : Nat → Nat} (hp : xs_P M p) (hq : xs_Q M q) (hx : xs_X p q) : ∀ (c : Nat) (v3 : Int32) (v4 : Int32) (J : Nat → Nat → Int32), (J (q 1) 3).toInt - v3.toInt ≤ c → nt_rn X d 1 (48, [(0, .ref (p 24)), (1, .ref (q 0)), (2, .null), (3, .int v3), (4, .int v4)], [], me_w M J) o → o = (none, me_w M (x1N_48 p q c v3 J)) := by
  intro c
  induction c with
  | zero =>
    intro v3 v4 J hc k
    have k := ly_revb 2 (c' := (50, [(0, .ref (p 24)), (1, .ref (q 0)), (2, .null), (3, .int v3), (4, .int v4)], [.ref (q 0), .int v3], me_w M J)) rfl k
    have k := lz_get (a := (q 0)) (g := 600) (M := me_w M J) (v := .ref (q 1)) rfl (nt_gfR rfl (hq.1 (0, 0, 1) (by decide))) k
    have k := lz_get (a := (q 1)) (g := 803) (M := me_w M J) (v := .int (J (q 1) 3)) rfl (congrArg Value.int (rfl)) k
    have k := ly_revb 1 (c' := (if (J (q 1) 3) ≤ v3 then 109 else 59, [(0, .ref (p 24)), (1, .ref (q 0)), (2, .null), (3, .int v3), (4, .int v4)], [], me_w M J)) rfl k
    have h56 : (J (q 1) 3) ≤ v3 := lx_end hc
    rw [if_pos h56] at k
    have k := ly_revb 2 (c' := (111, [(3, .int (Int32.ofInt 0)), (0, .ref (p 24)), (1, .ref (q 0)), (2, .null), (4, .int v4)], [], me_w M J)) rfl k
    have k := nt_rn_w (a := [(3, .int (Int32.ofInt 0)), (0, .ref (p 24)), (1, .ref (q 0)), (2, .null), (4, .int v4)]) (b := [(0, .ref (p 24)), (1, .ref (q 0)), (2, .null), (3, .int (Int32.ofInt 0)), (4, .int v4)]) ⟨rfl, rfl, rfl, rfl, rfl, trivial⟩ rfl k
    have k := xt1N_111 hp hq hx  ((J (q 1) 1).toNatClampNeg) (Int32.ofInt 0) J (lx_beg (by decide)) k
    rw [k, x1N_48]
  | succ c ih =>
    intro v3 v4 J hc k
    have k := ly_revb 2 (c' := (50, [(0, .ref (p 24)), (1, .ref (q 0)), (2, .null), (3, .int v3), (4, .int v4)], [.ref (q 0), .int v3], me_w M J)) rfl k
    have k := lz_get (a := (q 0)) (g := 600) (M := me_w M J) (v := .ref (q 1)) rfl (nt_gfR rfl (hq.1 (0, 0, 1) (by decide))) k
    have k := lz_get (a := (q 1)) (g := 803) (M := me_w M J) (v := .int (J (q 1) 3)) rfl (congrArg Value.int (rfl)) k
    have k := ly_revb 1 (c' := (if (J (q 1) 3) ≤ v3 then 109 else 59, [(0, .ref (p 24)), (1, .ref (q 0)), (2, .null), (3, .int v3), (4, .int v4)], [], me_w M J)) rfl k
    by_cases h56 : (J (q 1) 3) ≤ v3
    · rw [if_pos h56] at k
      have k := ly_revb 2 (c' := (111, [(3, .int (Int32.ofInt 0)), (0, .ref (p 24)), (1, .ref (q 0)), (2, .null), (4, .int v4)], [], me_w M J)) rfl k
      have k := nt_rn_w (a := [(3, .int (Int32.ofInt 0)), (0, .ref (p 24)), (1, .ref (q 0)), (2, .null), (4, .int v4)]) (b := [(0, .ref (p 24)), (1, .ref (q 0)), (2, .null), (3, .int (Int32.ofInt 0)), (4, .int v4)]) ⟨rfl, rfl, rfl, rfl, rfl, trivial⟩ rfl k
      have k := xt1N_111 hp hq hx  ((J (q 1) 1).toNatClampNeg) (Int32.ofInt 0) J (lx_beg (by decide)) k
      rw [k, x1N_48, if_pos h56]
    · rw [if_neg h56] at k
      have k := ly_revb 1 (c' := (60, [(0, .ref (p 24)), (1, .ref (q 0)), (2, .null), (3, .int v3), (4, .int v4)], [.ref (q 0)], me_w M J)) rfl k
      have k := lz_get (a := (q 0)) (g := 600) (M := me_w M J) (v := .ref (q 1)) rfl (nt_gfR rfl (hq.1 (0, 0, 1) (by decide))) k
      have k := lz_get (a := (q 1)) (g := 809) (M := me_w M J) (v := .ref (q 6)) rfl (nt_gfR rfl (hq.1 (1, 9, 6) (by decide))) k
      have k := ly_revb 1 (c' := (67, [(0, .ref (p 24)), (1, .ref (q 0)), (2, .null), (3, .int v3), (4, .int v4)], [.int v3, .ref (q 6)], me_w M J)) rfl k
      have k := mx_iald (v := J (q 6) v3.toNatClampNeg) rfl (hq.2.2.1 6 (by omega)) (rfl) k
      have k := ly_revb 2 (c' := (71, [(4, .int (J (q 6) v3.toNatClampNeg)), (0, .ref (p 24)), (1, .ref (q 0)), (2, .null), (3, .int v3)], [.ref (q 0)], me_w M J)) rfl k
      have k := lz_get (a := (q 0)) (g := 600) (M := me_w M J) (v := .ref (q 1)) rfl (nt_gfR rfl (hq.1 (0, 0, 1) (by decide))) k
      have k := lz_get (a := (q 1)) (g := 810) (M := me_w M J) (v := .ref (q 7)) rfl (nt_gfR rfl (hq.1 (1, 10, 7) (by decide))) k
      have k := ly_revb 1 (c' := (78, [(4, .int (J (q 6) v3.toNatClampNeg)), (0, .ref (p 24)), (1, .ref (q 0)), (2, .null), (3, .int v3)], [.int v3, .ref (q 7)], me_w M J)) rfl k
      have k := mx_iald (v := J (q 7) v3.toNatClampNeg) rfl (hq.2.2.1 7 (by omega)) (rfl) k
      have k := ly_revb 1 (c' := (80, [(4, .int (J (q 6) v3.toNatClampNeg)), (0, .ref (p 24)), (1, .ref (q 0)), (2, .null), (3, .int v3)], [.ref (q 0), .int (J (q 7) v3.toNatClampNeg)], me_w M J)) rfl k
      have k := lz_get (a := (q 0)) (g := 602) (M := me_w M J) (v := .int (J (q 0) 2)) rfl (congrArg Value.int (rfl)) k
      have k := ly_revb 1 (c' := (if (J (q 7) v3.toNatClampNeg) = (J (q 0) 2) then 86 else 103, [(4, .int (J (q 6) v3.toNatClampNeg)), (0, .ref (p 24)), (1, .ref (q 0)), (2, .null), (3, .int v3)], [], me_w M J)) rfl k
      by_cases h83 : (J (q 7) v3.toNatClampNeg) = (J (q 0) 2)
      · rw [if_pos h83] at k
        have k := ly_revb 1 (c' := (87, [(4, .int (J (q 6) v3.toNatClampNeg)), (0, .ref (p 24)), (1, .ref (q 0)), (2, .null), (3, .int v3)], [.ref (q 0)], me_w M J)) rfl k
        have k := lz_get (a := (q 0)) (g := 607) (M := me_w M J) (v := .ref (q 10)) rfl (nt_gfR rfl (hq.1 (0, 7, 10) (by decide))) k
        have k := ly_revb 1 (c' := (92, [(4, .int (J (q 6) v3.toNatClampNeg)), (0, .ref (p 24)), (1, .ref (q 0)), (2, .null), (3, .int v3)], [.int (J (q 6) v3.toNatClampNeg), .ref (q 10)], me_w M J)) rfl k
        have k := mx_iald (v := J (q 10) ((J (q 6) v3.toNatClampNeg).toNatClampNeg)) rfl (hq.2.2.1 10 (by omega)) (rfl) k
        have k := ly_revb 1 (c' := (if (J (q 10) ((J (q 6) v3.toNatClampNeg).toNatClampNeg)) = 0 then 96 else 103, [(4, .int (J (q 6) v3.toNatClampNeg)), (0, .ref (p 24)), (1, .ref (q 0)), (2, .null), (3, .int v3)], [], me_w M J)) rfl k
        by_cases h93 : (J (q 10) ((J (q 6) v3.toNatClampNeg).toNatClampNeg)) = 0
        · rw [if_pos h93] at k
          have k := ly_revb 4 (c' := (100, [(4, .int (J (q 6) v3.toNatClampNeg)), (0, .ref (p 24)), (1, .ref (q 0)), (2, .null), (3, .int v3)], [.int v3, .null, .ref (q 0), .ref (p 24)], me_w M J)) rfl k
          obtain ⟨d1, o1, ed, kc, k⟩ := lz_c (g := 4) (q := 1) (vs := [.ref (p 24), .ref (q 0), .null, .int v3]) (rest := []) rfl rfl (by decide) (Or.inr (Or.inl ⟨_, rfl, rfl⟩)) rfl k
          have e1 := xt4N hp hq hx kc
          subst e1
          have k : nt_rn X _ 1 (103, [(4, .int (J (q 6) v3.toNatClampNeg)), (0, .ref (p 24)), (1, .ref (q 0)), (2, .null), (3, .int v3)], [], me_w M (x4N p q v3 J)) _ := k
          have k := ly_revb 2 (c' := (48, [(3, .int (v3 + (Int32.ofInt 1))), (4, .int (J (q 6) v3.toNatClampNeg)), (0, .ref (p 24)), (1, .ref (q 0)), (2, .null)], [], me_w M (x4N p q v3 J))) rfl k
          have k := nt_rn_w (a := [(3, .int (v3 + (Int32.ofInt 1))), (4, .int (J (q 6) v3.toNatClampNeg)), (0, .ref (p 24)), (1, .ref (q 0)), (2, .null)]) (b := [(0, .ref (p 24)), (1, .ref (q 0)), (2, .null), (3, .int (v3 + (Int32.ofInt 1))), (4, .int (J (q 6) v3.toNatClampNeg))]) ⟨rfl, rfl, rfl, rfl, rfl, trivial⟩ rfl k
          have k := ih (v3 + (Int32.ofInt 1)) (J (q 6) v3.toNatClampNeg) (x4N p q v3 J) (by rw [show (x4N p q v3 J) (q 1) 3 = J (q 1) 3 from congrFun (x4N_frJ  (hq.2.1 1 10 (by omega) (by omega) (by decide)) (hq.2.1 1 12 (by omega) (by omega) (by decide)) (hq.2.1 1 16 (by omega) (by omega) (by decide))) 3]; exact lx_dec h56 hc) k
          rw [k, x1N_48, if_neg h56, if_pos h83, if_pos h93]
        · rw [if_neg h93] at k
          have k := ly_revb 2 (c' := (48, [(3, .int (v3 + (Int32.ofInt 1))), (4, .int (J (q 6) v3.toNatClampNeg)), (0, .ref (p 24)), (1, .ref (q 0)), (2, .null)], [], me_w M J)) rfl k
          have k := nt_rn_w (a := [(3, .int (v3 + (Int32.ofInt 1))), (4, .int (J (q 6) v3.toNatClampNeg)), (0, .ref (p 24)), (1, .ref (q 0)), (2, .null)]) (b := [(0, .ref (p 24)), (1, .ref (q 0)), (2, .null), (3, .int (v3 + (Int32.ofInt 1))), (4, .int (J (q 6) v3.toNatClampNeg))]) ⟨rfl, rfl, rfl, rfl, rfl, trivial⟩ rfl k
          have k := ih (v3 + (Int32.ofInt 1)) (J (q 6) v3.toNatClampNeg) J (lx_dec h56 hc) k
          rw [k, x1N_48, if_neg h56, if_pos h83, if_neg h93]
      · rw [if_neg h83] at k
        have k := ly_revb 2 (c' := (48, [(3, .int (v3 + (Int32.ofInt 1))), (4, .int (J (q 6) v3.toNatClampNeg)), (0, .ref (p 24)), (1, .ref (q 0)), (2, .null)], [], me_w M J)) rfl k
        have k := nt_rn_w (a := [(3, .int (v3 + (Int32.ofInt 1))), (4, .int (J (q 6) v3.toNatClampNeg)), (0, .ref (p 24)), (1, .ref (q 0)), (2, .null)]) (b := [(0, .ref (p 24)), (1, .ref (q 0)), (2, .null), (3, .int (v3 + (Int32.ofInt 1))), (4, .int (J (q 6) v3.toNatClampNeg))]) ⟨rfl, rfl, rfl, rfl, rfl, trivial⟩ rfl k
        have k := ih (v3 + (Int32.ofInt 1)) (J (q 6) v3.toNatClampNeg) J (lx_dec h56 hc) k
        rw [k, x1N_48, if_neg h56, if_neg h83]
def x1N_2 (p : Nat → Nat) (q : Nat → Nat) : Nat → Int32 → (Nat → Nat → Int32) → (Nat → Nat → Int32)
  | 0, v3, J => (x1N_48 p q ((J (q 1) 3).toNatClampNeg) (Int32.ofInt 0) J)
  | c + 1, v3, J => if (J (q 1) 1) ≤ v3 then (x1N_48 p q ((J (q 1) 3).toNatClampNeg) (Int32.ofInt 0) J)
    else if (J (q 10) v3.toNatClampNeg) = (Int32.ofInt 1) then if (x2 q v3 (J (q 0) 2) J) = 0 then (x1N_2 p q c (v3 + (Int32.ofInt 1)) J)
        else (x1N_2 p q c (v3 + (Int32.ofInt 1)) (x3 q v3 J))
      else (x1N_2 p q c (v3 + (Int32.ofInt 1)) J)
theorem xt1N_2 {X : nt_X} {d : Nat} {M : nt_M} {o : Option Value × nt_M} {p : Nat → Nat} {q : Nat → Nat} (hp : xs_P M p) (hq : xs_Q M q) (hx : xs_X p q) : ∀ (c : Nat) (v3 : Int32) (J : Nat → Nat → Int32), (J (q 1) 1).toInt - v3.toInt ≤ c → nt_rn X d 1 (2, [(0, .ref (p 24)), (1, .ref (q 0)), (2, .null), (3, .int v3)], [], me_w M J) o → o = (none, me_w M (x1N_2 p q c v3 J)) := by
  intro c
  induction c with
  | zero =>
    intro v3 J hc k
    have k := ly_revb 2 (c' := (4, [(0, .ref (p 24)), (1, .ref (q 0)), (2, .null), (3, .int v3)], [.ref (q 0), .int v3], me_w M J)) rfl k
    have k := lz_get (a := (q 0)) (g := 600) (M := me_w M J) (v := .ref (q 1)) rfl (nt_gfR rfl (hq.1 (0, 0, 1) (by decide))) k
    have k := lz_get (a := (q 1)) (g := 801) (M := me_w M J) (v := .int (J (q 1) 1)) rfl (congrArg Value.int (rfl)) k
    have k := ly_revb 1 (c' := (if (J (q 1) 1) ≤ v3 then 46 else 13, [(0, .ref (p 24)), (1, .ref (q 0)), (2, .null), (3, .int v3)], [], me_w M J)) rfl k
    have h10 : (J (q 1) 1) ≤ v3 := lx_end hc
    rw [if_pos h10] at k
    have k := ly_revb 2 (c' := (48, [(3, .int (Int32.ofInt 0)), (0, .ref (p 24)), (1, .ref (q 0)), (2, .null)], [], me_w M J)) rfl k
    have k := nt_rn_w (a := [(3, .int (Int32.ofInt 0)), (0, .ref (p 24)), (1, .ref (q 0)), (2, .null)]) (b := [(0, .ref (p 24)), (1, .ref (q 0)), (2, .null), (3, .int (Int32.ofInt 0)), (4, .int (Int32.ofInt 0))]) ⟨rfl, rfl, rfl, rfl, trivial⟩ rfl k
    have k := xt1N_48 hp hq hx  ((J (q 1) 3).toNatClampNeg) (Int32.ofInt 0) (Int32.ofInt 0) J (lx_beg (by decide)) k
    rw [k, x1N_2]
  | succ c ih =>
    intro v3 J hc k
    have k := ly_revb 2 (c' := (4, [(0, .ref (p 24)), (1, .ref (q 0)), (2, .null), (3, .int v3)], [.ref (q 0), .int v3], me_w M J)) rfl k
    have k := lz_get (a := (q 0)) (g := 600) (M := me_w M J) (v := .ref (q 1)) rfl (nt_gfR rfl (hq.1 (0, 0, 1) (by decide))) k
    have k := lz_get (a := (q 1)) (g := 801) (M := me_w M J) (v := .int (J (q 1) 1)) rfl (congrArg Value.int (rfl)) k
    have k := ly_revb 1 (c' := (if (J (q 1) 1) ≤ v3 then 46 else 13, [(0, .ref (p 24)), (1, .ref (q 0)), (2, .null), (3, .int v3)], [], me_w M J)) rfl k
    by_cases h10 : (J (q 1) 1) ≤ v3
    · rw [if_pos h10] at k
      have k := ly_revb 2 (c' := (48, [(3, .int (Int32.ofInt 0)), (0, .ref (p 24)), (1, .ref (q 0)), (2, .null)], [], me_w M J)) rfl k
      have k := nt_rn_w (a := [(3, .int (Int32.ofInt 0)), (0, .ref (p 24)), (1, .ref (q 0)), (2, .null)]) (b := [(0, .ref (p 24)), (1, .ref (q 0)), (2, .null), (3, .int (Int32.ofInt 0)), (4, .int (Int32.ofInt 0))]) ⟨rfl, rfl, rfl, rfl, trivial⟩ rfl k
      have k := xt1N_48 hp hq hx  ((J (q 1) 3).toNatClampNeg) (Int32.ofInt 0) (Int32.ofInt 0) J (lx_beg (by decide)) k
      rw [k, x1N_2, if_pos h10]
    · rw [if_neg h10] at k
      have k := ly_revb 1 (c' := (14, [(0, .ref (p 24)), (1, .ref (q 0)), (2, .null), (3, .int v3)], [.ref (q 0)], me_w M J)) rfl k
      have k := lz_get (a := (q 0)) (g := 607) (M := me_w M J) (v := .ref (q 10)) rfl (nt_gfR rfl (hq.1 (0, 7, 10) (by decide))) k
      have k := ly_revb 1 (c' := (18, [(0, .ref (p 24)), (1, .ref (q 0)), (2, .null), (3, .int v3)], [.int v3, .ref (q 10)], me_w M J)) rfl k
      have k := mx_iald (v := J (q 10) v3.toNatClampNeg) rfl (hq.2.2.1 10 (by omega)) (rfl) k
      have k := ly_revb 2 (c' := (if (J (q 10) v3.toNatClampNeg) = (Int32.ofInt 1) then 23 else 40, [(0, .ref (p 24)), (1, .ref (q 0)), (2, .null), (3, .int v3)], [], me_w M J)) rfl k
      by_cases h20 : (J (q 10) v3.toNatClampNeg) = (Int32.ofInt 1)
      · rw [if_pos h20] at k
        have k := ly_revb 3 (c' := (26, [(0, .ref (p 24)), (1, .ref (q 0)), (2, .null), (3, .int v3)], [.ref (q 0), .int v3, .ref (q 0)], me_w M J)) rfl k
        have k := lz_get (a := (q 0)) (g := 602) (M := me_w M J) (v := .int (J (q 0) 2)) rfl (congrArg Value.int (rfl)) k
        obtain ⟨d1, o1, ed, kc, k⟩ := lz_c (g := 2) (q := 0) (vs := [.ref (q 0), .int v3, .int (J (q 0) 2)]) (rest := []) rfl rfl (by decide) (Or.inl ⟨_, rfl, rfl⟩) rfl k
        have e1 := xt2 hq kc
        subst e1
        have k : nt_rn X _ 1 (32, [(0, .ref (p 24)), (1, .ref (q 0)), (2, .null), (3, .int v3)], [.int (x2 q v3 (J (q 0) 2) J)], me_w M J) _ := k
        have k := ly_revb 1 (c' := (if (x2 q v3 (J (q 0) 2) J) = 0 then 40 else 35, [(0, .ref (p 24)), (1, .ref (q 0)), (2, .null), (3, .int v3)], [], me_w M J)) rfl k
        by_cases h32 : (x2 q v3 (J (q 0) 2) J) = 0
        · rw [if_pos h32] at k
          have k := ly_revb 2 (c' := (2, [(3, .int (v3 + (Int32.ofInt 1))), (0, .ref (p 24)), (1, .ref (q 0)), (2, .null)], [], me_w M J)) rfl k
          have k := nt_rn_w (a := [(3, .int (v3 + (Int32.ofInt 1))), (0, .ref (p 24)), (1, .ref (q 0)), (2, .null)]) (b := [(0, .ref (p 24)), (1, .ref (q 0)), (2, .null), (3, .int (v3 + (Int32.ofInt 1)))]) ⟨rfl, rfl, rfl, rfl, trivial⟩ rfl k
          have k := ih (v3 + (Int32.ofInt 1)) J (lx_dec h10 hc) k
          rw [k, x1N_2, if_neg h10, if_pos h20, if_pos h32]
        · rw [if_neg h32] at k
          have k := ly_revb 2 (c' := (37, [(0, .ref (p 24)), (1, .ref (q 0)), (2, .null), (3, .int v3)], [.int v3, .ref (q 0)], me_w M J)) rfl k
          obtain ⟨d1, o1, ed, kc, k⟩ := lz_c (g := 3) (q := 0) (vs := [.ref (q 0), .int v3]) (rest := []) rfl rfl (by decide) (Or.inl ⟨_, rfl, rfl⟩) rfl k
          have e1 := xt3 hq kc
          subst e1
          have k : nt_rn X _ 1 (40, [(0, .ref (p 24)), (1, .ref (q 0)), (2, .null), (3, .int v3)], [], me_w M (x3 q v3 J)) _ := k
          have k := ly_revb 2 (c' := (2, [(3, .int (v3 + (Int32.ofInt 1))), (0, .ref (p 24)), (1, .ref (q 0)), (2, .null)], [], me_w M (x3 q v3 J))) rfl k
          have k := nt_rn_w (a := [(3, .int (v3 + (Int32.ofInt 1))), (0, .ref (p 24)), (1, .ref (q 0)), (2, .null)]) (b := [(0, .ref (p 24)), (1, .ref (q 0)), (2, .null), (3, .int (v3 + (Int32.ofInt 1)))]) ⟨rfl, rfl, rfl, rfl, trivial⟩ rfl k
          have k := ih (v3 + (Int32.ofInt 1)) (x3 q v3 J) (by rw [show (x3 q v3 J) (q 1) 1 = J (q 1) 1 from congrFun (x3_frJ  (hq.2.1 1 0 (by omega) (by omega) (by decide)) (hq.2.1 1 10 (by omega) (by omega) (by decide)) (hq.2.1 1 11 (by omega) (by omega) (by decide)) (hq.2.1 1 12 (by omega) (by omega) (by decide)) (hq.2.1 1 16 (by omega) (by omega) (by decide))) 1]; exact lx_dec h10 hc) k
          rw [k, x1N_2, if_neg h10, if_pos h20, if_neg h32]
      · rw [if_neg h20] at k
        have k := ly_revb 2 (c' := (2, [(3, .int (v3 + (Int32.ofInt 1))), (0, .ref (p 24)), (1, .ref (q 0)), (2, .null)], [], me_w M J)) rfl k
        have k := nt_rn_w (a := [(3, .int (v3 + (Int32.ofInt 1))), (0, .ref (p 24)), (1, .ref (q 0)), (2, .null)]) (b := [(0, .ref (p 24)), (1, .ref (q 0)), (2, .null), (3, .int (v3 + (Int32.ofInt 1)))]) ⟨rfl, rfl, rfl, rfl, trivial⟩ rfl k
        have k := ih (v3 + (Int32.ofInt 1)) J (lx_dec h10 hc) k
        rw [k, x1N_2, if_neg h10, if_neg h20]
def x1N (p : Nat → Nat) (q : Nat → Nat) (J : Nat → Nat → Int32) : (Nat → Nat → Int32) := (x1N_2 p q ((J (q 1) 1).toNatClampNeg) (Int32.ofInt 0) J)
theorem xt1N {X : nt_X} {d : Nat} {M : nt_M} {o : Option Value × nt_M} {p : Nat → Nat} {q : Nat → Nat} {J : Nat → Nat → Int32} (hp : xs_P M p) (hq : xs_Q M q) (hx : xs_X p q) (k : nt_ev X d 1 [.ref (p 24), .ref (q 0), .null] (me_w M J) o) : o = (none, me_w M (x1N p q J)) := by
  have k : nt_rn X d 1 (0, [(0, .ref (p 24)), (1, .ref (q 0)), (2, .null)], [], me_w M J) o := k
  have k := ly_revb 2 (c' := (2, [(3, .int (Int32.ofInt 0)), (0, .ref (p 24)), (1, .ref (q 0)), (2, .null)], [], me_w M J)) rfl k
  have k := nt_rn_w (a := [(3, .int (Int32.ofInt 0)), (0, .ref (p 24)), (1, .ref (q 0)), (2, .null)]) (b := [(0, .ref (p 24)), (1, .ref (q 0)), (2, .null), (3, .int (Int32.ofInt 0))]) ⟨rfl, rfl, rfl, rfl, trivial⟩ rfl k
  have k := xt1N_2 hp hq hx  ((J (q 1) 1).toNatClampNeg) (Int32.ofInt 0) J (lx_beg (by decide)) k
  rw [k, x1N]
theorem x1N_111_frJ {p : Nat → Nat} {q : Nat → Nat} {b : Nat} : ∀ (c : Nat) (v3 : Int32) (J : Nat → Nat → Int32), b ≠ q 0 → b ≠ q 10 → b ≠ q 11 → b ≠ q 12 → b ≠ q 13 → b ≠ q 15 → b ≠ q 16 → x1N_111 p q c v3 J b = J b := by
  intro c
  induction c with
  | zero =>
    intro v3 J n0 n1 n2 n3 n4 n5 n6
    rw [x1N_111]
    all_goals first | (dsimp only; exact (show (nt_u (nt_u J (q 0) 2 ((J (q 0) 2) + (Int32.ofInt 1))) (q 0) 3 (Int32.ofInt 0)) b = J b from (mu_o n0).trans (mu_o n0))) | exact (show (nt_u (nt_u J (q 0) 2 ((J (q 0) 2) + (Int32.ofInt 1))) (q 0) 3 (Int32.ofInt 0)) b = J b from (mu_o n0).trans (mu_o n0))
  | succ c ih =>
    intro v3 J n0 n1 n2 n3 n4 n5 n6
    rw [x1N_111]
    by_cases h : (J (q 1) 1) ≤ v3
    · rw [if_pos h]
      all_goals first | (dsimp only; exact (show (nt_u (nt_u J (q 0) 2 ((J (q 0) 2) + (Int32.ofInt 1))) (q 0) 3 (Int32.ofInt 0)) b = J b from (mu_o n0).trans (mu_o n0))) | exact (show (nt_u (nt_u J (q 0) 2 ((J (q 0) 2) + (Int32.ofInt 1))) (q 0) 3 (Int32.ofInt 0)) b = J b from (mu_o n0).trans (mu_o n0))
    · rw [if_neg h]
      by_cases h : (J (q 10) v3.toNatClampNeg) = (Int32.ofInt 1)
      · rw [if_pos h]
        exact (ih _ _ n0 n1 n2 n3 n4 n5 n6).trans (x9_frJ  n1 n3 n4 n5 n6)
      · rw [if_neg h]
        exact (ih _ _ n0 n1 n2 n3 n4 n5 n6).trans (rfl)
theorem x1N_48_frJ {p : Nat → Nat} {q : Nat → Nat} {b : Nat} : ∀ (c : Nat) (v3 : Int32) (J : Nat → Nat → Int32), b ≠ q 0 → b ≠ q 10 → b ≠ q 11 → b ≠ q 12 → b ≠ q 13 → b ≠ q 15 → b ≠ q 16 → x1N_48 p q c v3 J b = J b := by
  intro c
  induction c with
  | zero =>
    intro v3 J n0 n1 n2 n3 n4 n5 n6
    rw [x1N_48]
    exact (x1N_111_frJ _ _ _ n0 n1 n2 n3 n4 n5 n6).trans (rfl)
  | succ c ih =>
    intro v3 J n0 n1 n2 n3 n4 n5 n6
    rw [x1N_48]
    by_cases h : (J (q 1) 3) ≤ v3
    · rw [if_pos h]
      exact (x1N_111_frJ _ _ _ n0 n1 n2 n3 n4 n5 n6).trans (rfl)
    · rw [if_neg h]
      by_cases h : (J (q 7) v3.toNatClampNeg) = (J (q 0) 2)
      · rw [if_pos h]
        by_cases h : (J (q 10) ((J (q 6) v3.toNatClampNeg).toNatClampNeg)) = 0
        · rw [if_pos h]
          exact (ih _ _ n0 n1 n2 n3 n4 n5 n6).trans (x4N_frJ  n1 n3 n6)
        · rw [if_neg h]
          exact (ih _ _ n0 n1 n2 n3 n4 n5 n6).trans (rfl)
      · rw [if_neg h]
        exact (ih _ _ n0 n1 n2 n3 n4 n5 n6).trans (rfl)
theorem x1N_2_frJ {p : Nat → Nat} {q : Nat → Nat} {b : Nat} : ∀ (c : Nat) (v3 : Int32) (J : Nat → Nat → Int32), b ≠ q 0 → b ≠ q 10 → b ≠ q 11 → b ≠ q 12 → b ≠ q 13 → b ≠ q 15 → b ≠ q 16 → x1N_2 p q c v3 J b = J b := by
  intro c
  induction c with
  | zero =>
    intro v3 J n0 n1 n2 n3 n4 n5 n6
    rw [x1N_2]
    exact (x1N_48_frJ _ _ _ n0 n1 n2 n3 n4 n5 n6).trans (rfl)
  | succ c ih =>
    intro v3 J n0 n1 n2 n3 n4 n5 n6
    rw [x1N_2]
    by_cases h : (J (q 1) 1) ≤ v3
    · rw [if_pos h]
      exact (x1N_48_frJ _ _ _ n0 n1 n2 n3 n4 n5 n6).trans (rfl)
    · rw [if_neg h]
      by_cases h : (J (q 10) v3.toNatClampNeg) = (Int32.ofInt 1)
      · rw [if_pos h]
        by_cases h : (x2 q v3 (J (q 0) 2) J) = 0
        · rw [if_pos h]
          exact (ih _ _ n0 n1 n2 n3 n4 n5 n6).trans (rfl)
        · rw [if_neg h]
          exact (ih _ _ n0 n1 n2 n3 n4 n5 n6).trans (x3_frJ  n0 n1 n2 n3 n6)
      · rw [if_neg h]
        exact (ih _ _ n0 n1 n2 n3 n4 n5 n6).trans (rfl)
theorem x1N_frJ {p : Nat → Nat} {q : Nat → Nat} {J : Nat → Nat → Int32} {b : Nat} (n0 : b ≠ q 0) (n1 : b ≠ q 10) (n2 : b ≠ q 11) (n3 : b ≠ q 12) (n4 : b ≠ q 13) (n5 : b ≠ q 15) (n6 : b ≠ q 16) : x1N p q J b = J b := by
  unfold x1N
  exact (x1N_2_frJ _ _ _ n0 n1 n2 n3 n4 n5 n6).trans (rfl)
end
