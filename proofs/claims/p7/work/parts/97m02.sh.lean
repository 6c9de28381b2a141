/-! clauses and rules, the other side, with what the rows clause and clauses hold -/
def mg_K2 (Op Cl Cs : Nat) : Prop := Cl ≠ Op ∧ Cs ≠ Op ∧ Cl ≠ Cs
def mg_C (G : Nat → Int32) (Cl Cs x : Nat) (cl : Nat → Int32) (cc : Nat) (J : Nat → Nat → Int32) : Prop := (∀ j, J Cl j = cl j) ∧ J Cs x = nI cc ∧ (∀ j, j < 48 * x → cl j = G (10000 + j)) ∧ (∀ j, j ≠ x → J Cs j = G (20000 + j)) ∧ cc ≤ 12
theorem mg_Cr {G : Nat → Int32} {Cl Cs x cc : Nat} {cl : Nat → Int32} {J J' : Nat → Nat → Int32} (h : mg_C G Cl Cs x cl cc J) (h1 : J' Cl = J Cl) (h2 : J' Cs = J Cs) : mg_C G Cl Cs x cl cc J' := by
  unfold mg_C
  rw [h1, h2]
  exact h
theorem mg_ix {x cc r : Nat} (hx : x ≤ 6) (hc : cc ≤ 12) (hr : r ≤ 3) : (Int32.ofInt 48 * nI x + Int32.ofInt 4 * nI cc + Int32.ofInt (r : Int)).toNatClampNeg = 48 * x + 4 * cc + r := by
  have e : Int32.ofInt 48 * nI x + Int32.ofInt 4 * nI cc + Int32.ofInt (r : Int) = nI (48 * x + 4 * cc + r) := by
    rw [← me_addn, ← me_addn, show nI (48 * x) = Int32.ofInt 48 * nI x from Int32.ofNat_mul 48 x, show nI (4 * cc) = Int32.ofInt 4 * nI cc from Int32.ofNat_mul 4 cc]
    rfl
  rw [e, nI_clamp (by omega)]
theorem mg_ix0 {x cc : Nat} (hx : x ≤ 6) (hc : cc ≤ 12) : (Int32.ofInt 48 * nI x + Int32.ofInt 4 * nI cc).toNatClampNeg = 48 * x + 4 * cc := by
  have e : Int32.ofInt 48 * nI x + Int32.ofInt 4 * nI cc = nI (48 * x + 4 * cc) := by
    rw [← me_addn, show nI (48 * x) = Int32.ofInt 48 * nI x from Int32.ofNat_mul 48 x, show nI (4 * cc) = Int32.ofInt 4 * nI cc from Int32.ofNat_mul 4 cc]
  rw [e, nI_clamp (by omega)]
/-- one clause read, and its four cells -/
def mg_D (f : Nat → Int32) (t x : Nat) (z0 : lb_Z) (cl : Nat → Int32) (cc : Nat) (z : lb_Z) (cl' : Nat → Int32) : Prop := ∃ z1, lb_sum f t (lb_s f t (z0.1 + (lb_W (nt_sp + 1 + 5)).length), z0.2.1, z0.2.2) (.inr z1) ∧ lb_i2 f t z1 (.inr z) ∧ cl' (48 * x + 4 * cc) = nI z0.2.2.2.1 ∧ cl' (48 * x + 4 * cc + 1) = nI z1.2.2.2.1 ∧ cl' (48 * x + 4 * cc + 2) = (@ite _ (lb_at f t (lb_W (nt_sp + 1 + 14)) z1.1) (Classical.propDecidable _) (nI z1.2.2.2.1) (Int32.ofInt (-1))) ∧ cl' (48 * x + 4 * cc + 3) = nI z.2.2.2.1 ∧ (∀ j, ¬ (48 * x + 4 * cc ≤ j ∧ j < 48 * x + 4 * cc + 4) → cl' j = cl j)
def mg_V (G : Nat → Int32) (J0 : Nat → Nat → Int32) (B Sg Ln Op Cl Cs x q : Nat) (wr : Int32) (m : Nat) (e : Nat × (Nat → Int32)) (li : Nat) (cl : Nat → Int32) (cc : Nat) (J : Nat → Nat → Int32) : Prop := mg_S G J B Sg Ln x q wr m e J ∧ ((∀ i, i ≠ 15 → i ≠ 16 → i ≠ 17 → i ≠ 19 → i ≠ 20 → i ≠ 21 → i ≠ 23 → J B i = J0 B i) ∧ (∀ a, a ≠ B → a ≠ Sg → a ≠ Ln → a ≠ Op → a ≠ Cl → a ≠ Cs → J a = J0 a)) ∧ J B 21 = nI li ∧ li ≤ 12 ∧ mg_C G Cl Cs x cl cc J
theorem mg_VP {G : Nat → Int32} {M : nt_M} {J0 J : Nat → Nat → Int32} {f : Nat → Int32} {t x B Tb Sg Ln Op Cl Cs q m li : Nat} {wr : Int32} {e : Nat × (Nat → Int32)} {cl : Nat → Int32} {cc : Nat} (hP : md_P M J0 f t x B Tb Sg Ln) (hO : md_O M B Tb Sg Ln Op) (hK : md_K M B Tb Sg Ln Cl Cs) (hK2 : mg_K2 Op Cl Cs) (hV : mg_V G J0 B Sg Ln Op Cl Cs x q wr m e li cl cc J) : md_P M J f t x B Tb Sg Ln := by
  obtain ⟨p1, p2, p3, p4, p5, p6⟩ := hP
  obtain ⟨_, ⟨fB, fA⟩, _⟩ := hV
  refine ⟨p1, p2, (fB 1 (by decide) (by decide) (by decide) (by decide) (by decide) (by decide) (by decide)).trans p3, (fB 18 (by decide) (by decide) (by decide) (by decide) (by decide) (by decide) (by decide)).trans p4, fun j => ?_, p6⟩
  rw [fA Tb p2.1 p2.2.1 p2.2.2.1 (Ne.symm hO.2.1.2.1) (Ne.symm hK.2.2.1.2.1) (Ne.symm hK.2.2.2.1.2.1)]
  exact p5 j
theorem mg_Vup {G : Nat → Int32} {M : nt_M} {J0 J : Nat → Nat → Int32} {f : Nat → Int32} {t x B Tb Sg Ln Op Cl Cs q m li : Nat} {wr : Int32} {e : Nat × (Nat → Int32)} {cl : Nat → Int32} {cc : Nat} (hP : md_P M J0 f t x B Tb Sg Ln) (hO : md_O M B Tb Sg Ln Op) (hK : md_K M B Tb Sg Ln Cl Cs) (hK2 : mg_K2 Op Cl Cs) (hV : mg_V G J0 B Sg Ln Op Cl Cs x q wr m e li cl cc J) {J' : Nat → Nat → Int32} {q' m' : Nat} {wr' : Int32} {e' : Nat × (Nat → Int32)} (hS : mg_S G J B Sg Ln x q' wr' m' e' J') : mg_V G J0 B Sg Ln Op Cl Cs x q' wr' m' e' li cl cc J' := by
  obtain ⟨h1, ⟨fB, fA⟩, t1, t2, t3⟩ := hV
  have b1 := hS.2.2.2.2.2.1
  have b2 := hS.2.2.2.2.2.2.1
  exact ⟨mg_Sself hS, ⟨fun i q1 q2 q3 q4 q5 q6 q7 => (b1 i q1 q2 q3 q4).trans (fB i q1 q2 q3 q4 q5 q6 q7), fun a q1 q2 q3 q4 q5 q6 => (b2 a q1 q2 q3).trans (fA a q1 q2 q3 q4 q5 q6)⟩, (b1 21 (by decide) (by decide) (by decide) (by decide)).trans t1, t2, mg_Cr t3 (b2 Cl hK.2.2.1.1 hK.2.2.1.2.2.1 hK.2.2.1.2.2.2) (b2 Cs hK.2.2.2.1.1 hK.2.2.2.1.2.2.1 hK.2.2.2.1.2.2.2)⟩
theorem mg_Vte {G : Nat → Int32} {M : nt_M} {J0 J : Nat → Nat → Int32} {f : Nat → Int32} {t x B Tb Sg Ln Op Cl Cs q m li : Nat} {wr : Int32} {e : Nat × (Nat → Int32)} {cl : Nat → Int32} {cc : Nat} (hP : md_P M J0 f t x B Tb Sg Ln) (hO : md_O M B Tb Sg Ln Op) (hK : md_K M B Tb Sg Ln Cl Cs) (hK2 : mg_K2 Op Cl Cs) (hV : mg_V G J0 B Sg Ln Op Cl Cs x q wr m e li cl cc J) {J' : Nat → Nat → Int32} {q' m' : Nat} {wr' dd : Int32} {S : List Int32} {e' : Nat × (Nat → Int32)} (hT : mg_T G J B Sg Ln Op x q' wr' m' e' dd S J') : mg_V G J0 B Sg Ln Op Cl Cs x q' wr' m' e' li cl cc J' := by
  obtain ⟨h1, ⟨fB, fA⟩, t1, t2, t3⟩ := hV
  obtain ⟨s1, ⟨b1, b2⟩, _⟩ := hT
  exact ⟨s1, ⟨fun i q1 q2 q3 q4 q5 q6 q7 => (b1 i q1 q2 q3 q4 q5 q7).trans (fB i q1 q2 q3 q4 q5 q6 q7), fun a q1 q2 q3 q4 q5 q6 => (b2 a q1 q2 q3 q4).trans (fA a q1 q2 q3 q4 q5 q6)⟩, (b1 21 (by decide) (by decide) (by decide) (by decide) (by decide) (by decide)).trans t1, t2, mg_Cr t3 (b2 Cl hK.2.2.1.1 hK.2.2.1.2.2.1 hK.2.2.1.2.2.2 hK2.1) (b2 Cs hK.2.2.2.1.1 hK.2.2.2.1.2.2.1 hK.2.2.2.1.2.2.2 hK2.2.1)⟩
theorem mg_Vcl {G : Nat → Int32} {M : nt_M} {J0 J : Nat → Nat → Int32} {f : Nat → Int32} {t x B Tb Sg Ln Op Cl Cs q m li : Nat} {wr : Int32} {e : Nat × (Nat → Int32)} {cl : Nat → Int32} {cc : Nat} {i : Nat} {v : Int32} (hP : md_P M J0 f t x B Tb Sg Ln) (hO : md_O M B Tb Sg Ln Op) (hK : md_K M B Tb Sg Ln Cl Cs) (hK2 : mg_K2 Op Cl Cs) (hV : mg_V G J0 B Sg Ln Op Cl Cs x q wr m e li cl cc J) (hi : 48 * x ≤ i) : mg_V G J0 B Sg Ln Op Cl Cs x q wr m e li (fun j => if j = i then v else cl j) cc (nt_u J Cl i v) := by
  obtain ⟨⟨a1, a2, a3, a4, a5, a6, a7, a8⟩, ⟨fB, fA⟩, t1, t2, u1, u2, u3, u4, u5⟩ := hV
  have c1 := hK.2.2.1.1
  have c3 := hK.2.2.1.2.2.1
  have c4 := hK.2.2.1.2.2.2
  refine ⟨⟨(me_uj (Ne.symm c1)).trans a1, (me_uj (Ne.symm c1)).trans a2, (me_uj (Ne.symm c1)).trans a3, (me_uj (Ne.symm c4)).trans a4, fun j hj => (me_uj (Ne.symm c3)).trans (a5 j hj), fun _ _ _ _ _ => rfl, fun _ _ _ _ => rfl, a8⟩, ⟨fun i q1 q2 q3 q4 q5 q6 q7 => (me_uj (Ne.symm c1)).trans (fB i q1 q2 q3 q4 q5 q6 q7), fun a q1 q2 q3 q4 q5 q6 => (me_uo q5).trans (fA a q1 q2 q3 q4 q5 q6)⟩, (me_uj (Ne.symm c1)).trans t1, t2, ⟨fun j => ?_, (me_uj (Ne.symm hK2.2.2)).trans u2, fun j hj => ?_, fun j hj => (me_uj (Ne.symm hK2.2.2)).trans (u4 j hj), u5⟩⟩
  · show nt_u J Cl i v Cl j = if j = i then v else cl j
    by_cases c : j = i
    · rw [c, me_us, if_pos rfl]
    · rw [me_uk c, if_neg c]
      exact u1 j
  · show (if j = i then v else cl j) = _
    rw [if_neg (by omega)]
    exact u3 j hj
theorem mg_Vcs {G : Nat → Int32} {M : nt_M} {J0 J : Nat → Nat → Int32} {f : Nat → Int32} {t x B Tb Sg Ln Op Cl Cs q m li : Nat} {wr : Int32} {e : Nat × (Nat → Int32)} {cl : Nat → Int32} {cc : Nat} (hP : md_P M J0 f t x B Tb Sg Ln) (hO : md_O M B Tb Sg Ln Op) (hK : md_K M B Tb Sg Ln Cl Cs) (hK2 : mg_K2 Op Cl Cs) (hV : mg_V G J0 B Sg Ln Op Cl Cs x q wr m e li cl cc J) (hi : cc + 1 ≤ 12) : mg_V G J0 B Sg Ln Op Cl Cs x q wr m e li cl (cc + 1) (nt_u J Cs x (nI (cc + 1))) := by
  obtain ⟨⟨a1, a2, a3, a4, a5, a6, a7, a8⟩, ⟨fB, fA⟩, t1, t2, u1, u2, u3, u4, u5⟩ := hV
  have c1 := hK.2.2.2.1.1
  have c3 := hK.2.2.2.1.2.2.1
  have c4 := hK.2.2.2.1.2.2.2
  refine ⟨⟨(me_uj (Ne.symm c1)).trans a1, (me_uj (Ne.symm c1)).trans a2, (me_uj (Ne.symm c1)).trans a3, (me_uj (Ne.symm c4)).trans a4, fun j hj => (me_uj (Ne.symm c3)).trans (a5 j hj), fun _ _ _ _ _ => rfl, fun _ _ _ _ => rfl, a8⟩, ⟨fun i q1 q2 q3 q4 q5 q6 q7 => (me_uj (Ne.symm c1)).trans (fB i q1 q2 q3 q4 q5 q6 q7), fun a q1 q2 q3 q4 q5 q6 => (me_uo q6).trans (fA a q1 q2 q3 q4 q5 q6)⟩, (me_uj (Ne.symm c1)).trans t1, t2, ⟨fun j => (me_uj hK2.2.2).trans (u1 j), me_us, u3, fun j hj => (me_uk hj).trans (u4 j hj), hi⟩⟩
theorem mg_Vli {G : Nat → Int32} {M : nt_M} {J0 J : Nat → Nat → Int32} {f : Nat → Int32} {t x B Tb Sg Ln Op Cl Cs q m li : Nat} {wr : Int32} {e : Nat × (Nat → Int32)} {cl : Nat → Int32} {cc : Nat} {y : Nat} (hP : md_P M J0 f t x B Tb Sg Ln) (hO : md_O M B Tb Sg Ln Op) (hK : md_K M B Tb Sg Ln Cl Cs) (hK2 : mg_K2 Op Cl Cs) (hV : mg_V G J0 B Sg Ln Op Cl Cs x q wr m e li cl cc J) (hy : y ≤ 12) : mg_V G J0 B Sg Ln Op Cl Cs x q wr m e y cl cc (nt_u J B 21 (nI y)) := by
  obtain ⟨⟨a1, a2, a3, a4, a5, a6, a7, a8⟩, ⟨fB, fA⟩, t1, t2, t3⟩ := hV
  have n1 := hP.2.1.2.2.2.1
  have n2 := hP.2.1.2.2.2.2.1
  exact ⟨⟨(me_uk (by decide)).trans a1, (me_uk (by decide)).trans a2, (me_uk (by decide)).trans a3, (me_uj (Ne.symm n2)).trans a4, fun j hj => (me_uj (Ne.symm n1)).trans (a5 j hj), fun _ _ _ _ _ => rfl, fun _ _ _ _ => rfl, a8⟩, ⟨fun i q1 q2 q3 q4 q5 q6 q7 => (me_uk q6).trans (fB i q1 q2 q3 q4 q5 q6 q7), fun a q1 q2 q3 q4 q5 q6 => (me_uo q1).trans (fA a q1 q2 q3 q4 q5 q6)⟩, me_us, hy, mg_Cr t3 (me_uo hK.2.2.1.1) (me_uo hK.2.2.2.1.1)⟩
def mg_QV (G : Nat → Int32) (J0 : Nat → Nat → Int32) (B Sg Ln Op Cl Cs x t : Nat) (z0 : lb_Z) (cl0 : Nat → Int32) (cc li' : Nat) (f : Nat → Int32) (r : lb_Y) (a : Int32) (J : Nat → Nat → Int32) : Prop := match r with
  | .inl c => c ≠ 0 ∧ a = Int32.ofInt 0 ∧ ∃ q m e l cl' cc', mg_V G J0 B Sg Ln Op Cl Cs x q c m e l cl' cc' J ∧ q ≤ t
  | .inr z => a = Int32.ofInt 1 ∧ ∃ q cl', lb_s f t q = z.1 ∧ q ≤ t ∧ mg_V G J0 B Sg Ln Op Cl Cs x q 0 z.2.1 z.2.2.2 li' cl' (cc + 1) J ∧ mg_D f t x z0 cl0 cc z cl'
theorem mg_takes {G : Nat → Int32} {X : nt_X} {d t x B Tb Sg Ln q m : Nat} {f : Nat → Int32} {M : nt_M} {J0 J : Nat → Nat → Int32} {o : Option Value × nt_M} {wr : Int32} {e : Nat × (Nat → Int32)} {w : Int64} (hP : md_P M J0 f t x B Tb Sg Ln) (hS : mg_S G J0 B Sg Ln x q wr m e J) (hp : q ≤ t) (k : nt_ev X d 157 [.ref B, .long w] (me_w M J) o) : (lb_iw f t (lb_s f t q) w ∧ o = (some (.int (Int32.ofInt 1)), me_w M (nt_u J B 15 (nI (lb_s f t q + lb_l f t (lb_s f t q)))))) ∨ (¬ lb_iw f t (lb_s f t q) w ∧ o = (some (.int (Int32.ofInt 0)), me_w M (nt_u J B 15 (nI (lb_s f t q))))) := by
  have k : nt_rn X d 157 (0, [(0, .ref B), (1, .long (w))], [], me_w M J) o := k
  have t4 : t ≤ 400 := hP.2.2.2.2.2.1
  have k := ly_revb 2 (c' := (2, [(0, .ref B), (1, .long (w))], [.long (w), .ref B], me_w M J)) rfl k
  obtain ⟨d1, o1, ed, kc, k⟩ := lz_c (g := 137) (q := 1) (vs := [.ref B, .long (w)]) (rest := []) rfl rfl (by decide) (Or.inr (Or.inl ⟨_, rfl, rfl⟩)) rfl k
  obtain ⟨r, e1, hr⟩ := mg_isWord hP hS hp kc
  subst e1
  rcases hr with ⟨rfl, hr⟩ | ⟨rfl, hr⟩
  · have hS1 := mg_Sq (y := lb_s f t q) hP hS
    have hp1 : lb_s f t q ≤ t := (lb_s_le (t - q) q (by omega)).2
    have k : nt_rn X _ 157 (5, [(0, .ref B), (1, .long (w))], [.int (Int32.ofInt 1)], me_w M (nt_u J B 15 (nI (lb_s f t q)))) _ := k
    have k := ly_revb 1 (c' := (if (Int32.ofInt 1) = 0 then 8 else 10, [(0, .ref B), (1, .long (w))], [], me_w M (nt_u J B 15 (nI (lb_s f t q))))) rfl k
    rw [if_neg (show ¬ ((Int32.ofInt 1) = 0) from by decide)] at k
    have k := ly_revb 1 (c' := (11, [(0, .ref B), (1, .long (w))], [.ref B], me_w M (nt_u J B 15 (nI (lb_s f t q))))) rfl k
    obtain ⟨d1, o1, ed, kc, k⟩ := lz_c (g := 142) (q := 1) (vs := [.ref B]) (rest := []) rfl rfl (by decide) (Or.inr (Or.inl ⟨_, rfl, rfl⟩)) rfl k
    have e1 := mg_pass hP hS1 hp1 kc
    rw [me_uu] at e1
    subst e1
    have k : nt_rn X _ 157 (14, [(0, .ref B), (1, .long (w))], [], me_w M (nt_u J B 15 (nI (lb_s f t q + lb_l f t (lb_s f t q))))) _ := k
    have k := ly_revb 1 (c' := (15, [(0, .ref B), (1, .long (w))], [.int (Int32.ofInt 1)], me_w M (nt_u J B 15 (nI (lb_s f t q + lb_l f t (lb_s f t q)))))) rfl k
    have k := lz_ri rfl (by decide) k
    exact Or.inl ⟨hr, k⟩
  · have hS1 := mg_Sq (y := lb_s f t q) hP hS
    have hp1 : lb_s f t q ≤ t := (lb_s_le (t - q) q (by omega)).2
    have k : nt_rn X _ 157 (5, [(0, .ref B), (1, .long (w))], [.int (Int32.ofInt 0)], me_w M (nt_u J B 15 (nI (lb_s f t q)))) _ := k
    have k := ly_revb 1 (c' := (if (Int32.ofInt 0) = 0 then 8 else 10, [(0, .ref B), (1, .long (w))], [], me_w M (nt_u J B 15 (nI (lb_s f t q))))) rfl k
    rw [if_pos (show (Int32.ofInt 0) = 0 from by decide)] at k
    have k := ly_revb 1 (c' := (9, [(0, .ref B), (1, .long (w))], [.int (Int32.ofInt 0)], me_w M (nt_u J B 15 (nI (lb_s f t q))))) rfl k
    have k := lz_ri rfl (by decide) k
    exact Or.inr ⟨hr, k⟩
theorem mg_take {G : Nat → Int32} {X : nt_X} {d t x B Tb Sg Ln Op Cl Cs q m li : Nat} {f : Nat → Int32} {M : nt_M} {J0 J : Nat → Nat → Int32} {o : Option Value × nt_M} {e : lb_E} {cl : Nat → Int32} {cc : Nat} (hP : md_P M J0 f t x B Tb Sg Ln) (hO : md_O M B Tb Sg Ln Op) (hK : md_K M B Tb Sg Ln Cl Cs) (hK2 : mg_K2 Op Cl Cs) (hB : lb_by f t) (hV : mg_V G J0 B Sg Ln Op Cl Cs x q 0 m e.2 li cl cc J) (hcc : cc < 12) (hp : q ≤ t) (hat : lb_at f t (lb_W (nt_sp + 1 + 5)) q) (k : nt_ev X d 150 [.ref B] (me_w M J) o) : ∃ r a J', o = (some (.int a), me_w M J') ∧ lb_tk f t (q, m, e) r ∧ mg_QV G J0 B Sg Ln Op Cl Cs x t (q, m, e) cl cc li f r a J' := by
  have k : nt_rn X d 150 (0, [(0, .ref B)], [], me_w M J) o := k
  have t4 : t ≤ 400 := hP.2.2.2.2.2.1
  have x6 : x ≤ 6 := hP.2.2.2.2.2.2.1
  have c12 : cc ≤ 12 := by omega
  have k := ly_revb 1 (c' := (1, [(0, .ref B)], [.ref B], me_w M J)) rfl k
  obtain ⟨d1, o1, ed, kc, k⟩ := lz_c (g := 142) (q := 1) (vs := [.ref B]) (rest := []) rfl rfl (by decide) (Or.inr (Or.inl ⟨_, rfl, rfl⟩)) rfl k
  have e1 := mg_pass (mg_VP hP hO hK hK2 hV) hV.1 hp kc
  rw [lb_at_l hat] at e1
  subst e1
  have hV1 := mg_Vup hP hO hK hK2 hV (mg_Sq (y := q + (lb_W (nt_sp + 1 + 5)).length) (mg_VP hP hO hK hK2 hV) hV.1)
  have hp1 : q + (lb_W (nt_sp + 1 + 5)).length ≤ t := hat.1
  have k : nt_rn X _ 150 (4, [(0, .ref B)], [], me_w M (nt_u J B 15 (nI (q + (lb_W (nt_sp + 1 + 5)).length)))) _ := k
  have k := ly_revb 2 (c' := (7, [(0, .ref B)], [.ref B, .int (Int32.ofInt 48)], me_w M (nt_u J B 15 (nI (q + (lb_W (nt_sp + 1 + 5)).length))))) rfl k
  have k := lz_get (a := B) (g := 1118) (M := me_w M (nt_u J B 15 (nI (q + (lb_W (nt_sp + 1 + 5)).length)))) (v := .int (nI x)) rfl (congrArg Value.int (mg_x (mg_VP hP hO hK hK2 hV1) hV1.1)) k
  have k := ly_revb 3 (c' := (13, [(0, .ref B)], [.ref B, .int (Int32.ofInt 4), .int ((Int32.ofInt 48) * (nI x))], me_w M (nt_u J B 15 (nI (q + (lb_W (nt_sp + 1 + 5)).length))))) rfl k
  have k := lz_get (a := B) (g := 1106) (M := me_w M (nt_u J B 15 (nI (q + (lb_W (nt_sp + 1 + 5)).length)))) (v := .ref Cs) rfl (nt_gfR rfl hK.2.1) k
  have k := ly_revb 1 (c' := (17, [(0, .ref B)], [.ref B, .ref Cs, .int (Int32.ofInt 4), .int ((Int32.ofInt 48) * (nI x))], me_w M (nt_u J B 15 (nI (q + (lb_W (nt_sp + 1 + 5)).length))))) rfl k
  have k := lz_get (a := B) (g := 1118) (M := me_w M (nt_u J B 15 (nI (q + (lb_W (nt_sp + 1 + 5)).length)))) (v := .int (nI x)) rfl (congrArg Value.int (mg_x (mg_VP hP hO hK hK2 hV1) hV1.1)) k
  have k := me_iald (q := x) (v := nI cc) rfl (hK.2.2.2.2.2) (rfl) (by omega) (hV1.2.2.2.2.2.1) k
  have k := ly_revb 4 (c' := (25, [(1, .int (((Int32.ofInt 48) * (nI x)) + ((Int32.ofInt 4) * (nI cc)))), (0, .ref B)], [.ref B], me_w M (nt_u J B 15 (nI (q + (lb_W (nt_sp + 1 + 5)).length))))) rfl k
  have k := lz_get (a := B) (g := 1105) (M := me_w M (nt_u J B 15 (nI (q + (lb_W (nt_sp + 1 + 5)).length)))) (v := .ref Cl) rfl (nt_gfR rfl hK.1) k
  have k := ly_revb 2 (c' := (30, [(1, .int (((Int32.ofInt 48) * (nI x)) + ((Int32.ofInt 4) * (nI cc)))), (0, .ref B)], [.ref B, .int (((Int32.ofInt 48) * (nI x)) + ((Int32.ofInt 4) * (nI cc))), .ref Cl], me_w M (nt_u J B 15 (nI (q + (lb_W (nt_sp + 1 + 5)).length))))) rfl k
  have k := lz_get (a := B) (g := 1104) (M := me_w M (nt_u J B 15 (nI (q + (lb_W (nt_sp + 1 + 5)).length)))) (v := .ref Ln) rfl (nt_gfR rfl hP.1.2.2) k
  have k := ly_revb 1 (c' := (34, [(1, .int (((Int32.ofInt 48) * (nI x)) + ((Int32.ofInt 4) * (nI cc)))), (0, .ref B)], [.ref B, .ref Ln, .int (((Int32.ofInt 48) * (nI x)) + ((Int32.ofInt 4) * (nI cc))), .ref Cl], me_w M (nt_u J B 15 (nI (q + (lb_W (nt_sp + 1 + 5)).length))))) rfl k
  have k := lz_get (a := B) (g := 1118) (M := me_w M (nt_u J B 15 (nI (q + (lb_W (nt_sp + 1 + 5)).length)))) (v := .int (nI x)) rfl (congrArg Value.int (mg_x (mg_VP hP hO hK hK2 hV1) hV1.1)) k
  have k := me_iald (q := x) (v := nI e.2.1) rfl (hP.2.2.2.2.2.2.2.2.2) (rfl) (by omega) (hV1.1.2.2.2.1) k
  have k := me_iastx rfl k
  rw [show (((Int32.ofInt 48) * (nI x)) + ((Int32.ofInt 4) * (nI cc))).toNatClampNeg = 48 * x + 4 * cc from mg_ix0 x6 c12] at k
  have hV2 := mg_Vcl (i := 48 * x + 4 * cc) (v := nI e.2.1) hP hO hK hK2 hV1 (by omega)
  have k : nt_rn X _ 150 (39, [(1, .int (((Int32.ofInt 48) * (nI x)) + ((Int32.ofInt 4) * (nI cc)))), (0, .ref B)], [], me_w M (nt_u (nt_u J B 15 (nI (q + (lb_W (nt_sp + 1 + 5)).length))) Cl (48 * x + 4 * cc) (nI e.2.1))) _ := k
  have k := ly_revb 1 (c' := (40, [(1, .int (((Int32.ofInt 48) * (nI x)) + ((Int32.ofInt 4) * (nI cc)))), (0, .ref B)], [.ref B], me_w M (nt_u (nt_u J B 15 (nI (q + (lb_W (nt_sp + 1 + 5)).length))) Cl (48 * x + 4 * cc) (nI e.2.1)))) rfl k
  obtain ⟨d1, o1, ed, kc, k⟩ := lz_c (g := 151) (q := 1) (vs := [.ref B]) (rest := []) rfl rfl (by decide) (Or.inr (Or.inl ⟨_, rfl, rfl⟩)) rfl k
  obtain ⟨r1, a1, J4, e1, hv1, hQ⟩ := mg_sum (s0 := e.1) (mg_VP hP hO hK hK2 hV2) hB hV2.1 hp1 kc
  subst e1
  rcases r1 with c | z1
  · obtain ⟨hc, rfl, q4, m4, e4, hS4, hq4⟩ := hQ
    have hV9 := mg_Vup hP hO hK hK2 hV2 hS4
    have k : nt_rn X _ 150 (43, [(1, .int (((Int32.ofInt 48) * (nI x)) + ((Int32.ofInt 4) * (nI cc)))), (0, .ref B)], [.int (Int32.ofInt 0)], me_w M J4) _ := k
    have k := ly_revb 1 (c' := (if (Int32.ofInt 0) = 0 then 46 else 48, [(1, .int (((Int32.ofInt 48) * (nI x)) + ((Int32.ofInt 4) * (nI cc)))), (0, .ref B)], [], me_w M J4)) rfl k
    rw [if_pos (show (Int32.ofInt 0) = 0 from by decide)] at k
    have k := ly_revb 1 (c' := (47, [(1, .int (((Int32.ofInt 48) * (nI x)) + ((Int32.ofInt 4) * (nI cc)))), (0, .ref B)], [.int (Int32.ofInt 0)], me_w M J4)) rfl k
    have k := lz_ri rfl (by decide) k
    exact ⟨.inl c, _, _, k, ⟨_, hv1, Or.inl ⟨c, rfl, rfl⟩⟩, hc, rfl, _, _, _, _, _, _, hV9, hq4⟩
  · obtain ⟨rfl, q4, hz4, hq4, hS4⟩ := hQ
    have hV20 := mg_Vup hP hO hK hK2 hV2 hS4
    have k : nt_rn X _ 150 (43, [(1, .int (((Int32.ofInt 48) * (nI x)) + ((Int32.ofInt 4) * (nI cc)))), (0, .ref B)], [.int (Int32.ofInt 1)], me_w M J4) _ := k
    have k := ly_revb 1 (c' := (if (Int32.ofInt 1) = 0 then 46 else 48, [(1, .int (((Int32.ofInt 48) * (nI x)) + ((Int32.ofInt 4) * (nI cc)))), (0, .ref B)], [], me_w M J4)) rfl k
    rw [if_neg (show ¬ ((Int32.ofInt 1) = 0) from by decide)] at k
    have k := ly_revb 1 (c' := (49, [(1, .int (((Int32.ofInt 48) * (nI x)) + ((Int32.ofInt 4) * (nI cc)))), (0, .ref B)], [.ref B], me_w M J4)) rfl k
    have k := lz_get (a := B) (g := 1105) (M := me_w M J4) (v := .ref Cl) rfl (nt_gfR rfl hK.1) k
    have k := ly_revb 4 (c' := (56, [(1, .int (((Int32.ofInt 48) * (nI x)) + ((Int32.ofInt 4) * (nI cc)))), (0, .ref B)], [.ref B, .int ((((Int32.ofInt 48) * (nI x)) + ((Int32.ofInt 4) * (nI cc))) + (Int32.ofInt 1)), .ref Cl], me_w M J4)) rfl k
    have k := lz_get (a := B) (g := 1104) (M := me_w M J4) (v := .ref Ln) rfl (nt_gfR rfl hP.1.2.2) k
    have k := ly_revb 1 (c' := (60, [(1, .int (((Int32.ofInt 48) * (nI x)) + ((Int32.ofInt 4) * (nI cc)))), (0, .ref B)], [.ref B, .ref Ln, .int ((((Int32.ofInt 48) * (nI x)) + ((Int32.ofInt 4) * (nI cc))) + (Int32.ofInt 1)), .ref Cl], me_w M J4)) rfl k
    have k := lz_get (a := B) (g := 1118) (M := me_w M J4) (v := .int (nI x)) rfl (congrArg Value.int (mg_x (mg_VP hP hO hK hK2 hV20) hV20.1)) k
    have k := me_iald (q := x) (v := nI z1.2.2.2.1) rfl (hP.2.2.2.2.2.2.2.2.2) (rfl) (by omega) (hV20.1.2.2.2.1) k
    have k := me_iastx rfl k
    rw [show ((((Int32.ofInt 48) * (nI x)) + ((Int32.ofInt 4) * (nI cc))) + (Int32.ofInt 1)).toNatClampNeg = 48 * x + 4 * cc + 1 from mg_ix (r := 1) x6 c12 (by omega)] at k
    have hV21 := mg_Vcl (i := 48 * x + 4 * cc + 1) (v := nI z1.2.2.2.1) hP hO hK hK2 hV20 (by omega)
    have k : nt_rn X _ 150 (65, [(1, .int (((Int32.ofInt 48) * (nI x)) + ((Int32.ofInt 4) * (nI cc)))), (0, .ref B)], [], me_w M (nt_u J4 Cl (48 * x + 4 * cc + 1) (nI z1.2.2.2.1))) _ := k
    have k := ly_revb 1 (c' := (66, [(1, .int (((Int32.ofInt 48) * (nI x)) + ((Int32.ofInt 4) * (nI cc)))), (0, .ref B)], [.ref B], me_w M (nt_u J4 Cl (48 * x + 4 * cc + 1) (nI z1.2.2.2.1)))) rfl k
    have k := lz_get (a := B) (g := 1105) (M := me_w M (nt_u J4 Cl (48 * x + 4 * cc + 1) (nI z1.2.2.2.1))) (v := .ref Cl) rfl (nt_gfR rfl hK.1) k
    have k := ly_revb 4 (c' := (73, [(1, .int (((Int32.ofInt 48) * (nI x)) + ((Int32.ofInt 4) * (nI cc)))), (0, .ref B)], [.int (Int32.ofInt (-1)), .int ((((Int32.ofInt 48) * (nI x)) + ((Int32.ofInt 4) * (nI cc))) + (Int32.ofInt 2)), .ref Cl], me_w M (nt_u J4 Cl (48 * x + 4 * cc + 1) (nI z1.2.2.2.1)))) rfl k
    have k := me_iastx rfl k
    rw [show ((((Int32.ofInt 48) * (nI x)) + ((Int32.ofInt 4) * (nI cc))) + (Int32.ofInt 2)).toNatClampNeg = 48 * x + 4 * cc + 2 from mg_ix (r := 2) x6 c12 (by omega)] at k
    have hV22 := mg_Vcl (i := 48 * x + 4 * cc + 2) (v := Int32.ofInt (-1)) hP hO hK hK2 hV21 (by omega)
    have k : nt_rn X _ 150 (74, [(1, .int (((Int32.ofInt 48) * (nI x)) + ((Int32.ofInt 4) * (nI cc)))), (0, .ref B)], [], me_w M (nt_u (nt_u J4 Cl (48 * x + 4 * cc + 1) (nI z1.2.2.2.1)) Cl (48 * x + 4 * cc + 2) (Int32.ofInt (-1)))) _ := k
    have k := ly_revb 2 (c' := (78, [(1, .int (((Int32.ofInt 48) * (nI x)) + ((Int32.ofInt 4) * (nI cc)))), (0, .ref B)], [.long (26982), .ref B], me_w M (nt_u (nt_u J4 Cl (48 * x + 4 * cc + 1) (nI z1.2.2.2.1)) Cl (48 * x + 4 * cc + 2) (Int32.ofInt (-1))))) rfl k
    obtain ⟨d1, o1, ed, kc, k⟩ := lz_c (g := 157) (q := 1) (vs := [.ref B, .long (26982)]) (rest := []) rfl rfl (by decide) (Or.inr (Or.inl ⟨_, rfl, rfl⟩)) rfl k
    have ht := mg_takes (mg_VP hP hO hK hK2 hV22) hV22.1 hq4 kc
    rw [hz4, lb_w_if] at ht
    have hz1t : z1.1 ≤ t := by rw [← hz4]; exact (lb_s_le (t - q4) q4 (by omega)).2
    rcases ht with ⟨hi, e1⟩ | ⟨hi, e1⟩
    · rw [lb_at_l hi] at e1
      subst e1
      have hV30 := mg_Vup hP hO hK hK2 hV22 (mg_Sq (y := z1.1 + (lb_W (nt_sp + 1 + 14)).length) (mg_VP hP hO hK hK2 hV22) hV22.1)
      have hp30 : z1.1 + (lb_W (nt_sp + 1 + 14)).length ≤ t := hi.1
      have k : nt_rn X _ 150 (81, [(1, .int (((Int32.ofInt 48) * (nI x)) + ((Int32.ofInt 4) * (nI cc)))), (0, .ref B)], [.int (Int32.ofInt 1)], me_w M (nt_u (nt_u (nt_u J4 Cl (48 * x + 4 * cc + 1) (nI z1.2.2.2.1)) Cl (48 * x + 4 * cc + 2) (Int32.ofInt (-1))) B 15 (nI (z1.1 + (lb_W (nt_sp + 1 + 14)).length)))) _ := k
      have k := ly_revb 1 (c' := (if (Int32.ofInt 1) = 0 then 110 else 84, [(1, .int (((Int32.ofInt 48) * (nI x)) + ((Int32.ofInt 4) * (nI cc)))), (0, .ref B)], [], me_w M (nt_u (nt_u (nt_u J4 Cl (48 * x + 4 * cc + 1) (nI z1.2.2.2.1)) Cl (48 * x + 4 * cc + 2) (Int32.ofInt (-1))) B 15 (nI (z1.1 + (lb_W (nt_sp + 1 + 14)).length))))) rfl k
      rw [if_neg (show ¬ ((Int32.ofInt 1) = 0) from by decide)] at k
      have k := ly_revb 1 (c' := (85, [(1, .int (((Int32.ofInt 48) * (nI x)) + ((Int32.ofInt 4) * (nI cc)))), (0, .ref B)], [.ref B], me_w M (nt_u (nt_u (nt_u J4 Cl (48 * x + 4 * cc + 1) (nI z1.2.2.2.1)) Cl (48 * x + 4 * cc + 2) (Int32.ofInt (-1))) B 15 (nI (z1.1 + (lb_W (nt_sp + 1 + 14)).length))))) rfl k
      have k := lz_get (a := B) (g := 1105) (M := me_w M (nt_u (nt_u (nt_u J4 Cl (48 * x + 4 * cc + 1) (nI z1.2.2.2.1)) Cl (48 * x + 4 * cc + 2) (Int32.ofInt (-1))) B 15 (nI (z1.1 + (lb_W (nt_sp + 1 + 14)).length)))) (v := .ref Cl) rfl (nt_gfR rfl hK.1) k
      have k := ly_revb 4 (c' := (92, [(1, .int (((Int32.ofInt 48) * (nI x)) + ((Int32.ofInt 4) * (nI cc)))), (0, .ref B)], [.ref B, .int ((((Int32.ofInt 48) * (nI x)) + ((Int32.ofInt 4) * (nI cc))) + (Int32.ofInt 2)), .ref Cl], me_w M (nt_u (nt_u (nt_u J4 Cl (48 * x + 4 * cc + 1) (nI z1.2.2.2.1)) Cl (48 * x + 4 * cc + 2) (Int32.ofInt (-1))) B 15 (nI (z1.1 + (lb_W (nt_sp + 1 + 14)).length))))) rfl k
      have k := lz_get (a := B) (g := 1104) (M := me_w M (nt_u (nt_u (nt_u J4 Cl (48 * x + 4 * cc + 1) (nI z1.2.2.2.1)) Cl (48 * x + 4 * cc + 2) (Int32.ofInt (-1))) B 15 (nI (z1.1 + (lb_W (nt_sp + 1 + 14)).length)))) (v := .ref Ln) rfl (nt_gfR rfl hP.1.2.2) k
      have k := ly_revb 1 (c' := (96, [(1, .int (((Int32.ofInt 48) * (nI x)) + ((Int32.ofInt 4) * (nI cc)))), (0, .ref B)], [.ref B, .ref Ln, .int ((((Int32.ofInt 48) * (nI x)) + ((Int32.ofInt 4) * (nI cc))) + (Int32.ofInt 2)), .ref Cl], me_w M (nt_u (nt_u (nt_u J4 Cl (48 * x + 4 * cc + 1) (nI z1.2.2.2.1)) Cl (48 * x + 4 * cc + 2) (Int32.ofInt (-1))) B 15 (nI (z1.1 + (lb_W (nt_sp + 1 + 14)).length))))) rfl k
      have k := lz_get (a := B) (g := 1118) (M := me_w M (nt_u (nt_u (nt_u J4 Cl (48 * x + 4 * cc + 1) (nI z1.2.2.2.1)) Cl (48 * x + 4 * cc + 2) (Int32.ofInt (-1))) B 15 (nI (z1.1 + (lb_W (nt_sp + 1 + 14)).length)))) (v := .int (nI x)) rfl (congrArg Value.int (mg_x (mg_VP hP hO hK hK2 hV30) hV30.1)) k
      have k := me_iald (q := x) (v := nI z1.2.2.2.1) rfl (hP.2.2.2.2.2.2.2.2.2) (rfl) (by omega) (hV30.1.2.2.2.1) k
      have k := me_iastx rfl k
      rw [show ((((Int32.ofInt 48) * (nI x)) + ((Int32.ofInt 4) * (nI cc))) + (Int32.ofInt 2)).toNatClampNeg = 48 * x + 4 * cc + 2 from mg_ix (r := 2) x6 c12 (by omega)] at k
      have hV31 := mg_Vcl (i := 48 * x + 4 * cc + 2) (v := nI z1.2.2.2.1) hP hO hK hK2 hV30 (by omega)
      have k : nt_rn X _ 150 (101, [(1, .int (((Int32.ofInt 48) * (nI x)) + ((Int32.ofInt 4) * (nI cc)))), (0, .ref B)], [], me_w M (nt_u (nt_u (nt_u (nt_u J4 Cl (48 * x + 4 * cc + 1) (nI z1.2.2.2.1)) Cl (48 * x + 4 * cc + 2) (Int32.ofInt (-1))) B 15 (nI (z1.1 + (lb_W (nt_sp + 1 + 14)).length))) Cl (48 * x + 4 * cc + 2) (nI z1.2.2.2.1))) _ := k
      have k := ly_revb 1 (c' := (102, [(1, .int (((Int32.ofInt 48) * (nI x)) + ((Int32.ofInt 4) * (nI cc)))), (0, .ref B)], [.ref B], me_w M (nt_u (nt_u (nt_u (nt_u J4 Cl (48 * x + 4 * cc + 1) (nI z1.2.2.2.1)) Cl (48 * x + 4 * cc + 2) (Int32.ofInt (-1))) B 15 (nI (z1.1 + (lb_W (nt_sp + 1 + 14)).length))) Cl (48 * x + 4 * cc + 2) (nI z1.2.2.2.1)))) rfl k
      obtain ⟨d1, o1, ed, kc, k⟩ := lz_c (g := 158) (q := 1) (vs := [.ref B]) (rest := []) rfl rfl (by decide) (Or.inr (Or.inl ⟨_, rfl, rfl⟩)) rfl k
      obtain ⟨r2, a2, J5, e1, ⟨k5, hk5⟩, hQ⟩ := mg_tested (e := z1.2.2) (mg_VP hP hO hK hK2 hV31) hO hB hV31.1 hp30 kc
      subst e1
      rcases r2 with c | z2
      · obtain ⟨hc, rfl, q5, m5, e5, d5, S5, hT5, hq5⟩ := hQ
        have hV9 := mg_Vte hP hO hK hK2 hV31 hT5
        have k : nt_rn X _ 150 (105, [(1, .int (((Int32.ofInt 48) * (nI x)) + ((Int32.ofInt 4) * (nI cc)))), (0, .ref B)], [.int (Int32.ofInt 0)], me_w M J5) _ := k
        have k := ly_revb 1 (c' := (if (Int32.ofInt 0) = 0 then 108 else 110, [(1, .int (((Int32.ofInt 48) * (nI x)) + ((Int32.ofInt 4) * (nI cc)))), (0, .ref B)], [], me_w M J5)) rfl k
        rw [if_pos (show (Int32.ofInt 0) = 0 from by decide)] at k
        have k := ly_revb 1 (c' := (109, [(1, .int (((Int32.ofInt 48) * (nI x)) + ((Int32.ofInt 4) * (nI cc)))), (0, .ref B)], [.int (Int32.ofInt 0)], me_w M J5)) rfl k
        have k := lz_ri rfl (by decide) k
        exact ⟨.inl c, _, _, k, ⟨_, hv1, Or.inr ⟨z1, rfl, Or.inl ⟨hi, k5, _, hk5, Or.inl ⟨c, rfl, rfl⟩⟩⟩⟩, hc, rfl, _, _, _, _, _, _, hV9, hq5⟩
      · obtain ⟨rfl, q5, d5, S5, hz5, hq5, hT5⟩ := hQ
        have hV40 := mg_Vte hP hO hK hK2 hV31 hT5
        have k : nt_rn X _ 150 (105, [(1, .int (((Int32.ofInt 48) * (nI x)) + ((Int32.ofInt 4) * (nI cc)))), (0, .ref B)], [.int (Int32.ofInt 1)], me_w M J5) _ := k
        have k := ly_revb 1 (c' := (if (Int32.ofInt 1) = 0 then 108 else 110, [(1, .int (((Int32.ofInt 48) * (nI x)) + ((Int32.ofInt 4) * (nI cc)))), (0, .ref B)], [], me_w M J5)) rfl k
        rw [if_neg (show ¬ ((Int32.ofInt 1) = 0) from by decide)] at k
        have k := ly_revb 1 (c' := (111, [(1, .int (((Int32.ofInt 48) * (nI x)) + ((Int32.ofInt 4) * (nI cc)))), (0, .ref B)], [.ref B], me_w M J5)) rfl k
        have k := lz_get (a := B) (g := 1105) (M := me_w M J5) (v := .ref Cl) rfl (nt_gfR rfl hK.1) k
        have k := ly_revb 4 (c' := (118, [(1, .int (((Int32.ofInt 48) * (nI x)) + ((Int32.ofInt 4) * (nI cc)))), (0, .ref B)], [.ref B, .int ((((Int32.ofInt 48) * (nI x)) + ((Int32.ofInt 4) * (nI cc))) + (Int32.ofInt 3)), .ref Cl], me_w M J5)) rfl k
        have k := lz_get (a := B) (g := 1104) (M := me_w M J5) (v := .ref Ln) rfl (nt_gfR rfl hP.1.2.2) k
        have k := ly_revb 1 (c' := (122, [(1, .int (((Int32.ofInt 48) * (nI x)) + ((Int32.ofInt 4) * (nI cc)))), (0, .ref B)], [.ref B, .ref Ln, .int ((((Int32.ofInt 48) * (nI x)) + ((Int32.ofInt 4) * (nI cc))) + (Int32.ofInt 3)), .ref Cl], me_w M J5)) rfl k
        have k := lz_get (a := B) (g := 1118) (M := me_w M J5) (v := .int (nI x)) rfl (congrArg Value.int (mg_x (mg_VP hP hO hK hK2 hV40) hV40.1)) k
        have k := me_iald (q := x) (v := nI z2.2.2.2.1) rfl (hP.2.2.2.2.2.2.2.2.2) (rfl) (by omega) (hV40.1.2.2.2.1) k
        have k := me_iastx rfl k
        rw [show ((((Int32.ofInt 48) * (nI x)) + ((Int32.ofInt 4) * (nI cc))) + (Int32.ofInt 3)).toNatClampNeg = 48 * x + 4 * cc + 3 from mg_ix (r := 3) x6 c12 (by omega)] at k
        have hV41 := mg_Vcl (i := 48 * x + 4 * cc + 3) (v := nI z2.2.2.2.1) hP hO hK hK2 hV40 (by omega)
        have k : nt_rn X _ 150 (127, [(1, .int (((Int32.ofInt 48) * (nI x)) + ((Int32.ofInt 4) * (nI cc)))), (0, .ref B)], [], me_w M (nt_u J5 Cl (48 * x + 4 * cc + 3) (nI z2.2.2.2.1))) _ := k
        have k := ly_revb 1 (c' := (128, [(1, .int (((Int32.ofInt 48) * (nI x)) + ((Int32.ofInt 4) * (nI cc)))), (0, .ref B)], [.ref B], me_w M (nt_u J5 Cl (48 * x + 4 * cc + 3) (nI z2.2.2.2.1)))) rfl k
        have k := lz_get (a := B) (g := 1106) (M := me_w M (nt_u J5 Cl (48 * x + 4 * cc + 3) (nI z2.2.2.2.1))) (v := .ref Cs) rfl (nt_gfR rfl hK.2.1) k
        have k := ly_revb 1 (c' := (132, [(1, .int (((Int32.ofInt 48) * (nI x)) + ((Int32.ofInt 4) * (nI cc)))), (0, .ref B)], [.ref B, .ref Cs], me_w M (nt_u J5 Cl (48 * x + 4 * cc + 3) (nI z2.2.2.2.1)))) rfl k
        have k := lz_get (a := B) (g := 1118) (M := me_w M (nt_u J5 Cl (48 * x + 4 * cc + 3) (nI z2.2.2.2.1))) (v := .int (nI x)) rfl (congrArg Value.int (mg_x (mg_VP hP hO hK hK2 hV41) hV41.1)) k
        have k := ly_revb 1 (c' := (136, [(1, .int (((Int32.ofInt 48) * (nI x)) + ((Int32.ofInt 4) * (nI cc)))), (0, .ref B)], [.int (nI x), .ref Cs, .int (nI x), .ref Cs], me_w M (nt_u J5 Cl (48 * x + 4 * cc + 3) (nI z2.2.2.2.1)))) rfl k
        have k := me_iald (q := x) (v := nI cc) rfl (hK.2.2.2.2.2) (rfl) (by omega) (hV41.2.2.2.2.2.1) k
        have k := ly_revb 2 (c' := (139, [(1, .int (((Int32.ofInt 48) * (nI x)) + ((Int32.ofInt 4) * (nI cc)))), (0, .ref B)], [.int ((nI cc) + (Int32.ofInt 1)), .int (nI x), .ref Cs], me_w M (nt_u J5 Cl (48 * x + 4 * cc + 3) (nI z2.2.2.2.1)))) rfl k
        rw [show ((nI cc) + (Int32.ofInt 1) : Int32) = nI (cc + 1) from me_add (k := 1)] at k
        have k := me_iastx rfl k
        rw [nI_clamp (show x < 2 ^ 31 by omega)] at k
        have hV42 := mg_Vcs hP hO hK hK2 hV41 hcc
        have k : nt_rn X _ 150 (140, [(1, .int (((Int32.ofInt 48) * (nI x)) + ((Int32.ofInt 4) * (nI cc)))), (0, .ref B)], [], me_w M (nt_u (nt_u J5 Cl (48 * x + 4 * cc + 3) (nI z2.2.2.2.1)) Cs x (nI (cc + 1)))) _ := k
        have k := ly_revb 1 (c' := (141, [(1, .int (((Int32.ofInt 48) * (nI x)) + ((Int32.ofInt 4) * (nI cc)))), (0, .ref B)], [.int (Int32.ofInt 1)], me_w M (nt_u (nt_u J5 Cl (48 * x + 4 * cc + 3) (nI z2.2.2.2.1)) Cs x (nI (cc + 1))))) rfl k
        have k := lz_ri rfl (by decide) k
        refine ⟨.inr (z2.1, z2.2.1, (lb_e z2.2.2.1 (Int32.ofInt 23), z2.2.2.2)), _, _, k, ⟨_, hv1, Or.inr ⟨z1, rfl, Or.inl ⟨hi, k5, _, hk5, Or.inr ⟨z2, rfl, rfl⟩⟩⟩⟩, rfl, q5, _, hz5, hq5, hV42, z1, hv1, Or.inl ⟨hi, k5, _, hk5, Or.inr ⟨z2, rfl, rfl⟩⟩, ?_, ?_, ?_, ?_, fun j hj => ?_⟩
        · exact (if_neg (by omega)).trans ((if_neg (by omega)).trans ((if_neg (by omega)).trans ((if_neg (by omega)).trans (if_pos rfl))))
        · exact (if_neg (by omega)).trans ((if_neg (by omega)).trans ((if_neg (by omega)).trans (if_pos rfl)))
        · exact ((if_neg (by omega)).trans (if_pos rfl)).trans (if_pos hi).symm
        · exact if_pos rfl
        · exact (if_neg (by omega)).trans ((if_neg (by omega)).trans ((if_neg (by omega)).trans ((if_neg (by omega)).trans (if_neg (by omega)))))
    · subst e1
      have hV30 := mg_Vup hP hO hK hK2 hV22 (mg_Sq (y := z1.1) (mg_VP hP hO hK hK2 hV22) hV22.1)
      have k : nt_rn X _ 150 (81, [(1, .int (((Int32.ofInt 48) * (nI x)) + ((Int32.ofInt 4) * (nI cc)))), (0, .ref B)], [.int (Int32.ofInt 0)], me_w M (nt_u (nt_u (nt_u J4 Cl (48 * x + 4 * cc + 1) (nI z1.2.2.2.1)) Cl (48 * x + 4 * cc + 2) (Int32.ofInt (-1))) B 15 (nI z1.1))) _ := k
      have k := ly_revb 1 (c' := (if (Int32.ofInt 0) = 0 then 110 else 84, [(1, .int (((Int32.ofInt 48) * (nI x)) + ((Int32.ofInt 4) * (nI cc)))), (0, .ref B)], [], me_w M (nt_u (nt_u (nt_u J4 Cl (48 * x + 4 * cc + 1) (nI z1.2.2.2.1)) Cl (48 * x + 4 * cc + 2) (Int32.ofInt (-1))) B 15 (nI z1.1)))) rfl k
      rw [if_pos (show (Int32.ofInt 0) = 0 from by decide)] at k
      have k := ly_revb 1 (c' := (111, [(1, .int (((Int32.ofInt 48) * (nI x)) + ((Int32.ofInt 4) * (nI cc)))), (0, .ref B)], [.ref B], me_w M (nt_u (nt_u (nt_u J4 Cl (48 * x + 4 * cc + 1) (nI z1.2.2.2.1)) Cl (48 * x + 4 * cc + 2) (Int32.ofInt (-1))) B 15 (nI z1.1)))) rfl k
      have k := lz_get (a := B) (g := 1105) (M := me_w M (nt_u (nt_u (nt_u J4 Cl (48 * x + 4 * cc + 1) (nI z1.2.2.2.1)) Cl (48 * x + 4 * cc + 2) (Int32.ofInt (-1))) B 15 (nI z1.1))) (v := .ref Cl) rfl (nt_gfR rfl hK.1) k
      have k := ly_revb 4 (c' := (118, [(1, .int (((Int32.ofInt 48) * (nI x)) + ((Int32.ofInt 4) * (nI cc)))), (0, .ref B)], [.ref B, .int ((((Int32.ofInt 48) * (nI x)) + ((Int32.ofInt 4) * (nI cc))) + (Int32.ofInt 3)), .ref Cl], me_w M (nt_u (nt_u (nt_u J4 Cl (48 * x + 4 * cc + 1) (nI z1.2.2.2.1)) Cl (48 * x + 4 * cc + 2) (Int32.ofInt (-1))) B 15 (nI z1.1)))) rfl k
      have k := lz_get (a := B) (g := 1104) (M := me_w M (nt_u (nt_u (nt_u J4 Cl (48 * x + 4 * cc + 1) (nI z1.2.2.2.1)) Cl (48 * x + 4 * cc + 2) (Int32.ofInt (-1))) B 15 (nI z1.1))) (v := .ref Ln) rfl (nt_gfR rfl hP.1.2.2) k
      have k := ly_revb 1 (c' := (122, [(1, .int (((Int32.ofInt 48) * (nI x)) + ((Int32.ofInt 4) * (nI cc)))), (0, .ref B)], [.ref B, .ref Ln, .int ((((Int32.ofInt 48) * (nI x)) + ((Int32.ofInt 4) * (nI cc))) + (Int32.ofInt 3)), .ref Cl], me_w M (nt_u (nt_u (nt_u J4 Cl (48 * x + 4 * cc + 1) (nI z1.2.2.2.1)) Cl (48 * x + 4 * cc + 2) (Int32.ofInt (-1))) B 15 (nI z1.1)))) rfl k
      have k := lz_get (a := B) (g := 1118) (M := me_w M (nt_u (nt_u (nt_u J4 Cl (48 * x + 4 * cc + 1) (nI z1.2.2.2.1)) Cl (48 * x + 4 * cc + 2) (Int32.ofInt (-1))) B 15 (nI z1.1))) (v := .int (nI x)) rfl (congrArg Value.int (mg_x (mg_VP hP hO hK hK2 hV30) hV30.1)) k
      have k := me_iald (q := x) (v := nI z1.2.2.2.1) rfl (hP.2.2.2.2.2.2.2.2.2) (rfl) (by omega) (hV30.1.2.2.2.1) k
      have k := me_iastx rfl k
      rw [show ((((Int32.ofInt 48) * (nI x)) + ((Int32.ofInt 4) * (nI cc))) + (Int32.ofInt 3)).toNatClampNeg = 48 * x + 4 * cc + 3 from mg_ix (r := 3) x6 c12 (by omega)] at k
      have hV31 := mg_Vcl (i := 48 * x + 4 * cc + 3) (v := nI z1.2.2.2.1) hP hO hK hK2 hV30 (by omega)
      have k : nt_rn X _ 150 (127, [(1, .int (((Int32.ofInt 48) * (nI x)) + ((Int32.ofInt 4) * (nI cc)))), (0, .ref B)], [], me_w M (nt_u (nt_u (nt_u (nt_u J4 Cl (48 * x + 4 * cc + 1) (nI z1.2.2.2.1)) Cl (48 * x + 4 * cc + 2) (Int32.ofInt (-1))) B 15 (nI z1.1)) Cl (48 * x + 4 * cc + 3) (nI z1.2.2.2.1))) _ := k
      have k := ly_revb 1 (c' := (128, [(1, .int (((Int32.ofInt 48) * (nI x)) + ((Int32.ofInt 4) * (nI cc)))), (0, .ref B)], [.ref B], me_w M (nt_u (nt_u (nt_u (nt_u J4 Cl (48 * x + 4 * cc + 1) (nI z1.2.2.2.1)) Cl (48 * x + 4 * cc + 2) (Int32.ofInt (-1))) B 15 (nI z1.1)) Cl (48 * x + 4 * cc + 3) (nI z1.2.2.2.1)))) rfl k
      have k := lz_get (a := B) (g := 1106) (M := me_w M (nt_u (nt_u (nt_u (nt_u J4 Cl (48 * x + 4 * cc + 1) (nI z1.2.2.2.1)) Cl (48 * x + 4 * cc + 2) (Int32.ofInt (-1))) B 15 (nI z1.1)) Cl (48 * x + 4 * cc + 3) (nI z1.2.2.2.1))) (v := .ref Cs) rfl (nt_gfR rfl hK.2.1) k
      have k := ly_revb 1 (c' := (132, [(1, .int (((Int32.ofInt 48) * (nI x)) + ((Int32.ofInt 4) * (nI cc)))), (0, .ref B)], [.ref B, .ref Cs], me_w M (nt_u (nt_u (nt_u (nt_u J4 Cl (48 * x + 4 * cc + 1) (nI z1.2.2.2.1)) Cl (48 * x + 4 * cc + 2) (Int32.ofInt (-1))) B 15 (nI z1.1)) Cl (48 * x + 4 * cc + 3) (nI z1.2.2.2.1)))) rfl k
      have k := lz_get (a := B) (g := 1118) (M := me_w M (nt_u (nt_u (nt_u (nt_u J4 Cl (48 * x + 4 * cc + 1) (nI z1.2.2.2.1)) Cl (48 * x + 4 * cc + 2) (Int32.ofInt (-1))) B 15 (nI z1.1)) Cl (48 * x + 4 * cc + 3) (nI z1.2.2.2.1))) (v := .int (nI x)) rfl (congrArg Value.int (mg_x (mg_VP hP hO hK hK2 hV31) hV31.1)) k
      have k := ly_revb 1 (c' := (136, [(1, .int (((Int32.ofInt 48) * (nI x)) + ((Int32.ofInt 4) * (nI cc)))), (0, .ref B)], [.int (nI x), .ref Cs, .int (nI x), .ref Cs], me_w M (nt_u (nt_u (nt_u (nt_u J4 Cl (48 * x + 4 * cc + 1) (nI z1.2.2.2.1)) Cl (48 * x + 4 * cc + 2) (Int32.ofInt (-1))) B 15 (nI z1.1)) Cl (48 * x + 4 * cc + 3) (nI z1.2.2.2.1)))) rfl k
      have k := me_iald (q := x) (v := nI cc) rfl (hK.2.2.2.2.2) (rfl) (by omega) (hV31.2.2.2.2.2.1) k
      have k := ly_revb 2 (c' := (139, [(1, .int (((Int32.ofInt 48) * (nI x)) + ((Int32.ofInt 4) * (nI cc)))), (0, .ref B)], [.int ((nI cc) + (Int32.ofInt 1)), .int (nI x), .ref Cs], me_w M (nt_u (nt_u (nt_u (nt_u J4 Cl (48 * x + 4 * cc + 1) (nI z1.2.2.2.1)) Cl (48 * x + 4 * cc + 2) (Int32.ofInt (-1))) B 15 (nI z1.1)) Cl (48 * x + 4 * cc + 3) (nI z1.2.2.2.1)))) rfl k
      rw [show ((nI cc) + (Int32.ofInt 1) : Int32) = nI (cc + 1) from me_add (k := 1)] at k
      have k := me_iastx rfl k
      rw [nI_clamp (show x < 2 ^ 31 by omega)] at k
      have hV32 := mg_Vcs hP hO hK hK2 hV31 hcc
      have k : nt_rn X _ 150 (140, [(1, .int (((Int32.ofInt 48) * (nI x)) + ((Int32.ofInt 4) * (nI cc)))), (0, .ref B)], [], me_w M (nt_u (nt_u (nt_u (nt_u (nt_u J4 Cl (48 * x + 4 * cc + 1) (nI z1.2.2.2.1)) Cl (48 * x + 4 * cc + 2) (Int32.ofInt (-1))) B 15 (nI z1.1)) Cl (48 * x + 4 * cc + 3) (nI z1.2.2.2.1)) Cs x (nI (cc + 1)))) _ := k
      have k := ly_revb 1 (c' := (141, [(1, .int (((Int32.ofInt 48) * (nI x)) + ((Int32.ofInt 4) * (nI cc)))), (0, .ref B)], [.int (Int32.ofInt 1)], me_w M (nt_u (nt_u (nt_u (nt_u (nt_u J4 Cl (48 * x + 4 * cc + 1) (nI z1.2.2.2.1)) Cl (48 * x + 4 * cc + 2) (Int32.ofInt (-1))) B 15 (nI z1.1)) Cl (48 * x + 4 * cc + 3) (nI z1.2.2.2.1)) Cs x (nI (cc + 1))))) rfl k
      have k := lz_ri rfl (by decide) k
      refine ⟨.inr (z1.1, z1.2.1, (lb_e z1.2.2.1 (Int32.ofInt 22), z1.2.2.2)), _, _, k, ⟨_, hv1, Or.inr ⟨z1, rfl, Or.inr ⟨hi, rfl⟩⟩⟩, rfl, z1.1, _, by rw [← hz4]; exact lb_ss hq4, hz1t, hV32, z1, hv1, Or.inr ⟨hi, rfl⟩, ?_, ?_, ?_, ?_, fun j hj => ?_⟩
      · exact (if_neg (by omega)).trans ((if_neg (by omega)).trans ((if_neg (by omega)).trans (if_pos rfl)))
      · exact (if_neg (by omega)).trans ((if_neg (by omega)).trans (if_pos rfl))
      · exact ((if_neg (by omega)).trans (if_pos rfl)).trans (if_neg hi).symm
      · exact if_pos rfl
      · exact (if_neg (by omega)).trans ((if_neg (by omega)).trans ((if_neg (by omega)).trans (if_neg (by omega))))
theorem mg_clause {G : Nat → Int32} {X : nt_X} {d t x B Tb Sg Ln Op Cl Cs q m li : Nat} {f : Nat → Int32} {M : nt_M} {J0 J : Nat → Nat → Int32} {o : Option Value × nt_M} {e : lb_E} {cl : Nat → Int32} {cc : Nat} (hP : md_P M J0 f t x B Tb Sg Ln) (hO : md_O M B Tb Sg Ln Op) (hK : md_K M B Tb Sg Ln Cl Cs) (hK2 : mg_K2 Op Cl Cs) (hB : lb_by f t) (hV : mg_V G J0 B Sg Ln Op Cl Cs x q 0 m e.2 li cl cc J) (hcl : cc = li) (hx : x < 6) (hp : q ≤ t) (k : nt_ev X d 135 [.ref B] (me_w M J) o) : ∃ r a J', o = (some (.int a), me_w M J') ∧ lb_c1 f t li (lb_s f t q, m, e) r ∧ mg_QV G J0 B Sg Ln Op Cl Cs x t (lb_s f t q, m, e) cl cc (li + 1) f r a J' := by
  have k : nt_rn X d 135 (0, [(0, .ref B)], [], me_w M J) o := k
  have t4 : t ≤ 400 := hP.2.2.2.2.2.1
  have l12 : li ≤ 12 := hV.2.2.2.1
  have k := ly_revb 1 (c' := (1, [(0, .ref B)], [.ref B], me_w M J)) rfl k
  obtain ⟨d1, o1, ed, kc, k⟩ := lz_c (g := 136) (q := 1) (vs := [.ref B]) (rest := []) rfl rfl (by decide) (Or.inr (Or.inl ⟨_, rfl, rfl⟩)) rfl k
  have e1 := mg_see (mg_VP hP hO hK hK2 hV) hV.1 hp kc
  subst e1
  have hV1 := mg_Vup hP hO hK hK2 hV (mg_Sq (y := lb_s f t q) (mg_VP hP hO hK hK2 hV) hV.1)
  have hp1 : lb_s f t q ≤ t := (lb_s_le (t - q) q (by omega)).2
  have hss : lb_s f t (lb_s f t q) = lb_s f t q := lb_ss hp
  have k : nt_rn X _ 135 (4, [(0, .ref B)], [.int (lb_g f t (lb_s f t q))], me_w M (nt_u J B 15 (nI (lb_s f t q)))) _ := k
  have k := ly_revb 2 (c' := (6, [(0, .ref B)], [.ref B], me_w M (nt_u J B 15 (nI (lb_s f t q))))) rfl k
  have k := lz_get (a := B) (g := 1115) (M := me_w M (nt_u J B 15 (nI (lb_s f t q)))) (v := .int (nI (lb_s f t q))) rfl (congrArg Value.int (hV1.1.1)) k
  have k := ly_revb 2 (c' := (11, [(1, .int (nI (lb_s f t q))), (0, .ref B)], [.ref B], me_w M (nt_u J B 15 (nI (lb_s f t q))))) rfl k
  have k := lz_get (a := B) (g := 1118) (M := me_w M (nt_u J B 15 (nI (lb_s f t q)))) (v := .int (nI x)) rfl (congrArg Value.int (mg_x (mg_VP hP hO hK hK2 hV1) hV1.1)) k
  have k := ly_revb 2 (c' := (if (nI x) = (Int32.ofInt 6) then 19 else 23, [(1, .int (nI (lb_s f t q))), (0, .ref B)], [], me_w M (nt_u J B 15 (nI (lb_s f t q))))) rfl k
  rw [if_neg (show ¬ ((nI x) = (Int32.ofInt 6)) from me_ne (a := x) (b := 6) (by omega) (by omega) (by omega))] at k
  have k := ly_revb 4 (c' := (if (Int32.ofInt 0) = 0 then 87 else 29, [(2, .int (Int32.ofInt 0)), (1, .int (nI (lb_s f t q))), (0, .ref B)], [], me_w M (nt_u J B 15 (nI (lb_s f t q))))) rfl k
  rw [if_pos (show (Int32.ofInt 0) = 0 from by decide)] at k
  have k := ly_revb 2 (c' := (91, [(2, .int (Int32.ofInt 0)), (1, .int (nI (lb_s f t q))), (0, .ref B)], [.long (1952541541), .ref B], me_w M (nt_u J B 15 (nI (lb_s f t q))))) rfl k
  obtain ⟨d1, o1, ed, kc, k⟩ := lz_c (g := 137) (q := 1) (vs := [.ref B, .long (1952541541)]) (rest := []) rfl rfl (by decide) (Or.inr (Or.inl ⟨_, rfl, rfl⟩)) rfl k
  obtain ⟨r, e1, hr⟩ := mg_isWord (mg_VP hP hO hK hK2 hV1) hV1.1 hp1 kc
  rw [hss, me_uu] at e1
  rw [hss, lb_w_take] at hr
  subst e1
  rcases hr with ⟨rfl, hr⟩ | ⟨rfl, hr⟩
  · have k : nt_rn X _ 135 (94, [(2, .int (Int32.ofInt 0)), (1, .int (nI (lb_s f t q))), (0, .ref B)], [.int (Int32.ofInt 1)], me_w M (nt_u J B 15 (nI (lb_s f t q)))) _ := k
    have k := ly_revb 3 (c' := (if (Int32.ofInt 1) = 0 then 99 else 106, [(3, .int (Int32.ofInt 1)), (2, .int (Int32.ofInt 0)), (1, .int (nI (lb_s f t q))), (0, .ref B)], [], me_w M (nt_u J B 15 (nI (lb_s f t q))))) rfl k
    rw [if_neg (show ¬ ((Int32.ofInt 1) = 0) from by decide)] at k
    have k := ly_revb 1 (c' := (107, [(3, .int (Int32.ofInt 1)), (2, .int (Int32.ofInt 0)), (1, .int (nI (lb_s f t q))), (0, .ref B)], [.ref B], me_w M (nt_u J B 15 (nI (lb_s f t q))))) rfl k
    have k := lz_get (a := B) (g := 1121) (M := me_w M (nt_u J B 15 (nI (lb_s f t q)))) (v := .int (nI li)) rfl (congrArg Value.int (hV1.2.2.1)) k
    have k := ly_revb 2 (c' := (if (Int32.ofInt 0) = 0 then 119 else 114, [(3, .int (Int32.ofInt 1)), (2, .int (Int32.ofInt 0)), (1, .int (nI (lb_s f t q))), (0, .ref B)], [.int (nI li)], me_w M (nt_u J B 15 (nI (lb_s f t q))))) rfl k
    rw [if_pos (show (Int32.ofInt 0) = 0 from by decide)] at k
    have k := ly_revb 2 (c' := (if (nI li) = (Int32.ofInt 12) then 124 else 131, [(3, .int (Int32.ofInt 1)), (2, .int (Int32.ofInt 0)), (1, .int (nI (lb_s f t q))), (0, .ref B)], [], me_w M (nt_u J B 15 (nI (lb_s f t q))))) rfl k
    by_cases h121 : li = 12
    · rw [if_pos (show (nI li) = (Int32.ofInt 12) from show nI li = nI 12 from congrArg nI h121)] at k
      have k := ly_revb 3 (c' := (127, [(3, .int (Int32.ofInt 1)), (2, .int (Int32.ofInt 0)), (1, .int (nI (lb_s f t q))), (0, .ref B)], [.int (nI (lb_s f t q)), .int (Int32.ofInt 4), .ref B], me_w M (nt_u J B 15 (nI (lb_s f t q))))) rfl k
      obtain ⟨d1, o1, ed, kc, k⟩ := lz_c (g := 139) (q := 1) (vs := [.ref B, .int (Int32.ofInt 4), .int (nI (lb_s f t q))]) (rest := []) rfl rfl (by decide) (Or.inr (Or.inl ⟨_, rfl, rfl⟩)) rfl k
      obtain ⟨hf, e1⟩ := (mg_fails (a := lb_s f t q) (mg_VP hP hO hK hK2 hV1) hV1.1 hp1 kc).resolve_right (fun c => c.1 rfl)
      subst e1
      have hV9 := mg_Vup hP hO hK hK2 hV1 (mg_Sw (y := lb_c (lb_s f t q) (Int32.ofInt 4)) (mg_VP hP hO hK hK2 hV1) hV1.1)
      have k : nt_rn X _ 135 (130, [(3, .int (Int32.ofInt 1)), (2, .int (Int32.ofInt 0)), (1, .int (nI (lb_s f t q))), (0, .ref B)], [.int (Int32.ofInt 0)], me_w M (nt_u (nt_u J B 15 (nI (lb_s f t q))) B 16 (lb_c (lb_s f t q) (Int32.ofInt 4)))) _ := k
      have k := lz_ri rfl (by decide) k
      exact ⟨.inl (lb_c (lb_s f t q) (Int32.ofInt 4)), _, _, k, Or.inr (Or.inl ⟨hr, h121, rfl⟩), (lb_c_ne (by omega) (by decide) (by decide)), rfl, _, _, _, _, _, _, hV9, hp1⟩
    · rw [if_neg (show ¬ ((nI li) = (Int32.ofInt 12)) from show ¬ nI li = nI 12 from me_ne h121 (by omega) (by omega))] at k
      have k := ly_revb 2 (c' := (133, [(3, .int (Int32.ofInt 1)), (2, .int (Int32.ofInt 0)), (1, .int (nI (lb_s f t q))), (0, .ref B)], [.ref B, .ref B], me_w M (nt_u J B 15 (nI (lb_s f t q))))) rfl k
      have k := lz_get (a := B) (g := 1121) (M := me_w M (nt_u J B 15 (nI (lb_s f t q)))) (v := .int (nI li)) rfl (congrArg Value.int (hV1.2.2.1)) k
      have k := ly_revb 2 (c' := (138, [(3, .int (Int32.ofInt 1)), (2, .int (Int32.ofInt 0)), (1, .int (nI (lb_s f t q))), (0, .ref B)], [.int ((nI li) + (Int32.ofInt 1)), .ref B], me_w M (nt_u J B 15 (nI (lb_s f t q))))) rfl k
      rw [show ((nI li) + (Int32.ofInt 1) : Int32) = nI (li + 1) from me_add (k := 1)] at k
      have k := me_put rfl (by decide) k
      have k : nt_rn X _ 135 (141, [(3, .int (Int32.ofInt 1)), (2, .int (Int32.ofInt 0)), (1, .int (nI (lb_s f t q))), (0, .ref B)], [], me_w M (nt_u (nt_u J B 15 (nI (lb_s f t q))) B 21 (nI (li + 1)))) _ := k
      have hV2 := mg_Vli (y := li + 1) hP hO hK hK2 hV1 (by omega)
      have k := ly_revb 2 (c' := (if (Int32.ofInt 0) = 0 then 153 else 145, [(3, .int (Int32.ofInt 1)), (2, .int (Int32.ofInt 0)), (1, .int (nI (lb_s f t q))), (0, .ref B)], [], me_w M (nt_u (nt_u J B 15 (nI (lb_s f t q))) B 21 (nI (li + 1))))) rfl k
      rw [if_pos (show (Int32.ofInt 0) = 0 from by decide)] at k
      have k := ly_revb 1 (c' := (154, [(3, .int (Int32.ofInt 1)), (2, .int (Int32.ofInt 0)), (1, .int (nI (lb_s f t q))), (0, .ref B)], [.ref B], me_w M (nt_u (nt_u J B 15 (nI (lb_s f t q))) B 21 (nI (li + 1))))) rfl k
      obtain ⟨d1, o1, ed, kc, k⟩ := lz_c (g := 150) (q := 1) (vs := [.ref B]) (rest := []) rfl rfl (by decide) (Or.inr (Or.inl ⟨_, rfl, rfl⟩)) rfl k
      obtain ⟨r3, a3, J3, e1, htk, hQ⟩ := mg_take (e := e) hP hO hK hK2 hB hV2 (by omega) hp1 hr kc
      subst e1
      have k : nt_rn X _ 135 (157, [(3, .int (Int32.ofInt 1)), (2, .int (Int32.ofInt 0)), (1, .int (nI (lb_s f t q))), (0, .ref B)], [.int (a3)], me_w M J3) _ := k
      have k := lz_ri rfl (by decide) k
      exact ⟨r3, _, _, k, Or.inr (Or.inr ⟨hr, by omega, htk⟩), hQ⟩
  · have k : nt_rn X _ 135 (94, [(2, .int (Int32.ofInt 0)), (1, .int (nI (lb_s f t q))), (0, .ref B)], [.int (Int32.ofInt 0)], me_w M (nt_u J B 15 (nI (lb_s f t q)))) _ := k
    have k := ly_revb 3 (c' := (if (Int32.ofInt 0) = 0 then 99 else 106, [(3, .int (Int32.ofInt 0)), (2, .int (Int32.ofInt 0)), (1, .int (nI (lb_s f t q))), (0, .ref B)], [], me_w M (nt_u J B 15 (nI (lb_s f t q))))) rfl k
    rw [if_pos (show (Int32.ofInt 0) = 0 from by decide)] at k
    have k := ly_revb 3 (c' := (102, [(3, .int (Int32.ofInt 0)), (2, .int (Int32.ofInt 0)), (1, .int (nI (lb_s f t q))), (0, .ref B)], [.int (nI (lb_s f t q)), .int (Int32.ofInt 0), .ref B], me_w M (nt_u J B 15 (nI (lb_s f t q))))) rfl k
    obtain ⟨d1, o1, ed, kc, k⟩ := lz_c (g := 139) (q := 1) (vs := [.ref B, .int (Int32.ofInt 0), .int (nI (lb_s f t q))]) (rest := []) rfl rfl (by decide) (Or.inr (Or.inl ⟨_, rfl, rfl⟩)) rfl k
    obtain ⟨hf, e1⟩ := (mg_fails (a := lb_s f t q) (mg_VP hP hO hK hK2 hV1) hV1.1 hp1 kc).resolve_right (fun c => c.1 rfl)
    subst e1
    have hV9 := mg_Vup hP hO hK hK2 hV1 (mg_Sw (y := lb_c (lb_s f t q) (Int32.ofInt 0)) (mg_VP hP hO hK hK2 hV1) hV1.1)
    have k : nt_rn X _ 135 (105, [(3, .int (Int32.ofInt 0)), (2, .int (Int32.ofInt 0)), (1, .int (nI (lb_s f t q))), (0, .ref B)], [.int (Int32.ofInt 0)], me_w M (nt_u (nt_u J B 15 (nI (lb_s f t q))) B 16 (lb_c (lb_s f t q) (Int32.ofInt 0)))) _ := k
    have k := lz_ri rfl (by decide) k
    exact ⟨.inl (lb_c (lb_s f t q) (Int32.ofInt 0)), _, _, k, Or.inl ⟨hr, rfl⟩, (lb_c_ne (by omega) (by decide) (by decide)), rfl, _, _, _, _, _, _, hV9, hp1⟩
def mg_c1 (f : Nat → Int32) (t x i : Nat) (z : lb_Z) (r : lb_Y) (cl : Nat → Int32) (cc : Nat) (cl' : Nat → Int32) (cc' : Nat) : Prop := lb_c1 f t i z r ∧ ∀ z', r = .inr z' → cc' = cc + 1 ∧ mg_D f t x z cl cc z' cl'
def mg_c2 (f : Nat → Int32) (t x : Nat) : Nat → Nat → lb_Z → lb_Y → (Nat → Int32) → Nat → (Nat → Int32) → Nat → Prop
  | 0, _, _, _, _, _, _, _ => False
  | k + 1, i, z, r, cl, cc, cl', cc' => (lb_g f t z.1 = Int32.ofInt 59 ∧ ∃ r1 cl1 cc1, mg_c1 f t x i (lb_s f t (z.1 + 1), z.2.1, z.2.2) r1 cl cc cl1 cc1 ∧ lb_th r1 r (fun z1 => mg_c2 f t x k (i + 1) z1 r cl1 cc1 cl' cc')) ∨ (lb_g f t z.1 = Int32.ofInt (-1) ∧ r = .inr z ∧ cl' = cl ∧ cc' = cc) ∨ (¬ lb_g f t z.1 = Int32.ofInt 59 ∧ ¬ lb_g f t z.1 = Int32.ofInt (-1) ∧ r = .inl (lb_c z.1 (Int32.ofInt 0)))
def mg_c3 (f : Nat → Int32) (t x : Nat) (z : lb_Z) (r : lb_Y) (cl : Nat → Int32) (cl' : Nat → Int32) (cc' : Nat) : Prop := ∃ r1 cl1 cc1, mg_c1 f t x 0 z r1 cl 0 cl1 cc1 ∧ lb_th r1 r (fun z1 => ∃ k, mg_c2 f t x k 1 z1 r cl1 cc1 cl' cc')
theorem mg_rdl {G : Nat → Int32} {X : nt_X} {d t x B Tb Sg Ln Op Cl Cs : Nat} {f : Nat → Int32} {M : nt_M} {J0 : Nat → Nat → Int32} {o : Option Value × nt_M} (hP : md_P M J0 f t x B Tb Sg Ln) (hO : md_O M B Tb Sg Ln Op) (hK : md_K M B Tb Sg Ln Cl Cs) (hK2 : mg_K2 Op Cl Cs) (hB : lb_by f t) (hx : x < 6) : ∀ (c q m : Nat) (e : lb_E) (li : Nat) (cl : Nat → Int32) (cc : Nat) (J : Nat → Nat → Int32), 12 - li < c → mg_V G J0 B Sg Ln Op Cl Cs x q 0 m e.2 li cl cc J → cc = li → q ≤ t → nt_rn X d 134 (35, [(1, .int (Int32.ofInt 1)), (0, .ref B)], [], me_w M J) o → ∃ r a J' cl' cc', o = (some (.int a), me_w M J') ∧ (∃ k, mg_c2 f t x k li (lb_s f t q, m, e) r cl cc cl' cc') ∧ (a = Int32.ofInt 1 ∧ lb_rc r = 0 ∨ a = Int32.ofInt 0 ∧ lb_rc r ≠ 0) ∧ J' B 16 = lb_rc r ∧ J' B 1 = 0 ∧ J' B 2 = J0 B 2 ∧ J' B 18 = J0 B 18 ∧ (∀ a, a ≠ B → a ≠ Sg → a ≠ Ln → a ≠ Op → a ≠ Cl → a ≠ Cs → J' a = J0 a) ∧ ∃ q wr m e l cl2 cc2 J2, mg_V G J0 B Sg Ln Op Cl Cs x q wr m e l cl2 cc2 J2 ∧ (∀ a, a ≠ B → J' a = J2 a) ∧ ∀ z, r = .inr z → e = z.2.2.2 ∧ cl2 = cl' ∧ cc2 = cc' := by
  have t4 : t ≤ 400 := hP.2.2.2.2.2.1
  intro fu
  induction fu with
  | zero => intro q m e li cl cc J hc; omega
  | succ fu ih =>
    intro q m e li cl cc J hcc hV hcl hp k
    have k := ly_revb 2 (c' := (if (Int32.ofInt 1) = 0 then 66 else 39, [(1, .int (Int32.ofInt 1)), (0, .ref B)], [], me_w M J)) rfl k
    rw [if_neg (show ¬ ((Int32.ofInt 1) = 0) from by decide)] at k
    have k := ly_revb 1 (c' := (40, [(1, .int (Int32.ofInt 1)), (0, .ref B)], [.ref B], me_w M J)) rfl k
    obtain ⟨d1, o1, ed, kc, k⟩ := lz_c (g := 136) (q := 1) (vs := [.ref B]) (rest := []) rfl rfl (by decide) (Or.inr (Or.inl ⟨_, rfl, rfl⟩)) rfl k
    have e1 := mg_see (mg_VP hP hO hK hK2 hV) hV.1 hp kc
    subst e1
    have hV1 := mg_Vup hP hO hK hK2 hV (mg_Sq (y := lb_s f t q) (mg_VP hP hO hK hK2 hV) hV.1)
    have hp1 : lb_s f t q ≤ t := (lb_s_le (t - q) q (by omega)).2
    have hss : lb_s f t (lb_s f t q) = lb_s f t q := lb_ss hp
    have k : nt_rn X _ 134 (43, [(1, .int (Int32.ofInt 1)), (0, .ref B)], [.int (lb_g f t (lb_s f t q))], me_w M (nt_u J B 15 (nI (lb_s f t q)))) _ := k
    have k := ly_revb 2 (c' := (if (lb_g f t (lb_s f t q)) = (Int32.ofInt 59) then 48 else 66, [(1, .int (Int32.ofInt 1)), (0, .ref B)], [], me_w M (nt_u J B 15 (nI (lb_s f t q))))) rfl k
    by_cases h45 : lb_g f t (lb_s f t q) = Int32.ofInt 59
    · rw [if_pos (show (lb_g f t (lb_s f t q)) = (Int32.ofInt 59) from h45)] at k
      have k := ly_revb 2 (c' := (50, [(1, .int (Int32.ofInt 1)), (0, .ref B)], [.ref B, .ref B], me_w M (nt_u J B 15 (nI (lb_s f t q))))) rfl k
      have k := lz_get (a := B) (g := 1115) (M := me_w M (nt_u J B 15 (nI (lb_s f t q)))) (v := .int (nI (lb_s f t q))) rfl (congrArg Value.int (hV1.1.1)) k
      have k := ly_revb 2 (c' := (55, [(1, .int (Int32.ofInt 1)), (0, .ref B)], [.int ((nI (lb_s f t q)) + (Int32.ofInt 1)), .ref B], me_w M (nt_u J B 15 (nI (lb_s f t q))))) rfl k
      rw [show ((nI (lb_s f t q)) + (Int32.ofInt 1) : Int32) = nI ((lb_s f t q) + 1) from me_add (k := 1)] at k
      have k := me_put rfl (by decide) k
      have k : nt_rn X _ 134 (58, [(1, .int (Int32.ofInt 1)), (0, .ref B)], [], me_w M (nt_u (nt_u J B 15 (nI (lb_s f t q))) B 15 (nI ((lb_s f t q) + 1)))) _ := k
      have hlt : lb_s f t q < t := lb_g_lt (by rw [h45]; decide)
      have hV2 := mg_Vup hP hO hK hK2 hV1 (mg_Sq (y := lb_s f t q + 1) (mg_VP hP hO hK hK2 hV1) hV1.1)
      have k := ly_revb 1 (c' := (59, [(1, .int (Int32.ofInt 1)), (0, .ref B)], [.ref B], me_w M (nt_u (nt_u J B 15 (nI (lb_s f t q))) B 15 (nI ((lb_s f t q) + 1))))) rfl k
      obtain ⟨d1, o1, ed, kc, k⟩ := lz_c (g := 135) (q := 1) (vs := [.ref B]) (rest := []) rfl rfl (by decide) (Or.inr (Or.inl ⟨_, rfl, rfl⟩)) rfl k
      obtain ⟨r3, a3, J3, e1, hc1, hQ⟩ := mg_clause (e := e) hP hO hK hK2 hB hV2 hcl hx (show lb_s f t q + 1 ≤ t from hlt) kc
      subst e1
      rcases r3 with c | z3
      · obtain ⟨hc, rfl, q3, m3, e3, l3, cl3, cc3, hV3, hq3⟩ := hQ
        have k : nt_rn X _ 134 (62, [(1, .int (Int32.ofInt 1)), (0, .ref B)], [.int (Int32.ofInt 0)], me_w M J3) _ := k
        have k := ly_revb 2 (c' := (35, [(1, .int (Int32.ofInt 0)), (0, .ref B)], [], me_w M J3)) rfl k
        have k := ly_revb 2 (c' := (if (Int32.ofInt 0) = 0 then 66 else 39, [(1, .int (Int32.ofInt 0)), (0, .ref B)], [], me_w M J3)) rfl k
        rw [if_pos (show (Int32.ofInt 0) = 0 from by decide)] at k
        have k := ly_revb 2 (c' := (if (Int32.ofInt 0) = 0 then 88 else 70, [(1, .int (Int32.ofInt 0)), (0, .ref B)], [], me_w M J3)) rfl k
        rw [if_pos (show (Int32.ofInt 0) = 0 from by decide)] at k
        have k := ly_revb 2 (c' := (90, [(1, .int (Int32.ofInt 0)), (0, .ref B)], [.int (Int32.ofInt 0), .ref B], me_w M J3)) rfl k
        have k := me_put rfl (by decide) k
        have k : nt_rn X _ 134 (93, [(1, .int (Int32.ofInt 0)), (0, .ref B)], [], me_w M (nt_u J3 B 1 (Int32.ofInt 0))) _ := k
        have k := ly_revb 1 (c' := (94, [(1, .int (Int32.ofInt 0)), (0, .ref B)], [.ref B], me_w M (nt_u J3 B 1 (Int32.ofInt 0)))) rfl k
        have k := lz_get (a := B) (g := 1116) (M := me_w M (nt_u J3 B 1 (Int32.ofInt 0))) (v := .int (c)) rfl (congrArg Value.int ((me_uk (by decide)).trans (hV3.1.2.1))) k
        have k := ly_revb 1 (c' := (if c = 0 then 100 else 104, [(1, .int (Int32.ofInt 0)), (0, .ref B)], [], me_w M (nt_u J3 B 1 (Int32.ofInt 0)))) rfl k
        rw [if_neg (show ¬ (c = 0) from hc)] at k
        have k := ly_revb 1 (c' := (105, [(1, .int (Int32.ofInt 0)), (0, .ref B)], [.int (Int32.ofInt 0)], me_w M (nt_u J3 B 1 (Int32.ofInt 0)))) rfl k
        have k := lz_ri rfl (by decide) k
        refine ⟨.inl c, _, _, fun _ => 0, 0, k, ⟨1, Or.inl ⟨h45, _, fun _ => 0, 0, ⟨hc1, fun z hz => by cases hz⟩, Or.inl ⟨c, rfl, rfl⟩⟩⟩, ?_, (me_uk (by decide)).trans hV3.1.2.1, me_us, (me_uk (by decide)).trans (hV3.2.1.1 2 (by decide) (by decide) (by decide) (by decide) (by decide) (by decide) (by decide)), (me_uk (by decide)).trans (hV3.2.1.1 18 (by decide) (by decide) (by decide) (by decide) (by decide) (by decide) (by decide)), fun a q1 q2 q3 q4 q5 q6 => (me_uo q1).trans (hV3.2.1.2 a q1 q2 q3 q4 q5 q6), _, _, _, _, _, _, _, _, hV3, fun a ha => me_uo ha, fun z hz => by cases hz⟩
        exact Or.inr ⟨rfl, hc⟩
      · obtain ⟨rfl, q3, cl3, hz3, hq3, hV3, hD3⟩ := hQ
        have k : nt_rn X _ 134 (62, [(1, .int (Int32.ofInt 1)), (0, .ref B)], [.int (Int32.ofInt 1)], me_w M J3) _ := k
        have k := ly_revb 2 (c' := (35, [(1, .int (Int32.ofInt 1)), (0, .ref B)], [], me_w M J3)) rfl k
        have l3 : li + 1 ≤ 12 := hV3.2.2.2.1
        obtain ⟨r, a, J', cl9, cc9, e9, ⟨k9, hk9⟩, hf⟩ := ih _ _ z3.2.2 _ _ _ _ (by omega) hV3 (by omega) hq3 k
        rw [show (lb_s f t q3, z3.2.1, z3.2.2) = z3 from by rw [hz3]] at hk9
        exact ⟨r, a, J', cl9, cc9, e9, ⟨k9 + 1, Or.inl ⟨h45, _, cl3, cc + 1, ⟨hc1, fun z hz => by cases hz; exact ⟨rfl, hD3⟩⟩, Or.inr ⟨z3, rfl, hk9⟩⟩⟩, hf⟩
    · rw [if_neg (show ¬ ((lb_g f t (lb_s f t q)) = (Int32.ofInt 59)) from h45)] at k
      have k := ly_revb 2 (c' := (if (Int32.ofInt 1) = 0 then 88 else 70, [(1, .int (Int32.ofInt 1)), (0, .ref B)], [], me_w M (nt_u J B 15 (nI (lb_s f t q))))) rfl k
      rw [if_neg (show ¬ ((Int32.ofInt 1) = 0) from by decide)] at k
      have k := ly_revb 1 (c' := (71, [(1, .int (Int32.ofInt 1)), (0, .ref B)], [.ref B], me_w M (nt_u J B 15 (nI (lb_s f t q))))) rfl k
      obtain ⟨d1, o1, ed, kc, k⟩ := lz_c (g := 136) (q := 1) (vs := [.ref B]) (rest := []) rfl rfl (by decide) (Or.inr (Or.inl ⟨_, rfl, rfl⟩)) rfl k
      have e1 := mg_see (mg_VP hP hO hK hK2 hV1) hV1.1 hp1 kc
      rw [hss, me_uu] at e1
      subst e1
      have k : nt_rn X _ 134 (74, [(1, .int (Int32.ofInt 1)), (0, .ref B)], [.int (lb_g f t (lb_s f t q))], me_w M (nt_u J B 15 (nI (lb_s f t q)))) _ := k
      have k := ly_revb 2 (c' := (if (lb_g f t (lb_s f t q)) = (Int32.ofInt (-1)) then 88 else 78, [(1, .int (Int32.ofInt 1)), (0, .ref B)], [], me_w M (nt_u J B 15 (nI (lb_s f t q))))) rfl k
      by_cases h75 : lb_g f t (lb_s f t q) = Int32.ofInt (-1)
      · rw [if_pos (show (lb_g f t (lb_s f t q)) = (Int32.ofInt (-1)) from h75)] at k
        have k := ly_revb 2 (c' := (90, [(1, .int (Int32.ofInt 1)), (0, .ref B)], [.int (Int32.ofInt 0), .ref B], me_w M (nt_u J B 15 (nI (lb_s f t q))))) rfl k
        have k := me_put rfl (by decide) k
        have k : nt_rn X _ 134 (93, [(1, .int (Int32.ofInt 1)), (0, .ref B)], [], me_w M (nt_u (nt_u J B 15 (nI (lb_s f t q))) B 1 (Int32.ofInt 0))) _ := k
        have k := ly_revb 1 (c' := (94, [(1, .int (Int32.ofInt 1)), (0, .ref B)], [.ref B], me_w M (nt_u (nt_u J B 15 (nI (lb_s f t q))) B 1 (Int32.ofInt 0)))) rfl k
        have k := lz_get (a := B) (g := 1116) (M := me_w M (nt_u (nt_u J B 15 (nI (lb_s f t q))) B 1 (Int32.ofInt 0))) (v := .int ((0 : Int32))) rfl (congrArg Value.int ((me_uk (by decide)).trans (hV1.1.2.1))) k
        have k := ly_revb 1 (c' := (if ((0 : Int32)) = 0 then 100 else 104, [(1, .int (Int32.ofInt 1)), (0, .ref B)], [], me_w M (nt_u (nt_u J B 15 (nI (lb_s f t q))) B 1 (Int32.ofInt 0)))) rfl k
        rw [if_pos (show ((0 : Int32)) = 0 from rfl)] at k
        have k := ly_revb 2 (c' := (105, [(1, .int (Int32.ofInt 1)), (0, .ref B)], [.int (Int32.ofInt 1)], me_w M (nt_u (nt_u J B 15 (nI (lb_s f t q))) B 1 (Int32.ofInt 0)))) rfl k
        have k := lz_ri rfl (by decide) k
        refine ⟨.inr (lb_s f t q, m, e), _, _, cl, cc, k, ⟨1, Or.inr (Or.inl ⟨h75, rfl, rfl, rfl⟩)⟩, ?_, (me_uk (by decide)).trans hV1.1.2.1, me_us, (me_uk (by decide)).trans (hV1.2.1.1 2 (by decide) (by decide) (by decide) (by decide) (by decide) (by decide) (by decide)), (me_uk (by decide)).trans (hV1.2.1.1 18 (by decide) (by decide) (by decide) (by decide) (by decide) (by decide) (by decide)), fun a q1 q2 q3 q4 q5 q6 => (me_uo q1).trans (hV1.2.1.2 a q1 q2 q3 q4 q5 q6), _, _, _, _, _, _, _, _, hV1, fun a ha => me_uo ha, fun z hz => by cases hz; exact ⟨rfl, rfl, rfl⟩⟩
        exact Or.inl ⟨rfl, rfl⟩
      · rw [if_neg (show ¬ ((lb_g f t (lb_s f t q)) = (Int32.ofInt (-1))) from h75)] at k
        have k := ly_revb 3 (c' := (81, [(1, .int (Int32.ofInt 1)), (0, .ref B)], [.ref B, .int (Int32.ofInt 0), .ref B], me_w M (nt_u J B 15 (nI (lb_s f t q))))) rfl k
        have k := lz_get (a := B) (g := 1115) (M := me_w M (nt_u J B 15 (nI (lb_s f t q)))) (v := .int (nI (lb_s f t q))) rfl (congrArg Value.int (hV1.1.1)) k
        obtain ⟨d1, o1, ed, kc, k⟩ := lz_c (g := 139) (q := 1) (vs := [.ref B, .int (Int32.ofInt 0), .int (nI (lb_s f t q))]) (rest := []) rfl rfl (by decide) (Or.inr (Or.inl ⟨_, rfl, rfl⟩)) rfl k
        obtain ⟨hf, e1⟩ := (mg_fails (a := lb_s f t q) (mg_VP hP hO hK hK2 hV1) hV1.1 hp1 kc).resolve_right (fun c => c.1 rfl)
        subst e1
        have hV9 := mg_Vup hP hO hK hK2 hV1 (mg_Sw (y := lb_c (lb_s f t q) (Int32.ofInt 0)) (mg_VP hP hO hK hK2 hV1) hV1.1)
        have k : nt_rn X _ 134 (87, [(1, .int (Int32.ofInt 1)), (0, .ref B)], [.int (Int32.ofInt 0)], me_w M (nt_u (nt_u J B 15 (nI (lb_s f t q))) B 16 (lb_c (lb_s f t q) (Int32.ofInt 0)))) _ := k
        have k := ly_revb 3 (c' := (90, [(1, .int (Int32.ofInt 1)), (0, .ref B)], [.int (Int32.ofInt 0), .ref B], me_w M (nt_u (nt_u J B 15 (nI (lb_s f t q))) B 16 (lb_c (lb_s f t q) (Int32.ofInt 0))))) rfl k
        have k := me_put rfl (by decide) k
        have k : nt_rn X _ 134 (93, [(1, .int (Int32.ofInt 1)), (0, .ref B)], [], me_w M (nt_u (nt_u (nt_u J B 15 (nI (lb_s f t q))) B 16 (lb_c (lb_s f t q) (Int32.ofInt 0))) B 1 (Int32.ofInt 0))) _ := k
        have k := ly_revb 1 (c' := (94, [(1, .int (Int32.ofInt 1)), (0, .ref B)], [.ref B], me_w M (nt_u (nt_u (nt_u J B 15 (nI (lb_s f t q))) B 16 (lb_c (lb_s f t q) (Int32.ofInt 0))) B 1 (Int32.ofInt 0)))) rfl k
        have k := lz_get (a := B) (g := 1116) (M := me_w M (nt_u (nt_u (nt_u J B 15 (nI (lb_s f t q))) B 16 (lb_c (lb_s f t q) (Int32.ofInt 0))) B 1 (Int32.ofInt 0))) (v := .int (lb_c (lb_s f t q) (Int32.ofInt 0))) rfl (congrArg Value.int ((me_uk (by decide)).trans (hV9.1.2.1))) k
        have k := ly_revb 1 (c' := (if (lb_c (lb_s f t q) (Int32.ofInt 0)) = 0 then 100 else 104, [(1, .int (Int32.ofInt 1)), (0, .ref B)], [], me_w M (nt_u (nt_u (nt_u J B 15 (nI (lb_s f t q))) B 16 (lb_c (lb_s f t q) (Int32.ofInt 0))) B 1 (Int32.ofInt 0)))) rfl k
        rw [if_neg (show ¬ ((lb_c (lb_s f t q) (Int32.ofInt 0)) = 0) from (lb_c_ne (by omega) (by decide) (by decide)))] at k
        have k := ly_revb 1 (c' := (105, [(1, .int (Int32.ofInt 1)), (0, .ref B)], [.int (Int32.ofInt 0)], me_w M (nt_u (nt_u (nt_u J B 15 (nI (lb_s f t q))) B 16 (lb_c (lb_s f t q) (Int32.ofInt 0))) B 1 (Int32.ofInt 0)))) rfl k
        have k := lz_ri rfl (by decide) k
        refine ⟨.inl (lb_c (lb_s f t q) (Int32.ofInt 0)), _, _, fun _ => 0, 0, k, ⟨1, Or.inr (Or.inr ⟨h45, h75, rfl⟩)⟩, ?_, (me_uk (by decide)).trans hV9.1.2.1, me_us, (me_uk (by decide)).trans (hV9.2.1.1 2 (by decide) (by decide) (by decide) (by decide) (by decide) (by decide) (by decide)), (me_uk (by decide)).trans (hV9.2.1.1 18 (by decide) (by decide) (by decide) (by decide) (by decide) (by decide) (by decide)), fun a q1 q2 q3 q4 q5 q6 => (me_uo q1).trans (hV9.2.1.2 a q1 q2 q3 q4 q5 q6), _, _, _, _, _, _, _, _, hV9, fun a ha => me_uo ha, fun z hz => by cases hz⟩
        exact Or.inr ⟨rfl, (lb_c_ne (by omega) (by decide) (by decide))⟩
theorem mg_V0 {G : Nat → Int32} {M : nt_M} {J0 J : Nat → Nat → Int32} {f : Nat → Int32} {t x B Tb Sg Ln Op Cl Cs : Nat} (hP : md_P M J0 f t x B Tb Sg Ln) (hO : md_O M B Tb Sg Ln Op) (hK : md_K M B Tb Sg Ln Cl Cs) (hK2 : mg_K2 Op Cl Cs) (hG : (∀ j, j < 400 * x → J Sg j = G j) ∧ (∀ j, j < 48 * x → J Cl j = G (10000 + j)) ∧ (∀ j, j ≠ x → J Cs j = G (20000 + j)) ∧ J Cs x = nI 0) (fr : (∀ i, i ≠ 15 → i ≠ 16 → i ≠ 17 → i ≠ 19 → i ≠ 20 → i ≠ 21 → i ≠ 23 → J B i = J0 B i) ∧ (∀ a, a ≠ B → a ≠ Sg → a ≠ Ln → a ≠ Op → a ≠ Cl → a ≠ Cs → J a = J0 a)) : mg_V G J0 B Sg Ln Op Cl Cs x 0 0 0 (0, fun _ => 0) 0 (J Cl) 0 (nt_u (nt_u (nt_u (nt_u (nt_u J Ln x (Int32.ofInt 0)) B 21 (Int32.ofInt 0)) B 15 (Int32.ofInt 0)) B 16 (Int32.ofInt 0)) B 19 (Int32.ofInt 0)) := by
  have n1 := hP.2.1.2.2.2.1
  have n2 := hP.2.1.2.2.2.2.1
  have n3 := hP.2.1.2.2.2.2.2
  refine ⟨⟨(me_uk (by decide)).trans ((me_uk (by decide)).trans me_us), (me_uk (by decide)).trans me_us, me_us, ?_, fun j hj => ?_, fun _ _ _ _ _ => rfl, fun _ _ _ _ => rfl, Nat.zero_le _, Nat.zero_le _⟩, ⟨fun i q1 q2 q3 q4 q5 q6 q7 => ?_, fun a q1 q2 q3 q4 q5 q6 => ?_⟩, ?_, Nat.zero_le _, ?_⟩
  · rw [me_uj (Ne.symm n2), me_uj (Ne.symm n2), me_uj (Ne.symm n2), me_uj (Ne.symm n2), me_us]
    rfl
  · rw [me_uo (Ne.symm n1), me_uo (Ne.symm n1), me_uo (Ne.symm n1), me_uo (Ne.symm n1), me_uo n3]
    unfold mg_p at hj
    dsimp only at hj
    unfold mg_a mg_e
    rw [if_neg (by omega), if_neg (by omega)]
    exact hG.1 _ (by omega)
  · rw [me_uk q4, me_uk q2, me_uk q1, me_uk q6, me_uj n2]
    exact fr.1 i q1 q2 q3 q4 q5 q6 q7
  · rw [me_uo q1, me_uo q1, me_uo q1, me_uo q1, me_uo q3]
    exact fr.2 a q1 q2 q3 q4 q5 q6
  · rw [me_uk (by decide), me_uk (by decide), me_uk (by decide), me_us]
    rfl
  · refine mg_Cr (J := J) ⟨fun _ => rfl, hG.2.2.2, hG.2.1, hG.2.2.1, Nat.zero_le _⟩ ?_ ?_
    · rw [me_uo hK.2.2.1.1, me_uo hK.2.2.1.1, me_uo hK.2.2.1.1, me_uo hK.2.2.1.1, me_uo hK.2.2.1.2.2.2]
    · rw [me_uo hK.2.2.2.1.1, me_uo hK.2.2.2.1.1, me_uo hK.2.2.2.1.1, me_uo hK.2.2.2.1.1, me_uo hK.2.2.2.1.2.2.2]
theorem mg_reads {G : Nat → Int32} {X : nt_X} {d t x B Tb Sg Ln Op Cl Cs : Nat} {f : Nat → Int32} {M : nt_M} {J0 J : Nat → Nat → Int32} {o : Option Value × nt_M} (hP : md_P M J0 f t x B Tb Sg Ln) (hO : md_O M B Tb Sg Ln Op) (hK : md_K M B Tb Sg Ln Cl Cs) (hK2 : mg_K2 Op Cl Cs) (hB : lb_by f t) (hx : x < 6) (hG : (∀ j, j < 400 * x → J Sg j = G j) ∧ (∀ j, j < 48 * x → J Cl j = G (10000 + j)) ∧ (∀ j, j ≠ x → J Cs j = G (20000 + j)) ∧ J Cs x = nI 0) (fr : (∀ i, i ≠ 15 → i ≠ 16 → i ≠ 17 → i ≠ 19 → i ≠ 20 → i ≠ 21 → i ≠ 23 → J B i = J0 B i) ∧ (∀ a, a ≠ B → a ≠ Sg → a ≠ Ln → a ≠ Op → a ≠ Cl → a ≠ Cs → J a = J0 a)) (k : nt_ev X d 134 [.ref B] (me_w M J) o) : ∃ r a J' cl' cc', o = (some (.int a), me_w M J') ∧ mg_c3 f t x (lb_s f t 0, 0, ((0, fun _ => 0), (0, fun _ => 0))) r (J Cl) cl' cc' ∧ (a = Int32.ofInt 1 ∧ lb_rc r = 0 ∨ a = Int32.ofInt 0 ∧ lb_rc r ≠ 0) ∧ J' B 16 = lb_rc r ∧ J' B 1 = 0 ∧ J' B 2 = J0 B 2 ∧ J' B 18 = J0 B 18 ∧ (∀ a, a ≠ B → a ≠ Sg → a ≠ Ln → a ≠ Op → a ≠ Cl → a ≠ Cs → J' a = J0 a) ∧ ∃ q wr m e l cl2 cc2 J2, mg_V G J0 B Sg Ln Op Cl Cs x q wr m e l cl2 cc2 J2 ∧ (∀ a, a ≠ B → J' a = J2 a) ∧ ∀ z, r = .inr z → e = z.2.2.2 ∧ cl2 = cl' ∧ cc2 = cc' := by
  have k : nt_rn X d 134 (0, [(0, .ref B)], [], me_w M J) o := k
  have t4 : t ≤ 400 := hP.2.2.2.2.2.1
  have k := ly_revb 1 (c' := (1, [(0, .ref B)], [.ref B], me_w M J)) rfl k
  have k := lz_get (a := B) (g := 1104) (M := me_w M J) (v := .ref Ln) rfl (nt_gfR rfl hP.1.2.2) k
  have k := ly_revb 1 (c' := (5, [(0, .ref B)], [.ref B, .ref Ln], me_w M J)) rfl k
  have k := lz_get (a := B) (g := 1118) (M := me_w M J) (v := .int (nI x)) rfl (congrArg Value.int ((fr.1 18 (by decide) (by decide) (by decide) (by decide) (by decide) (by decide) (by decide)).trans hP.2.2.2.1)) k
  have k := ly_revb 1 (c' := (9, [(0, .ref B)], [.int (Int32.ofInt 0), .int (nI x), .ref Ln], me_w M J)) rfl k
  have k := me_iast (q := x) rfl (rfl) (by omega) k
  have k := ly_revb 2 (c' := (12, [(0, .ref B)], [.int (Int32.ofInt 0), .ref B], me_w M (nt_u J Ln x (Int32.ofInt 0)))) rfl k
  have k := me_put rfl (by decide) k
  have k : nt_rn X _ 134 (15, [(0, .ref B)], [], me_w M (nt_u (nt_u J Ln x (Int32.ofInt 0)) B 21 (Int32.ofInt 0))) _ := k
  have k := ly_revb 2 (c' := (17, [(0, .ref B)], [.int (Int32.ofInt 0), .ref B], me_w M (nt_u (nt_u J Ln x (Int32.ofInt 0)) B 21 (Int32.ofInt 0)))) rfl k
  have k := me_put rfl (by decide) k
  have k : nt_rn X _ 134 (20, [(0, .ref B)], [], me_w M (nt_u (nt_u (nt_u J Ln x (Int32.ofInt 0)) B 21 (Int32.ofInt 0)) B 15 (Int32.ofInt 0))) _ := k
  have k := ly_revb 2 (c' := (22, [(0, .ref B)], [.int (Int32.ofInt 0), .ref B], me_w M (nt_u (nt_u (nt_u J Ln x (Int32.ofInt 0)) B 21 (Int32.ofInt 0)) B 15 (Int32.ofInt 0)))) rfl k
  have k := me_put rfl (by decide) k
  have k : nt_rn X _ 134 (25, [(0, .ref B)], [], me_w M (nt_u (nt_u (nt_u (nt_u J Ln x (Int32.ofInt 0)) B 21 (Int32.ofInt 0)) B 15 (Int32.ofInt 0)) B 16 (Int32.ofInt 0))) _ := k
  have k := ly_revb 2 (c' := (27, [(0, .ref B)], [.int (Int32.ofInt 0), .ref B], me_w M (nt_u (nt_u (nt_u (nt_u J Ln x (Int32.ofInt 0)) B 21 (Int32.ofInt 0)) B 15 (Int32.ofInt 0)) B 16 (Int32.ofInt 0)))) rfl k
  have k := me_put rfl (by decide) k
  have k : nt_rn X _ 134 (30, [(0, .ref B)], [], me_w M (nt_u (nt_u (nt_u (nt_u (nt_u J Ln x (Int32.ofInt 0)) B 21 (Int32.ofInt 0)) B 15 (Int32.ofInt 0)) B 16 (Int32.ofInt 0)) B 19 (Int32.ofInt 0))) _ := k
  have hV : mg_V G J0 B Sg Ln Op Cl Cs x 0 0 0 (0, fun _ => 0) 0 (J Cl) 0 (nt_u (nt_u (nt_u (nt_u (nt_u J Ln x (Int32.ofInt 0)) B 21 (Int32.ofInt 0)) B 15 (Int32.ofInt 0)) B 16 (Int32.ofInt 0)) B 19 (Int32.ofInt 0)) := mg_V0 hP hO hK hK2 hG fr
  have k := ly_revb 1 (c' := (31, [(0, .ref B)], [.ref B], me_w M (nt_u (nt_u (nt_u (nt_u (nt_u J Ln x (Int32.ofInt 0)) B 21 (Int32.ofInt 0)) B 15 (Int32.ofInt 0)) B 16 (Int32.ofInt 0)) B 19 (Int32.ofInt 0)))) rfl k
  obtain ⟨d1, o1, ed, kc, k⟩ := lz_c (g := 135) (q := 1) (vs := [.ref B]) (rest := []) rfl rfl (by decide) (Or.inr (Or.inl ⟨_, rfl, rfl⟩)) rfl k
  obtain ⟨r3, a3, J3, e1, hc1, hQ⟩ := mg_clause (e := ((0, fun _ => 0), (0, fun _ => 0))) hP hO hK hK2 hB hV rfl hx (Nat.zero_le _) kc
  subst e1
  rcases r3 with c | z3
  · obtain ⟨hc, rfl, q3, m3, e3, l3, cl3, cc3, hV3, hq3⟩ := hQ
    have k : nt_rn X _ 134 (34, [(0, .ref B)], [.int (Int32.ofInt 0)], me_w M J3) _ := k
    have k := ly_revb 1 (c' := (35, [(1, .int (Int32.ofInt 0)), (0, .ref B)], [], me_w M J3)) rfl k
    have k := ly_revb 2 (c' := (if (Int32.ofInt 0) = 0 then 66 else 39, [(1, .int (Int32.ofInt 0)), (0, .ref B)], [], me_w M J3)) rfl k
    rw [if_pos (show (Int32.ofInt 0) = 0 from by decide)] at k
    have k := ly_revb 2 (c' := (if (Int32.ofInt 0) = 0 then 88 else 70, [(1, .int (Int32.ofInt 0)), (0, .ref B)], [], me_w M J3)) rfl k
    rw [if_pos (show (Int32.ofInt 0) = 0 from by decide)] at k
    have k := ly_revb 2 (c' := (90, [(1, .int (Int32.ofInt 0)), (0, .ref B)], [.int (Int32.ofInt 0), .ref B], me_w M J3)) rfl k
    have k := me_put rfl (by decide) k
    have k : nt_rn X _ 134 (93, [(1, .int (Int32.ofInt 0)), (0, .ref B)], [], me_w M (nt_u J3 B 1 (Int32.ofInt 0))) _ := k
    have k := ly_revb 1 (c' := (94, [(1, .int (Int32.ofInt 0)), (0, .ref B)], [.ref B], me_w M (nt_u J3 B 1 (Int32.ofInt 0)))) rfl k
    have k := lz_get (a := B) (g := 1116) (M := me_w M (nt_u J3 B 1 (Int32.ofInt 0))) (v := .int (c)) rfl (congrArg Value.int ((me_uk (by decide)).trans (hV3.1.2.1))) k
    have k := ly_revb 1 (c' := (if c = 0 then 100 else 104, [(1, .int (Int32.ofInt 0)), (0, .ref B)], [], me_w M (nt_u J3 B 1 (Int32.ofInt 0)))) rfl k
    rw [if_neg (show ¬ (c = 0) from hc)] at k
    have k := ly_revb 1 (c' := (105, [(1, .int (Int32.ofInt 0)), (0, .ref B)], [.int (Int32.ofInt 0)], me_w M (nt_u J3 B 1 (Int32.ofInt 0)))) rfl k
    have k := lz_ri rfl (by decide) k
    refine ⟨.inl c, _, _, fun _ => 0, 0, k, ⟨_, fun _ => 0, 0, ⟨hc1, fun z hz => by cases hz⟩, Or.inl ⟨c, rfl, rfl⟩⟩, ?_, (me_uk (by decide)).trans hV3.1.2.1, me_us, (me_uk (by decide)).trans (hV3.2.1.1 2 (by decide) (by decide) (by decide) (by decide) (by decide) (by decide) (by decide)), (me_uk (by decide)).trans (hV3.2.1.1 18 (by decide) (by decide) (by decide) (by decide) (by decide) (by decide) (by decide)), fun a q1 q2 q3 q4 q5 q6 => (me_uo q1).trans (hV3.2.1.2 a q1 q2 q3 q4 q5 q6), _, _, _, _, _, _, _, _, hV3, fun a ha => me_uo ha, fun z hz => by cases hz⟩
    exact Or.inr ⟨rfl, hc⟩
  · obtain ⟨rfl, q3, cl3, hz3, hq3, hV3, hD3⟩ := hQ
    have k : nt_rn X _ 134 (34, [(0, .ref B)], [.int (Int32.ofInt 1)], me_w M J3) _ := k
    have k := ly_revb 1 (c' := (35, [(1, .int (Int32.ofInt 1)), (0, .ref B)], [], me_w M J3)) rfl k
    obtain ⟨r, a, J', cl9, cc9, e9, ⟨k9, hk9⟩, hf⟩ := mg_rdl hP hO hK hK2 hB hx 13 _ _ z3.2.2 _ _ _ _ (by decide) hV3 rfl hq3 k
    rw [show (lb_s f t q3, z3.2.1, z3.2.2) = z3 from by rw [hz3]] at hk9
    exact ⟨r, a, J', cl9, cc9, e9, ⟨_, cl3, 0 + 1, ⟨hc1, fun z hz => by cases hz; exact ⟨rfl, hD3⟩⟩, Or.inr ⟨z3, rfl, k9, hk9⟩⟩, hf⟩
