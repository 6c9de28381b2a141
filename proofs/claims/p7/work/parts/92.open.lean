/-! the stack of the other side -/
def lb_stk (g : Nat → Int32) : List Int32 → Prop
  | [] => True
  | s :: S => g S.length = s ∧ lb_stk g S
theorem lb_stk_eq {g h : Nat → Int32} : ∀ (S : List Int32), (∀ j, j < S.length → h j = g j) → lb_stk g S → lb_stk h S := by
  intro S
  induction S with
  | nil => intro _ _; exact trivial
  | cons s S ih =>
    intro hj hs
    exact ⟨(hj S.length (by show S.length < S.length + 1; omega)).trans hs.1, ih (fun j hj2 => hj j (by show j < S.length + 1; omega)) hs.2⟩
theorem lb_stk_mem {g : Nat → Int32} {c : Int32} : ∀ (S : List Int32), lb_stk g S → (c ∈ S ↔ ∃ j, j < S.length ∧ g j = c) := by
  intro S
  induction S with
  | nil => intro _; exact ⟨fun h => (by cases h), fun ⟨j, h, _⟩ => absurd h (Nat.not_lt_zero _)⟩
  | cons s S ih =>
    intro hs
    constructor
    · intro h
      rcases List.mem_cons.mp h with h | h
      · exact ⟨S.length, by show S.length < S.length + 1; omega, hs.1.trans h.symm⟩
      · obtain ⟨j, a, b⟩ := (ih hs.2).mp h
        exact ⟨j, by show j < S.length + 1; omega, b⟩
    · intro ⟨j, a, b⟩
      have a : j < S.length + 1 := a
      by_cases c2 : j = S.length
      · rw [c2, hs.1] at b
        exact List.mem_cons.mpr (Or.inl b.symm)
      · exact List.mem_cons.mpr (Or.inr ((ih hs.2).mpr ⟨j, by omega, b⟩))
def md_O (M : nt_M) (B Tb Sg Ln Op : Nat) : Prop := nt_R M B 22 = some Op ∧ (Op ≠ B ∧ Op ≠ Tb ∧ Op ≠ Sg ∧ Op ≠ Ln) ∧ nt_l M Op = 400 ∧ Op ≠ nt_sp
def md_T (J0 : Nat → Nat → Int32) (B Sg Ln Op x q : Nat) (wr : Int32) (m : Nat) (e : Nat × (Nat → Int32)) (dd : Int32) (S : List Int32) (J : Nat → Nat → Int32) : Prop := md_S J B Sg Ln x q wr m e J ∧ ((∀ i, i ≠ 15 → i ≠ 16 → i ≠ 17 → i ≠ 19 → i ≠ 20 → i ≠ 23 → J B i = J0 B i) ∧ (∀ a, a ≠ B → a ≠ Sg → a ≠ Ln → a ≠ Op → J a = J0 a)) ∧ J B 20 = dd ∧ J B 23 = nI S.length ∧ lb_stk (J Op) S ∧ S.length ≤ 400
theorem md_Sself {J0 J : Nat → Nat → Int32} {x B Sg Ln q m : Nat} {wr : Int32} {e : Nat × (Nat → Int32)} (hS : md_S J0 B Sg Ln x q wr m e J) : md_S J B Sg Ln x q wr m e J := by
  obtain ⟨a1, a2, a3, a4, a5, a6, a7, a8⟩ := hS
  exact ⟨a1, a2, a3, a4, a5, fun _ _ _ _ _ => rfl, fun _ _ _ _ => rfl, a8⟩
theorem md_TP {M : nt_M} {J0 J : Nat → Nat → Int32} {f : Nat → Int32} {t x B Tb Sg Ln Op q m : Nat} {wr dd : Int32} {e : Nat × (Nat → Int32)} {S : List Int32} (hP : md_P M J0 f t x B Tb Sg Ln) (hO : md_O M B Tb Sg Ln Op) (hT : md_T J0 B Sg Ln Op x q wr m e dd S J) : md_P M J f t x B Tb Sg Ln := by
  obtain ⟨p1, p2, p3, p4, p5, p6⟩ := hP
  obtain ⟨_, ⟨fB, fA⟩, _⟩ := hT
  refine ⟨p1, p2, (fB 1 (by decide) (by decide) (by decide) (by decide) (by decide) (by decide)).trans p3, (fB 18 (by decide) (by decide) (by decide) (by decide) (by decide) (by decide)).trans p4, fun j => ?_, p6⟩
  rw [fA Tb p2.1 p2.2.1 p2.2.2.1 (Ne.symm hO.2.1.2.1)]
  exact p5 j
theorem md_Tup {M : nt_M} {J0 J : Nat → Nat → Int32} {f : Nat → Int32} {t x B Tb Sg Ln Op q m : Nat} {wr dd : Int32} {e : Nat × (Nat → Int32)} {S : List Int32} (hP : md_P M J0 f t x B Tb Sg Ln) (hO : md_O M B Tb Sg Ln Op) (hT : md_T J0 B Sg Ln Op x q wr m e dd S J) {J' : Nat → Nat → Int32} {q' m' : Nat} {wr' : Int32} {e' : Nat × (Nat → Int32)} (hS : md_S J B Sg Ln x q' wr' m' e' J') : md_T J0 B Sg Ln Op x q' wr' m' e' dd S J' := by
  obtain ⟨h1, ⟨fB, fA⟩, t1, t2, t3, t4⟩ := hT
  have b1 := hS.2.2.2.2.2.1
  have b2 := hS.2.2.2.2.2.2.1
  exact ⟨md_Sself hS, ⟨fun i q1 q2 q3 q4 q5 q6 => (b1 i q1 q2 q3 q4).trans (fB i q1 q2 q3 q4 q5 q6), fun a q1 q2 q3 q4 => (b2 a q1 q2 q3).trans (fA a q1 q2 q3 q4)⟩, (b1 20 (by decide) (by decide) (by decide) (by decide)).trans t1, (b1 23 (by decide) (by decide) (by decide) (by decide)).trans t2, lb_stk_eq S (fun j _ => by rw [b2 Op hO.2.1.1 hO.2.1.2.2.1 hO.2.1.2.2.2]) t3, t4⟩
theorem md_Td {M : nt_M} {J0 J : Nat → Nat → Int32} {f : Nat → Int32} {t x B Tb Sg Ln Op q m : Nat} {wr dd : Int32} {e : Nat × (Nat → Int32)} {S : List Int32} {y : Int32} (hP : md_P M J0 f t x B Tb Sg Ln) (hO : md_O M B Tb Sg Ln Op) (hT : md_T J0 B Sg Ln Op x q wr m e dd S J) : md_T J0 B Sg Ln Op x q wr m e y S (nt_u J B 20 y) := by
  obtain ⟨⟨a1, a2, a3, a4, a5, a6, a7, a8⟩, ⟨fB, fA⟩, t1, t2, t3, t4⟩ := hT
  have n1 := hP.2.1.2.2.2.1
  have n2 := hP.2.1.2.2.2.2.1
  have n3 := hP.2.1.2.2.2.2.2
  have o1 := hO.2.1.1
  have o2 := hO.2.1.2.2.1
  have o3 := hO.2.1.2.2.2
  exact ⟨⟨(me_uk (by decide)).trans a1, (me_uk (by decide)).trans a2, (me_uk (by decide)).trans a3, (me_uj (Ne.symm n2)).trans a4, fun j hj => (me_uj (Ne.symm n1)).trans (a5 j hj), fun _ _ _ _ _ => rfl, fun _ _ _ _ => rfl, a8⟩, ⟨fun i q1 q2 q3 q4 q5 q6 => (me_uk q5).trans (fB i q1 q2 q3 q4 q5 q6), fun a q1 q2 q3 q4 => (me_uo q1).trans (fA a q1 q2 q3 q4)⟩, me_us, (me_uk (by decide)).trans t2, lb_stk_eq S (fun j _ => me_uj o1) t3, t4⟩
theorem md_Tn {M : nt_M} {J0 J : Nat → Nat → Int32} {f : Nat → Int32} {t x B Tb Sg Ln Op q m : Nat} {wr dd : Int32} {e : Nat × (Nat → Int32)} {S : List Int32} {S' : List Int32} (hP : md_P M J0 f t x B Tb Sg Ln) (hO : md_O M B Tb Sg Ln Op) (hT : md_T J0 B Sg Ln Op x q wr m e dd S J) (hl : S'.length ≤ 400) (hs : lb_stk (J Op) S') : md_T J0 B Sg Ln Op x q wr m e dd S' (nt_u J B 23 (nI S'.length)) := by
  obtain ⟨⟨a1, a2, a3, a4, a5, a6, a7, a8⟩, ⟨fB, fA⟩, t1, t2, t3, t4⟩ := hT
  have n1 := hP.2.1.2.2.2.1
  have n2 := hP.2.1.2.2.2.2.1
  have n3 := hP.2.1.2.2.2.2.2
  have o1 := hO.2.1.1
  have o2 := hO.2.1.2.2.1
  have o3 := hO.2.1.2.2.2
  exact ⟨⟨(me_uk (by decide)).trans a1, (me_uk (by decide)).trans a2, (me_uk (by decide)).trans a3, (me_uj (Ne.symm n2)).trans a4, fun j hj => (me_uj (Ne.symm n1)).trans (a5 j hj), fun _ _ _ _ _ => rfl, fun _ _ _ _ => rfl, a8⟩, ⟨fun i q1 q2 q3 q4 q5 q6 => (me_uk q6).trans (fB i q1 q2 q3 q4 q5 q6), fun a q1 q2 q3 q4 => (me_uo q1).trans (fA a q1 q2 q3 q4)⟩, (me_uk (by decide)).trans t1, me_us, lb_stk_eq S' (fun j _ => me_uj o1) hs, hl⟩
theorem md_Tpop {M : nt_M} {J0 J : Nat → Nat → Int32} {f : Nat → Int32} {t x B Tb Sg Ln Op q m : Nat} {wr dd : Int32} {e : Nat × (Nat → Int32)} {S : List Int32} {s : Int32} (hP : md_P M J0 f t x B Tb Sg Ln) (hO : md_O M B Tb Sg Ln Op) (hT : md_T J0 B Sg Ln Op x q wr m e dd (s :: S) J) : md_T J0 B Sg Ln Op x q wr m e dd S (nt_u J B 23 (nI S.length)) := md_Tn hP hO hT (by have := hT.2.2.2.2.2; have : S.length + 1 ≤ 400 := this; omega) hT.2.2.2.2.1.2
theorem md_Tpush {M : nt_M} {J0 J : Nat → Nat → Int32} {f : Nat → Int32} {t x B Tb Sg Ln Op q m : Nat} {wr dd : Int32} {e : Nat × (Nat → Int32)} {S : List Int32} {y : Int32} (hP : md_P M J0 f t x B Tb Sg Ln) (hO : md_O M B Tb Sg Ln Op) (hT : md_T J0 B Sg Ln Op x q wr m e dd S J) (hl : S.length < 400) : md_T J0 B Sg Ln Op x q wr m e dd (y :: S) (nt_u (nt_u J Op S.length y) B 23 (nI (S.length + 1))) := by
  have hT2 : md_T J0 B Sg Ln Op x q wr m e dd S (nt_u J Op S.length y) := by
    obtain ⟨⟨a1, a2, a3, a4, a5, a6, a7, a8⟩, ⟨fB, fA⟩, t1, t2, t3, t4⟩ := hT
    have n1 := hP.2.1.2.2.2.1
    have n2 := hP.2.1.2.2.2.2.1
    have n3 := hP.2.1.2.2.2.2.2
    have o1 := hO.2.1.1
    have o2 := hO.2.1.2.2.1
    have o3 := hO.2.1.2.2.2
    exact ⟨⟨(me_uj (Ne.symm o1)).trans a1, (me_uj (Ne.symm o1)).trans a2, (me_uj (Ne.symm o1)).trans a3, (me_uj (Ne.symm o3)).trans a4, fun j hj => (me_uj (Ne.symm o2)).trans (a5 j hj), fun _ _ _ _ _ => rfl, fun _ _ _ _ => rfl, a8⟩, ⟨fun i q1 q2 q3 q4 q5 q6 => (me_uj (Ne.symm o1)).trans (fB i q1 q2 q3 q4 q5 q6), fun a q1 q2 q3 q4 => (me_uo q4).trans (fA a q1 q2 q3 q4)⟩, (me_uj (Ne.symm o1)).trans t1, (me_uj (Ne.symm o1)).trans t2, lb_stk_eq S (fun j hj => me_uk (by omega)) t3, t4⟩
  exact md_Tn (S' := y :: S) hP hO hT2 (by show S.length + 1 ≤ 400; omega) ⟨me_us, hT2.2.2.2.2.1⟩
theorem me_p0 {s : Int32} : s + Int32.ofInt 16 * Int32.ofInt 0 = s := by
  rw [show Int32.ofInt 16 * Int32.ofInt 0 = 0 from by decide, Int32.add_zero]
theorem md_opens {X : nt_X} {d t x B Tb Sg Ln Op q m : Nat} {f : Nat → Int32} {M : nt_M} {J0 J : Nat → Nat → Int32} {o : Option Value × nt_M} {dd : Int32} {e : Nat × (Nat → Int32)} {S : List Int32} {y : Int32} (hP : md_P M J0 f t x B Tb Sg Ln) (hO : md_O M B Tb Sg Ln Op) (hT : md_T J0 B Sg Ln Op x q 0 m e dd S J) (hp : q ≤ t) (k : nt_ev X d 160 [.ref B, .int (y)] (me_w M J) o) : (dd = Int32.ofInt 10 ∧ ∃ J', o = (some (.int (Int32.ofInt 0)), me_w M J') ∧ md_T J0 B Sg Ln Op x q (lb_c q (Int32.ofInt 2)) m e dd S J') ∨ (¬ dd = Int32.ofInt 10 ∧ ∃ J', o = (some (.int (Int32.ofInt 1)), me_w M J') ∧ md_T J0 B Sg Ln Op x q 0 m e (dd + Int32.ofInt 1) (y :: S) J') := by
  have k : nt_rn X d 160 (0, [(0, .ref B), (1, .int (y))], [], me_w M J) o := k
  have t4 : t ≤ 400 := hP.2.2.2.2.2.1
  have s4 : S.length ≤ 400 := hT.2.2.2.2.2
  have k := ly_revb 1 (c' := (1, [(0, .ref B), (1, .int (y))], [.ref B], me_w M J)) rfl k
  have k := lz_get (a := B) (g := 1120) (M := me_w M J) (v := .int (dd)) rfl (congrArg Value.int (hT.2.2.1)) k
  have k := ly_revb 2 (c' := (if dd = (Int32.ofInt 10) then 9 else 19, [(0, .ref B), (1, .int (y))], [], me_w M J)) rfl k
  by_cases h6 : dd = Int32.ofInt 10
  · rw [if_pos (show dd = (Int32.ofInt 10) from h6)] at k
    have k := ly_revb 3 (c' := (12, [(0, .ref B), (1, .int (y))], [.ref B, .int (Int32.ofInt 2), .ref B], me_w M J)) rfl k
    have k := lz_get (a := B) (g := 1115) (M := me_w M J) (v := .int (nI q)) rfl (congrArg Value.int (hT.1.1)) k
    obtain ⟨d1, o1, ed, kc, k⟩ := lz_c (g := 139) (q := 1) (vs := [.ref B, .int (Int32.ofInt 2), .int (nI q)]) (rest := []) rfl rfl (by decide) (Or.inr (Or.inl ⟨_, rfl, rfl⟩)) rfl k
    obtain ⟨hf, e1⟩ := (md_fails (a := q) (md_TP hP hO hT) hT.1 hp kc).resolve_right (fun c => c.1 rfl)
    subst e1
    have hS9 := md_Tup hP hO hT (md_Sw (y := lb_c q (Int32.ofInt 2)) (md_TP hP hO hT) hT.1)
    have k : nt_rn X _ 160 (18, [(0, .ref B), (1, .int (y))], [.int (Int32.ofInt 0)], me_w M (nt_u J B 16 (lb_c q (Int32.ofInt 2)))) _ := k
    have k := lz_ri rfl (by decide) k
    exact Or.inl ⟨h6, _, k, hS9⟩
  · rw [if_neg (show ¬ (dd = (Int32.ofInt 10)) from h6)] at k
    have k := ly_revb 2 (c' := (21, [(0, .ref B), (1, .int (y))], [.ref B, .ref B], me_w M J)) rfl k
    have k := lz_get (a := B) (g := 1120) (M := me_w M J) (v := .int (dd)) rfl (congrArg Value.int (hT.2.2.1)) k
    have k := ly_revb 2 (c' := (26, [(0, .ref B), (1, .int (y))], [.int (dd + (Int32.ofInt 1)), .ref B], me_w M J)) rfl k
    have k := me_put rfl (by decide) k
    have k : nt_rn X _ 160 (29, [(0, .ref B), (1, .int (y))], [], me_w M (nt_u J B 20 (dd + (Int32.ofInt 1)))) _ := k
    have hT2 := md_Td (y := dd + Int32.ofInt 1) hP hO hT
    have k := ly_revb 1 (c' := (30, [(0, .ref B), (1, .int (y))], [.ref B], me_w M (nt_u J B 20 (dd + (Int32.ofInt 1))))) rfl k
    have k := lz_get (a := B) (g := 1122) (M := me_w M (nt_u J B 20 (dd + (Int32.ofInt 1)))) (v := .ref Op) rfl (nt_gfR rfl hO.1) k
    have k := ly_revb 1 (c' := (34, [(0, .ref B), (1, .int (y))], [.ref B, .ref Op], me_w M (nt_u J B 20 (dd + (Int32.ofInt 1))))) rfl k
    have k := lz_get (a := B) (g := 1123) (M := me_w M (nt_u J B 20 (dd + (Int32.ofInt 1)))) (v := .int (nI S.length)) rfl (congrArg Value.int (hT2.2.2.2.1)) k
    have k := ly_revb 1 (c' := (38, [(0, .ref B), (1, .int (y))], [.int (y), .int (nI S.length), .ref Op], me_w M (nt_u J B 20 (dd + (Int32.ofInt 1))))) rfl k
    have hb : S.length < nt_l M Op := me_iastb (q := S.length) rfl rfl (by omega) k
    rw [hO.2.2.1] at hb
    have k := me_iast (q := S.length) rfl (rfl) (by omega) k
    have k := ly_revb 2 (c' := (41, [(0, .ref B), (1, .int (y))], [.ref B, .ref B], me_w M (nt_u (nt_u J B 20 (dd + (Int32.ofInt 1))) Op S.length (y)))) rfl k
    have k := lz_get (a := B) (g := 1123) (M := me_w M (nt_u (nt_u J B 20 (dd + (Int32.ofInt 1))) Op S.length (y))) (v := .int (nI S.length)) rfl (congrArg Value.int ((me_uj (Ne.symm (hO.2.1.1))).trans (hT2.2.2.2.1))) k
    have k := ly_revb 2 (c' := (46, [(0, .ref B), (1, .int (y))], [.int ((nI S.length) + (Int32.ofInt 1)), .ref B], me_w M (nt_u (nt_u J B 20 (dd + (Int32.ofInt 1))) Op S.length (y)))) rfl k
    rw [show ((nI S.length) + (Int32.ofInt 1) : Int32) = nI (S.length + 1) from me_add (k := 1)] at k
    have k := me_put rfl (by decide) k
    have k : nt_rn X _ 160 (49, [(0, .ref B), (1, .int (y))], [], me_w M (nt_u (nt_u (nt_u J B 20 (dd + (Int32.ofInt 1))) Op S.length (y)) B 23 (nI (S.length + 1)))) _ := k
    have k := ly_revb 1 (c' := (50, [(0, .ref B), (1, .int (y))], [.int (Int32.ofInt 1)], me_w M (nt_u (nt_u (nt_u J B 20 (dd + (Int32.ofInt 1))) Op S.length (y)) B 23 (nI (S.length + 1))))) rfl k
    have k := lz_ri rfl (by decide) k
    exact Or.inr ⟨h6, _, k, md_Tpush hP hO hT2 hb⟩
theorem md_strength {X : nt_X} {d : Nat} {s : Int32} {M : nt_M} {J : Nat → Nat → Int32} {o : Option Value × nt_M} (k : nt_ev X d 164 [.int s] (me_w M J) o) : o = (some (.int (nI (lb_sg s))), me_w M J) := by
  have k : nt_rn X d 164 (0, [(0, .int s)], [], me_w M J) o := k
  have k := ly_revb 3 (c' := (if s = (Int32.ofInt 13) then 6 else 10, [(0, .int (s))], [], me_w M J)) rfl k
  by_cases h3 : s = (Int32.ofInt 13)
  · rw [if_pos (show s = (Int32.ofInt 13) from h3)] at k
    have k := ly_revb 2 (c' := (31, [(0, .int (s))], [.int (Int32.ofInt 1)], me_w M J)) rfl k
    have k := lz_ri rfl (by decide) k
    have e2 : lb_sg s = 1 := by
      unfold lb_sg
      rw [if_pos h3]
    rw [k, e2]
    rfl
  · rw [if_neg (show ¬ (s = (Int32.ofInt 13)) from h3)] at k
    have k := ly_revb 3 (c' := (if s = (Int32.ofInt 12) then 16 else 20, [(0, .int (s))], [], me_w M J)) rfl k
    by_cases h13 : s = (Int32.ofInt 12)
    · rw [if_pos (show s = (Int32.ofInt 12) from h13)] at k
      have k := ly_revb 2 (c' := (31, [(0, .int (s))], [.int (Int32.ofInt 2)], me_w M J)) rfl k
      have k := lz_ri rfl (by decide) k
      have e2 : lb_sg s = 2 := by
        unfold lb_sg
        rw [if_neg h3, if_pos h13]
      rw [k, e2]
      rfl
    · rw [if_neg (show ¬ (s = (Int32.ofInt 12)) from h13)] at k
      have k := ly_revb 3 (c' := (if s = (Int32.ofInt 11) then 26 else 30, [(0, .int (s))], [], me_w M J)) rfl k
      by_cases h23 : s = (Int32.ofInt 11)
      · rw [if_pos (show s = (Int32.ofInt 11) from h23)] at k
        have k := ly_revb 2 (c' := (31, [(0, .int (s))], [.int (Int32.ofInt 3)], me_w M J)) rfl k
        have k := lz_ri rfl (by decide) k
        have e2 : lb_sg s = 3 := by
          unfold lb_sg
          rw [if_neg h3, if_neg h13, if_pos h23]
        rw [k, e2]
        rfl
      · rw [if_neg (show ¬ (s = (Int32.ofInt 11)) from h23)] at k
        have k := ly_revb 1 (c' := (31, [(0, .int (s))], [.int (Int32.ofInt 0)], me_w M J)) rfl k
        have k := lz_ri rfl (by decide) k
        have e2 : lb_sg s = 0 := by
          unfold lb_sg
          rw [if_neg h3, if_neg h13, if_neg h23]
        rw [k, e2]
        rfl
theorem lb_sg_le {s : Int32} : lb_sg s ≤ 3 := by
  unfold lb_sg
  by_cases h1 : s = Int32.ofInt 13
  · rw [if_pos h1]; decide
  rw [if_neg h1]
  by_cases h2 : s = Int32.ofInt 12
  · rw [if_pos h2]; decide
  rw [if_neg h2]
  by_cases h3 : s = Int32.ofInt 11
  · rw [if_pos h3]; decide
  rw [if_neg h3]
  decide
theorem md_settles {X : nt_X} {d t x B Tb Sg Ln Op q m l : Nat} {f : Nat → Int32} {M : nt_M} {J0 : Nat → Nat → Int32} {o : Option Value × nt_M} {wr : Int32} (hP : md_P M J0 f t x B Tb Sg Ln) (hO : md_O M B Tb Sg Ln Op) (hl : l ≤ 3) (hp : q ≤ t) : ∀ (S : List Int32) (dd : Int32) (e : lb_E) (J : Nat → Nat → Int32), md_T J0 B Sg Ln Op x q wr m e.2 dd S J → nt_ev X d 163 [.ref B, .int (nI l)] (me_w M J) o → ∃ J', o = (none, me_w M J') ∧ md_T J0 B Sg Ln Op x q wr m (lb_st l S dd e).2.2.2 (lb_st l S dd e).1 (lb_st l S dd e).2.1 J' := by
  intro S
  induction S with
  | nil =>
    intro dd e J hT k
    have k : nt_rn X d 163 (0, [(0, .ref B), (1, .int (nI l))], [], me_w M J) o := k
    have t4 : t ≤ 400 := hP.2.2.2.2.2.1
    have k := ly_revb 1 (c' := (1, [(0, .ref B), (1, .int (nI l))], [.ref B], me_w M J)) rfl k
    have k := lz_get (a := B) (g := 1123) (M := me_w M J) (v := .int (nI 0)) rfl (congrArg Value.int (hT.2.2.2.1)) k
    have k := ly_revb 1 (c' := (if (nI 0) ≤ 0 then 76 else 7, [(0, .ref B), (1, .int (nI l))], [], me_w M J)) rfl k
    rw [if_pos (show (nI 0) ≤ 0 from by decide)] at k
    have k := lz_rv rfl rfl k
    exact ⟨J, k, hT⟩
  | cons s S ih =>
    intro dd e J hT k
    have s4 : S.length + 1 ≤ 400 := hT.2.2.2.2.2
    have sr := lb_sg_le (s := s)
    have k : nt_rn X d 163 (0, [(0, .ref B), (1, .int (nI l))], [], me_w M J) o := k
    have t4 : t ≤ 400 := hP.2.2.2.2.2.1
    have k := ly_revb 1 (c' := (1, [(0, .ref B), (1, .int (nI l))], [.ref B], me_w M J)) rfl k
    have k := lz_get (a := B) (g := 1123) (M := me_w M J) (v := .int (nI (S.length + 1))) rfl (congrArg Value.int (hT.2.2.2.1)) k
    have k := ly_revb 1 (c' := (if (nI (S.length + 1)) ≤ 0 then 76 else 7, [(0, .ref B), (1, .int (nI l))], [], me_w M J)) rfl k
    rw [if_neg (show ¬ ((nI (S.length + 1)) ≤ 0) from nI_nle (by omega) (by omega))] at k
    have k := ly_revb 1 (c' := (8, [(0, .ref B), (1, .int (nI l))], [.ref B], me_w M J)) rfl k
    have k := lz_get (a := B) (g := 1122) (M := me_w M J) (v := .ref Op) rfl (nt_gfR rfl hO.1) k
    have k := ly_revb 1 (c' := (12, [(0, .ref B), (1, .int (nI l))], [.ref B, .ref Op], me_w M J)) rfl k
    have k := lz_get (a := B) (g := 1123) (M := me_w M J) (v := .int (nI (S.length + 1))) rfl (congrArg Value.int (hT.2.2.2.1)) k
    have k := ly_revb 2 (c' := (17, [(0, .ref B), (1, .int (nI l))], [.int ((nI (S.length + 1)) - (Int32.ofInt 1)), .ref Op], me_w M J)) rfl k
    rw [show ((nI (S.length + 1)) - (Int32.ofInt 1) : Int32) = nI S.length from (me_subn (b := 1) (by omega)).trans (congrArg nI (by omega))] at k
    have k := me_iald (q := S.length) (v := s) rfl (hO.2.2.2) (rfl) (by omega) (hT.2.2.2.2.1.1) k
    obtain ⟨d1, o1, ed, kc, k⟩ := lz_c (g := 164) (q := 0) (vs := [.int (s)]) (rest := []) rfl rfl (by decide) (Or.inl ⟨_, rfl, rfl⟩) rfl k
    have e1 := md_strength kc
    subst e1
    have k : nt_rn X _ 163 (21, [(0, .ref B), (1, .int (nI l))], [.int (nI (lb_sg s))], me_w M J) _ := k
    have k := ly_revb 2 (c' := (if (nI (lb_sg s)) < (nI l) then 76 else 25, [(0, .ref B), (1, .int (nI l))], [], me_w M J)) rfl k
    by_cases h22 : lb_sg s < l
    · rw [if_pos (show (nI (lb_sg s)) < (nI l) from nI_lt h22 (by omega))] at k
      have k := lz_rv rfl rfl k
      rw [lb_st_no h22]
      exact ⟨J, k, hT⟩
    · rw [if_neg (show ¬ ((nI (lb_sg s)) < (nI l)) from nI_nlt (Nat.not_lt.mp h22) (by omega))] at k
      have k := ly_revb 2 (c' := (27, [(0, .ref B), (1, .int (nI l))], [.ref B, .ref B], me_w M J)) rfl k
      have k := lz_get (a := B) (g := 1123) (M := me_w M J) (v := .int (nI (S.length + 1))) rfl (congrArg Value.int (hT.2.2.2.1)) k
      have k := ly_revb 2 (c' := (32, [(0, .ref B), (1, .int (nI l))], [.int ((nI (S.length + 1)) - (Int32.ofInt 1)), .ref B], me_w M J)) rfl k
      rw [show ((nI (S.length + 1)) - (Int32.ofInt 1) : Int32) = nI S.length from (me_subn (b := 1) (by omega)).trans (congrArg nI (by omega))] at k
      have k := me_put rfl (by decide) k
      have k : nt_rn X _ 163 (35, [(0, .ref B), (1, .int (nI l))], [], me_w M (nt_u J B 23 (nI S.length))) _ := k
      have hT2 : md_T J0 B Sg Ln Op x q wr m e.2 dd S (nt_u J B 23 (nI S.length)) := md_Tpop hP hO hT
      have k := ly_revb 2 (c' := (37, [(0, .ref B), (1, .int (nI l))], [.ref B, .ref B], me_w M (nt_u J B 23 (nI S.length)))) rfl k
      have k := lz_get (a := B) (g := 1122) (M := me_w M (nt_u J B 23 (nI S.length))) (v := .ref Op) rfl (nt_gfR rfl hO.1) k
      have k := ly_revb 1 (c' := (41, [(0, .ref B), (1, .int (nI l))], [.ref B, .ref Op, .ref B], me_w M (nt_u J B 23 (nI S.length)))) rfl k
      have k := lz_get (a := B) (g := 1123) (M := me_w M (nt_u J B 23 (nI S.length))) (v := .int (nI S.length)) rfl (congrArg Value.int (hT2.2.2.2.1)) k
      have k := me_iald (q := S.length) (v := s) rfl (hO.2.2.2) (rfl) (by omega) ((me_uj hO.2.1.1).trans hT.2.2.2.2.1.1) k
      have k := ly_revb 1 (c' := (46, [(0, .ref B), (1, .int (nI l))], [.int (Int32.ofInt 0), .int (s), .ref B], me_w M (nt_u J B 23 (nI S.length)))) rfl k
      obtain ⟨d1, o1, ed, kc, k⟩ := lz_c (g := 155) (q := 1) (vs := [.ref B, .int (s), .int (Int32.ofInt 0)]) (rest := []) rfl rfl (by decide) (Or.inr (Or.inl ⟨_, rfl, rfl⟩)) rfl k
      obtain ⟨hb, e1⟩ := md_puts (md_TP hP hO hT2) hT2.1 hp kc
      rw [me_p0] at e1
      subst e1
      have hT3 := md_Tup hP hO hT2 (md_Se (y := s) (md_TP hP hO hT2) hT2.1 hb)
      have k : nt_rn X _ 163 (49, [(0, .ref B), (1, .int (nI l))], [], me_w M (nt_u (nt_u (nt_u J B 23 (nI S.length)) Sg (400 * x + e.2.1) s) Ln x (nI (e.2.1 + 1)))) _ := k
      have k := ly_revb 1 (c' := (50, [(0, .ref B), (1, .int (nI l))], [.ref B], me_w M (nt_u (nt_u (nt_u J B 23 (nI S.length)) Sg (400 * x + e.2.1) s) Ln x (nI (e.2.1 + 1))))) rfl k
      have k := lz_get (a := B) (g := 1122) (M := me_w M (nt_u (nt_u (nt_u J B 23 (nI S.length)) Sg (400 * x + e.2.1) s) Ln x (nI (e.2.1 + 1)))) (v := .ref Op) rfl (nt_gfR rfl hO.1) k
      have k := ly_revb 1 (c' := (54, [(0, .ref B), (1, .int (nI l))], [.ref B, .ref Op], me_w M (nt_u (nt_u (nt_u J B 23 (nI S.length)) Sg (400 * x + e.2.1) s) Ln x (nI (e.2.1 + 1))))) rfl k
      have k := lz_get (a := B) (g := 1123) (M := me_w M (nt_u (nt_u (nt_u J B 23 (nI S.length)) Sg (400 * x + e.2.1) s) Ln x (nI (e.2.1 + 1)))) (v := .int (nI S.length)) rfl (congrArg Value.int (hT3.2.2.2.1)) k
      have k := me_iald (q := S.length) (v := s) rfl (hO.2.2.2) (rfl) (by omega) ((me_uj hO.2.1.2.2.2).trans ((me_uj hO.2.1.2.2.1).trans ((me_uj hO.2.1.1).trans hT.2.2.2.2.1.1))) k
      have k := ly_revb 2 (c' := (if s = (Int32.ofInt 11) then 63 else 0, [(0, .ref B), (1, .int (nI l))], [], me_w M (nt_u (nt_u (nt_u J B 23 (nI S.length)) Sg (400 * x + e.2.1) s) Ln x (nI (e.2.1 + 1))))) rfl k
      by_cases h60 : s = Int32.ofInt 11
      · rw [if_pos (show s = (Int32.ofInt 11) from h60)] at k
        have k := ly_revb 2 (c' := (65, [(0, .ref B), (1, .int (nI l))], [.ref B, .ref B], me_w M (nt_u (nt_u (nt_u J B 23 (nI S.length)) Sg (400 * x + e.2.1) s) Ln x (nI (e.2.1 + 1))))) rfl k
        have k := lz_get (a := B) (g := 1120) (M := me_w M (nt_u (nt_u (nt_u J B 23 (nI S.length)) Sg (400 * x + e.2.1) s) Ln x (nI (e.2.1 + 1)))) (v := .int (dd)) rfl (congrArg Value.int (hT3.2.2.1)) k
        have k := ly_revb 2 (c' := (70, [(0, .ref B), (1, .int (nI l))], [.int (dd - (Int32.ofInt 1)), .ref B], me_w M (nt_u (nt_u (nt_u J B 23 (nI S.length)) Sg (400 * x + e.2.1) s) Ln x (nI (e.2.1 + 1))))) rfl k
        have k := me_put rfl (by decide) k
        have k : nt_rn X _ 163 (73, [(0, .ref B), (1, .int (nI l))], [], me_w M (nt_u (nt_u (nt_u (nt_u J B 23 (nI S.length)) Sg (400 * x + e.2.1) s) Ln x (nI (e.2.1 + 1))) B 20 (dd - (Int32.ofInt 1)))) _ := k
        have k := ly_revb 1 (c' := (0, [(0, .ref B), (1, .int (nI l))], [], me_w M (nt_u (nt_u (nt_u (nt_u J B 23 (nI S.length)) Sg (400 * x + e.2.1) s) Ln x (nI (e.2.1 + 1))) B 20 (dd - (Int32.ofInt 1))))) rfl k
        have hT4 := md_Td (y := dd - Int32.ofInt 1) hP hO hT3
        obtain ⟨J', e1, h⟩ := ih _ (lb_em e (lb_tw s) s) _ hT4 k
        have es : lb_st l (s :: S) dd e = lb_st l S (dd - Int32.ofInt 1) (lb_em e (lb_tw s) s) := by
          show (if l ≤ lb_sg s then lb_st l S (if s = Int32.ofInt 11 then dd - Int32.ofInt 1 else dd) (lb_em e (lb_tw s) s) else (dd, s :: S, e)) = _
          rw [if_pos (Nat.not_lt.mp h22), if_pos h60]
        rw [es]
        exact ⟨J', e1, h⟩
      · rw [if_neg (show ¬ (s = (Int32.ofInt 11)) from h60)] at k
        obtain ⟨J', e1, h⟩ := ih _ (lb_em e (lb_tw s) s) _ hT3 k
        have es : lb_st l (s :: S) dd e = lb_st l S dd (lb_em e (lb_tw s) s) := by
          show (if l ≤ lb_sg s then lb_st l S (if s = Int32.ofInt 11 then dd - Int32.ofInt 1 else dd) (lb_em e (lb_tw s) s) else (dd, s :: S, e)) = _
          rw [if_pos (Nat.not_lt.mp h22), if_neg h60]
        rw [es]
        exact ⟨J', e1, h⟩
theorem md_insl {X : nt_X} {d t x B Tb Sg Ln Op q m : Nat} {f : Nat → Int32} {M : nt_M} {J0 J : Nat → Nat → Int32} {o : Option Value × nt_M} {wr dd : Int32} {e : Nat × (Nat → Int32)} {S : List Int32} (hP : md_P M J0 f t x B Tb Sg Ln) (hO : md_O M B Tb Sg Ln Op) (hT : md_T J0 B Sg Ln Op x q wr m e dd S J) : ∀ (c i : Nat), i + c = S.length → (∀ j, j < i → ¬ J Op j = Int32.ofInt 91) → nt_rn X d 165 (2, [(1, .int (nI i)), (0, .ref B)], [], me_w M J) o → ∃ r, o = (some (.int r), me_w M J) ∧ (r = Int32.ofInt 1 ∧ Int32.ofInt 91 ∈ S ∨ r = Int32.ofInt 0 ∧ ¬ Int32.ofInt 91 ∈ S) := by
  have s4 : S.length ≤ 400 := hT.2.2.2.2.2
  have hmem := lb_stk_mem (c := Int32.ofInt 91) S hT.2.2.2.2.1
  intro c
  induction c with
  | zero =>
    intro i hc hj k
    have k := ly_revb 2 (c' := (4, [(1, .int (nI i)), (0, .ref B)], [.ref B, .int (nI i)], me_w M J)) rfl k
    have k := lz_get (a := B) (g := 1123) (M := me_w M J) (v := .int (nI S.length)) rfl (congrArg Value.int (hT.2.2.2.1)) k
    have k := ly_revb 1 (c' := (if (nI S.length) ≤ (nI i) then 29 else 10, [(1, .int (nI i)), (0, .ref B)], [], me_w M J)) rfl k
    rw [if_pos (show (nI S.length) ≤ (nI i) from nI_le (by omega) (by omega))] at k
    have k := ly_revb 1 (c' := (30, [(1, .int (nI i)), (0, .ref B)], [.int (Int32.ofInt 0)], me_w M J)) rfl k
    have k := lz_ri rfl (by decide) k
    refine ⟨_, k, Or.inr ⟨rfl, fun h => ?_⟩⟩
    obtain ⟨j, a, b⟩ := hmem.mp h
    exact hj j (by omega) b
  | succ c ih =>
    intro i hc hj k
    have k := ly_revb 2 (c' := (4, [(1, .int (nI i)), (0, .ref B)], [.ref B, .int (nI i)], me_w M J)) rfl k
    have k := lz_get (a := B) (g := 1123) (M := me_w M J) (v := .int (nI S.length)) rfl (congrArg Value.int (hT.2.2.2.1)) k
    have k := ly_revb 1 (c' := (if (nI S.length) ≤ (nI i) then 29 else 10, [(1, .int (nI i)), (0, .ref B)], [], me_w M J)) rfl k
    rw [if_neg (show ¬ ((nI S.length) ≤ (nI i)) from nI_ge (by omega) (by omega))] at k
    have k := ly_revb 1 (c' := (11, [(1, .int (nI i)), (0, .ref B)], [.ref B], me_w M J)) rfl k
    have k := lz_get (a := B) (g := 1122) (M := me_w M J) (v := .ref Op) rfl (nt_gfR rfl hO.1) k
    have k := ly_revb 1 (c' := (15, [(1, .int (nI i)), (0, .ref B)], [.int (nI i), .ref Op], me_w M J)) rfl k
    have k := me_iald (q := i) (v := J Op i) rfl (hO.2.2.2) (rfl) (by omega) (rfl) k
    have k := ly_revb 2 (c' := (if (J Op i) = (Int32.ofInt 91) then 21 else 23, [(1, .int (nI i)), (0, .ref B)], [], me_w M J)) rfl k
    by_cases h18 : J Op i = Int32.ofInt 91
    · rw [if_pos (show (J Op i) = (Int32.ofInt 91) from h18)] at k
      have k := ly_revb 1 (c' := (22, [(1, .int (nI i)), (0, .ref B)], [.int (Int32.ofInt 1)], me_w M J)) rfl k
      have k := lz_ri rfl (by decide) k
      exact ⟨_, k, Or.inl ⟨rfl, hmem.mpr ⟨i, by omega, h18⟩⟩⟩
    · rw [if_neg (show ¬ ((J Op i) = (Int32.ofInt 91)) from h18)] at k
      have k := ly_revb 1 (c' := (26, [(1, .int ((nI i) + Int32.ofInt 1)), (0, .ref B)], [], me_w M J)) rfl k
      rw [show ((nI i) + Int32.ofInt 1 : Int32) = nI (i + 1) from me_add (k := 1)] at k
      have k := ly_revb 1 (c' := (2, [(1, .int (nI (i + 1))), (0, .ref B)], [], me_w M J)) rfl k
      refine ih (i + 1) (by omega) (fun j hj2 => ?_) k
      by_cases c2 : j = i
      · rw [c2]; exact h18
      · exact hj j (by omega)
theorem md_inside {X : nt_X} {d t x B Tb Sg Ln Op q m : Nat} {f : Nat → Int32} {M : nt_M} {J0 J : Nat → Nat → Int32} {o : Option Value × nt_M} {wr dd : Int32} {e : Nat × (Nat → Int32)} {S : List Int32} (hP : md_P M J0 f t x B Tb Sg Ln) (hO : md_O M B Tb Sg Ln Op) (hT : md_T J0 B Sg Ln Op x q wr m e dd S J) (k : nt_ev X d 165 [.ref B] (me_w M J) o) : ∃ r, o = (some (.int r), me_w M J) ∧ (r = Int32.ofInt 1 ∧ Int32.ofInt 91 ∈ S ∨ r = Int32.ofInt 0 ∧ ¬ Int32.ofInt 91 ∈ S) := by
  have k : nt_rn X d 165 (0, [(0, .ref B)], [], me_w M J) o := k
  have t4 : t ≤ 400 := hP.2.2.2.2.2.1
  have k := ly_revb 2 (c' := (2, [(1, .int (Int32.ofInt 0)), (0, .ref B)], [], me_w M J)) rfl k
  exact md_insl hP hO hT S.length 0 (by omega) (fun j h => absurd h (Nat.not_lt_zero _)) k
