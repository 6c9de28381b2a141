/-! the other side reads a yard -/
def lb_hh (h : Nat) : Int32 := if h = 0 then Int32.ofInt (-1) else nI h
def yr_C (R0 R1 R2 B Sg Ln : Nat) (C : lb_C) (J : Nat → Nat → Int32) : Prop := ((R0 ≠ B ∧ R0 ≠ Sg ∧ R0 ≠ Ln) ∧ (R1 ≠ B ∧ R1 ≠ Sg ∧ R1 ≠ Ln) ∧ (R2 ≠ B ∧ R2 ≠ Sg ∧ R2 ≠ Ln)) ∧ (R0 ≠ R1 ∧ R0 ≠ R2 ∧ R1 ≠ R2) ∧ (∀ n, J R0 n = C 5 n) ∧ (∀ n, J R1 (3 * n + 0) = C 6 n ∧ J R1 (3 * n + 1) = C 7 n ∧ J R1 (3 * n + 2) = C 8 n) ∧ (∀ n, J R2 (4 * n + 0) = C 9 n ∧ J R2 (4 * n + 1) = C 10 n ∧ J R2 (4 * n + 2) = C 11 n ∧ J R2 (4 * n + 3) = C 12 n)
theorem yr_Cr {R0 R1 R2 B Sg Ln : Nat} {C : lb_C} {J J' : Nat → Nat → Int32} (h : yr_C R0 R1 R2 B Sg Ln C J) (e : ∀ a, a ≠ B → a ≠ Sg → a ≠ Ln → J' a = J a) : yr_C R0 R1 R2 B Sg Ln C J' := by
  obtain ⟨⟨⟨a1, a2, a3⟩, ⟨b1, b2, b3⟩, ⟨c1, c2, c3⟩⟩, n, h0, h1, h2⟩ := h
  refine ⟨⟨⟨a1, a2, a3⟩, ⟨b1, b2, b3⟩, ⟨c1, c2, c3⟩⟩, n, ?_, ?_, ?_⟩
  · rw [e R0 a1 a2 a3]; exact h0
  · rw [e R1 b1 b2 b3]; exact h1
  · rw [e R2 c1 c2 c3]; exact h2
theorem yr_C0 {R0 R1 R2 B Sg Ln n j : Nat} {x : Int32} {C : lb_C} {J : Nat → Nat → Int32} (ej : j = n) (h : yr_C R0 R1 R2 B Sg Ln C J) : yr_C R0 R1 R2 B Sg Ln (nt_u C 5 n x) (nt_u J R0 j x) := by
  subst ej
  obtain ⟨ha, ⟨n1, n2, n3⟩, h0, h1, h2⟩ := h
  refine ⟨ha, ⟨n1, n2, n3⟩, fun m => ?_, fun m => ?_, fun m => ?_⟩
  · by_cases e : m = j
    · subst e
      rw [me_us, me_us]
    · rw [me_uk e, me_uk e]
      exact h0 m
  · rw [me_uo (Ne.symm n1), me_uo (by decide), me_uo (by decide), me_uo (by decide)]
    exact h1 m
  · rw [me_uo (Ne.symm n2), me_uo (by decide), me_uo (by decide), me_uo (by decide), me_uo (by decide)]
    exact h2 m
theorem yr_C10 {R0 R1 R2 B Sg Ln n j : Nat} {x : Int32} {C : lb_C} {J : Nat → Nat → Int32} (ej : j = 3 * n + 0) (h : yr_C R0 R1 R2 B Sg Ln C J) : yr_C R0 R1 R2 B Sg Ln (nt_u C 6 n x) (nt_u J R1 j x) := by
  subst ej
  obtain ⟨ha, ⟨n1, n2, n3⟩, h0, h1, h2⟩ := h
  refine ⟨ha, ⟨n1, n2, n3⟩, fun m => ?_, fun m => ⟨?_, ?_, ?_⟩, fun m => ?_⟩
  · rw [me_uo n1, me_uo (by decide)]
    exact h0 m
  · by_cases e : m = n
    · subst e
      rw [me_us, me_us]
    · rw [me_uk (by omega), me_uk e]
      exact (h1 m).1
  · rw [me_uk (by omega), me_uo (by decide)]
    exact (h1 m).2.1
  · rw [me_uk (by omega), me_uo (by decide)]
    exact (h1 m).2.2
  · rw [me_uo (Ne.symm n3), me_uo (by decide), me_uo (by decide), me_uo (by decide), me_uo (by decide)]
    exact h2 m
theorem yr_C11 {R0 R1 R2 B Sg Ln n j : Nat} {x : Int32} {C : lb_C} {J : Nat → Nat → Int32} (ej : j = 3 * n + 1) (h : yr_C R0 R1 R2 B Sg Ln C J) : yr_C R0 R1 R2 B Sg Ln (nt_u C 7 n x) (nt_u J R1 j x) := by
  subst ej
  obtain ⟨ha, ⟨n1, n2, n3⟩, h0, h1, h2⟩ := h
  refine ⟨ha, ⟨n1, n2, n3⟩, fun m => ?_, fun m => ⟨?_, ?_, ?_⟩, fun m => ?_⟩
  · rw [me_uo n1, me_uo (by decide)]
    exact h0 m
  · rw [me_uk (by omega), me_uo (by decide)]
    exact (h1 m).1
  · by_cases e : m = n
    · subst e
      rw [me_us, me_us]
    · rw [me_uk (by omega), me_uk e]
      exact (h1 m).2.1
  · rw [me_uk (by omega), me_uo (by decide)]
    exact (h1 m).2.2
  · rw [me_uo (Ne.symm n3), me_uo (by decide), me_uo (by decide), me_uo (by decide), me_uo (by decide)]
    exact h2 m
theorem yr_C12 {R0 R1 R2 B Sg Ln n j : Nat} {x : Int32} {C : lb_C} {J : Nat → Nat → Int32} (ej : j = 3 * n + 2) (h : yr_C R0 R1 R2 B Sg Ln C J) : yr_C R0 R1 R2 B Sg Ln (nt_u C 8 n x) (nt_u J R1 j x) := by
  subst ej
  obtain ⟨ha, ⟨n1, n2, n3⟩, h0, h1, h2⟩ := h
  refine ⟨ha, ⟨n1, n2, n3⟩, fun m => ?_, fun m => ⟨?_, ?_, ?_⟩, fun m => ?_⟩
  · rw [me_uo n1, me_uo (by decide)]
    exact h0 m
  · rw [me_uk (by omega), me_uo (by decide)]
    exact (h1 m).1
  · rw [me_uk (by omega), me_uo (by decide)]
    exact (h1 m).2.1
  · by_cases e : m = n
    · subst e
      rw [me_us, me_us]
    · rw [me_uk (by omega), me_uk e]
      exact (h1 m).2.2
  · rw [me_uo (Ne.symm n3), me_uo (by decide), me_uo (by decide), me_uo (by decide), me_uo (by decide)]
    exact h2 m
theorem yr_C20 {R0 R1 R2 B Sg Ln n j : Nat} {x : Int32} {C : lb_C} {J : Nat → Nat → Int32} (ej : j = 4 * n + 0) (h : yr_C R0 R1 R2 B Sg Ln C J) : yr_C R0 R1 R2 B Sg Ln (nt_u C 9 n x) (nt_u J R2 j x) := by
  subst ej
  obtain ⟨ha, ⟨n1, n2, n3⟩, h0, h1, h2⟩ := h
  refine ⟨ha, ⟨n1, n2, n3⟩, fun m => ?_, fun m => ?_, fun m => ⟨?_, ?_, ?_, ?_⟩⟩
  · rw [me_uo n2, me_uo (by decide)]
    exact h0 m
  · rw [me_uo n3, me_uo (by decide), me_uo (by decide), me_uo (by decide)]
    exact h1 m
  · by_cases e : m = n
    · subst e
      rw [me_us, me_us]
    · rw [me_uk (by omega), me_uk e]
      exact (h2 m).1
  · rw [me_uk (by omega), me_uo (by decide)]
    exact (h2 m).2.1
  · rw [me_uk (by omega), me_uo (by decide)]
    exact (h2 m).2.2.1
  · rw [me_uk (by omega), me_uo (by decide)]
    exact (h2 m).2.2.2
theorem yr_C21 {R0 R1 R2 B Sg Ln n j : Nat} {x : Int32} {C : lb_C} {J : Nat → Nat → Int32} (ej : j = 4 * n + 1) (h : yr_C R0 R1 R2 B Sg Ln C J) : yr_C R0 R1 R2 B Sg Ln (nt_u C 10 n x) (nt_u J R2 j x) := by
  subst ej
  obtain ⟨ha, ⟨n1, n2, n3⟩, h0, h1, h2⟩ := h
  refine ⟨ha, ⟨n1, n2, n3⟩, fun m => ?_, fun m => ?_, fun m => ⟨?_, ?_, ?_, ?_⟩⟩
  · rw [me_uo n2, me_uo (by decide)]
    exact h0 m
  · rw [me_uo n3, me_uo (by decide), me_uo (by decide), me_uo (by decide)]
    exact h1 m
  · rw [me_uk (by omega), me_uo (by decide)]
    exact (h2 m).1
  · by_cases e : m = n
    · subst e
      rw [me_us, me_us]
    · rw [me_uk (by omega), me_uk e]
      exact (h2 m).2.1
  · rw [me_uk (by omega), me_uo (by decide)]
    exact (h2 m).2.2.1
  · rw [me_uk (by omega), me_uo (by decide)]
    exact (h2 m).2.2.2
theorem yr_C22 {R0 R1 R2 B Sg Ln n j : Nat} {x : Int32} {C : lb_C} {J : Nat → Nat → Int32} (ej : j = 4 * n + 2) (h : yr_C R0 R1 R2 B Sg Ln C J) : yr_C R0 R1 R2 B Sg Ln (nt_u C 11 n x) (nt_u J R2 j x) := by
  subst ej
  obtain ⟨ha, ⟨n1, n2, n3⟩, h0, h1, h2⟩ := h
  refine ⟨ha, ⟨n1, n2, n3⟩, fun m => ?_, fun m => ?_, fun m => ⟨?_, ?_, ?_, ?_⟩⟩
  · rw [me_uo n2, me_uo (by decide)]
    exact h0 m
  · rw [me_uo n3, me_uo (by decide), me_uo (by decide), me_uo (by decide)]
    exact h1 m
  · rw [me_uk (by omega), me_uo (by decide)]
    exact (h2 m).1
  · rw [me_uk (by omega), me_uo (by decide)]
    exact (h2 m).2.1
  · by_cases e : m = n
    · subst e
      rw [me_us, me_us]
    · rw [me_uk (by omega), me_uk e]
      exact (h2 m).2.2.1
  · rw [me_uk (by omega), me_uo (by decide)]
    exact (h2 m).2.2.2
theorem yr_C23 {R0 R1 R2 B Sg Ln n j : Nat} {x : Int32} {C : lb_C} {J : Nat → Nat → Int32} (ej : j = 4 * n + 3) (h : yr_C R0 R1 R2 B Sg Ln C J) : yr_C R0 R1 R2 B Sg Ln (nt_u C 12 n x) (nt_u J R2 j x) := by
  subst ej
  obtain ⟨ha, ⟨n1, n2, n3⟩, h0, h1, h2⟩ := h
  refine ⟨ha, ⟨n1, n2, n3⟩, fun m => ?_, fun m => ?_, fun m => ⟨?_, ?_, ?_, ?_⟩⟩
  · rw [me_uo n2, me_uo (by decide)]
    exact h0 m
  · rw [me_uo n3, me_uo (by decide), me_uo (by decide), me_uo (by decide)]
    exact h1 m
  · rw [me_uk (by omega), me_uo (by decide)]
    exact (h2 m).1
  · rw [me_uk (by omega), me_uo (by decide)]
    exact (h2 m).2.1
  · rw [me_uk (by omega), me_uo (by decide)]
    exact (h2 m).2.2.1
  · by_cases e : m = n
    · subst e
      rw [me_us, me_us]
    · rw [me_uk (by omega), me_uk e]
      exact (h2 m).2.2.2
def yr_T (R0 R1 R2 : Nat) (C : lb_C) (M : nt_M) (f : Nat → Int32) (t B Tb Sg Ln q : Nat) (wr : Int32) (m : Nat) (e : Nat × (Nat → Int32)) (u : Nat × Nat × Nat × Nat × Nat) (li : Nat) (J : Nat → Nat → Int32) : Prop := md_P M J f t 6 B Tb Sg Ln ∧ md_S J B Sg Ln 6 q wr m e J ∧ (J B 7 = nI u.1 ∧ J B 8 = nI u.2.1 ∧ J B 9 = nI u.2.2.1 ∧ J B 10 = nI u.2.2.2.1 ∧ J B 11 = lb_hh u.2.2.2.2) ∧ J B 21 = nI li ∧ yr_C R0 R1 R2 B Sg Ln C J
theorem yr_up {R0 R1 R2 : Nat} {C : lb_C} {M : nt_M} {f : Nat → Int32} {t B Tb Sg Ln q m li : Nat} {wr : Int32} {e : Nat × (Nat → Int32)} {u : Nat × Nat × Nat × Nat × Nat} {J : Nat → Nat → Int32} (hT : yr_T R0 R1 R2 C M f t B Tb Sg Ln q wr m e u li J) {J' : Nat → Nat → Int32} {q' m' : Nat} {wr' : Int32} {e' : Nat × (Nat → Int32)} (hS : md_S J B Sg Ln 6 q' wr' m' e' J') : yr_T R0 R1 R2 C M f t B Tb Sg Ln q' wr' m' e' u li J' := by
  obtain ⟨⟨p1, p2, p3, p4, p5, p6⟩, h1, ⟨c1, c2, c3, c4, c5⟩, c6, c7⟩ := hT
  have b1 := hS.2.2.2.2.2.1
  have b2 := hS.2.2.2.2.2.2.1
  exact ⟨⟨p1, p2, (b1 1 (by decide) (by decide) (by decide) (by decide)).trans p3, (b1 18 (by decide) (by decide) (by decide) (by decide)).trans p4, fun j => by rw [b2 Tb p2.1 p2.2.1 p2.2.2.1]; exact p5 j, p6⟩, md_Sself hS, ⟨(b1 7 (by decide) (by decide) (by decide) (by decide)).trans c1, (b1 8 (by decide) (by decide) (by decide) (by decide)).trans c2, (b1 9 (by decide) (by decide) (by decide) (by decide)).trans c3, (b1 10 (by decide) (by decide) (by decide) (by decide)).trans c4, (b1 11 (by decide) (by decide) (by decide) (by decide)).trans c5⟩, (b1 21 (by decide) (by decide) (by decide) (by decide)).trans c6, yr_Cr c7 b2⟩
theorem yr_u0 {R0 R1 R2 : Nat} {C : lb_C} {M : nt_M} {f : Nat → Int32} {t B Tb Sg Ln q m li : Nat} {wr : Int32} {e : Nat × (Nat → Int32)} {u : Nat × Nat × Nat × Nat × Nat} {J : Nat → Nat → Int32} {y : Nat} (hT : yr_T R0 R1 R2 C M f t B Tb Sg Ln q wr m e u li J) : yr_T R0 R1 R2 C M f t B Tb Sg Ln q wr m e (y, u.2.1, u.2.2.1, u.2.2.2.1, u.2.2.2.2) li (nt_u J B 7 (nI y)) := by
  obtain ⟨⟨p1, p2, p3, p4, p5, p6⟩, ⟨a1, a2, a3, a4, a5, a6, a7, a8⟩, ⟨c1, c2, c3, c4, c5⟩, c6, c7⟩ := hT
  have n1 := p2.2.2.2.1
  have n2 := p2.2.2.2.2.1
  exact ⟨⟨p1, p2, (me_uk (by decide)).trans p3, (me_uk (by decide)).trans p4, fun j => (me_uj p2.1).trans (p5 j), p6⟩, ⟨(me_uk (by decide)).trans a1, (me_uk (by decide)).trans a2, (me_uk (by decide)).trans a3, (me_uj (Ne.symm n2)).trans a4, fun j hj => (me_uj (Ne.symm n1)).trans (a5 j hj), fun _ _ _ _ _ => rfl, fun _ _ _ _ => rfl, a8⟩, ⟨me_us, (me_uk (by decide)).trans c2, (me_uk (by decide)).trans c3, (me_uk (by decide)).trans c4, (me_uk (by decide)).trans c5⟩, (me_uk (by decide)).trans c6, yr_Cr c7 (fun a h1 _ _ => me_uo h1)⟩
theorem yr_u1 {R0 R1 R2 : Nat} {C : lb_C} {M : nt_M} {f : Nat → Int32} {t B Tb Sg Ln q m li : Nat} {wr : Int32} {e : Nat × (Nat → Int32)} {u : Nat × Nat × Nat × Nat × Nat} {J : Nat → Nat → Int32} {y : Nat} (hT : yr_T R0 R1 R2 C M f t B Tb Sg Ln q wr m e u li J) : yr_T R0 R1 R2 C M f t B Tb Sg Ln q wr m e (u.1, y, u.2.2.1, u.2.2.2.1, u.2.2.2.2) li (nt_u J B 8 (nI y)) := by
  obtain ⟨⟨p1, p2, p3, p4, p5, p6⟩, ⟨a1, a2, a3, a4, a5, a6, a7, a8⟩, ⟨c1, c2, c3, c4, c5⟩, c6, c7⟩ := hT
  have n1 := p2.2.2.2.1
  have n2 := p2.2.2.2.2.1
  exact ⟨⟨p1, p2, (me_uk (by decide)).trans p3, (me_uk (by decide)).trans p4, fun j => (me_uj p2.1).trans (p5 j), p6⟩, ⟨(me_uk (by decide)).trans a1, (me_uk (by decide)).trans a2, (me_uk (by decide)).trans a3, (me_uj (Ne.symm n2)).trans a4, fun j hj => (me_uj (Ne.symm n1)).trans (a5 j hj), fun _ _ _ _ _ => rfl, fun _ _ _ _ => rfl, a8⟩, ⟨(me_uk (by decide)).trans c1, me_us, (me_uk (by decide)).trans c3, (me_uk (by decide)).trans c4, (me_uk (by decide)).trans c5⟩, (me_uk (by decide)).trans c6, yr_Cr c7 (fun a h1 _ _ => me_uo h1)⟩
theorem yr_u2 {R0 R1 R2 : Nat} {C : lb_C} {M : nt_M} {f : Nat → Int32} {t B Tb Sg Ln q m li : Nat} {wr : Int32} {e : Nat × (Nat → Int32)} {u : Nat × Nat × Nat × Nat × Nat} {J : Nat → Nat → Int32} {y : Nat} (hT : yr_T R0 R1 R2 C M f t B Tb Sg Ln q wr m e u li J) : yr_T R0 R1 R2 C M f t B Tb Sg Ln q wr m e (u.1, u.2.1, y, u.2.2.2.1, u.2.2.2.2) li (nt_u J B 9 (nI y)) := by
  obtain ⟨⟨p1, p2, p3, p4, p5, p6⟩, ⟨a1, a2, a3, a4, a5, a6, a7, a8⟩, ⟨c1, c2, c3, c4, c5⟩, c6, c7⟩ := hT
  have n1 := p2.2.2.2.1
  have n2 := p2.2.2.2.2.1
  exact ⟨⟨p1, p2, (me_uk (by decide)).trans p3, (me_uk (by decide)).trans p4, fun j => (me_uj p2.1).trans (p5 j), p6⟩, ⟨(me_uk (by decide)).trans a1, (me_uk (by decide)).trans a2, (me_uk (by decide)).trans a3, (me_uj (Ne.symm n2)).trans a4, fun j hj => (me_uj (Ne.symm n1)).trans (a5 j hj), fun _ _ _ _ _ => rfl, fun _ _ _ _ => rfl, a8⟩, ⟨(me_uk (by decide)).trans c1, (me_uk (by decide)).trans c2, me_us, (me_uk (by decide)).trans c4, (me_uk (by decide)).trans c5⟩, (me_uk (by decide)).trans c6, yr_Cr c7 (fun a h1 _ _ => me_uo h1)⟩
theorem yr_u3 {R0 R1 R2 : Nat} {C : lb_C} {M : nt_M} {f : Nat → Int32} {t B Tb Sg Ln q m li : Nat} {wr : Int32} {e : Nat × (Nat → Int32)} {u : Nat × Nat × Nat × Nat × Nat} {J : Nat → Nat → Int32} {y : Nat} (hT : yr_T R0 R1 R2 C M f t B Tb Sg Ln q wr m e u li J) : yr_T R0 R1 R2 C M f t B Tb Sg Ln q wr m e (u.1, u.2.1, u.2.2.1, y, u.2.2.2.2) li (nt_u J B 10 (nI y)) := by
  obtain ⟨⟨p1, p2, p3, p4, p5, p6⟩, ⟨a1, a2, a3, a4, a5, a6, a7, a8⟩, ⟨c1, c2, c3, c4, c5⟩, c6, c7⟩ := hT
  have n1 := p2.2.2.2.1
  have n2 := p2.2.2.2.2.1
  exact ⟨⟨p1, p2, (me_uk (by decide)).trans p3, (me_uk (by decide)).trans p4, fun j => (me_uj p2.1).trans (p5 j), p6⟩, ⟨(me_uk (by decide)).trans a1, (me_uk (by decide)).trans a2, (me_uk (by decide)).trans a3, (me_uj (Ne.symm n2)).trans a4, fun j hj => (me_uj (Ne.symm n1)).trans (a5 j hj), fun _ _ _ _ _ => rfl, fun _ _ _ _ => rfl, a8⟩, ⟨(me_uk (by decide)).trans c1, (me_uk (by decide)).trans c2, (me_uk (by decide)).trans c3, me_us, (me_uk (by decide)).trans c5⟩, (me_uk (by decide)).trans c6, yr_Cr c7 (fun a h1 _ _ => me_uo h1)⟩
theorem yr_u4 {R0 R1 R2 : Nat} {C : lb_C} {M : nt_M} {f : Nat → Int32} {t B Tb Sg Ln q m li : Nat} {wr : Int32} {e : Nat × (Nat → Int32)} {u : Nat × Nat × Nat × Nat × Nat} {J : Nat → Nat → Int32} {y : Nat} (hT : yr_T R0 R1 R2 C M f t B Tb Sg Ln q wr m e u li J) : yr_T R0 R1 R2 C M f t B Tb Sg Ln q wr m e (u.1, u.2.1, u.2.2.1, u.2.2.2.1, y) li (nt_u J B 11 (lb_hh y)) := by
  obtain ⟨⟨p1, p2, p3, p4, p5, p6⟩, ⟨a1, a2, a3, a4, a5, a6, a7, a8⟩, ⟨c1, c2, c3, c4, c5⟩, c6, c7⟩ := hT
  have n1 := p2.2.2.2.1
  have n2 := p2.2.2.2.2.1
  exact ⟨⟨p1, p2, (me_uk (by decide)).trans p3, (me_uk (by decide)).trans p4, fun j => (me_uj p2.1).trans (p5 j), p6⟩, ⟨(me_uk (by decide)).trans a1, (me_uk (by decide)).trans a2, (me_uk (by decide)).trans a3, (me_uj (Ne.symm n2)).trans a4, fun j hj => (me_uj (Ne.symm n1)).trans (a5 j hj), fun _ _ _ _ _ => rfl, fun _ _ _ _ => rfl, a8⟩, ⟨(me_uk (by decide)).trans c1, (me_uk (by decide)).trans c2, (me_uk (by decide)).trans c3, (me_uk (by decide)).trans c4, me_us⟩, (me_uk (by decide)).trans c6, yr_Cr c7 (fun a h1 _ _ => me_uo h1)⟩
theorem yr_li {R0 R1 R2 : Nat} {C : lb_C} {M : nt_M} {f : Nat → Int32} {t B Tb Sg Ln q m li : Nat} {wr : Int32} {e : Nat × (Nat → Int32)} {u : Nat × Nat × Nat × Nat × Nat} {J : Nat → Nat → Int32} {y : Nat} (hT : yr_T R0 R1 R2 C M f t B Tb Sg Ln q wr m e u li J) : yr_T R0 R1 R2 C M f t B Tb Sg Ln q wr m e u y (nt_u J B 21 (nI y)) := by
  obtain ⟨⟨p1, p2, p3, p4, p5, p6⟩, ⟨a1, a2, a3, a4, a5, a6, a7, a8⟩, ⟨c1, c2, c3, c4, c5⟩, c6, c7⟩ := hT
  have n1 := p2.2.2.2.1
  have n2 := p2.2.2.2.2.1
  exact ⟨⟨p1, p2, (me_uk (by decide)).trans p3, (me_uk (by decide)).trans p4, fun j => (me_uj p2.1).trans (p5 j), p6⟩, ⟨(me_uk (by decide)).trans a1, (me_uk (by decide)).trans a2, (me_uk (by decide)).trans a3, (me_uj (Ne.symm n2)).trans a4, fun j hj => (me_uj (Ne.symm n1)).trans (a5 j hj), fun _ _ _ _ _ => rfl, fun _ _ _ _ => rfl, a8⟩, ⟨(me_uk (by decide)).trans c1, (me_uk (by decide)).trans c2, (me_uk (by decide)).trans c3, (me_uk (by decide)).trans c4, (me_uk (by decide)).trans c5⟩, me_us, yr_Cr c7 (fun a h1 _ _ => me_uo h1)⟩
theorem yr_row {R0 R1 R2 : Nat} {C : lb_C} {M : nt_M} {f : Nat → Int32} {t B Tb Sg Ln q m li : Nat} {wr : Int32} {e : Nat × (Nat → Int32)} {u : Nat × Nat × Nat × Nat × Nat} {J : Nat → Nat → Int32} {a j : Nat} {x : Int32} {D : lb_C} (hT : yr_T R0 R1 R2 C M f t B Tb Sg Ln q wr m e u li J) (h1 : a ≠ B) (h2 : a ≠ Tb) (h3 : a ≠ Sg) (h4 : a ≠ Ln) (hc : yr_C R0 R1 R2 B Sg Ln C J → yr_C R0 R1 R2 B Sg Ln D (nt_u J a j x)) : yr_T R0 R1 R2 D M f t B Tb Sg Ln q wr m e u li (nt_u J a j x) := by
  obtain ⟨⟨p1, p2, p3, p4, p5, p6⟩, ⟨a1, a2, a3, a4, a5, a6, a7, a8⟩, ⟨c1, c2, c3, c4, c5⟩, c6, c7⟩ := hT
  have z := fun i => me_uj (J := J) (k := j) (v := x) (j := i) (Ne.symm h1)
  exact ⟨⟨p1, p2, (z 1).trans p3, (z 18).trans p4, fun i => (me_uj (Ne.symm h2)).trans (p5 i), p6⟩, ⟨(z 15).trans a1, (z 16).trans a2, (z 19).trans a3, (me_uj (Ne.symm h4)).trans a4, fun i hi => (me_uj (Ne.symm h3)).trans (a5 i hi), fun _ _ _ _ _ => rfl, fun _ _ _ _ => rfl, a8⟩, ⟨(z 7).trans c1, (z 8).trans c2, (z 9).trans c3, (z 10).trans c4, (z 11).trans c5⟩, (z 21).trans c6, hc c7⟩
def yr_N (R0 R1 R2 : Nat) (C : lb_C) (M : nt_M) (f : Nat → Int32) (t B Tb Sg Ln m : Nat) (e : Nat × (Nat → Int32)) (u : Nat × Nat × Nat × Nat × Nat) (li : Nat) (r : lb_N) (a : Int32) (J : Nat → Nat → Int32) : Prop := match r with
  | .inl c => c ≠ 0 ∧ a = Int32.ofInt 0 ∧ ∃ q', q' ≤ t ∧ yr_T R0 R1 R2 C M f t B Tb Sg Ln q' c m e u li J
  | .inr p => a = Int32.ofInt 1 ∧ ∃ q', lb_s f t q' = p.1 ∧ q' ≤ t ∧ yr_T R0 R1 R2 C M f t B Tb Sg Ln q' 0 m e u li J ∧ J B 17 = p.2
theorem yr_num {R0 R1 R2 : Nat} {C : lb_C} {X : nt_X} {d t B Tb Sg Ln q m li : Nat} {f : Nat → Int32} {M : nt_M} {e : Nat × (Nat → Int32)} {u : Nat × Nat × Nat × Nat × Nat} {J : Nat → Nat → Int32} {o : Option Value × nt_M} {lo hi : Int32} (hT : yr_T R0 R1 R2 C M f t B Tb Sg Ln q 0 m e u li J) (hp : q ≤ t) (k : nt_ev X d 143 [.ref B, .int lo, .int hi] (me_w M J) o) : ∃ r a J', o = (some (.int a), me_w M J') ∧ lb_nu f t (lb_s f t q) lo hi r ∧ yr_N R0 R1 R2 C M f t B Tb Sg Ln m e u li r a J' := by
  have t4 : t ≤ 400 := hT.1.2.2.2.2.2.1
  have hp1 : lb_s f t q ≤ t := (lb_s_le (t - q) q (by omega)).2
  have hD := lb_d_le (f := f) (t := t) (t - lb_s f t q) (lb_s f t q) (by omega)
  obtain ⟨r, J', e1, h⟩ := md_num hT.1 hT.2.1 hp k
  rcases h with ⟨h0, rfl, hS⟩ | ⟨h0, hb, rfl, hS⟩ | ⟨h0, h5, hb, rfl, hS, h17⟩
  · exact ⟨.inl (lb_c (lb_s f t q) (Int32.ofInt 0)), _, J', e1, Or.inl ⟨h0, rfl⟩, lb_c_ne (by omega) (by decide) (by decide), rfl, _, hp1, yr_up hT hS⟩
  · exact ⟨.inl (lb_c (lb_s f t q) (Int32.ofInt 1)), _, J', e1, Or.inr (Or.inl ⟨h0, hb, rfl⟩), lb_c_ne (by omega) (by decide) (by decide), rfl, _, hD, yr_up hT hS⟩
  · exact ⟨.inr (lb_s f t (lb_s f t q + lb_d f t (lb_s f t q)), lb_v f (lb_s f t q) (lb_d f t (lb_s f t q))), _, J', e1, Or.inr (Or.inr ⟨h0, h5, hb, rfl⟩), rfl, _, rfl, hD, yr_up hT hS, h17⟩
def yr_Q (R0 R1 R2 : Nat) (P : lb_U → lb_C → Prop) (M : nt_M) (f : Nat → Int32) (t B Tb Sg Ln m : Nat) (e : Nat × (Nat → Int32)) (li : Nat) (r : Int32 ⊕ lb_U) (a : Int32) (J : Nat → Nat → Int32) : Prop := match r with
  | .inl c => c ≠ 0 ∧ a = Int32.ofInt 0 ∧ ∃ q' u' l' C, q' ≤ t ∧ yr_T R0 R1 R2 C M f t B Tb Sg Ln q' c m e u' l' J
  | .inr w => a = Int32.ofInt 1 ∧ lb_ub w.2 ∧ w.2.1 ≠ 0 ∧ ∃ q' C, lb_s f t q' = w.1 ∧ q' ≤ t ∧ P w C ∧ yr_T R0 R1 R2 C M f t B Tb Sg Ln q' 0 m e w.2 li J
theorem yr_Qm {R0 R1 R2 : Nat} {P P' : lb_U → lb_C → Prop} {M : nt_M} {f : Nat → Int32} {t B Tb Sg Ln m li : Nat} {e : Nat × (Nat → Int32)} {r : Int32 ⊕ lb_U} {a : Int32} {J : Nat → Nat → Int32} (h : ∀ w D, P w D → P' w D) (hQ : yr_Q R0 R1 R2 P M f t B Tb Sg Ln m e li r a J) : yr_Q R0 R1 R2 P' M f t B Tb Sg Ln m e li r a J := by
  rcases r with c | w
  · exact hQ
  · obtain ⟨h1, h2, h3, q', C, h4, h5, h6, h7⟩ := hQ
    exact ⟨h1, h2, h3, q', C, h4, h5, h _ _ h6, h7⟩
def yr_W (M : nt_M) (B Tb Sg Ln R0 R1 R2 : Nat) : Prop := (nt_R M B 12 = some R0 ∧ nt_R M B 13 = some R1 ∧ nt_R M B 14 = some R2) ∧ (R0 ≠ B ∧ R0 ≠ Tb ∧ R0 ≠ Sg ∧ R0 ≠ Ln) ∧ (R1 ≠ B ∧ R1 ≠ Tb ∧ R1 ≠ Sg ∧ R1 ≠ Ln) ∧ (R2 ≠ B ∧ R2 ≠ Tb ∧ R2 ≠ Sg ∧ R2 ≠ Ln)
theorem yr_kinds {R0 R1 R2 : Nat} {C : lb_C} {X : nt_X} {d t B Tb Sg Ln q m li : Nat} {f : Nat → Int32} {M : nt_M} {e : Nat × (Nat → Int32)} {u : Nat × Nat × Nat × Nat × Nat} {J : Nat → Nat → Int32} {o : Option Value × nt_M} (hW : yr_W M B Tb Sg Ln R0 R1 R2) (hT : yr_T R0 R1 R2 C M f t B Tb Sg Ln q 0 m e u li J) (hp : q ≤ t) (hb : lb_ub u) (hat : lb_yw f t q 0) (k : nt_ev X d 141 [.ref B, .int (nI q)] (me_w M J) o) : ∃ r a J', o = (some (.int a), me_w M J') ∧ (((u.1 ≠ 0) ∧ r = .inl (lb_c q (Int32.ofInt 4))) ∨ (¬ (u.1 ≠ 0) ∧ lb_pa f t (q, u) (lb_s f t (q + (lb_W (nt_sp + 1 + 0)).length)) 0 r)) ∧ yr_Q R0 R1 R2 (fun v D => lb_paC f t u (lb_s f t (q + (lb_W (nt_sp + 1 + 0)).length)) v.1 0 C D) M f t B Tb Sg Ln m e li r a J' := by
  have k : nt_rn X d 141 (0, [(0, .ref B), (1, .int (nI q))], [], me_w M J) o := k
  have t4 : t ≤ 400 := hT.1.2.2.2.2.2.1
  have hb0 := hb
  obtain ⟨d1, d2, d3, d4, d5⟩ := hb0
  have k := ly_revb 1 (c' := (1, [(0, .ref B), (1, .int (nI q))], [.ref B], me_w M J)) rfl k
  have k := lz_get (a := B) (g := 1107) (M := me_w M J) (v := .int (nI u.1)) rfl (congrArg Value.int (hT.2.2.1.1)) k
  have k := ly_revb 1 (c' := (if (nI u.1) ≤ 0 then 14 else 7, [(0, .ref B), (1, .int (nI q))], [], me_w M J)) rfl k
  by_cases h4 : u.1 = 0
  · rw [if_pos (show (nI u.1) ≤ 0 from by rw [h4]; decide)] at k
    have k := ly_revb 1 (c' := (15, [(0, .ref B), (1, .int (nI q))], [.ref B], me_w M J)) rfl k
    obtain ⟨d1, o1, ed, kc, k⟩ := lz_c (g := 142) (q := 1) (vs := [.ref B]) (rest := []) rfl rfl (by decide) (Or.inr (Or.inl ⟨_, rfl, rfl⟩)) rfl k
    have e1 := md_pass hT.1 hT.2.1 hp kc
    rw [lb_at_l hat] at e1
    subst e1
    have hR1 := yr_up hT (md_Sq (y := q + (lb_W (nt_sp + 1 + 0)).length) hT.1 hT.2.1)
    have hpw : q + (lb_W (nt_sp + 1 + 0)).length ≤ t := hat.1
    have k : nt_rn X _ 141 (18, [(0, .ref B), (1, .int (nI q))], [], me_w M (nt_u J B 15 (nI (q + (lb_W (nt_sp + 1 + 0)).length)))) _ := k
    have k := ly_revb 3 (c' := (21, [(0, .ref B), (1, .int (nI q))], [.int (Int32.ofInt 4), .int (Int32.ofInt 1), .ref B], me_w M (nt_u J B 15 (nI (q + (lb_W (nt_sp + 1 + 0)).length))))) rfl k
    obtain ⟨d1, o1, ed, kc, k⟩ := lz_c (g := 143) (q := 1) (vs := [.ref B, .int (Int32.ofInt 1), .int (Int32.ofInt 4)]) (rest := []) rfl rfl (by decide) (Or.inr (Or.inl ⟨_, rfl, rfl⟩)) rfl k
    obtain ⟨r1, a1, J1, e1, hv1, hN1⟩ := yr_num hR1 hpw kc
    subst e1
    rcases r1 with c | ⟨q1, x1⟩
    · obtain ⟨hc, rfl, y1, hy1, hT1⟩ := hN1
      have k : nt_rn X _ 141 (24, [(0, .ref B), (1, .int (nI q))], [.int (Int32.ofInt 0)], me_w M J1) _ := k
      have k := ly_revb 1 (c' := (if (Int32.ofInt 0) = 0 then 27 else 29, [(0, .ref B), (1, .int (nI q))], [], me_w M J1)) rfl k
      rw [if_pos (show (Int32.ofInt 0) = 0 from by decide)] at k
      have k := ly_revb 1 (c' := (28, [(0, .ref B), (1, .int (nI q))], [.int (Int32.ofInt 0)], me_w M J1)) rfl k
      have k := lz_ri rfl (by decide) k
      exact ⟨.inl c, _, _, k, Or.inr ⟨fun c => c h4, ⟨_, hv1, Or.inl ⟨c, rfl, rfl⟩⟩⟩, hc, rfl, _, _, _, _, hy1, hT1⟩
    · obtain ⟨rfl, y1, hz1, hy1, hT1, hw1⟩ := hN1
      dsimp only at hz1 hw1
      have hu1 := lb_nu_up (lb_s_le (t - (q + (lb_W (nt_sp + 1 + 0)).length)) (q + (lb_W (nt_sp + 1 + 0)).length) (by omega)).2 hv1
      have k : nt_rn X _ 141 (24, [(0, .ref B), (1, .int (nI q))], [.int (Int32.ofInt 1)], me_w M J1) _ := k
      have k := ly_revb 1 (c' := (if (Int32.ofInt 1) = 0 then 27 else 29, [(0, .ref B), (1, .int (nI q))], [], me_w M J1)) rfl k
      rw [if_neg (show ¬ ((Int32.ofInt 1) = 0) from by decide)] at k
      have k := ly_revb 2 (c' := (31, [(0, .ref B), (1, .int (nI q))], [.ref B, .ref B], me_w M J1)) rfl k
      have k := lz_get (a := B) (g := 1117) (M := me_w M J1) (v := .int (x1)) rfl (congrArg Value.int (hw1)) k
      have k := me_put rfl (by decide) k
      have k : nt_rn X _ 141 (37, [(0, .ref B), (1, .int (nI q))], [], me_w M (nt_u J1 B 7 (x1))) _ := k
      obtain ⟨ex, hx⟩ := yc_nn (b := 4) (by decide) hu1.2.1 hu1.2.2
      dsimp only at ex hx
      have hR2 := yr_u0 (y := x1.toInt.toNat) hT1
      rw [← ex] at hR2
      have k := ly_revb 1 (c' := (38, [(0, .ref B), (1, .int (nI q))], [.int (Int32.ofInt 1)], me_w M (nt_u J1 B 7 (x1)))) rfl k
      have k := lz_ri rfl (by decide) k
      obtain ⟨b1, b2, b3, b4, b5⟩ := hb
      exact ⟨.inr (q1, x1.toInt.toNat, u.2.1, u.2.2.1, u.2.2.2.1, u.2.2.2.2), _, _, k, Or.inr ⟨fun c => c h4, ⟨_, hv1, Or.inr ⟨_, _, rfl, rfl⟩⟩⟩, rfl, ⟨hx, b2, b3, b4, b5⟩, by dsimp only; have h1 : (1 : Int) ≤ x1.toInt := hu1.2.1; omega, y1, _, hz1, hy1, rfl, hR2⟩
  · rw [if_neg (show ¬ ((nI u.1) ≤ 0) from nI_nle (Nat.pos_of_ne_zero h4) (by omega))] at k
    have k := ly_revb 3 (c' := (10, [(0, .ref B), (1, .int (nI q))], [.int (nI q), .int (Int32.ofInt 4), .ref B], me_w M J)) rfl k
    obtain ⟨d1, o1, ed, kc, k⟩ := lz_c (g := 139) (q := 1) (vs := [.ref B, .int (Int32.ofInt 4), .int (nI q)]) (rest := []) rfl rfl (by decide) (Or.inr (Or.inl ⟨_, rfl, rfl⟩)) rfl k
    obtain ⟨hf, e1⟩ := (md_fails (a := q) hT.1 hT.2.1 hp kc).resolve_right (fun c => c.1 rfl)
    subst e1
    have hR1 := yr_up hT (md_Sw (y := lb_c q (Int32.ofInt 4)) hT.1 hT.2.1)
    have k : nt_rn X _ 141 (13, [(0, .ref B), (1, .int (nI q))], [.int (Int32.ofInt 0)], me_w M (nt_u J B 16 (lb_c q (Int32.ofInt 4)))) _ := k
    have k := lz_ri rfl (by decide) k
    exact ⟨.inl (lb_c q (Int32.ofInt 4)), _, _, k, Or.inl ⟨h4, rfl⟩, (lb_c_ne (by omega) (by decide) (by decide)), rfl, _, _, _, _, hp, hR1⟩
theorem yr_plank {R0 R1 R2 : Nat} {C : lb_C} {X : nt_X} {d t B Tb Sg Ln q m li : Nat} {f : Nat → Int32} {M : nt_M} {e : Nat × (Nat → Int32)} {u : Nat × Nat × Nat × Nat × Nat} {J : Nat → Nat → Int32} {o : Option Value × nt_M} (hW : yr_W M B Tb Sg Ln R0 R1 R2) (hT : yr_T R0 R1 R2 C M f t B Tb Sg Ln q 0 m e u li J) (hp : q ≤ t) (hb : lb_ub u) (hk0 : u.1 ≠ 0) (hat : lb_yw f t q 2) (k : nt_ev X d 147 [.ref B, .int (nI q)] (me_w M J) o) : ∃ r a J', o = (some (.int a), me_w M J') ∧ (((24 ≤ u.2.2.1) ∧ r = .inl (lb_c q (Int32.ofInt 4))) ∨ (¬ (24 ≤ u.2.2.1) ∧ lb_pa f t (q, u) (lb_s f t (q + (lb_W (nt_sp + 1 + 2)).length)) 2 r)) ∧ yr_Q R0 R1 R2 (fun v D => lb_paC f t u (lb_s f t (q + (lb_W (nt_sp + 1 + 2)).length)) v.1 2 C D) M f t B Tb Sg Ln m e li r a J' := by
  have k : nt_rn X d 147 (0, [(0, .ref B), (1, .int (nI q))], [], me_w M J) o := k
  have t4 : t ≤ 400 := hT.1.2.2.2.2.2.1
  have hb0 := hb
  obtain ⟨d1, d2, d3, d4, d5⟩ := hb0
  have k := ly_revb 1 (c' := (1, [(0, .ref B), (1, .int (nI q))], [.ref B], me_w M J)) rfl k
  have k := lz_get (a := B) (g := 1109) (M := me_w M J) (v := .int (nI u.2.2.1)) rfl (congrArg Value.int (hT.2.2.1.2.2.1)) k
  have k := ly_revb 2 (c' := (if (nI u.2.2.1) = (Int32.ofInt 24) then 9 else 16, [(0, .ref B), (1, .int (nI q))], [], me_w M J)) rfl k
  by_cases h6 : u.2.2.1 = 24
  · rw [if_pos (show (nI u.2.2.1) = (Int32.ofInt 24) from show nI u.2.2.1 = nI 24 from congrArg nI h6)] at k
    have k := ly_revb 3 (c' := (12, [(0, .ref B), (1, .int (nI q))], [.int (nI q), .int (Int32.ofInt 4), .ref B], me_w M J)) rfl k
    obtain ⟨d1, o1, ed, kc, k⟩ := lz_c (g := 139) (q := 1) (vs := [.ref B, .int (Int32.ofInt 4), .int (nI q)]) (rest := []) rfl rfl (by decide) (Or.inr (Or.inl ⟨_, rfl, rfl⟩)) rfl k
    obtain ⟨hf, e1⟩ := (md_fails (a := q) hT.1 hT.2.1 hp kc).resolve_right (fun c => c.1 rfl)
    subst e1
    have hR1 := yr_up hT (md_Sw (y := lb_c q (Int32.ofInt 4)) hT.1 hT.2.1)
    have k : nt_rn X _ 147 (15, [(0, .ref B), (1, .int (nI q))], [.int (Int32.ofInt 0)], me_w M (nt_u J B 16 (lb_c q (Int32.ofInt 4)))) _ := k
    have k := lz_ri rfl (by decide) k
    exact ⟨.inl (lb_c q (Int32.ofInt 4)), _, _, k, Or.inl ⟨by omega, rfl⟩, (lb_c_ne (by omega) (by decide) (by decide)), rfl, _, _, _, _, hp, hR1⟩
  · rw [if_neg (show ¬ ((nI u.2.2.1) = (Int32.ofInt 24)) from show ¬ nI u.2.2.1 = nI 24 from me_ne h6 (by omega) (by omega))] at k
    have k := ly_revb 1 (c' := (17, [(0, .ref B), (1, .int (nI q))], [.ref B], me_w M J)) rfl k
    obtain ⟨d1, o1, ed, kc, k⟩ := lz_c (g := 142) (q := 1) (vs := [.ref B]) (rest := []) rfl rfl (by decide) (Or.inr (Or.inl ⟨_, rfl, rfl⟩)) rfl k
    have e1 := md_pass hT.1 hT.2.1 hp kc
    rw [lb_at_l hat] at e1
    subst e1
    have hR1 := yr_up hT (md_Sq (y := q + (lb_W (nt_sp + 1 + 2)).length) hT.1 hT.2.1)
    have hpw : q + (lb_W (nt_sp + 1 + 2)).length ≤ t := hat.1
    have k : nt_rn X _ 147 (20, [(0, .ref B), (1, .int (nI q))], [], me_w M (nt_u J B 15 (nI (q + (lb_W (nt_sp + 1 + 2)).length)))) _ := k
    have k := ly_revb 2 (c' := (22, [(0, .ref B), (1, .int (nI q))], [.ref B, .int (Int32.ofInt 3)], me_w M (nt_u J B 15 (nI (q + (lb_W (nt_sp + 1 + 2)).length))))) rfl k
    have k := lz_get (a := B) (g := 1109) (M := me_w M (nt_u J B 15 (nI (q + (lb_W (nt_sp + 1 + 2)).length)))) (v := .int (nI u.2.2.1)) rfl (congrArg Value.int (hR1.2.2.1.2.2.1)) k
    have k := ly_revb 5 (c' := (30, [(2, .int ((Int32.ofInt 3) * (nI u.2.2.1))), (0, .ref B), (1, .int (nI q))], [.ref B, .int (Int32.ofInt 0), .ref B], me_w M (nt_u J B 15 (nI (q + (lb_W (nt_sp + 1 + 2)).length))))) rfl k
    have k := lz_get (a := B) (g := 1107) (M := me_w M (nt_u J B 15 (nI (q + (lb_W (nt_sp + 1 + 2)).length)))) (v := .int (nI u.1)) rfl (congrArg Value.int (hR1.2.2.1.1)) k
    have k := ly_revb 2 (c' := (35, [(2, .int ((Int32.ofInt 3) * (nI u.2.2.1))), (0, .ref B), (1, .int (nI q))], [.int ((nI u.1) - (Int32.ofInt 1)), .int (Int32.ofInt 0), .ref B], me_w M (nt_u J B 15 (nI (q + (lb_W (nt_sp + 1 + 2)).length))))) rfl k
    obtain ⟨d1, o1, ed, kc, k⟩ := lz_c (g := 143) (q := 1) (vs := [.ref B, .int (Int32.ofInt 0), .int ((nI u.1) - (Int32.ofInt 1))]) (rest := []) rfl rfl (by decide) (Or.inr (Or.inl ⟨_, rfl, rfl⟩)) rfl k
    obtain ⟨r1, a1, J1, e1, hv1, hN1⟩ := yr_num hR1 hpw kc
    subst e1
    rcases r1 with c | ⟨q1, x1⟩
    · obtain ⟨hc, rfl, y1, hy1, hT1⟩ := hN1
      have k : nt_rn X _ 147 (38, [(2, .int ((Int32.ofInt 3) * (nI u.2.2.1))), (0, .ref B), (1, .int (nI q))], [.int (Int32.ofInt 0)], me_w M J1) _ := k
      have k := ly_revb 1 (c' := (if (Int32.ofInt 0) = 0 then 41 else 43, [(2, .int ((Int32.ofInt 3) * (nI u.2.2.1))), (0, .ref B), (1, .int (nI q))], [], me_w M J1)) rfl k
      rw [if_pos (show (Int32.ofInt 0) = 0 from by decide)] at k
      have k := ly_revb 1 (c' := (42, [(2, .int ((Int32.ofInt 3) * (nI u.2.2.1))), (0, .ref B), (1, .int (nI q))], [.int (Int32.ofInt 0)], me_w M J1)) rfl k
      have k := lz_ri rfl (by decide) k
      exact ⟨.inl c, _, _, k, Or.inr ⟨by omega, ⟨.inl c, ⟨_, hv1, Or.inl ⟨c, rfl, rfl⟩⟩, Or.inl ⟨c, rfl, rfl⟩⟩⟩, hc, rfl, _, _, _, _, hy1, hT1⟩
    · obtain ⟨rfl, y1, hz1, hy1, hT1, hw1⟩ := hN1
      dsimp only at hz1 hw1
      have hu1 := lb_nu_up (lb_s_le (t - (q + (lb_W (nt_sp + 1 + 2)).length)) (q + (lb_W (nt_sp + 1 + 2)).length) (by omega)).2 hv1
      have k : nt_rn X _ 147 (38, [(2, .int ((Int32.ofInt 3) * (nI u.2.2.1))), (0, .ref B), (1, .int (nI q))], [.int (Int32.ofInt 1)], me_w M J1) _ := k
      have k := ly_revb 1 (c' := (if (Int32.ofInt 1) = 0 then 41 else 43, [(2, .int ((Int32.ofInt 3) * (nI u.2.2.1))), (0, .ref B), (1, .int (nI q))], [], me_w M J1)) rfl k
      rw [if_neg (show ¬ ((Int32.ofInt 1) = 0) from by decide)] at k
      have k := ly_revb 1 (c' := (44, [(2, .int ((Int32.ofInt 3) * (nI u.2.2.1))), (0, .ref B), (1, .int (nI q))], [.ref B], me_w M J1)) rfl k
      have k := lz_get (a := B) (g := 1113) (M := me_w M J1) (v := .ref R1) rfl (nt_gfR rfl hW.1.2.1) k
      have k := ly_revb 2 (c' := (49, [(2, .int ((Int32.ofInt 3) * (nI u.2.2.1))), (0, .ref B), (1, .int (nI q))], [.ref B, .int ((Int32.ofInt 3) * (nI u.2.2.1)), .ref R1], me_w M J1)) rfl k
      have k := lz_get (a := B) (g := 1117) (M := me_w M J1) (v := .int (x1)) rfl (congrArg Value.int (hw1)) k
      have k := me_iastx rfl k
      have hR2 := yr_row (j := ((Int32.ofInt 3) * (nI u.2.2.1)).toNatClampNeg) (x := x1) hT1 hW.2.2.1.1 hW.2.2.1.2.1 hW.2.2.1.2.2.1 hW.2.2.1.2.2.2 (fun c => yr_C10 (lb_ix30 (by omega)) c)
      have k : nt_rn X _ 147 (53, [(2, .int ((Int32.ofInt 3) * (nI u.2.2.1))), (0, .ref B), (1, .int (nI q))], [], me_w M (nt_u J1 R1 ((Int32.ofInt 3) * (nI u.2.2.1)).toNatClampNeg (x1))) _ := k
      have k := ly_revb 3 (c' := (57, [(2, .int ((Int32.ofInt 3) * (nI u.2.2.1))), (0, .ref B), (1, .int (nI q))], [.int (Int32.ofInt 99), .int (Int32.ofInt 1), .ref B], me_w M (nt_u J1 R1 ((Int32.ofInt 3) * (nI u.2.2.1)).toNatClampNeg (x1)))) rfl k
      obtain ⟨d1, o1, ed, kc, k⟩ := lz_c (g := 143) (q := 1) (vs := [.ref B, .int (Int32.ofInt 1), .int (Int32.ofInt 99)]) (rest := []) rfl rfl (by decide) (Or.inr (Or.inl ⟨_, rfl, rfl⟩)) rfl k
      obtain ⟨r2, a2, J2, e1, hv2, hN2⟩ := yr_num hR2 hy1 kc
      subst e1
      rw [hz1] at hv2
      rcases r2 with c | ⟨q2, x2⟩
      · obtain ⟨hc, rfl, y2, hy2, hT2⟩ := hN2
        have k : nt_rn X _ 147 (60, [(2, .int ((Int32.ofInt 3) * (nI u.2.2.1))), (0, .ref B), (1, .int (nI q))], [.int (Int32.ofInt 0)], me_w M J2) _ := k
        have k := ly_revb 1 (c' := (if (Int32.ofInt 0) = 0 then 63 else 65, [(2, .int ((Int32.ofInt 3) * (nI u.2.2.1))), (0, .ref B), (1, .int (nI q))], [], me_w M J2)) rfl k
        rw [if_pos (show (Int32.ofInt 0) = 0 from by decide)] at k
        have k := ly_revb 1 (c' := (64, [(2, .int ((Int32.ofInt 3) * (nI u.2.2.1))), (0, .ref B), (1, .int (nI q))], [.int (Int32.ofInt 0)], me_w M J2)) rfl k
        have k := lz_ri rfl (by decide) k
        exact ⟨.inl c, _, _, k, Or.inr ⟨by omega, ⟨.inl c, ⟨_, hv1, Or.inr ⟨_, _, rfl, ⟨_, hv2, Or.inl ⟨c, rfl, rfl⟩⟩⟩⟩, Or.inl ⟨c, rfl, rfl⟩⟩⟩, hc, rfl, _, _, _, _, hy2, hT2⟩
      · obtain ⟨rfl, y2, hz2, hy2, hT2, hw2⟩ := hN2
        dsimp only at hz2 hw2
        have hu2 := lb_nu_up hu1.1 hv2
        have k : nt_rn X _ 147 (60, [(2, .int ((Int32.ofInt 3) * (nI u.2.2.1))), (0, .ref B), (1, .int (nI q))], [.int (Int32.ofInt 1)], me_w M J2) _ := k
        have k := ly_revb 1 (c' := (if (Int32.ofInt 1) = 0 then 63 else 65, [(2, .int ((Int32.ofInt 3) * (nI u.2.2.1))), (0, .ref B), (1, .int (nI q))], [], me_w M J2)) rfl k
        rw [if_neg (show ¬ ((Int32.ofInt 1) = 0) from by decide)] at k
        have k := ly_revb 1 (c' := (66, [(2, .int ((Int32.ofInt 3) * (nI u.2.2.1))), (0, .ref B), (1, .int (nI q))], [.ref B], me_w M J2)) rfl k
        have k := lz_get (a := B) (g := 1113) (M := me_w M J2) (v := .ref R1) rfl (nt_gfR rfl hW.1.2.1) k
        have k := ly_revb 4 (c' := (73, [(2, .int ((Int32.ofInt 3) * (nI u.2.2.1))), (0, .ref B), (1, .int (nI q))], [.ref B, .int (((Int32.ofInt 3) * (nI u.2.2.1)) + (Int32.ofInt 1)), .ref R1], me_w M J2)) rfl k
        have k := lz_get (a := B) (g := 1117) (M := me_w M J2) (v := .int (x2)) rfl (congrArg Value.int (hw2)) k
        have k := me_iastx rfl k
        have hR3 := yr_row (j := (((Int32.ofInt 3) * (nI u.2.2.1)) + (Int32.ofInt 1)).toNatClampNeg) (x := x2) hT2 hW.2.2.1.1 hW.2.2.1.2.1 hW.2.2.1.2.2.1 hW.2.2.1.2.2.2 (fun c => yr_C11 (lb_ix3' (i := 1) (by omega) (by decide)) c)
        have k : nt_rn X _ 147 (77, [(2, .int ((Int32.ofInt 3) * (nI u.2.2.1))), (0, .ref B), (1, .int (nI q))], [], me_w M (nt_u J2 R1 (((Int32.ofInt 3) * (nI u.2.2.1)) + (Int32.ofInt 1)).toNatClampNeg (x2))) _ := k
        have k := ly_revb 3 (c' := (80, [(2, .int ((Int32.ofInt 3) * (nI u.2.2.1))), (0, .ref B), (1, .int (nI q))], [.ref B, .int (Int32.ofInt 0), .ref B], me_w M (nt_u J2 R1 (((Int32.ofInt 3) * (nI u.2.2.1)) + (Int32.ofInt 1)).toNatClampNeg (x2)))) rfl k
        have k := lz_get (a := B) (g := 1108) (M := me_w M (nt_u J2 R1 (((Int32.ofInt 3) * (nI u.2.2.1)) + (Int32.ofInt 1)).toNatClampNeg (x2))) (v := .int (nI u.2.1)) rfl (congrArg Value.int (hR3.2.2.1.2.1)) k
        have k := ly_revb 2 (c' := (85, [(2, .int ((Int32.ofInt 3) * (nI u.2.2.1))), (0, .ref B), (1, .int (nI q))], [.int ((nI u.2.1) - (Int32.ofInt 1)), .int (Int32.ofInt 0), .ref B], me_w M (nt_u J2 R1 (((Int32.ofInt 3) * (nI u.2.2.1)) + (Int32.ofInt 1)).toNatClampNeg (x2)))) rfl k
        obtain ⟨d1, o1, ed, kc, k⟩ := lz_c (g := 143) (q := 1) (vs := [.ref B, .int (Int32.ofInt 0), .int ((nI u.2.1) - (Int32.ofInt 1))]) (rest := []) rfl rfl (by decide) (Or.inr (Or.inl ⟨_, rfl, rfl⟩)) rfl k
        obtain ⟨r3, a3, J3, e1, hv3, hN3⟩ := yr_num hR3 hy2 kc
        subst e1
        rw [hz2] at hv3
        rcases r3 with c | ⟨q3, x3⟩
        · obtain ⟨hc, rfl, y3, hy3, hT3⟩ := hN3
          have k : nt_rn X _ 147 (88, [(2, .int ((Int32.ofInt 3) * (nI u.2.2.1))), (0, .ref B), (1, .int (nI q))], [.int (Int32.ofInt 0)], me_w M J3) _ := k
          have k := ly_revb 1 (c' := (if (Int32.ofInt 0) = 0 then 91 else 93, [(2, .int ((Int32.ofInt 3) * (nI u.2.2.1))), (0, .ref B), (1, .int (nI q))], [], me_w M J3)) rfl k
          rw [if_pos (show (Int32.ofInt 0) = 0 from by decide)] at k
          have k := ly_revb 1 (c' := (92, [(2, .int ((Int32.ofInt 3) * (nI u.2.2.1))), (0, .ref B), (1, .int (nI q))], [.int (Int32.ofInt 0)], me_w M J3)) rfl k
          have k := lz_ri rfl (by decide) k
          exact ⟨.inl c, _, _, k, Or.inr ⟨by omega, ⟨.inl c, ⟨_, hv1, Or.inr ⟨_, _, rfl, ⟨_, hv2, Or.inr ⟨_, _, rfl, ⟨_, hv3, Or.inl ⟨c, rfl, rfl⟩⟩⟩⟩⟩⟩, Or.inl ⟨c, rfl, rfl⟩⟩⟩, hc, rfl, _, _, _, _, hy3, hT3⟩
        · obtain ⟨rfl, y3, hz3, hy3, hT3, hw3⟩ := hN3
          dsimp only at hz3 hw3
          have hu3 := lb_nu_up hu2.1 hv3
          have k : nt_rn X _ 147 (88, [(2, .int ((Int32.ofInt 3) * (nI u.2.2.1))), (0, .ref B), (1, .int (nI q))], [.int (Int32.ofInt 1)], me_w M J3) _ := k
          have k := ly_revb 1 (c' := (if (Int32.ofInt 1) = 0 then 91 else 93, [(2, .int ((Int32.ofInt 3) * (nI u.2.2.1))), (0, .ref B), (1, .int (nI q))], [], me_w M J3)) rfl k
          rw [if_neg (show ¬ ((Int32.ofInt 1) = 0) from by decide)] at k
          have k := ly_revb 1 (c' := (94, [(2, .int ((Int32.ofInt 3) * (nI u.2.2.1))), (0, .ref B), (1, .int (nI q))], [.ref B], me_w M J3)) rfl k
          have k := lz_get (a := B) (g := 1113) (M := me_w M J3) (v := .ref R1) rfl (nt_gfR rfl hW.1.2.1) k
          have k := ly_revb 4 (c' := (101, [(2, .int ((Int32.ofInt 3) * (nI u.2.2.1))), (0, .ref B), (1, .int (nI q))], [.ref B, .int (((Int32.ofInt 3) * (nI u.2.2.1)) + (Int32.ofInt 2)), .ref R1], me_w M J3)) rfl k
          have k := lz_get (a := B) (g := 1117) (M := me_w M J3) (v := .int (x3)) rfl (congrArg Value.int (hw3)) k
          have k := me_iastx rfl k
          have hR4 := yr_row (j := (((Int32.ofInt 3) * (nI u.2.2.1)) + (Int32.ofInt 2)).toNatClampNeg) (x := x3) hT3 hW.2.2.1.1 hW.2.2.1.2.1 hW.2.2.1.2.2.1 hW.2.2.1.2.2.2 (fun c => yr_C12 (lb_ix3' (i := 2) (by omega) (by decide)) c)
          have k : nt_rn X _ 147 (105, [(2, .int ((Int32.ofInt 3) * (nI u.2.2.1))), (0, .ref B), (1, .int (nI q))], [], me_w M (nt_u J3 R1 (((Int32.ofInt 3) * (nI u.2.2.1)) + (Int32.ofInt 2)).toNatClampNeg (x3))) _ := k
          have k := ly_revb 2 (c' := (107, [(2, .int ((Int32.ofInt 3) * (nI u.2.2.1))), (0, .ref B), (1, .int (nI q))], [.ref B, .ref B], me_w M (nt_u J3 R1 (((Int32.ofInt 3) * (nI u.2.2.1)) + (Int32.ofInt 2)).toNatClampNeg (x3)))) rfl k
          have k := lz_get (a := B) (g := 1109) (M := me_w M (nt_u J3 R1 (((Int32.ofInt 3) * (nI u.2.2.1)) + (Int32.ofInt 2)).toNatClampNeg (x3))) (v := .int (nI u.2.2.1)) rfl (congrArg Value.int (hR4.2.2.1.2.2.1)) k
          have k := ly_revb 2 (c' := (112, [(2, .int ((Int32.ofInt 3) * (nI u.2.2.1))), (0, .ref B), (1, .int (nI q))], [.int ((nI u.2.2.1) + (Int32.ofInt 1)), .ref B], me_w M (nt_u J3 R1 (((Int32.ofInt 3) * (nI u.2.2.1)) + (Int32.ofInt 2)).toNatClampNeg (x3)))) rfl k
          rw [show ((nI u.2.2.1) + (Int32.ofInt 1) : Int32) = nI (u.2.2.1 + 1) from me_add (k := 1)] at k
          have k := me_put rfl (by decide) k
          have k : nt_rn X _ 147 (115, [(2, .int ((Int32.ofInt 3) * (nI u.2.2.1))), (0, .ref B), (1, .int (nI q))], [], me_w M (nt_u (nt_u J3 R1 (((Int32.ofInt 3) * (nI u.2.2.1)) + (Int32.ofInt 2)).toNatClampNeg (x3)) B 9 (nI (u.2.2.1 + 1)))) _ := k
          have hR5 := yr_u2 (y := u.2.2.1 + 1) hR4
          have k := ly_revb 1 (c' := (116, [(2, .int ((Int32.ofInt 3) * (nI u.2.2.1))), (0, .ref B), (1, .int (nI q))], [.int (Int32.ofInt 1)], me_w M (nt_u (nt_u J3 R1 (((Int32.ofInt 3) * (nI u.2.2.1)) + (Int32.ofInt 2)).toNatClampNeg (x3)) B 9 (nI (u.2.2.1 + 1))))) rfl k
          have k := lz_ri rfl (by decide) k
          obtain ⟨b1, b2, b3, b4, b5⟩ := hb
          exact ⟨.inr (q3, u.1, u.2.1, u.2.2.1 + 1, u.2.2.2.1, u.2.2.2.2), _, _, k, Or.inr ⟨by omega, ⟨.inr q3, ⟨_, hv1, Or.inr ⟨_, _, rfl, ⟨_, hv2, Or.inr ⟨_, _, rfl, ⟨_, hv3, Or.inr ⟨_, _, rfl, rfl⟩⟩⟩⟩⟩⟩, Or.inr ⟨_, rfl, rfl⟩⟩⟩, rfl, ⟨b1, b2, by dsimp only; omega, b4, b5⟩, hk0, y3, _, hz3, hy3, ⟨_, _, _, _, _, hv1, hv2, hv3, rfl⟩, hR5⟩
theorem yr_voyage {R0 R1 R2 : Nat} {C : lb_C} {X : nt_X} {d t B Tb Sg Ln q m li : Nat} {f : Nat → Int32} {M : nt_M} {e : Nat × (Nat → Int32)} {u : Nat × Nat × Nat × Nat × Nat} {J : Nat → Nat → Int32} {o : Option Value × nt_M} (hW : yr_W M B Tb Sg Ln R0 R1 R2) (hT : yr_T R0 R1 R2 C M f t B Tb Sg Ln q 0 m e u li J) (hp : q ≤ t) (hb : lb_ub u) (hk0 : u.1 ≠ 0) (hat : lb_yw f t q 3) (k : nt_ev X d 148 [.ref B, .int (nI q)] (me_w M J) o) : ∃ r a J', o = (some (.int a), me_w M J') ∧ (((8 ≤ u.2.2.2.1) ∧ r = .inl (lb_c q (Int32.ofInt 4))) ∨ (¬ (8 ≤ u.2.2.2.1) ∧ lb_pa f t (q, u) (lb_s f t (q + (lb_W (nt_sp + 1 + 3)).length)) 3 r)) ∧ yr_Q R0 R1 R2 (fun v D => lb_paC f t u (lb_s f t (q + (lb_W (nt_sp + 1 + 3)).length)) v.1 3 C D) M f t B Tb Sg Ln m e li r a J' := by
  have k : nt_rn X d 148 (0, [(0, .ref B), (1, .int (nI q))], [], me_w M J) o := k
  have t4 : t ≤ 400 := hT.1.2.2.2.2.2.1
  have hb0 := hb
  obtain ⟨d1, d2, d3, d4, d5⟩ := hb0
  have k := ly_revb 1 (c' := (1, [(0, .ref B), (1, .int (nI q))], [.ref B], me_w M J)) rfl k
  have k := lz_get (a := B) (g := 1110) (M := me_w M J) (v := .int (nI u.2.2.2.1)) rfl (congrArg Value.int (hT.2.2.1.2.2.2.1)) k
  have k := ly_revb 2 (c' := (if (nI u.2.2.2.1) = (Int32.ofInt 8) then 9 else 16, [(0, .ref B), (1, .int (nI q))], [], me_w M J)) rfl k
  by_cases h6 : u.2.2.2.1 = 8
  · rw [if_pos (show (nI u.2.2.2.1) = (Int32.ofInt 8) from show nI u.2.2.2.1 = nI 8 from congrArg nI h6)] at k
    have k := ly_revb 3 (c' := (12, [(0, .ref B), (1, .int (nI q))], [.int (nI q), .int (Int32.ofInt 4), .ref B], me_w M J)) rfl k
    obtain ⟨d1, o1, ed, kc, k⟩ := lz_c (g := 139) (q := 1) (vs := [.ref B, .int (Int32.ofInt 4), .int (nI q)]) (rest := []) rfl rfl (by decide) (Or.inr (Or.inl ⟨_, rfl, rfl⟩)) rfl k
    obtain ⟨hf, e1⟩ := (md_fails (a := q) hT.1 hT.2.1 hp kc).resolve_right (fun c => c.1 rfl)
    subst e1
    have hR1 := yr_up hT (md_Sw (y := lb_c q (Int32.ofInt 4)) hT.1 hT.2.1)
    have k : nt_rn X _ 148 (15, [(0, .ref B), (1, .int (nI q))], [.int (Int32.ofInt 0)], me_w M (nt_u J B 16 (lb_c q (Int32.ofInt 4)))) _ := k
    have k := lz_ri rfl (by decide) k
    exact ⟨.inl (lb_c q (Int32.ofInt 4)), _, _, k, Or.inl ⟨by omega, rfl⟩, (lb_c_ne (by omega) (by decide) (by decide)), rfl, _, _, _, _, hp, hR1⟩
  · rw [if_neg (show ¬ ((nI u.2.2.2.1) = (Int32.ofInt 8)) from show ¬ nI u.2.2.2.1 = nI 8 from me_ne h6 (by omega) (by omega))] at k
    have k := ly_revb 1 (c' := (17, [(0, .ref B), (1, .int (nI q))], [.ref B], me_w M J)) rfl k
    obtain ⟨d1, o1, ed, kc, k⟩ := lz_c (g := 142) (q := 1) (vs := [.ref B]) (rest := []) rfl rfl (by decide) (Or.inr (Or.inl ⟨_, rfl, rfl⟩)) rfl k
    have e1 := md_pass hT.1 hT.2.1 hp kc
    rw [lb_at_l hat] at e1
    subst e1
    have hR1 := yr_up hT (md_Sq (y := q + (lb_W (nt_sp + 1 + 3)).length) hT.1 hT.2.1)
    have hpw : q + (lb_W (nt_sp + 1 + 3)).length ≤ t := hat.1
    have k : nt_rn X _ 148 (20, [(0, .ref B), (1, .int (nI q))], [], me_w M (nt_u J B 15 (nI (q + (lb_W (nt_sp + 1 + 3)).length)))) _ := k
    have k := ly_revb 2 (c' := (22, [(0, .ref B), (1, .int (nI q))], [.ref B, .int (Int32.ofInt 4)], me_w M (nt_u J B 15 (nI (q + (lb_W (nt_sp + 1 + 3)).length))))) rfl k
    have k := lz_get (a := B) (g := 1110) (M := me_w M (nt_u J B 15 (nI (q + (lb_W (nt_sp + 1 + 3)).length)))) (v := .int (nI u.2.2.2.1)) rfl (congrArg Value.int (hR1.2.2.1.2.2.2.1)) k
    have k := ly_revb 5 (c' := (30, [(2, .int ((Int32.ofInt 4) * (nI u.2.2.2.1))), (0, .ref B), (1, .int (nI q))], [.ref B, .int (Int32.ofInt 0), .ref B], me_w M (nt_u J B 15 (nI (q + (lb_W (nt_sp + 1 + 3)).length))))) rfl k
    have k := lz_get (a := B) (g := 1108) (M := me_w M (nt_u J B 15 (nI (q + (lb_W (nt_sp + 1 + 3)).length)))) (v := .int (nI u.2.1)) rfl (congrArg Value.int (hR1.2.2.1.2.1)) k
    have k := ly_revb 2 (c' := (35, [(2, .int ((Int32.ofInt 4) * (nI u.2.2.2.1))), (0, .ref B), (1, .int (nI q))], [.int ((nI u.2.1) - (Int32.ofInt 1)), .int (Int32.ofInt 0), .ref B], me_w M (nt_u J B 15 (nI (q + (lb_W (nt_sp + 1 + 3)).length))))) rfl k
    obtain ⟨d1, o1, ed, kc, k⟩ := lz_c (g := 143) (q := 1) (vs := [.ref B, .int (Int32.ofInt 0), .int ((nI u.2.1) - (Int32.ofInt 1))]) (rest := []) rfl rfl (by decide) (Or.inr (Or.inl ⟨_, rfl, rfl⟩)) rfl k
    obtain ⟨r1, a1, J1, e1, hv1, hN1⟩ := yr_num hR1 hpw kc
    subst e1
    rcases r1 with c | ⟨q1, x1⟩
    · obtain ⟨hc, rfl, y1, hy1, hT1⟩ := hN1
      have k : nt_rn X _ 148 (38, [(2, .int ((Int32.ofInt 4) * (nI u.2.2.2.1))), (0, .ref B), (1, .int (nI q))], [.int (Int32.ofInt 0)], me_w M J1) _ := k
      have k := ly_revb 1 (c' := (if (Int32.ofInt 0) = 0 then 41 else 43, [(2, .int ((Int32.ofInt 4) * (nI u.2.2.2.1))), (0, .ref B), (1, .int (nI q))], [], me_w M J1)) rfl k
      rw [if_pos (show (Int32.ofInt 0) = 0 from by decide)] at k
      have k := ly_revb 1 (c' := (42, [(2, .int ((Int32.ofInt 4) * (nI u.2.2.2.1))), (0, .ref B), (1, .int (nI q))], [.int (Int32.ofInt 0)], me_w M J1)) rfl k
      have k := lz_ri rfl (by decide) k
      exact ⟨.inl c, _, _, k, Or.inr ⟨by omega, ⟨.inl c, ⟨_, hv1, Or.inl ⟨c, rfl, rfl⟩⟩, Or.inl ⟨c, rfl, rfl⟩⟩⟩, hc, rfl, _, _, _, _, hy1, hT1⟩
    · obtain ⟨rfl, y1, hz1, hy1, hT1, hw1⟩ := hN1
      dsimp only at hz1 hw1
      have hu1 := lb_nu_up (lb_s_le (t - (q + (lb_W (nt_sp + 1 + 3)).length)) (q + (lb_W (nt_sp + 1 + 3)).length) (by omega)).2 hv1
      have k : nt_rn X _ 148 (38, [(2, .int ((Int32.ofInt 4) * (nI u.2.2.2.1))), (0, .ref B), (1, .int (nI q))], [.int (Int32.ofInt 1)], me_w M J1) _ := k
      have k := ly_revb 1 (c' := (if (Int32.ofInt 1) = 0 then 41 else 43, [(2, .int ((Int32.ofInt 4) * (nI u.2.2.2.1))), (0, .ref B), (1, .int (nI q))], [], me_w M J1)) rfl k
      rw [if_neg (show ¬ ((Int32.ofInt 1) = 0) from by decide)] at k
      have k := ly_revb 1 (c' := (44, [(2, .int ((Int32.ofInt 4) * (nI u.2.2.2.1))), (0, .ref B), (1, .int (nI q))], [.ref B], me_w M J1)) rfl k
      have k := lz_get (a := B) (g := 1114) (M := me_w M J1) (v := .ref R2) rfl (nt_gfR rfl hW.1.2.2) k
      have k := ly_revb 2 (c' := (49, [(2, .int ((Int32.ofInt 4) * (nI u.2.2.2.1))), (0, .ref B), (1, .int (nI q))], [.ref B, .int ((Int32.ofInt 4) * (nI u.2.2.2.1)), .ref R2], me_w M J1)) rfl k
      have k := lz_get (a := B) (g := 1117) (M := me_w M J1) (v := .int (x1)) rfl (congrArg Value.int (hw1)) k
      have k := me_iastx rfl k
      have hR2 := yr_row (j := ((Int32.ofInt 4) * (nI u.2.2.2.1)).toNatClampNeg) (x := x1) hT1 hW.2.2.2.1 hW.2.2.2.2.1 hW.2.2.2.2.2.1 hW.2.2.2.2.2.2 (fun c => yr_C20 (lb_ix40 (by omega)) c)
      have k : nt_rn X _ 148 (53, [(2, .int ((Int32.ofInt 4) * (nI u.2.2.2.1))), (0, .ref B), (1, .int (nI q))], [], me_w M (nt_u J1 R2 ((Int32.ofInt 4) * (nI u.2.2.2.1)).toNatClampNeg (x1))) _ := k
      have k := ly_revb 3 (c' := (57, [(2, .int ((Int32.ofInt 4) * (nI u.2.2.2.1))), (0, .ref B), (1, .int (nI q))], [.int (Int32.ofInt 98), .int (Int32.ofInt 0), .ref B], me_w M (nt_u J1 R2 ((Int32.ofInt 4) * (nI u.2.2.2.1)).toNatClampNeg (x1)))) rfl k
      obtain ⟨d1, o1, ed, kc, k⟩ := lz_c (g := 143) (q := 1) (vs := [.ref B, .int (Int32.ofInt 0), .int (Int32.ofInt 98)]) (rest := []) rfl rfl (by decide) (Or.inr (Or.inl ⟨_, rfl, rfl⟩)) rfl k
      obtain ⟨r2, a2, J2, e1, hv2, hN2⟩ := yr_num hR2 hy1 kc
      subst e1
      rw [hz1] at hv2
      rcases r2 with c | ⟨q2, x2⟩
      · obtain ⟨hc, rfl, y2, hy2, hT2⟩ := hN2
        have k : nt_rn X _ 148 (60, [(2, .int ((Int32.ofInt 4) * (nI u.2.2.2.1))), (0, .ref B), (1, .int (nI q))], [.int (Int32.ofInt 0)], me_w M J2) _ := k
        have k := ly_revb 1 (c' := (if (Int32.ofInt 0) = 0 then 63 else 65, [(2, .int ((Int32.ofInt 4) * (nI u.2.2.2.1))), (0, .ref B), (1, .int (nI q))], [], me_w M J2)) rfl k
        rw [if_pos (show (Int32.ofInt 0) = 0 from by decide)] at k
        have k := ly_revb 1 (c' := (64, [(2, .int ((Int32.ofInt 4) * (nI u.2.2.2.1))), (0, .ref B), (1, .int (nI q))], [.int (Int32.ofInt 0)], me_w M J2)) rfl k
        have k := lz_ri rfl (by decide) k
        exact ⟨.inl c, _, _, k, Or.inr ⟨by omega, ⟨.inl c, ⟨_, hv1, Or.inr ⟨_, _, rfl, ⟨_, hv2, Or.inl ⟨c, rfl, rfl⟩⟩⟩⟩, Or.inl ⟨c, rfl, rfl⟩⟩⟩, hc, rfl, _, _, _, _, hy2, hT2⟩
      · obtain ⟨rfl, y2, hz2, hy2, hT2, hw2⟩ := hN2
        dsimp only at hz2 hw2
        have hu2 := lb_nu_up hu1.1 hv2
        have k : nt_rn X _ 148 (60, [(2, .int ((Int32.ofInt 4) * (nI u.2.2.2.1))), (0, .ref B), (1, .int (nI q))], [.int (Int32.ofInt 1)], me_w M J2) _ := k
        have k := ly_revb 1 (c' := (if (Int32.ofInt 1) = 0 then 63 else 65, [(2, .int ((Int32.ofInt 4) * (nI u.2.2.2.1))), (0, .ref B), (1, .int (nI q))], [], me_w M J2)) rfl k
        rw [if_neg (show ¬ ((Int32.ofInt 1) = 0) from by decide)] at k
        have k := ly_revb 1 (c' := (66, [(2, .int ((Int32.ofInt 4) * (nI u.2.2.2.1))), (0, .ref B), (1, .int (nI q))], [.ref B], me_w M J2)) rfl k
        have k := lz_get (a := B) (g := 1114) (M := me_w M J2) (v := .ref R2) rfl (nt_gfR rfl hW.1.2.2) k
        have k := ly_revb 4 (c' := (73, [(2, .int ((Int32.ofInt 4) * (nI u.2.2.2.1))), (0, .ref B), (1, .int (nI q))], [.ref B, .int (((Int32.ofInt 4) * (nI u.2.2.2.1)) + (Int32.ofInt 1)), .ref R2], me_w M J2)) rfl k
        have k := lz_get (a := B) (g := 1117) (M := me_w M J2) (v := .int (x2)) rfl (congrArg Value.int (hw2)) k
        have k := me_iastx rfl k
        have hR3 := yr_row (j := (((Int32.ofInt 4) * (nI u.2.2.2.1)) + (Int32.ofInt 1)).toNatClampNeg) (x := x2) hT2 hW.2.2.2.1 hW.2.2.2.2.1 hW.2.2.2.2.2.1 hW.2.2.2.2.2.2 (fun c => yr_C21 (lb_ix4' (i := 1) (by omega) (by decide)) c)
        have k : nt_rn X _ 148 (77, [(2, .int ((Int32.ofInt 4) * (nI u.2.2.2.1))), (0, .ref B), (1, .int (nI q))], [], me_w M (nt_u J2 R2 (((Int32.ofInt 4) * (nI u.2.2.2.1)) + (Int32.ofInt 1)).toNatClampNeg (x2))) _ := k
        have k := ly_revb 2 (c' := (79, [(2, .int ((Int32.ofInt 4) * (nI u.2.2.2.1))), (0, .ref B), (1, .int (nI q))], [.ref B, .ref B], me_w M (nt_u J2 R2 (((Int32.ofInt 4) * (nI u.2.2.2.1)) + (Int32.ofInt 1)).toNatClampNeg (x2)))) rfl k
        have k := lz_get (a := B) (g := 1117) (M := me_w M (nt_u J2 R2 (((Int32.ofInt 4) * (nI u.2.2.2.1)) + (Int32.ofInt 1)).toNatClampNeg (x2))) (v := .int (x2)) rfl (congrArg Value.int ((me_uj (Ne.symm hW.2.2.2.1)).trans (hw2))) k
        have k := ly_revb 3 (c' := (86, [(2, .int ((Int32.ofInt 4) * (nI u.2.2.2.1))), (0, .ref B), (1, .int (nI q))], [.int (Int32.ofInt 99), .int (x2 + (Int32.ofInt 1)), .ref B], me_w M (nt_u J2 R2 (((Int32.ofInt 4) * (nI u.2.2.2.1)) + (Int32.ofInt 1)).toNatClampNeg (x2)))) rfl k
        obtain ⟨d1, o1, ed, kc, k⟩ := lz_c (g := 143) (q := 1) (vs := [.ref B, .int (x2 + (Int32.ofInt 1)), .int (Int32.ofInt 99)]) (rest := []) rfl rfl (by decide) (Or.inr (Or.inl ⟨_, rfl, rfl⟩)) rfl k
        obtain ⟨r3, a3, J3, e1, hv3, hN3⟩ := yr_num hR3 hy2 kc
        subst e1
        rw [hz2] at hv3
        rcases r3 with c | ⟨q3, x3⟩
        · obtain ⟨hc, rfl, y3, hy3, hT3⟩ := hN3
          have k : nt_rn X _ 148 (89, [(2, .int ((Int32.ofInt 4) * (nI u.2.2.2.1))), (0, .ref B), (1, .int (nI q))], [.int (Int32.ofInt 0)], me_w M J3) _ := k
          have k := ly_revb 1 (c' := (if (Int32.ofInt 0) = 0 then 92 else 94, [(2, .int ((Int32.ofInt 4) * (nI u.2.2.2.1))), (0, .ref B), (1, .int (nI q))], [], me_w M J3)) rfl k
          rw [if_pos (show (Int32.ofInt 0) = 0 from by decide)] at k
          have k := ly_revb 1 (c' := (93, [(2, .int ((Int32.ofInt 4) * (nI u.2.2.2.1))), (0, .ref B), (1, .int (nI q))], [.int (Int32.ofInt 0)], me_w M J3)) rfl k
          have k := lz_ri rfl (by decide) k
          exact ⟨.inl c, _, _, k, Or.inr ⟨by omega, ⟨.inl c, ⟨_, hv1, Or.inr ⟨_, _, rfl, ⟨_, hv2, Or.inr ⟨_, _, rfl, ⟨_, hv3, Or.inl ⟨c, rfl, rfl⟩⟩⟩⟩⟩⟩, Or.inl ⟨c, rfl, rfl⟩⟩⟩, hc, rfl, _, _, _, _, hy3, hT3⟩
        · obtain ⟨rfl, y3, hz3, hy3, hT3, hw3⟩ := hN3
          dsimp only at hz3 hw3
          have hu3 := lb_nu_up hu2.1 hv3
          have k : nt_rn X _ 148 (89, [(2, .int ((Int32.ofInt 4) * (nI u.2.2.2.1))), (0, .ref B), (1, .int (nI q))], [.int (Int32.ofInt 1)], me_w M J3) _ := k
          have k := ly_revb 1 (c' := (if (Int32.ofInt 1) = 0 then 92 else 94, [(2, .int ((Int32.ofInt 4) * (nI u.2.2.2.1))), (0, .ref B), (1, .int (nI q))], [], me_w M J3)) rfl k
          rw [if_neg (show ¬ ((Int32.ofInt 1) = 0) from by decide)] at k
          have k := ly_revb 1 (c' := (95, [(2, .int ((Int32.ofInt 4) * (nI u.2.2.2.1))), (0, .ref B), (1, .int (nI q))], [.ref B], me_w M J3)) rfl k
          have k := lz_get (a := B) (g := 1114) (M := me_w M J3) (v := .ref R2) rfl (nt_gfR rfl hW.1.2.2) k
          have k := ly_revb 4 (c' := (102, [(2, .int ((Int32.ofInt 4) * (nI u.2.2.2.1))), (0, .ref B), (1, .int (nI q))], [.ref B, .int (((Int32.ofInt 4) * (nI u.2.2.2.1)) + (Int32.ofInt 2)), .ref R2], me_w M J3)) rfl k
          have k := lz_get (a := B) (g := 1117) (M := me_w M J3) (v := .int (x3)) rfl (congrArg Value.int (hw3)) k
          have k := me_iastx rfl k
          have hR4 := yr_row (j := (((Int32.ofInt 4) * (nI u.2.2.2.1)) + (Int32.ofInt 2)).toNatClampNeg) (x := x3) hT3 hW.2.2.2.1 hW.2.2.2.2.1 hW.2.2.2.2.2.1 hW.2.2.2.2.2.2 (fun c => yr_C22 (lb_ix4' (i := 2) (by omega) (by decide)) c)
          have k : nt_rn X _ 148 (106, [(2, .int ((Int32.ofInt 4) * (nI u.2.2.2.1))), (0, .ref B), (1, .int (nI q))], [], me_w M (nt_u J3 R2 (((Int32.ofInt 4) * (nI u.2.2.2.1)) + (Int32.ofInt 2)).toNatClampNeg (x3))) _ := k
          have k := ly_revb 3 (c' := (111, [(2, .int ((Int32.ofInt 4) * (nI u.2.2.2.1))), (0, .ref B), (1, .int (nI q))], [.int (Int32.ofInt 999), .int (Int32.ofInt 0), .ref B], me_w M (nt_u J3 R2 (((Int32.ofInt 4) * (nI u.2.2.2.1)) + (Int32.ofInt 2)).toNatClampNeg (x3)))) rfl k
          obtain ⟨d1, o1, ed, kc, k⟩ := lz_c (g := 143) (q := 1) (vs := [.ref B, .int (Int32.ofInt 0), .int (Int32.ofInt 999)]) (rest := []) rfl rfl (by decide) (Or.inr (Or.inl ⟨_, rfl, rfl⟩)) rfl k
          obtain ⟨r4, a4, J4, e1, hv4, hN4⟩ := yr_num hR4 hy3 kc
          subst e1
          rw [hz3] at hv4
          rcases r4 with c | ⟨q4, x4⟩
          · obtain ⟨hc, rfl, y4, hy4, hT4⟩ := hN4
            have k : nt_rn X _ 148 (114, [(2, .int ((Int32.ofInt 4) * (nI u.2.2.2.1))), (0, .ref B), (1, .int (nI q))], [.int (Int32.ofInt 0)], me_w M J4) _ := k
            have k := ly_revb 1 (c' := (if (Int32.ofInt 0) = 0 then 117 else 119, [(2, .int ((Int32.ofInt 4) * (nI u.2.2.2.1))), (0, .ref B), (1, .int (nI q))], [], me_w M J4)) rfl k
            rw [if_pos (show (Int32.ofInt 0) = 0 from by decide)] at k
            have k := ly_revb 1 (c' := (118, [(2, .int ((Int32.ofInt 4) * (nI u.2.2.2.1))), (0, .ref B), (1, .int (nI q))], [.int (Int32.ofInt 0)], me_w M J4)) rfl k
            have k := lz_ri rfl (by decide) k
            exact ⟨.inl c, _, _, k, Or.inr ⟨by omega, ⟨.inl c, ⟨_, hv1, Or.inr ⟨_, _, rfl, ⟨_, hv2, Or.inr ⟨_, _, rfl, ⟨_, hv3, Or.inr ⟨_, _, rfl, ⟨_, hv4, Or.inl ⟨c, rfl, rfl⟩⟩⟩⟩⟩⟩⟩⟩, Or.inl ⟨c, rfl, rfl⟩⟩⟩, hc, rfl, _, _, _, _, hy4, hT4⟩
          · obtain ⟨rfl, y4, hz4, hy4, hT4, hw4⟩ := hN4
            dsimp only at hz4 hw4
            have hu4 := lb_nu_up hu3.1 hv4
            have k : nt_rn X _ 148 (114, [(2, .int ((Int32.ofInt 4) * (nI u.2.2.2.1))), (0, .ref B), (1, .int (nI q))], [.int (Int32.ofInt 1)], me_w M J4) _ := k
            have k := ly_revb 1 (c' := (if (Int32.ofInt 1) = 0 then 117 else 119, [(2, .int ((Int32.ofInt 4) * (nI u.2.2.2.1))), (0, .ref B), (1, .int (nI q))], [], me_w M J4)) rfl k
            rw [if_neg (show ¬ ((Int32.ofInt 1) = 0) from by decide)] at k
            have k := ly_revb 1 (c' := (120, [(2, .int ((Int32.ofInt 4) * (nI u.2.2.2.1))), (0, .ref B), (1, .int (nI q))], [.ref B], me_w M J4)) rfl k
            have k := lz_get (a := B) (g := 1114) (M := me_w M J4) (v := .ref R2) rfl (nt_gfR rfl hW.1.2.2) k
            have k := ly_revb 4 (c' := (127, [(2, .int ((Int32.ofInt 4) * (nI u.2.2.2.1))), (0, .ref B), (1, .int (nI q))], [.ref B, .int (((Int32.ofInt 4) * (nI u.2.2.2.1)) + (Int32.ofInt 3)), .ref R2], me_w M J4)) rfl k
            have k := lz_get (a := B) (g := 1117) (M := me_w M J4) (v := .int (x4)) rfl (congrArg Value.int (hw4)) k
            have k := me_iastx rfl k
            have hR5 := yr_row (j := (((Int32.ofInt 4) * (nI u.2.2.2.1)) + (Int32.ofInt 3)).toNatClampNeg) (x := x4) hT4 hW.2.2.2.1 hW.2.2.2.2.1 hW.2.2.2.2.2.1 hW.2.2.2.2.2.2 (fun c => yr_C23 (lb_ix4' (i := 3) (by omega) (by decide)) c)
            have k : nt_rn X _ 148 (131, [(2, .int ((Int32.ofInt 4) * (nI u.2.2.2.1))), (0, .ref B), (1, .int (nI q))], [], me_w M (nt_u J4 R2 (((Int32.ofInt 4) * (nI u.2.2.2.1)) + (Int32.ofInt 3)).toNatClampNeg (x4))) _ := k
            have k := ly_revb 2 (c' := (133, [(2, .int ((Int32.ofInt 4) * (nI u.2.2.2.1))), (0, .ref B), (1, .int (nI q))], [.ref B, .ref B], me_w M (nt_u J4 R2 (((Int32.ofInt 4) * (nI u.2.2.2.1)) + (Int32.ofInt 3)).toNatClampNeg (x4)))) rfl k
            have k := lz_get (a := B) (g := 1110) (M := me_w M (nt_u J4 R2 (((Int32.ofInt 4) * (nI u.2.2.2.1)) + (Int32.ofInt 3)).toNatClampNeg (x4))) (v := .int (nI u.2.2.2.1)) rfl (congrArg Value.int (hR5.2.2.1.2.2.2.1)) k
            have k := ly_revb 2 (c' := (138, [(2, .int ((Int32.ofInt 4) * (nI u.2.2.2.1))), (0, .ref B), (1, .int (nI q))], [.int ((nI u.2.2.2.1) + (Int32.ofInt 1)), .ref B], me_w M (nt_u J4 R2 (((Int32.ofInt 4) * (nI u.2.2.2.1)) + (Int32.ofInt 3)).toNatClampNeg (x4)))) rfl k
            rw [show ((nI u.2.2.2.1) + (Int32.ofInt 1) : Int32) = nI (u.2.2.2.1 + 1) from me_add (k := 1)] at k
            have k := me_put rfl (by decide) k
            have k : nt_rn X _ 148 (141, [(2, .int ((Int32.ofInt 4) * (nI u.2.2.2.1))), (0, .ref B), (1, .int (nI q))], [], me_w M (nt_u (nt_u J4 R2 (((Int32.ofInt 4) * (nI u.2.2.2.1)) + (Int32.ofInt 3)).toNatClampNeg (x4)) B 10 (nI (u.2.2.2.1 + 1)))) _ := k
            have hR6 := yr_u3 (y := u.2.2.2.1 + 1) hR5
            have k := ly_revb 1 (c' := (142, [(2, .int ((Int32.ofInt 4) * (nI u.2.2.2.1))), (0, .ref B), (1, .int (nI q))], [.int (Int32.ofInt 1)], me_w M (nt_u (nt_u J4 R2 (((Int32.ofInt 4) * (nI u.2.2.2.1)) + (Int32.ofInt 3)).toNatClampNeg (x4)) B 10 (nI (u.2.2.2.1 + 1))))) rfl k
            have k := lz_ri rfl (by decide) k
            obtain ⟨b1, b2, b3, b4, b5⟩ := hb
            exact ⟨.inr (q4, u.1, u.2.1, u.2.2.1, u.2.2.2.1 + 1, u.2.2.2.2), _, _, k, Or.inr ⟨by omega, ⟨.inr q4, ⟨_, hv1, Or.inr ⟨_, _, rfl, ⟨_, hv2, Or.inr ⟨_, _, rfl, ⟨_, hv3, Or.inr ⟨_, _, rfl, ⟨_, hv4, Or.inr ⟨_, _, rfl, rfl⟩⟩⟩⟩⟩⟩⟩⟩, Or.inr ⟨_, rfl, rfl⟩⟩⟩, rfl, ⟨b1, b2, b3, by dsimp only; omega, b5⟩, hk0, y4, _, hz4, hy4, ⟨_, _, _, _, _, _, _, hv1, hv2, hv3, hv4, rfl⟩, hR6⟩
theorem yr_hands {R0 R1 R2 : Nat} {C : lb_C} {X : nt_X} {d t B Tb Sg Ln q m li : Nat} {f : Nat → Int32} {M : nt_M} {e : Nat × (Nat → Int32)} {u : Nat × Nat × Nat × Nat × Nat} {J : Nat → Nat → Int32} {o : Option Value × nt_M} (hW : yr_W M B Tb Sg Ln R0 R1 R2) (hT : yr_T R0 R1 R2 C M f t B Tb Sg Ln q 0 m e u li J) (hp : q ≤ t) (hb : lb_ub u) (hk0 : u.1 ≠ 0) (hat : lb_yw f t q 4) (k : nt_ev X d 149 [.ref B, .int (nI q)] (me_w M J) o) : ∃ r a J', o = (some (.int a), me_w M J') ∧ (((u.2.2.2.2 ≠ 0) ∧ r = .inl (lb_c q (Int32.ofInt 4))) ∨ (¬ (u.2.2.2.2 ≠ 0) ∧ lb_pa f t (q, u) (lb_s f t (q + (lb_W (nt_sp + 1 + 4)).length)) 4 r)) ∧ yr_Q R0 R1 R2 (fun v D => lb_paC f t u (lb_s f t (q + (lb_W (nt_sp + 1 + 4)).length)) v.1 4 C D) M f t B Tb Sg Ln m e li r a J' := by
  have k : nt_rn X d 149 (0, [(0, .ref B), (1, .int (nI q))], [], me_w M J) o := k
  have t4 : t ≤ 400 := hT.1.2.2.2.2.2.1
  have hb0 := hb
  obtain ⟨d1, d2, d3, d4, d5⟩ := hb0
  have k := ly_revb 1 (c' := (1, [(0, .ref B), (1, .int (nI q))], [.ref B], me_w M J)) rfl k
  have k := lz_get (a := B) (g := 1111) (M := me_w M J) (v := .int (lb_hh u.2.2.2.2)) rfl (congrArg Value.int (hT.2.2.1.2.2.2.2)) k
  have k := ly_revb 1 (c' := (if (lb_hh u.2.2.2.2) < 0 then 14 else 7, [(0, .ref B), (1, .int (nI q))], [], me_w M J)) rfl k
  by_cases h4 : u.2.2.2.2 = 0
  · rw [if_pos (show (lb_hh u.2.2.2.2) < 0 from by rw [h4]; decide)] at k
    have k := ly_revb 1 (c' := (15, [(0, .ref B), (1, .int (nI q))], [.ref B], me_w M J)) rfl k
    obtain ⟨d1, o1, ed, kc, k⟩ := lz_c (g := 142) (q := 1) (vs := [.ref B]) (rest := []) rfl rfl (by decide) (Or.inr (Or.inl ⟨_, rfl, rfl⟩)) rfl k
    have e1 := md_pass hT.1 hT.2.1 hp kc
    rw [lb_at_l hat] at e1
    subst e1
    have hR1 := yr_up hT (md_Sq (y := q + (lb_W (nt_sp + 1 + 4)).length) hT.1 hT.2.1)
    have hpw : q + (lb_W (nt_sp + 1 + 4)).length ≤ t := hat.1
    have k : nt_rn X _ 149 (18, [(0, .ref B), (1, .int (nI q))], [], me_w M (nt_u J B 15 (nI (q + (lb_W (nt_sp + 1 + 4)).length)))) _ := k
    have k := ly_revb 3 (c' := (22, [(0, .ref B), (1, .int (nI q))], [.int (Int32.ofInt 30), .int (Int32.ofInt 1), .ref B], me_w M (nt_u J B 15 (nI (q + (lb_W (nt_sp + 1 + 4)).length))))) rfl k
    obtain ⟨d1, o1, ed, kc, k⟩ := lz_c (g := 143) (q := 1) (vs := [.ref B, .int (Int32.ofInt 1), .int (Int32.ofInt 30)]) (rest := []) rfl rfl (by decide) (Or.inr (Or.inl ⟨_, rfl, rfl⟩)) rfl k
    obtain ⟨r1, a1, J1, e1, hv1, hN1⟩ := yr_num hR1 hpw kc
    subst e1
    rcases r1 with c | ⟨q1, x1⟩
    · obtain ⟨hc, rfl, y1, hy1, hT1⟩ := hN1
      have k : nt_rn X _ 149 (25, [(0, .ref B), (1, .int (nI q))], [.int (Int32.ofInt 0)], me_w M J1) _ := k
      have k := ly_revb 1 (c' := (if (Int32.ofInt 0) = 0 then 28 else 30, [(0, .ref B), (1, .int (nI q))], [], me_w M J1)) rfl k
      rw [if_pos (show (Int32.ofInt 0) = 0 from by decide)] at k
      have k := ly_revb 1 (c' := (29, [(0, .ref B), (1, .int (nI q))], [.int (Int32.ofInt 0)], me_w M J1)) rfl k
      have k := lz_ri rfl (by decide) k
      exact ⟨.inl c, _, _, k, Or.inr ⟨fun c => c h4, ⟨_, hv1, Or.inl ⟨c, rfl, rfl⟩⟩⟩, hc, rfl, _, _, _, _, hy1, hT1⟩
    · obtain ⟨rfl, y1, hz1, hy1, hT1, hw1⟩ := hN1
      dsimp only at hz1 hw1
      have hu1 := lb_nu_up (lb_s_le (t - (q + (lb_W (nt_sp + 1 + 4)).length)) (q + (lb_W (nt_sp + 1 + 4)).length) (by omega)).2 hv1
      have k : nt_rn X _ 149 (25, [(0, .ref B), (1, .int (nI q))], [.int (Int32.ofInt 1)], me_w M J1) _ := k
      have k := ly_revb 1 (c' := (if (Int32.ofInt 1) = 0 then 28 else 30, [(0, .ref B), (1, .int (nI q))], [], me_w M J1)) rfl k
      rw [if_neg (show ¬ ((Int32.ofInt 1) = 0) from by decide)] at k
      have k := ly_revb 2 (c' := (32, [(0, .ref B), (1, .int (nI q))], [.ref B, .ref B], me_w M J1)) rfl k
      have k := lz_get (a := B) (g := 1117) (M := me_w M J1) (v := .int (x1)) rfl (congrArg Value.int (hw1)) k
      have k := me_put rfl (by decide) k
      have k : nt_rn X _ 149 (38, [(0, .ref B), (1, .int (nI q))], [], me_w M (nt_u J1 B 11 (x1))) _ := k
      obtain ⟨ex, hx⟩ := yc_nn (b := 30) (by decide) hu1.2.1 hu1.2.2
      dsimp only at ex hx
      have hx1 : 1 ≤ x1.toInt.toNat := by have h1 : (1 : Int) ≤ x1.toInt := hu1.2.1; omega
      have eh : lb_hh x1.toInt.toNat = x1 := (if_neg (by omega)).trans ex.symm
      have hR2 := yr_u4 (y := x1.toInt.toNat) hT1
      rw [eh] at hR2
      have k := ly_revb 1 (c' := (39, [(0, .ref B), (1, .int (nI q))], [.int (Int32.ofInt 1)], me_w M (nt_u J1 B 11 (x1)))) rfl k
      have k := lz_ri rfl (by decide) k
      obtain ⟨b1, b2, b3, b4, b5⟩ := hb
      exact ⟨.inr (q1, u.1, u.2.1, u.2.2.1, u.2.2.2.1, x1.toInt.toNat), _, _, k, Or.inr ⟨fun c => c h4, ⟨_, hv1, Or.inr ⟨_, _, rfl, rfl⟩⟩⟩, rfl, ⟨b1, b2, b3, b4, hx⟩, hk0, y1, _, hz1, hy1, rfl, hR2⟩
  · rw [if_neg (show ¬ ((lb_hh u.2.2.2.2) < 0) from by unfold lb_hh; rw [if_neg h4]; exact nI_pos (by omega))] at k
    have k := ly_revb 3 (c' := (10, [(0, .ref B), (1, .int (nI q))], [.int (nI q), .int (Int32.ofInt 4), .ref B], me_w M J)) rfl k
    obtain ⟨d1, o1, ed, kc, k⟩ := lz_c (g := 139) (q := 1) (vs := [.ref B, .int (Int32.ofInt 4), .int (nI q)]) (rest := []) rfl rfl (by decide) (Or.inr (Or.inl ⟨_, rfl, rfl⟩)) rfl k
    obtain ⟨hf, e1⟩ := (md_fails (a := q) hT.1 hT.2.1 hp kc).resolve_right (fun c => c.1 rfl)
    subst e1
    have hR1 := yr_up hT (md_Sw (y := lb_c q (Int32.ofInt 4)) hT.1 hT.2.1)
    have k : nt_rn X _ 149 (13, [(0, .ref B), (1, .int (nI q))], [.int (Int32.ofInt 0)], me_w M (nt_u J B 16 (lb_c q (Int32.ofInt 4)))) _ := k
    have k := lz_ri rfl (by decide) k
    exact ⟨.inl (lb_c q (Int32.ofInt 4)), _, _, k, Or.inl ⟨h4, rfl⟩, (lb_c_ne (by omega) (by decide) (by decide)), rfl, _, _, _, _, hp, hR1⟩
theorem yr_shl {X : nt_X} {d t B Tb Sg Ln m li R0 R1 R2 : Nat} {f : Nat → Int32} {M : nt_M} {e : Nat × (Nat → Int32)} {u : Nat × Nat × Nat × Nat × Nat} {y0 : Int32} {o : Option Value × nt_M} (hW : yr_W M B Tb Sg Ln R0 R1 R2) (hb : lb_ub u) : ∀ (c i q : Nat) (C : lb_C) (J : Nat → Nat → Int32), i + c = u.1 → q ≤ t → yr_T R0 R1 R2 C M f t B Tb Sg Ln q 0 m e u li J → nt_rn X d 146 (22, [(2, .int (nI i)), (0, .ref B), (1, .int y0)], [], me_w M J) o → ∃ r a J', o = (some (.int a), me_w M J') ∧ lb_sh f t c (lb_s f t q) r ∧ ((∃ c1, r = .inl c1 ∧ c1 ≠ 0 ∧ a = Int32.ofInt 0 ∧ ∃ q' D, q' ≤ t ∧ yr_T R0 R1 R2 D M f t B Tb Sg Ln (q') c1 m e u li (J')) ∨ ∃ p, r = .inr p ∧ a = Int32.ofInt 1 ∧ ∃ q' D, lb_s f t q' = p ∧ q' ≤ t ∧ lb_shC f t u.2.1 c i (lb_s f t q) p C D ∧ yr_T R0 R1 R2 D M f t B Tb Sg Ln (q') 0 m e (u.1, u.2.1 + 1, u.2.2.1, u.2.2.2.1, u.2.2.2.2) li (J')) := by
  obtain ⟨d1, d2, d3, d4, d5⟩ := hb
  intro c
  induction c with
  | zero =>
    intro i q C J hc hp hT k
    have t4 : t ≤ 400 := hT.1.2.2.2.2.2.1
    have k := ly_revb 2 (c' := (24, [(2, .int (nI i)), (0, .ref B), (1, .int (y0))], [.ref B, .int (nI i)], me_w M J)) rfl k
    have k := lz_get (a := B) (g := 1107) (M := me_w M J) (v := .int (nI u.1)) rfl (congrArg Value.int (hT.2.2.1.1)) k
    have k := ly_revb 1 (c' := (if (nI u.1) ≤ (nI i) then 64 else 30, [(2, .int (nI i)), (0, .ref B), (1, .int (y0))], [], me_w M J)) rfl k
    rw [if_pos (show (nI u.1) ≤ (nI i) from nI_le (by omega) (by omega))] at k
    have k := ly_revb 2 (c' := (66, [(2, .int (nI i)), (0, .ref B), (1, .int (y0))], [.ref B, .ref B], me_w M J)) rfl k
    have k := lz_get (a := B) (g := 1108) (M := me_w M J) (v := .int (nI u.2.1)) rfl (congrArg Value.int (hT.2.2.1.2.1)) k
    have k := ly_revb 2 (c' := (71, [(2, .int (nI i)), (0, .ref B), (1, .int (y0))], [.int ((nI u.2.1) + (Int32.ofInt 1)), .ref B], me_w M J)) rfl k
    rw [show ((nI u.2.1) + (Int32.ofInt 1) : Int32) = nI (u.2.1 + 1) from me_add (k := 1)] at k
    have k := me_put rfl (by decide) k
    have k : nt_rn X _ 146 (74, [(2, .int (nI i)), (0, .ref B), (1, .int (y0))], [], me_w M (nt_u J B 8 (nI (u.2.1 + 1)))) _ := k
    have hR1 := yr_u1 (y := u.2.1 + 1) hT
    have k := ly_revb 1 (c' := (75, [(2, .int (nI i)), (0, .ref B), (1, .int (y0))], [.int (Int32.ofInt 1)], me_w M (nt_u J B 8 (nI (u.2.1 + 1))))) rfl k
    have k := lz_ri rfl (by decide) k
    exact ⟨.inr (lb_s f t q), _, _, k, rfl, Or.inr ⟨_, rfl, rfl, q, C, rfl, hp, ⟨rfl, rfl⟩, hR1⟩⟩
  | succ c ih =>
    intro i q C J hc hp hT k
    have t4 : t ≤ 400 := hT.1.2.2.2.2.2.1
    have k := ly_revb 2 (c' := (24, [(2, .int (nI i)), (0, .ref B), (1, .int (y0))], [.ref B, .int (nI i)], me_w M J)) rfl k
    have k := lz_get (a := B) (g := 1107) (M := me_w M J) (v := .int (nI u.1)) rfl (congrArg Value.int (hT.2.2.1.1)) k
    have k := ly_revb 1 (c' := (if (nI u.1) ≤ (nI i) then 64 else 30, [(2, .int (nI i)), (0, .ref B), (1, .int (y0))], [], me_w M J)) rfl k
    rw [if_neg (show ¬ ((nI u.1) ≤ (nI i)) from nI_ge (by omega) (by omega))] at k
    have k := ly_revb 3 (c' := (33, [(2, .int (nI i)), (0, .ref B), (1, .int (y0))], [.int (Int32.ofInt 5), .int (Int32.ofInt 0), .ref B], me_w M J)) rfl k
    obtain ⟨d1, o1, ed, kc, k⟩ := lz_c (g := 143) (q := 1) (vs := [.ref B, .int (Int32.ofInt 0), .int (Int32.ofInt 5)]) (rest := []) rfl rfl (by decide) (Or.inr (Or.inl ⟨_, rfl, rfl⟩)) rfl k
    obtain ⟨r1, a1, J1, e1, hv1, hN1⟩ := yr_num hT hp kc
    subst e1
    rcases r1 with c1 | ⟨q1, x1⟩
    · obtain ⟨hc1, rfl, y1, hy1, hT1⟩ := hN1
      have k : nt_rn X _ 146 (36, [(2, .int (nI i)), (0, .ref B), (1, .int (y0))], [.int (Int32.ofInt 0)], me_w M J1) _ := k
      have k := ly_revb 1 (c' := (if (Int32.ofInt 0) = 0 then 39 else 41, [(2, .int (nI i)), (0, .ref B), (1, .int (y0))], [], me_w M J1)) rfl k
      rw [if_pos (show (Int32.ofInt 0) = 0 from by decide)] at k
      have k := ly_revb 1 (c' := (40, [(2, .int (nI i)), (0, .ref B), (1, .int (y0))], [.int (Int32.ofInt 0)], me_w M J1)) rfl k
      have k := lz_ri rfl (by decide) k
      exact ⟨.inl c1, _, _, k, ⟨_, hv1, Or.inl ⟨c1, rfl, rfl⟩⟩, Or.inl ⟨c1, rfl, hc1, rfl, _, _, hy1, hT1⟩⟩
    · obtain ⟨rfl, y1, hz1, hy1, hT1, hw1⟩ := hN1
      dsimp only at hz1 hw1
      have hu1 := lb_nu_up (lb_s_le (t - (q)) (q) (by omega)).2 hv1
      have k : nt_rn X _ 146 (36, [(2, .int (nI i)), (0, .ref B), (1, .int (y0))], [.int (Int32.ofInt 1)], me_w M J1) _ := k
      have k := ly_revb 1 (c' := (if (Int32.ofInt 1) = 0 then 39 else 41, [(2, .int (nI i)), (0, .ref B), (1, .int (y0))], [], me_w M J1)) rfl k
      rw [if_neg (show ¬ ((Int32.ofInt 1) = 0) from by decide)] at k
      have k := ly_revb 1 (c' := (42, [(2, .int (nI i)), (0, .ref B), (1, .int (y0))], [.ref B], me_w M J1)) rfl k
      have k := lz_get (a := B) (g := 1112) (M := me_w M J1) (v := .ref R0) rfl (nt_gfR rfl hW.1.1) k
      have k := ly_revb 2 (c' := (47, [(2, .int (nI i)), (0, .ref B), (1, .int (y0))], [.ref B, .int (Int32.ofInt 4), .ref R0], me_w M J1)) rfl k
      have k := lz_get (a := B) (g := 1108) (M := me_w M J1) (v := .int (nI u.2.1)) rfl (congrArg Value.int (hT1.2.2.1.2.1)) k
      have k := ly_revb 4 (c' := (54, [(2, .int (nI i)), (0, .ref B), (1, .int (y0))], [.ref B, .int (((Int32.ofInt 4) * (nI u.2.1)) + (nI i)), .ref R0], me_w M J1)) rfl k
      have k := lz_get (a := B) (g := 1117) (M := me_w M J1) (v := .int (x1)) rfl (congrArg Value.int (hw1)) k
      have k := me_iastx rfl k
      have hR1 := yr_row (j := (((Int32.ofInt 4) * (nI u.2.1)) + (nI i)).toNatClampNeg) (x := x1) hT1 hW.2.1.1 hW.2.1.2.1 hW.2.1.2.2.1 hW.2.1.2.2.2 (fun c => yr_C0 (lb_ix4' (by omega) (by omega)) c)
      have k : nt_rn X _ 146 (58, [(2, .int (nI i)), (0, .ref B), (1, .int (y0))], [], me_w M (nt_u J1 R0 (((Int32.ofInt 4) * (nI u.2.1)) + (nI i)).toNatClampNeg (x1))) _ := k
      have k := ly_revb 1 (c' := (61, [(2, .int ((nI i) + Int32.ofInt 1)), (0, .ref B), (1, .int (y0))], [], me_w M (nt_u J1 R0 (((Int32.ofInt 4) * (nI u.2.1)) + (nI i)).toNatClampNeg (x1)))) rfl k
      rw [show ((nI i) + Int32.ofInt 1 : Int32) = nI (i + 1) from me_add (k := 1)] at k
      have k := ly_revb 1 (c' := (22, [(2, .int (nI (i + 1))), (0, .ref B), (1, .int (y0))], [], me_w M (nt_u J1 R0 (((Int32.ofInt 4) * (nI u.2.1)) + (nI i)).toNatClampNeg (x1)))) rfl k
      obtain ⟨r, a, J', e9, hs, hr⟩ := ih (i + 1) y1 _ _ (by omega) hy1 hR1 k
      rw [hz1] at hs hr
      refine ⟨r, a, J', e9, ⟨_, hv1, Or.inr ⟨_, _, rfl, hs⟩⟩, hr.imp_right (fun ⟨p, x1, x2, q', D, x3, x4, x5, x6⟩ => ⟨p, x1, x2, q', D, x3, x4, ⟨_, _, hv1, x5⟩, x6⟩)⟩
theorem yr_ship {R0 R1 R2 : Nat} {C : lb_C} {X : nt_X} {d t B Tb Sg Ln q m li : Nat} {f : Nat → Int32} {M : nt_M} {e : Nat × (Nat → Int32)} {u : Nat × Nat × Nat × Nat × Nat} {J : Nat → Nat → Int32} {o : Option Value × nt_M} (hW : yr_W M B Tb Sg Ln R0 R1 R2) (hT : yr_T R0 R1 R2 C M f t B Tb Sg Ln q 0 m e u li J) (hp : q ≤ t) (hb : lb_ub u) (hk0 : u.1 ≠ 0) (hat : lb_yw f t q 1) (k : nt_ev X d 146 [.ref B, .int (nI q)] (me_w M J) o) : ∃ r a J', o = (some (.int a), me_w M J') ∧ (((6 ≤ u.2.1) ∧ r = .inl (lb_c q (Int32.ofInt 4))) ∨ (¬ (6 ≤ u.2.1) ∧ lb_pa f t (q, u) (lb_s f t (q + (lb_W (nt_sp + 1 + 1)).length)) 1 r)) ∧ yr_Q R0 R1 R2 (fun v D => lb_paC f t u (lb_s f t (q + (lb_W (nt_sp + 1 + 1)).length)) v.1 1 C D) M f t B Tb Sg Ln m e li r a J' := by
  have k : nt_rn X d 146 (0, [(0, .ref B), (1, .int (nI q))], [], me_w M J) o := k
  have t4 : t ≤ 400 := hT.1.2.2.2.2.2.1
  have hb0 := hb
  obtain ⟨d1, d2, d3, d4, d5⟩ := hb0
  have k := ly_revb 1 (c' := (1, [(0, .ref B), (1, .int (nI q))], [.ref B], me_w M J)) rfl k
  have k := lz_get (a := B) (g := 1108) (M := me_w M J) (v := .int (nI u.2.1)) rfl (congrArg Value.int (hT.2.2.1.2.1)) k
  have k := ly_revb 2 (c' := (if (nI u.2.1) = (Int32.ofInt 6) then 9 else 16, [(0, .ref B), (1, .int (nI q))], [], me_w M J)) rfl k
  by_cases h6 : u.2.1 = 6
  · rw [if_pos (show (nI u.2.1) = (Int32.ofInt 6) from show nI u.2.1 = nI 6 from congrArg nI h6)] at k
    have k := ly_revb 3 (c' := (12, [(0, .ref B), (1, .int (nI q))], [.int (nI q), .int (Int32.ofInt 4), .ref B], me_w M J)) rfl k
    obtain ⟨d1, o1, ed, kc, k⟩ := lz_c (g := 139) (q := 1) (vs := [.ref B, .int (Int32.ofInt 4), .int (nI q)]) (rest := []) rfl rfl (by decide) (Or.inr (Or.inl ⟨_, rfl, rfl⟩)) rfl k
    obtain ⟨hf, e1⟩ := (md_fails (a := q) hT.1 hT.2.1 hp kc).resolve_right (fun c => c.1 rfl)
    subst e1
    have hR1 := yr_up hT (md_Sw (y := lb_c q (Int32.ofInt 4)) hT.1 hT.2.1)
    have k : nt_rn X _ 146 (15, [(0, .ref B), (1, .int (nI q))], [.int (Int32.ofInt 0)], me_w M (nt_u J B 16 (lb_c q (Int32.ofInt 4)))) _ := k
    have k := lz_ri rfl (by decide) k
    exact ⟨.inl (lb_c q (Int32.ofInt 4)), _, _, k, Or.inl ⟨by omega, rfl⟩, (lb_c_ne (by omega) (by decide) (by decide)), rfl, _, _, _, _, hp, hR1⟩
  · rw [if_neg (show ¬ ((nI u.2.1) = (Int32.ofInt 6)) from show ¬ nI u.2.1 = nI 6 from me_ne h6 (by omega) (by omega))] at k
    have k := ly_revb 1 (c' := (17, [(0, .ref B), (1, .int (nI q))], [.ref B], me_w M J)) rfl k
    obtain ⟨d1, o1, ed, kc, k⟩ := lz_c (g := 142) (q := 1) (vs := [.ref B]) (rest := []) rfl rfl (by decide) (Or.inr (Or.inl ⟨_, rfl, rfl⟩)) rfl k
    have e1 := md_pass hT.1 hT.2.1 hp kc
    rw [lb_at_l hat] at e1
    subst e1
    have hR1 := yr_up hT (md_Sq (y := q + (lb_W (nt_sp + 1 + 1)).length) hT.1 hT.2.1)
    have hpw : q + (lb_W (nt_sp + 1 + 1)).length ≤ t := hat.1
    have k : nt_rn X _ 146 (20, [(0, .ref B), (1, .int (nI q))], [], me_w M (nt_u J B 15 (nI (q + (lb_W (nt_sp + 1 + 1)).length)))) _ := k
    have k := ly_revb 2 (c' := (22, [(2, .int (Int32.ofInt 0)), (0, .ref B), (1, .int (nI q))], [], me_w M (nt_u J B 15 (nI (q + (lb_W (nt_sp + 1 + 1)).length))))) rfl k
    obtain ⟨r1, a, J9, e9, hs, hr⟩ := yr_shl hW hb u.1 0 _ _ _ (by omega) hpw hR1 k
    rcases hr with ⟨c, rfl, hc, rfl, y1, D9, hy1, h9⟩ | ⟨p, rfl, rfl, y1, D9, hz1, hy1, hC9, h9⟩
    · exact ⟨.inl c, _, J9, e9, Or.inr ⟨by omega, .inl c, hs, Or.inl ⟨c, rfl, rfl⟩⟩, hc, rfl, _, _, _, _, hy1, h9⟩
    · obtain ⟨b1, b2, b3, b4, b5⟩ := hb
      exact ⟨.inr (p, u.1, u.2.1 + 1, u.2.2.1, u.2.2.2.1, u.2.2.2.2), _, J9, e9, Or.inr ⟨by omega, .inr p, hs, Or.inr ⟨p, rfl, rfl⟩⟩, rfl, ⟨b1, by dsimp only; omega, b3, b4, b5⟩, hk0, y1, D9, hz1, hy1, hC9, h9⟩
