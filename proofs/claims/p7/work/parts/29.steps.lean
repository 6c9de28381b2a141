/-! an instruction over states told by sums -/
def sx_nI : Int := -2147483648
def sx_xI : Int := 2147483647
theorem sx_os_c {pl : Nat → Nat} {r : Nat → Int} {a : sx_V} {t : List sx_V} : ∀ {cs : List Value}, sx_os pl r (a :: t) cs → ∃ v u, cs = v :: u ∧ sx_v pl r a v ∧ sx_os pl r t u
  | [], h => h.elim
  | v :: u, h => ⟨v, u, rfl, h.1, h.2⟩
def sx_i1 {α : Type} (st : List sx_V) (k : sx_L → List sx_V → Option α) : Option α := match st with
  | (0, _, L) :: t => k L t
  | _ => none
theorem sx_i1_ok {α : Type} {st : List sx_V} {k : sx_L → List sx_V → Option α} {o : α} {pl : Nat → Nat} {r : Nat → Int} {cs : List Value} (h : sx_i1 st k = some o) (h2 : sx_os pl r st cs) : ∃ L t x cr, cs = .int x :: cr ∧ x.toInt = sx_e r L ∧ sx_os pl r t cr ∧ k L t = some o := by
  unfold sx_i1 at h
  split at h
  · rename_i z L t
    obtain ⟨v, u, rfl, ⟨x, rfl, hx⟩, h4⟩ := sx_os_c h2
    exact ⟨L, t, x, u, rfl, hx, h4, h⟩
  · cases h
def sx_g1 {α : Type} (st : List sx_V) (k : Bool → sx_L → List sx_V → Option α) : Option α := match st with
  | (0, _, L) :: t => k false L t
  | (4, _, L) :: t => k true L t
  | _ => none
theorem sx_g1_ok {α : Type} {st : List sx_V} {k : Bool → sx_L → List sx_V → Option α} {o : α} {pl : Nat → Nat} {r : Nat → Int} {cs : List Value} (h : sx_g1 st k = some o) (h2 : sx_os pl r st cs) : ∃ b L t x cr, cs = .int x :: cr ∧ ((x.toInt < 0 ↔ sx_e r L < 0) ∧ (x.toInt = 0 ↔ sx_e r L = 0)) ∧ sx_os pl r t cr ∧ k b L t = some o := by
  unfold sx_g1 at h
  split at h
  · rename_i z L t
    obtain ⟨v, u, rfl, ⟨x, rfl, hx⟩, h4⟩ := sx_os_c h2
    exact ⟨_, L, t, x, u, rfl, by rw [hx]; exact ⟨Iff.rfl, Iff.rfl⟩, h4, h⟩
  · rename_i z L t
    obtain ⟨v, u, rfl, ⟨x, rfl, hx⟩, h4⟩ := sx_os_c h2
    exact ⟨_, L, t, x, u, rfl, hx, h4, h⟩
  · cases h
def sx_j1 {α : Type} (st : List sx_V) (k : sx_L → List sx_V → Option α) : Option α := match st with
  | (1, _, L) :: t => k L t
  | _ => none
theorem sx_j1_ok {α : Type} {st : List sx_V} {k : sx_L → List sx_V → Option α} {o : α} {pl : Nat → Nat} {r : Nat → Int} {cs : List Value} (h : sx_j1 st k = some o) (h2 : sx_os pl r st cs) : ∃ L t x cr, cs = .long x :: cr ∧ x.toInt = sx_e r L ∧ sx_os pl r t cr ∧ k L t = some o := by
  unfold sx_j1 at h
  split at h
  · rename_i z L t
    obtain ⟨v, u, rfl, ⟨x, rfl, hx⟩, h4⟩ := sx_os_c h2
    exact ⟨L, t, x, u, rfl, hx, h4, h⟩
  · cases h
def sx_a1 {α : Type} (st : List sx_V) (k : Nat → List sx_V → Option α) : Option α := match st with
  | (2, a, _) :: t => k a t
  | _ => none
theorem sx_a1_ok {α : Type} {st : List sx_V} {k : Nat → List sx_V → Option α} {o : α} {pl : Nat → Nat} {r : Nat → Int} {cs : List Value} (h : sx_a1 st k = some o) (h2 : sx_os pl r st cs) : ∃ a t cr, cs = .ref (pl a) :: cr ∧ sx_os pl r t cr ∧ k a t = some o := by
  unfold sx_a1 at h
  split at h
  · rename_i a L t
    obtain ⟨v, u, rfl, rfl, h4⟩ := sx_os_c h2
    exact ⟨a, t, u, rfl, h4, h⟩
  · cases h
/-- what a local is -/
def sx_lk : List (Nat × sx_V) → Nat → Option sx_V
  | [], _ => none
  | q :: t, i => bif Nat.beq q.1 i then some q.2 else sx_lk t i
theorem sx_lk_in {i : Nat} {a : sx_V} : ∀ {ls : List (Nat × sx_V)}, sx_lk ls i = some a → (i, a) ∈ ls
  | [], h => by cases h
  | q :: t, h => by
    unfold sx_lk at h
    cases e : Nat.beq q.1 i with
    | true =>
      rw [e] at h
      have h : some q.2 = some a := h
      cases h
      rw [← Nat.eq_of_beq_eq_true e]
      exact List.mem_cons_self ..
    | false =>
      rw [e] at h
      exact List.mem_cons_of_mem _ (sx_lk_in (ls := t) h)
def sx_ld {α : Type} (ls : List (Nat × sx_V)) (i k : Nat) (c : sx_L → Option α) : Option α := match sx_lk ls i with
  | some a => bif Nat.beq a.1 k then c a.2.2 else none
  | none => none
theorem sx_ldI_ok {α : Type} {ls : List (Nat × sx_V)} {i : Nat} {c : sx_L → Option α} {o : α} {pl : Nat → Nat} {r : Nat → Int} {cl : nt_V} (h : sx_ld ls i 0 c = some o) (h1 : sx_ol pl r ls cl) : ∃ L x, nt_lk cl i = some (.int x) ∧ x.toInt = sx_e r L ∧ c L = some o := by
  unfold sx_ld at h
  split at h
  · rename_i a ha
    obtain ⟨hk, h⟩ := sx_bif h
    obtain ⟨v, h5, h6⟩ := h1 _ (sx_lk_in ha)
    obtain ⟨k, b, L⟩ := a
    have hk : k = 0 := Nat.eq_of_beq_eq_true hk
    subst hk
    obtain ⟨x, rfl, hx⟩ := h6
    exact ⟨L, x, h5, hx, h⟩
  · cases h
theorem sx_ldJ_ok {α : Type} {ls : List (Nat × sx_V)} {i : Nat} {c : sx_L → Option α} {o : α} {pl : Nat → Nat} {r : Nat → Int} {cl : nt_V} (h : sx_ld ls i 1 c = some o) (h1 : sx_ol pl r ls cl) : ∃ L x, nt_lk cl i = some (.long x) ∧ x.toInt = sx_e r L ∧ c L = some o := by
  unfold sx_ld at h
  split at h
  · rename_i a ha
    obtain ⟨hk, h⟩ := sx_bif h
    obtain ⟨v, h5, h6⟩ := h1 _ (sx_lk_in ha)
    obtain ⟨k, b, L⟩ := a
    have hk : k = 1 := Nat.eq_of_beq_eq_true hk
    subst hk
    obtain ⟨x, rfl, hx⟩ := h6
    exact ⟨L, x, h5, hx, h⟩
  · cases h
/-- a ref: a region's, null, a text -/
def sx_ra (a : sx_V) : Bool := Nat.beq a.1 2 || (Nat.beq a.1 3 || Nat.beq a.1 5)
theorem sx_ra_ok {a : sx_V} {pl : Nat → Nat} {r : Nat → Int} {v : Value} (h : sx_ra a = true) (hv : sx_v pl r a v) : (∃ b, v = .ref b) ∨ v = .null := by
  unfold sx_ra at h
  rw [Bool.or_eq_true, Bool.or_eq_true] at h
  obtain ⟨k, b, L⟩ := a
  rcases h with h | h | h
  · have : k = 2 := Nat.eq_of_beq_eq_true h
    subst this; exact Or.inl ⟨_, hv⟩
  · have : k = 3 := Nat.eq_of_beq_eq_true h
    subst this; exact Or.inr hv
  · have : k = 5 := Nat.eq_of_beq_eq_true h
    subst this; exact Or.inl ⟨_, hv⟩
/-- of two places -/
def sx_c2 (a : sx_V) : Bool := Nat.beq a.1 1
theorem sx_c2_ok {a : sx_V} {pl : Nat → Nat} {r : Nat → Int} {v : Value} (hv : sx_v pl r a v) : v.category = if sx_c2 a = true then 2 else 1 := by
  obtain ⟨k, b, L⟩ := a
  unfold sx_v at hv
  dsimp only at hv
  split at hv
  · obtain ⟨x, rfl, -⟩ := hv; rfl
  · obtain ⟨x, rfl, -⟩ := hv; rfl
  · subst hv; rfl
  · subst hv; rfl
  · obtain ⟨x, rfl, -⟩ := hv; rfl
  · subst hv; rfl
  · exact hv.elim
def sx_s1 (ls : List (Nat × sx_V)) (i : Nat) (v : sx_V) : List (Nat × sx_V) := (i, v) :: ls.filter (fun q => !Nat.beq q.1 i && !(Nat.beq (q.1 + 1) i && sx_c2 q.2))
def sx_s2 (ls : List (Nat × sx_V)) (i : Nat) (v : sx_V) : List (Nat × sx_V) := (i, v) :: ls.filter (fun q => !Nat.beq q.1 i && (!Nat.beq q.1 (i + 1) && !(Nat.beq (q.1 + 1) i && sx_c2 q.2)))
theorem sx_lk_f {p : Nat × Value → Bool} {i : Nat} {v : Value} : ∀ {l : nt_V}, nt_lk l i = some v → p (i, v) = true → nt_lk (l.filter p) i = some v
  | [], h, _ => by cases h
  | q :: t, h, hp => by
    unfold nt_lk at h
    by_cases e : q.1 = i
    · rw [if_pos e] at h
      cases h
      have eq : q = (i, q.2) := Prod.ext e rfl
      have : p q = true := by rw [eq]; exact hp
      rw [List.filter_cons_of_pos this]
      unfold nt_lk
      rw [if_pos e]
    · rw [if_neg e] at h
      cases hq : p q with
      | true =>
        rw [List.filter_cons_of_pos hq]
        unfold nt_lk
        rw [if_neg e]
        exact sx_lk_f h hp
      | false =>
        rw [List.filter_cons_of_neg (by rw [hq]; exact Bool.false_ne_true)]
        exact sx_lk_f h hp
theorem sx_s1_ok {pl : Nat → Nat} {r : Nat → Int} {ls : List (Nat × sx_V)} {cl : nt_V} {i : Nat} {a : sx_V} {v : Value} (h1 : sx_ol pl r ls cl) (hv : sx_v pl r a v) : sx_ol pl r (sx_s1 ls i a) (nt_s1 cl i v) := by
  intro q hq
  rcases List.mem_cons.mp hq with e | e
  · rw [e]
    refine ⟨v, ?_, hv⟩
    show nt_lk ((i, v) :: _) i = some v
    unfold nt_lk
    rw [if_pos rfl]
  · obtain ⟨e1, e2⟩ := List.mem_filter.mp e
    obtain ⟨w, h5, h6⟩ := h1 q e1
    refine ⟨w, ?_, h6⟩
    rw [Bool.and_eq_true] at e2
    obtain ⟨e2, e3⟩ := e2
    have n1 : ¬ q.1 = i := by
      intro q1
      rw [q1, Nat.beq_refl] at e2
      cases e2
    show nt_lk ((i, v) :: cl.filter _) q.1 = some w
    unfold nt_lk
    rw [if_neg (fun h => n1 h.symm)]
    refine sx_lk_f h5 ?_
    dsimp only
    have c := sx_c2_ok h6
    have b1 : (q.1 == i) = false := by
      rw [beq_eq_false_iff_ne]; exact n1
    rw [b1]
    show (!((q.1 + 1 == i) && (w.category == 2))) = true
    cases e4 : sx_c2 q.2 with
    | false =>
      rw [e4] at c
      have c : w.category = 1 := c
      rw [c]
      show (!((q.1 + 1 == i) && false)) = true
      rw [Bool.and_false]; rfl
    | true =>
      rw [e4, Bool.and_true] at e3
      have n2 : ¬ q.1 + 1 = i := by
        intro q1
        rw [q1, Nat.beq_refl] at e3
        cases e3
      have b2 : (q.1 + 1 == i) = false := by
        rw [beq_eq_false_iff_ne]; exact n2
      rw [b2]; rfl
theorem sx_s2_ok {pl : Nat → Nat} {r : Nat → Int} {ls : List (Nat × sx_V)} {cl : nt_V} {i : Nat} {a : sx_V} {v : Value} (h1 : sx_ol pl r ls cl) (hv : sx_v pl r a v) : sx_ol pl r (sx_s2 ls i a) (nt_s2 cl i v) := by
  intro q hq
  rcases List.mem_cons.mp hq with e | e
  · rw [e]
    refine ⟨v, ?_, hv⟩
    show nt_lk ((i, v) :: _) i = some v
    unfold nt_lk
    rw [if_pos rfl]
  · obtain ⟨e1, e2⟩ := List.mem_filter.mp e
    obtain ⟨w, h5, h6⟩ := h1 q e1
    refine ⟨w, ?_, h6⟩
    rw [Bool.and_eq_true, Bool.and_eq_true] at e2
    obtain ⟨e2, e0, e3⟩ := e2
    have n1 : ¬ q.1 = i := by
      intro q1
      rw [q1, Nat.beq_refl] at e2
      cases e2
    have n0 : ¬ q.1 = i + 1 := by
      intro q1
      rw [q1, Nat.beq_refl] at e0
      cases e0
    show nt_lk ((i, v) :: cl.filter _) q.1 = some w
    unfold nt_lk
    rw [if_neg (fun h => n1 h.symm)]
    refine sx_lk_f h5 ?_
    dsimp only
    have c := sx_c2_ok h6
    have b1 : (q.1 == i) = false := by
      rw [beq_eq_false_iff_ne]; exact n1
    have b0 : (q.1 == i + 1) = false := by
      rw [beq_eq_false_iff_ne]; exact n0
    rw [b1, b0]
    show (!((q.1 + 1 == i) && (w.category == 2))) = true
    cases e4 : sx_c2 q.2 with
    | false =>
      rw [e4] at c
      have c : w.category = 1 := c
      rw [c]
      show (!((q.1 + 1 == i) && false)) = true
      rw [Bool.and_false]; rfl
    | true =>
      rw [e4, Bool.and_true] at e3
      have n2 : ¬ q.1 + 1 = i := by
        intro q1
        rw [q1, Nat.beq_refl] at e3
        cases e3
      have b2 : (q.1 + 1 == i) = false := by
        rw [beq_eq_false_iff_ne]; exact n2
      rw [b2]; rfl
/-- an int that nothing is known of but its bounds -/
def sx_pF (E : sx_E) (lo hi : Int) (pc : Nat) (ls : List (Nat × sx_V)) (st : List sx_V) (N : sx_N) : Option (List sx_A) := match sx_fr E.2.2.2.2 lo hi ls st N with
  | some N' => some [(pc, ls, (0, 0, (0, [(N.2.2.2, 1)])) :: st, N')]
  | none => none
theorem sx_pF_ok {E : sx_E} {F : sx_F} {r : Nat → Int} {lo hi : Int} {pc : Nat} {ls : List (Nat × sx_V)} {st : List sx_V} {N : sx_N} {cl : nt_V} {cs : List Value} {M : nt_M} {As : List sx_A} (x : Int32) (h : sx_pF E lo hi pc ls st N = some As) (h1 : sx_ol F.1 r ls cl) (h2 : sx_os F.1 r st cs) (h3 : sx_on E F r N M) (hl : lo ≤ x.toInt) (hh : x.toInt ≤ hi) : sx_an E F As (pc, cl, .int x :: cs, M) := by
  unfold sx_pF at h
  split at h
  · rename_i N' hN
    cases h
    obtain ⟨r', k1, k2, k3, k4, k5, k6⟩ := sx_fr_ok (v := x.toInt) hN h1 h2 h3 hl hh
    exact ⟨_, List.mem_cons_self .., r', rfl, k1, ⟨⟨x, rfl, k4.symm⟩, k2⟩, k3⟩
  · cases h
theorem sx_pFf_ok {E : sx_E} {F : sx_F} {r : Nat → Int} {pc : Nat} {ls : List (Nat × sx_V)} {st : List sx_V} {N : sx_N} {cl : nt_V} {cs : List Value} {M : nt_M} {As : List sx_A} (x : Int32) (h : sx_pF E sx_nI sx_xI pc ls st N = some As) (h1 : sx_ol F.1 r ls cl) (h2 : sx_os F.1 r st cs) (h3 : sx_on E F r N M) : sx_an E F As (pc, cl, .int x :: cs, M) := by
  have x1 := x.le_toInt
  have x2 := x.toInt_lt
  exact sx_pF_ok x h h1 h2 h3 (by unfold sx_nI; omega) (by unfold sx_xI; omega)
def sx_pJ (E : sx_E) (pc : Nat) (ls : List (Nat × sx_V)) (st : List sx_V) (N : sx_N) : Option (List sx_A) := match sx_fr E.2.2.2.2 (-9223372036854775808) 9223372036854775807 ls st N with
  | some N' => some [(pc, ls, (1, 0, (0, [(N.2.2.2, 1)])) :: st, N')]
  | none => none
theorem sx_pJ_ok {E : sx_E} {F : sx_F} {r : Nat → Int} {pc : Nat} {ls : List (Nat × sx_V)} {st : List sx_V} {N : sx_N} {cl : nt_V} {cs : List Value} {M : nt_M} {As : List sx_A} (x : Int64) (h : sx_pJ E pc ls st N = some As) (h1 : sx_ol F.1 r ls cl) (h2 : sx_os F.1 r st cs) (h3 : sx_on E F r N M) : sx_an E F As (pc, cl, .long x :: cs, M) := by
  unfold sx_pJ at h
  split at h
  · rename_i N' hN
    cases h
    have x1 := x.le_toInt
    have x2 := x.toInt_lt
    obtain ⟨r', k1, k2, k3, k4, k5, k6⟩ := sx_fr_ok (v := x.toInt) hN h1 h2 h3 (by omega) (by omega)
    exact ⟨_, List.mem_cons_self .., r', rfl, k1, ⟨⟨x, rfl, k4.symm⟩, k2⟩, k3⟩
  · cases h
/-- it is an int's -/
def sx_ir (N : sx_N) (L : sx_L) : Bool := sx_p N (sx_add (2147483648, []) L) && sx_p N (sx_sub (2147483647, []) L)
theorem sx_ir_ok {E : sx_E} {F : sx_F} {r : Nat → Int} {N : sx_N} {M : nt_M} {L : sx_L} (h : sx_ir N L = true) (h3 : sx_on E F r N M) : -2147483648 ≤ sx_e r L ∧ sx_e r L ≤ 2147483647 := by
  unfold sx_ir at h
  rw [Bool.and_eq_true] at h
  have a := sx_p_ok h3 h.1
  have b := sx_p_ok h3 h.2
  rw [sx_add_e, sx_c_e] at a
  rw [sx_sub_e, sx_c_e] at b
  omega
def sx_pI (E : sx_E) (L : sx_L) (pc : Nat) (ls : List (Nat × sx_V)) (st : List sx_V) (N : sx_N) : Option (List sx_A) := bif sx_ir N L then some [(pc, ls, (0, 0, L) :: st, N)] else sx_pF E sx_nI sx_xI pc ls st N
theorem sx_pI_ok {E : sx_E} {F : sx_F} {r : Nat → Int} {L : sx_L} {pc : Nat} {ls : List (Nat × sx_V)} {st : List sx_V} {N : sx_N} {cl : nt_V} {cs : List Value} {M : nt_M} {As : List sx_A} (x : Int32) (h : sx_pI E L pc ls st N = some As) (h1 : sx_ol F.1 r ls cl) (h2 : sx_os F.1 r st cs) (h3 : sx_on E F r N M) (hx : -2147483648 ≤ sx_e r L → sx_e r L ≤ 2147483647 → x.toInt = sx_e r L) : sx_an E F As (pc, cl, .int x :: cs, M) := by
  unfold sx_pI at h
  cases e : sx_ir N L with
  | true =>
    rw [e] at h
    have h : some [(pc, ls, (0, 0, L) :: st, N)] = some As := h
    cases h
    obtain ⟨a, b⟩ := sx_ir_ok e h3
    exact sx_an1 (r := r) ⟨rfl, h1, ⟨⟨x, rfl, hx a b⟩, h2⟩, h3⟩
  | false =>
    rw [e] at h
    exact sx_pFf_ok x h h1 h2 h3
theorem sx_bm {z : Int} (h1 : -2147483648 ≤ z) (h2 : z ≤ 2147483647) : z.bmod (2 ^ 32) = z := Int.bmod_eq_of_le (by omega) (by omega)
/-- it isn't 0 -/
def sx_nz (N : sx_N) (L : sx_L) : Bool := sx_p N (sx_add (-1, []) L) || sx_p N (sx_sub (-1, []) L)
theorem sx_nz_ok {E : sx_E} {F : sx_F} {r : Nat → Int} {N : sx_N} {M : nt_M} {L : sx_L} (h : sx_nz N L = true) (h3 : sx_on E F r N M) : sx_e r L ≠ 0 := by
  unfold sx_nz at h
  rw [Bool.or_eq_true] at h
  rcases h with h | h
  · have := sx_p_ok h3 h
    rw [sx_add_e, sx_c_e] at this
    omega
  · have := sx_p_ok h3 h
    rw [sx_sub_e, sx_c_e] at this
    omega
theorem sx_and_ok {x y : Int32} (h : 0 ≤ y.toInt) : 0 ≤ (x &&& y).toInt ∧ (x &&& y).toInt ≤ y.toInt := by
  have e : (x &&& y).toInt = (x.toBitVec &&& y.toBitVec).toInt := rfl
  have ey : y.toInt = y.toBitVec.toInt := rfl
  rw [ey] at h
  have hm : y.toBitVec.toNat < 2147483648 := by
    rw [BitVec.toInt_eq_toNat_cond] at h
    have := y.toBitVec.isLt
    split at h <;> omega
  have hy : y.toBitVec.toInt = (y.toBitVec.toNat : Int) := by
    rw [BitVec.toInt_eq_toNat_cond, if_pos (by omega)]
  have hl : (x.toBitVec &&& y.toBitVec).toNat ≤ y.toBitVec.toNat := by
    rw [BitVec.toNat_and]; exact Nat.and_le_right
  have hz : (x.toBitVec &&& y.toBitVec).toInt = ((x.toBitVec &&& y.toBitVec).toNat : Int) := by
    rw [BitVec.toInt_eq_toNat_cond, if_pos (by omega)]
  rw [e, ey, hz, hy]
  omega
/-- and -/
def sx_pA (E : sx_E) (y : sx_L) (pc : Nat) (ls : List (Nat × sx_V)) (st : List sx_V) (N : sx_N) : Option (List sx_A) := match y with
  | (c, []) => bif decide (0 ≤ c) then sx_pF E 0 c pc ls st N else sx_pF E sx_nI sx_xI pc ls st N
  | _ => sx_pF E sx_nI sx_xI pc ls st N
theorem sx_pA_ok {E : sx_E} {F : sx_F} {r : Nat → Int} {L : sx_L} {pc : Nat} {ls : List (Nat × sx_V)} {st : List sx_V} {N : sx_N} {cl : nt_V} {cs : List Value} {M : nt_M} {As : List sx_A} (x y : Int32) (h : sx_pA E L pc ls st N = some As) (h1 : sx_ol F.1 r ls cl) (h2 : sx_os F.1 r st cs) (h3 : sx_on E F r N M) (hy : y.toInt = sx_e r L) : sx_an E F As (pc, cl, .int (x &&& y) :: cs, M) := by
  unfold sx_pA at h
  split at h
  · rename_i c
    rw [sx_c_e] at hy
    cases e : decide (0 ≤ c) with
    | true =>
      rw [e] at h
      have h : sx_pF E 0 c pc ls st N = some As := h
      have e := of_decide_eq_true e
      have := sx_and_ok (x := x) (y := y) (by omega)
      exact sx_pF_ok _ h h1 h2 h3 (by omega) (by omega)
    | false =>
      rw [e] at h
      exact sx_pFf_ok _ h h1 h2 h3
  · exact sx_pFf_ok _ h h1 h2 h3
/-- many ways -/
def sx_mw (ws : List (Nat × List sx_L)) (ls : List (Nat × sx_V)) (st : List sx_V) (N : sx_N) : List sx_A := (ws.map fun w => (w.1, ls, st, sx_am w.2 N)).filter (fun A => !sx_de A.2.2.2)
theorem sx_mw_ok {E : sx_E} {F : sx_F} {r : Nat → Int} {ws : List (Nat × List sx_L)} {ls : List (Nat × sx_V)} {st : List sx_V} {N : sx_N} {cl : nt_V} {cs : List Value} {M : nt_M} {w : Nat × List sx_L} (h1 : sx_ol F.1 r ls cl) (h2 : sx_os F.1 r st cs) (h3 : sx_on E F r N M) (hw : w ∈ ws) (hL : ∀ L ∈ w.2, 0 ≤ sx_e r L) : sx_an E F (sx_mw ws ls st N) (w.1, cl, cs, M) := by
  have h4 := sx_am_ok h3 hL
  refine ⟨_, List.mem_filter.mpr ⟨List.mem_map.mpr ⟨w, hw, rfl⟩, ?_⟩, r, rfl, h1, h2, h4⟩
  show (!sx_de (sx_am w.2 N)) = true
  rw [sx_de_ok h4]; rfl
def sx_sw (pc : Nat) (off : Int) : Option Nat := bif decide (0 ≤ (pc : Int) + off) then some ((pc : Int) + off).toNat else none
def sx_is (L : sx_L) (k : Int) : List sx_L := [sx_sub L (k, []), sx_sub (k, []) L]
theorem sx_is_ok {r : Nat → Int} {L : sx_L} {k : Int} (h : sx_e r L = k) : ∀ C ∈ sx_is L k, 0 ≤ sx_e r C := by
  intro C hC
  rcases List.mem_cons.mp hC with e | e
  · rw [e, sx_sub_e, sx_c_e]; omega
  · rw [List.mem_singleton.mp e, sx_sub_e, sx_c_e]; omega
def sx_tsw (pc : Nat) (L : sx_L) (lo : Int) (offs : Array Int) : Nat → Option (List (Nat × List sx_L))
  | 0 => some []
  | k + 1 => match sx_tsw pc L lo offs k, offs[k]? with
    | some l, some off => (match sx_sw pc off with
      | some q => some ((q, sx_is L (lo + (k : Int))) :: l)
      | none => none)
    | _, _ => none
theorem sx_tsw_ok {pc : Nat} {L : sx_L} {lo : Int} {offs : Array Int} {k : Nat} : ∀ (n : Nat) (l : List (Nat × List sx_L)), sx_tsw pc L lo offs n = some l → k < n → ∃ off q, offs[k]? = some off ∧ sx_sw pc off = some q ∧ (q, sx_is L (lo + (k : Int))) ∈ l
  | 0, _, _, h => by omega
  | n + 1, l, h, hk => by
    unfold sx_tsw at h
    split at h
    · rename_i l1 off e1 e2
      split at h
      · rename_i q hq
        cases h
        by_cases e : k = n
        · rw [e]; exact ⟨off, q, e2, hq, List.mem_cons_self ..⟩
        · obtain ⟨o, q', a1, a2, a3⟩ := sx_tsw_ok (k := k) n l1 e1 (by omega)
          exact ⟨o, q', a1, a2, List.mem_cons_of_mem _ a3⟩
      · cases h
    · cases h
theorem sx_sw_ok {pc q : Nat} {off : Int} (h : sx_sw pc off = some q) (k : Nat → Option nt_C) : nt_jp pc off k = k q := by
  unfold sx_sw at h
  obtain ⟨h1, h⟩ := sx_bif h
  cases h
  unfold nt_jp
  rw [if_pos (of_decide_eq_true h1)]
def sx_lsw (pc : Nat) (L : sx_L) : List (Int × Int) → Option (List (Nat × List sx_L))
  | [] => some []
  | p :: t => match sx_lsw pc L t, sx_sw pc p.2 with
    | some l, some q => some ((q, sx_is L p.1) :: l)
    | _, _ => none
theorem sx_lsw_ok {pc : Nat} {L : sx_L} {d x : Int} : ∀ (ps : List (Int × Int)) (l : List (Nat × List sx_L)), sx_lsw pc L ps = some l → Op.lookupswitch.offset ps d x = d ∨ ∃ q, sx_sw pc (Op.lookupswitch.offset ps d x) = some q ∧ (q, sx_is L x) ∈ l
  | [], _, _ => Or.inl rfl
  | p :: t, l, h => by
    unfold sx_lsw at h
    split at h
    · rename_i l1 q e1 e2
      cases h
      obtain ⟨a, o⟩ := p
      rw [Op.lookupswitch.offset_cons]
      by_cases e : a = x
      · rw [if_pos e]
        exact Or.inr ⟨q, e2, by rw [← e]; exact List.mem_cons_self ..⟩
      · rw [if_neg e]
        rcases sx_lsw_ok t l1 e1 with k | ⟨q', k1, k2⟩
        · exact Or.inl k
        · exact Or.inr ⟨q', k1, List.mem_cons_of_mem _ k2⟩
    · cases h
theorem sx_lt32 {x y : Int32} : (x < y) = (x.toInt < y.toInt) := propext Int32.lt_iff_toInt_lt
theorem sx_le32 {x y : Int32} : (x ≤ y) = (x.toInt ≤ y.toInt) := propext Int32.le_iff_toInt_le
theorem sx_eq32 {x y : Int32} : (x = y) = (x.toInt = y.toInt) := propext Int32.toInt_inj.symm
theorem sx_z32 : (0 : Int32).toInt = 0 := Int32.toInt_zero
