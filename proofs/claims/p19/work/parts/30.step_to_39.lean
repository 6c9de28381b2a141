section
/-! one step -/
def sx_cst (n : Int) (pc : Nat) (ls : List (Nat × sx_V)) (st : List sx_V) (N : sx_N) : Option (List sx_A) := bif decide (-2147483648 ≤ n) && decide (n ≤ 2147483647) then some [(pc, ls, (0, 0, (n, [])) :: st, N)] else none
theorem sx_cst_ok {E : sx_E} {F : sx_F} {r : Nat → Int} {n : Int} {pc : Nat} {ls : List (Nat × sx_V)} {st : List sx_V} {N : sx_N} {cl : nt_V} {cs : List Value} {M : nt_M} {As : List sx_A} (h : sx_cst n pc ls st N = some As) (h1 : sx_ol F.1 r ls cl) (h2 : sx_os F.1 r st cs) (h3 : sx_on E F r N M) : sx_an E F As (pc, cl, .int (Int32.ofInt n) :: cs, M) := by
  unfold sx_cst at h
  obtain ⟨hc, h⟩ := sx_bif h
  rw [Bool.and_eq_true, decide_eq_true_eq, decide_eq_true_eq] at hc
  cases h
  exact sx_an1 (r := r) ⟨rfl, h1, ⟨⟨_, rfl, by dsimp only; rw [sx_c_e]; exact Int32.toInt_ofInt_of_le (by omega) (by omega)⟩, h2⟩, h3⟩
def sx_stA (i pc : Nat) (ls : List (Nat × sx_V)) (st : List sx_V) (N : sx_N) : Option (List sx_A) := match st with
  | a :: t => bif sx_ra a then some [(pc, sx_s1 ls i a, t, N)] else none
  | [] => none
theorem sx_stA_ok {E : sx_E} {F : sx_F} {r : Nat → Int} {i pc : Nat} {ls : List (Nat × sx_V)} {st : List sx_V} {N : sx_N} {cl : nt_V} {cs : List Value} {M : nt_M} {As : List sx_A} (h : sx_stA i pc ls st N = some As) (h1 : sx_ol F.1 r ls cl) (h2 : sx_os F.1 r st cs) (h3 : sx_on E F r N M) : ∃ c', (nt_stA cs fun x q => some (pc, nt_s1 cl i x, q, M)) = some c' ∧ sx_an E F As c' := by
  unfold sx_stA at h
  split at h
  · rename_i a t
    obtain ⟨hr, h⟩ := sx_bif h
    cases h
    obtain ⟨v, u, rfl, hv, h4⟩ := sx_os_c h2
    rcases sx_ra_ok hr hv with ⟨b, rfl⟩ | rfl
    · exact ⟨_, rfl, sx_an1 (r := r) ⟨rfl, sx_s1_ok h1 hv, h4, h3⟩⟩
    · exact ⟨_, rfl, sx_an1 (r := r) ⟨rfl, sx_s1_ok h1 hv, h4, h3⟩⟩
  · cases h
def sx_ldA (i pc : Nat) (ls : List (Nat × sx_V)) (st : List sx_V) (N : sx_N) : Option (List sx_A) := match sx_lk ls i with
  | some a => bif sx_ra a then some [(pc, ls, a :: st, N)] else none
  | none => none
theorem sx_ldA_ok {E : sx_E} {F : sx_F} {r : Nat → Int} {i pc : Nat} {ls : List (Nat × sx_V)} {st : List sx_V} {N : sx_N} {cl : nt_V} {cs : List Value} {M : nt_M} {As : List sx_A} (h : sx_ldA i pc ls st N = some As) (h1 : sx_ol F.1 r ls cl) (h2 : sx_os F.1 r st cs) (h3 : sx_on E F r N M) : ∃ c', (nt_lkA cl i fun x => some (pc, cl, x :: cs, M)) = some c' ∧ sx_an E F As c' := by
  unfold sx_ldA at h
  split at h
  · rename_i a ha
    obtain ⟨hr, h⟩ := sx_bif h
    cases h
    obtain ⟨v, h5, hv⟩ := h1 _ (sx_lk_in ha)
    rcases sx_ra_ok hr hv with ⟨b, rfl⟩ | rfl
    · exact ⟨(pc, cl, .ref b :: cs, M), by unfold nt_lkA; rw [h5], sx_an1 (r := r) ⟨rfl, h1, ⟨hv, h2⟩, h3⟩⟩
    · exact ⟨(pc, cl, .null :: cs, M), by unfold nt_lkA; rw [h5], sx_an1 (r := r) ⟨rfl, h1, ⟨hv, h2⟩, h3⟩⟩
  · cases h
def sx_inc (E : sx_E) (i : Nat) (n : Int) (L : sx_L) (pc : Nat) (ls : List (Nat × sx_V)) (st : List sx_V) (N : sx_N) : Option (List sx_A) := bif decide (-2147483648 ≤ n) && decide (n ≤ 2147483647) then (bif sx_ir N (sx_add L (n, [])) then some [(pc, sx_s1 ls i (0, 0, sx_add L (n, [])), st, N)] else (match sx_fr E.2.2.2.2 sx_nI sx_xI ls st N with
  | some N' => some [(pc, sx_s1 ls i (0, 0, (0, [(N.2.2.2, 1)])), st, N')]
  | none => none)) else none
theorem sx_inc_ok {E : sx_E} {F : sx_F} {r : Nat → Int} {i : Nat} {n : Int} {L : sx_L} {pc : Nat} {ls : List (Nat × sx_V)} {st : List sx_V} {N : sx_N} {cl : nt_V} {cs : List Value} {M : nt_M} {As : List sx_A} {x : Int32} (h : sx_inc E i n L pc ls st N = some As) (h1 : sx_ol F.1 r ls cl) (h2 : sx_os F.1 r st cs) (h3 : sx_on E F r N M) (hx : x.toInt = sx_e r L) : sx_an E F As (pc, nt_s1 cl i (.int (x + Int32.ofInt n)), cs, M) := by
  unfold sx_inc at h
  obtain ⟨hc, h⟩ := sx_bif h
  rw [Bool.and_eq_true, decide_eq_true_eq, decide_eq_true_eq] at hc
  cases e : sx_ir N (sx_add L (n, [])) with
  | true =>
    rw [e] at h
    have h : some [(pc, sx_s1 ls i (0, 0, sx_add L (n, [])), st, N)] = some As := h
    cases h
    obtain ⟨a, b⟩ := sx_ir_ok e h3
    refine sx_an1 (r := r) ⟨rfl, sx_s1_ok h1 ⟨_, rfl, ?_⟩, h2, h3⟩
    dsimp only
    rw [sx_add_e, sx_c_e] at a b ⊢
    rw [Int32.toInt_add, hx, Int32.toInt_ofInt_of_le (by omega) (by omega)]
    exact sx_bm a b
  | false =>
    rw [e] at h
    have h : (match sx_fr E.2.2.2.2 sx_nI sx_xI ls st N with
      | some N' => some [(pc, sx_s1 ls i (0, 0, (0, [(N.2.2.2, 1)])), st, N')]
      | none => none) = some As := h
    split at h
    · rename_i N' hN
      cases h
      have x1 := (x + Int32.ofInt n).le_toInt
      have x2 := (x + Int32.ofInt n).toInt_lt
      obtain ⟨r', k1, k2, k3, k4, k5, k6⟩ := sx_fr_ok (v := (x + Int32.ofInt n).toInt) hN h1 h2 h3 (by unfold sx_nI; omega) (by unfold sx_xI; omega)
      exact sx_an1 (r := r') ⟨rfl, sx_s1_ok k1 ⟨_, rfl, k4.symm⟩, k2, k3⟩
    · cases h
def sx_mul2 (E : sx_E) (x y : sx_L) (pc : Nat) (ls : List (Nat × sx_V)) (st : List sx_V) (N : sx_N) : Option (List sx_A) := match x, y with
  | (c, []), _ => sx_pI E (sx_mul c y) pc ls st N
  | _, (c, []) => sx_pI E (sx_mul c x) pc ls st N
  | _, _ => sx_pF E sx_nI sx_xI pc ls st N
theorem sx_mul2_ok {E : sx_E} {F : sx_F} {r : Nat → Int} {X Y : sx_L} {pc : Nat} {ls : List (Nat × sx_V)} {st : List sx_V} {N : sx_N} {cl : nt_V} {cs : List Value} {M : nt_M} {As : List sx_A} (x y : Int32) (h : sx_mul2 E X Y pc ls st N = some As) (h1 : sx_ol F.1 r ls cl) (h2 : sx_os F.1 r st cs) (h3 : sx_on E F r N M) (hx : x.toInt = sx_e r X) (hy : y.toInt = sx_e r Y) : sx_an E F As (pc, cl, .int (x * y) :: cs, M) := by
  unfold sx_mul2 at h
  split at h
  · rename_i c
    rw [sx_c_e] at hx
    refine sx_pI_ok _ h h1 h2 h3 fun a b => ?_
    rw [sx_mul_e] at a b ⊢
    rw [Int32.toInt_mul, hx, hy]
    exact sx_bm a b
  · rename_i c _
    rw [sx_c_e] at hy
    refine sx_pI_ok _ h h1 h2 h3 fun a b => ?_
    rw [sx_mul_e] at a b ⊢
    rw [Int32.toInt_mul, hx, hy, Int.mul_comm]
    exact sx_bm a b
  · exact sx_pFf_ok _ h h1 h2 h3
/-- a field is read -/
def sx_gfl (E : sx_E) (g pc : Nat) (ls : List (Nat × sx_V)) (st : List sx_V) (N : sx_N) : Option (List sx_A) := sx_a1 st fun a t => match E.2.1[a]? with
  | none => none
  | some q => bif Nat.beq q.1 (g / 100) && (Nat.blt (g / 100) 12 && (Nat.blt (g % 100) (nt_N (g / 100)))) then (match nt_tg (g / 100) (g % 100) with
    | 1 => sx_pJ E pc ls t N
    | 2 => (match sx_gtR a (((g % 100 : Nat) : Int), []) N.2.1 with
      | some 0 => some [(pc, ls, (3, 0, (0, [])) :: t, N)]
      | some (k + 1) => some [(pc, ls, (2, k, (0, [])) :: t, N)]
      | none => none)
    | _ => (match sx_rdc E a (((g % 100 : Nat) : Int), []) ls t N with
      | some o => some [(pc, ls, (0, 0, o.1) :: t, o.2)]
      | none => none)) else none
theorem sx_gfl_ok {E : sx_E} {F : sx_F} {r : Nat → Int} {X : nt_X} {mi g t i pc : Nat} {ls : List (Nat × sx_V)} {st : List sx_V} {N : sx_N} {cl : nt_V} {cs : List Value} {M : nt_M} {As : List sx_A} (h : sx_gfl E g (pc + 3) ls st N = some As) (h1 : sx_ol F.1 r ls cl) (h2 : sx_os F.1 r st cs) (h3 : sx_on E F r N M) : ∃ c', nt_sx X mi g t (.getfield i) pc cl cs M = some c' ∧ sx_an E F As c' := by
  obtain ⟨a, tt, cr, rfl, h4, h⟩ := sx_a1_ok h h2
  split at h
  · cases h
  · rename_i q hq
    obtain ⟨hc, h⟩ := sx_bif h
    rw [Bool.and_eq_true, Bool.and_eq_true] at hc
    obtain ⟨c1, c2, c3⟩ := hc
    have c1 := Nat.eq_of_beq_eq_true c1
    obtain ⟨b1, b2, b3, b4, b5⟩ := h3.2.1.2 a q hq
    refine ⟨_, nt_x_get (c := g / 100) b1 (b2.trans c1) (by rw [Bool.and_eq_true, Bool.and_eq_true]; exact ⟨Nat.beq_refl _, c2, c3⟩) rfl, ?_⟩
    unfold nt_gf
    split at h
    · rename_i e
      rw [e]
      exact sx_pJ_ok _ h h1 h4 h3
    · rename_i e
      rw [e]
      split at h
      · rename_i e2
        cases h
        obtain ⟨d1, d2, d3⟩ := h3.2.2.2.1 _ (sx_gtR_in e2)
        dsimp only at d3
        rw [sx_c_e] at d3
        have d3 : nt_R M (F.1 a) (g % 100) = none := d3
        rw [d3]
        exact sx_an1 (r := r) ⟨rfl, h1, ⟨rfl, h4⟩, h3⟩
      · rename_i k e2
        cases h
        obtain ⟨d1, d2, d3⟩ := h3.2.2.2.1 _ (sx_gtR_in e2)
        dsimp only at d3
        rw [sx_c_e] at d3
        have d3 : nt_R M (F.1 a) (g % 100) = some (F.1 k) := d3
        rw [d3]
        exact sx_an1 (r := r) ⟨rfl, h1, ⟨rfl, h4⟩, h3⟩
      · cases h
    · rename_i n1 n2
      split at h
      · rename_i o ho
        cases h
        obtain ⟨o1, o2⟩ := o
        obtain ⟨r', k1, k2, k3, k4, k5, k6⟩ := sx_rdc_ok ho h1 h4 h3 (by rw [sx_c_e]; omega)
        rw [sx_c_e] at k4
        refine sx_an1 (r := r') ⟨rfl, k1, ⟨?_, k2⟩, k3⟩
        split
        · rename_i e; exact absurd e n1
        · rename_i e; exact absurd e n2
        · exact ⟨_, rfl, k4.symm⟩
      · cases h
/-- a field is written -/
def sx_pfl (E : sx_E) (mi g pc : Nat) (ls : List (Nat × sx_V)) (st : List sx_V) (N : sx_N) : Option (List sx_A) := match st with
  | v :: (2, a, _) :: t => (match E.2.1[a]? with
    | none => none
    | some q => bif Nat.beq q.1 (g / 100) && (Nat.blt (g / 100) 12 && (Nat.blt (g % 100) (nt_N (g / 100)) && (!(nt_T (g / 100) (g % 100)).2.2.2 || (Nat.beq (nt_m mi).2.2.2.2.2.2.1 2 && Nat.beq (nt_m mi).2.2.2.2.1 (g / 100))))) then (match nt_tg (g / 100) (g % 100) with
      | 0 => bif Nat.beq v.1 0 then (match sx_wrc E a (((g % 100 : Nat) : Int), []) v.2.2 N with
        | some N' => some [(pc, ls, t, N')]
        | none => none) else none
      | 1 => bif Nat.beq v.1 1 then some [(pc, ls, t, N)] else none
      | 2 => bif Nat.beq v.1 2 then (match sx_wrR E a (g % 100) (v.2.1 + 1) N with
        | some N' => some [(pc, ls, t, N')]
        | none => none) else none
      | 3 => bif Nat.beq v.1 0 && (sx_p N v.2.2 && sx_p N (sx_sub (1, []) v.2.2)) then (match sx_wrc E a (((g % 100 : Nat) : Int), []) v.2.2 N with
        | some N' => some [(pc, ls, t, N')]
        | none => none) else none
      | _ => none) else none)
  | _ => none
theorem sx_pfl_ok {E : sx_E} {F : sx_F} {r : Nat → Int} {X : nt_X} {mi g t i pc : Nat} {ls : List (Nat × sx_V)} {st : List sx_V} {N : sx_N} {cl : nt_V} {cs : List Value} {M : nt_M} {As : List sx_A} (h : sx_pfl E mi g (pc + 3) ls st N = some As) (h1 : sx_ol F.1 r ls cl) (h2 : sx_os F.1 r st cs) (h3 : sx_on E F r N M) : ∃ c', nt_sx X mi g t (.putfield i) pc cl cs M = some c' ∧ sx_an E F As c' := by
  unfold sx_pfl at h
  split at h
  · rename_i v a z tt
    obtain ⟨w, u, rfl, hv, h4⟩ := sx_os_c h2
    obtain ⟨w2, u2, rfl, rfl, h5⟩ := sx_os_c h4
    split at h
    · cases h
    · rename_i q hq
      obtain ⟨hc, h⟩ := sx_bif h
      rw [Bool.and_eq_true] at hc
      obtain ⟨c1, c2⟩ := hc
      have c1 := Nat.eq_of_beq_eq_true c1
      obtain ⟨b1, b2, b3, b4, b5⟩ := h3.2.1.2 a q hq
      have hgl := (List.getElem?_eq_some_iff.mp hq).1
      have key : ∀ M', nt_pf M (F.1 a) (g / 100) (g % 100) w (fun M2 => some (pc + 3, cl, u2, M2)) = some (pc + 3, cl, u2, M') → nt_sx X mi g t (.putfield i) pc cl (w :: .ref (F.1 a) :: u2) M = some (pc + 3, cl, u2, M') := fun M' hM => nt_x_put (c := g / 100) b1 (b2.trans c1) (by rw [Bool.and_eq_true]; exact ⟨Nat.beq_refl _, c2⟩) hM
      obtain ⟨vk, vb, vL⟩ := v
      split at h
      · rename_i e
        obtain ⟨d1, h⟩ := sx_bif h
        have d1 : vk = 0 := Nat.eq_of_beq_eq_true d1
        subst d1
        obtain ⟨x, rfl, hx⟩ := hv
        split at h
        · rename_i N' hN
          cases h
          obtain ⟨k0, k1⟩ := sx_wrc_ok hN h3 hx
          rw [sx_c_e] at k1
          exact ⟨_, key (nt_sI M (F.1 a) (g % 100) x) (by unfold nt_pf; rw [e] <;> rfl), sx_an1 (r := r) ⟨rfl, h1, h5, k1⟩⟩
        · cases h
      · rename_i e
        obtain ⟨d1, h⟩ := sx_bif h
        have d1 : vk = 1 := Nat.eq_of_beq_eq_true d1
        subst d1
        obtain ⟨x, rfl, hx⟩ := hv
        cases h
        exact ⟨_, key (nt_sJ M (F.1 a) (g % 100) x) (by unfold nt_pf; rw [e] <;> rfl), sx_an1 (r := r) ⟨rfl, h1, h5, sx_wrJ_ok hgl h3⟩⟩
      · rename_i e
        obtain ⟨d1, h⟩ := sx_bif h
        have d1 : vk = 2 := Nat.eq_of_beq_eq_true d1
        subst d1
        have hv : w = .ref (F.1 vb) := hv
        subst hv
        split at h
        · rename_i N' hN
          cases h
          have k1 := sx_wrR_ok hN h3
          exact ⟨_, key (nt_sR M (F.1 a) (g % 100) (some (F.1 vb))) (by unfold nt_pf; rw [e] <;> rfl), sx_an1 (r := r) ⟨rfl, h1, h5, k1⟩⟩
        · cases h
      · rename_i e
        obtain ⟨d1, h⟩ := sx_bif h
        rw [Bool.and_eq_true, Bool.and_eq_true] at d1
        obtain ⟨d1, d2, d3⟩ := d1
        have d1 : vk = 0 := Nat.eq_of_beq_eq_true d1
        subst d1
        obtain ⟨x, rfl, hx⟩ := hv
        have d2 := sx_p_ok h3 d2
        have d3 := sx_p_ok h3 d3
        rw [sx_sub_e, sx_c_e] at d3
        dsimp only at d2 d3 hx
        have hz : x = 0 ∨ x = 1 := by
          rw [sx_eq32, sx_eq32, sx_z32, show (1 : Int32).toInt = 1 from rfl]
          omega
        split at h
        · rename_i N' hN
          cases h
          obtain ⟨k0, k1⟩ := sx_wrc_ok hN h3 hx
          rw [sx_c_e] at k1
          exact ⟨_, key (nt_sI M (F.1 a) (g % 100) x) (by unfold nt_pf; rw [e]; exact if_pos hz), sx_an1 (r := r) ⟨rfl, h1, h5, k1⟩⟩
        · cases h
      · cases h
  · cases h
/-- an index that is there -/
theorem sx_ix {x : Int32} {L : sx_L} {r : Nat → Int} {n : Nat} (hx : x.toInt = sx_e r L) (h0 : 0 ≤ sx_e r L) : x = nI (sx_e r L).toNat := by
  have x2 := x.toInt_lt
  refine Int32.toInt_inj.mp ?_
  rw [nI_toInt (by omega)]
  omega
/-- rows are read -/
def sx_ald (E : sx_E) (op pc : Nat) (ls : List (Nat × sx_V)) (st : List sx_V) (N : sx_N) : Option (List sx_A) := sx_i1 st fun L t => sx_a1 t fun a t => match E.2.1[a]? with
  | none => none
  | some q => bif Nat.blt a 100 && sx_inb N a q L then (match op with
    | 0 => bif Nat.beq q.1 13 then (match sx_rdc E a L ls t N with
      | some o => some [(pc, ls, (0, 0, o.1) :: t, o.2)]
      | none => none) else none
    | 1 => bif Nat.beq q.1 12 || Nat.beq q.1 15 then (match sx_rdc E a L ls t N with
      | some o => some [(pc, ls, (0, 0, o.1) :: t, o.2)]
      | none => none) else none
    | 2 => bif Nat.beq q.1 14 then sx_pJ E pc ls t N else none
    | _ => bif Nat.beq q.1 16 || Nat.beq q.1 17 then (match sx_gtR a L N.2.1 with
      | some 0 => some [(pc, ls, (3, 0, (0, [])) :: t, N)]
      | some (k + 1) => some [(pc, ls, (2, k, (0, [])) :: t, N)]
      | none => none) else none) else none
theorem sx_ald_ok {E : sx_E} {F : sx_F} {r : Nat → Int} {X : nt_X} {mi g t pc op : Nat} {ls : List (Nat × sx_V)} {st : List sx_V} {N : sx_N} {cl : nt_V} {cs : List Value} {M : nt_M} {As : List sx_A} (h : sx_ald E op (pc + 1) ls st N = some As) (h1 : sx_ol F.1 r ls cl) (h2 : sx_os F.1 r st cs) (h3 : sx_on E F r N M) : ∃ c', nt_sx X mi g t (match op with | 0 => .iaload | 1 => .baload | 2 => .laload | _ => .aaload) pc cl cs M = some c' ∧ sx_an E F As c' := by
  obtain ⟨L, t1, x, cr1, rfl, hx, h4, h⟩ := sx_i1_ok h h2
  obtain ⟨a, t2, cr, rfl, h5, h⟩ := sx_a1_ok h h4
  split at h
  · cases h
  · rename_i q hq
    obtain ⟨hc, h⟩ := sx_bif h
    rw [Bool.and_eq_true] at hc
    have ha : a < 100 := Nat.blt_eq.mp hc.1
    obtain ⟨i0, i1⟩ := sx_inb_ok hc.2 h3 hq ha
    obtain ⟨b1, b2, b3, b4, b5⟩ := h3.2.1.2 a q hq
    have hX := sx_ix (n := 0) hx i0
    split at h
    · obtain ⟨d1, h⟩ := sx_bif h
      have d1 := Nat.eq_of_beq_eq_true d1
      split at h
      · rename_i o ho
        cases h
        obtain ⟨o1, o2⟩ := o
        obtain ⟨r', k1, k2, k3, k4, k5, k6⟩ := sx_rdc_ok ho h1 h5 h3 i0
        exact ⟨_, nt_x_iald b1 (b2.trans d1) h3.2.1.1 hX i1 b4, sx_an1 (r := r') ⟨rfl, k1, ⟨⟨_, rfl, k4.symm⟩, k2⟩, k3⟩⟩
      · cases h
    · obtain ⟨d1, h⟩ := sx_bif h
      rw [Bool.or_eq_true] at d1
      have d1 : nt_k M (F.1 a) = 12 ∨ nt_k M (F.1 a) = 15 := by
        rcases d1 with d | d
        · exact Or.inl (b2.trans (Nat.eq_of_beq_eq_true d))
        · exact Or.inr (b2.trans (Nat.eq_of_beq_eq_true d))
      split at h
      · rename_i o ho
        cases h
        obtain ⟨o1, o2⟩ := o
        obtain ⟨r', k1, k2, k3, k4, k5, k6⟩ := sx_rdc_ok ho h1 h5 h3 i0
        exact ⟨_, nt_x_bald b1 d1 hX i1 b4, sx_an1 (r := r') ⟨rfl, k1, ⟨⟨_, rfl, k4.symm⟩, k2⟩, k3⟩⟩
      · cases h
    · obtain ⟨d1, h⟩ := sx_bif h
      have d1 := Nat.eq_of_beq_eq_true d1
      exact ⟨_, nt_x_jald b1 (b2.trans d1) hX i1 b4, sx_pJ_ok _ h h1 h5 h3⟩
    · rename_i n0 n1 n2
      obtain ⟨d1, h⟩ := sx_bif h
      rw [Bool.or_eq_true] at d1
      have hs : nt_sx X mi g t .aaload pc cl (.int x :: .ref (F.1 a) :: cr) M = some (pc + 1, cl, nt_rv (nt_R M (F.1 a) (sx_e r L).toNat) :: cr, M) := by
        show (if nt_k M (F.1 a) = 17 then nt_in M (F.1 a) 17 x (some (pc + 1, cl, nt_rv (nt_R M (F.1 a) x.toNatClampNeg) :: cr, M)) else nt_in M (F.1 a) 16 x (some (pc + 1, cl, nt_rv (nt_R M (F.1 a) x.toNatClampNeg) :: cr, M))) = _
        rcases d1 with d | d
        · have d := b2.trans (Nat.eq_of_beq_eq_true d)
          rw [if_neg (by omega), nt_inI b1 d hX i1 b4, hX, nI_clamp (by omega)]
        · have d := b2.trans (Nat.eq_of_beq_eq_true d)
          rw [if_pos d, nt_inI b1 d hX i1 b4, hX, nI_clamp (by omega)]
      refine ⟨_, hs, ?_⟩
      split at h
      · rename_i e2
        cases h
        obtain ⟨d1, d2, d3⟩ := h3.2.2.2.1 _ (sx_gtR_in e2)
        have d3 : nt_R M (F.1 a) (sx_e r L).toNat = none := d3
        rw [d3]
        exact sx_an1 (r := r) ⟨rfl, h1, ⟨rfl, h5⟩, h3⟩
      · rename_i k e2
        cases h
        obtain ⟨d1, d2, d3⟩ := h3.2.2.2.1 _ (sx_gtR_in e2)
        have d3 : nt_R M (F.1 a) (sx_e r L).toNat = some (F.1 k) := d3
        rw [d3]
        exact sx_an1 (r := r) ⟨rfl, h1, ⟨rfl, h5⟩, h3⟩
      · cases h
/-- rows are written -/
def sx_ast (E : sx_E) (op pc : Nat) (ls : List (Nat × sx_V)) (st : List sx_V) (N : sx_N) : Option (List sx_A) := match st with
  | v :: t0 => sx_i1 t0 fun L t => sx_a1 t fun a t => (match E.2.1[a]? with
    | none => none
    | some q => bif Nat.blt a 100 && sx_inb N a q L then (match op with
      | 0 => bif Nat.beq v.1 0 && Nat.beq q.1 13 then (match sx_wrc E a L v.2.2 N with
        | some N' => some [(pc, ls, t, N')]
        | none => none) else none
      | 1 => bif Nat.beq v.1 0 && (Nat.beq q.1 12 || Nat.beq q.1 15) then (bif Nat.beq q.1 15 && (sx_p N v.2.2 && sx_p N (sx_sub (1, []) v.2.2)) then (match sx_wrc E a L v.2.2 N with
        | some N' => some [(pc, ls, t, N')]
        | none => none) else (match sx_wrn E a L N with
        | some N' => some [(pc, ls, t, N')]
        | none => none)) else none
      | _ => bif Nat.beq v.1 1 && Nat.beq q.1 14 then some [(pc, ls, t, N)] else none) else none)
  | [] => none
theorem sx_ast_ok {E : sx_E} {F : sx_F} {r : Nat → Int} {X : nt_X} {mi g t pc op : Nat} {ls : List (Nat × sx_V)} {st : List sx_V} {N : sx_N} {cl : nt_V} {cs : List Value} {M : nt_M} {As : List sx_A} (h : sx_ast E op (pc + 1) ls st N = some As) (h1 : sx_ol F.1 r ls cl) (h2 : sx_os F.1 r st cs) (h3 : sx_on E F r N M) : ∃ c', nt_sx X mi g t (match op with | 0 => .iastore | 1 => .bastore | _ => .lastore) pc cl cs M = some c' ∧ sx_an E F As c' := by
  unfold sx_ast at h
  split at h
  · rename_i v t0
    obtain ⟨w, u, rfl, hv, h4⟩ := sx_os_c h2
    obtain ⟨L, t1, x, cr1, rfl, hx, h5, h⟩ := sx_i1_ok h h4
    obtain ⟨a, t2, cr, rfl, h6, h⟩ := sx_a1_ok h h5
    obtain ⟨vk, vb, vL⟩ := v
    split at h
    · cases h
    · rename_i q hq
      obtain ⟨hc, h⟩ := sx_bif h
      rw [Bool.and_eq_true] at hc
      have ha : a < 100 := Nat.blt_eq.mp hc.1
      obtain ⟨i0, i1⟩ := sx_inb_ok hc.2 h3 hq ha
      obtain ⟨b1, b2, b3, b4, b5⟩ := h3.2.1.2 a q hq
      have hX := sx_ix (n := 0) hx i0
      have hgl := (List.getElem?_eq_some_iff.mp hq).1
      split at h
      · obtain ⟨d1, hh⟩ := sx_bif h
        rw [Bool.and_eq_true] at d1
        obtain ⟨d0, d1⟩ := d1
        have d0 : vk = 0 := Nat.eq_of_beq_eq_true d0
        have d1 := Nat.eq_of_beq_eq_true d1
        subst d0
        obtain ⟨y, rfl, hy⟩ := hv
        split at hh
        · rename_i N' hN
          cases hh
          obtain ⟨k0, k1⟩ := sx_wrc_ok hN h3 hy
          exact ⟨_, nt_x_iast b1 (b2.trans d1) hX i1 b4, sx_an1 (r := r) ⟨rfl, h1, h6, k1⟩⟩
        · cases hh
      · obtain ⟨d1, hh⟩ := sx_bif h
        rw [Bool.and_eq_true, Bool.or_eq_true] at d1
        obtain ⟨d0, d1⟩ := d1
        have d0 : vk = 0 := Nat.eq_of_beq_eq_true d0
        subst d0
        obtain ⟨y, rfl, hy⟩ := hv
        cases e9 : Nat.beq q.1 15 && (sx_p N vL && sx_p N (sx_sub (1, []) vL)) with
        | true =>
          rw [e9, cond_true] at hh
          rw [Bool.and_eq_true, Bool.and_eq_true] at e9
          obtain ⟨e1, e2, e3⟩ := e9
          have e1 := b2.trans (Nat.eq_of_beq_eq_true e1)
          have e2 := sx_p_ok h3 e2
          have e3 := sx_p_ok h3 e3
          rw [sx_sub_e, sx_c_e] at e3
          have hz : y = 0 ∨ y = 1 := by
            rw [sx_eq32, sx_eq32, sx_z32, show (1 : Int32).toInt = 1 from rfl]
            dsimp only at hy
            omega
          have hnar : vp_nar .boolean y = y := by
            rcases hz with rfl | rfl <;> rfl
          split at hh
          · rename_i N' hN
            cases hh
            obtain ⟨k0, k1⟩ := sx_wrc_ok hN h3 hy
            refine ⟨_, nt_x_zast b1 e1 hX i1 b4, sx_an1 (r := r) ⟨rfl, h1, h6, ?_⟩⟩
            rw [hnar]
            exact k1
          · cases hh
        | false =>
        rw [e9, cond_false] at hh
        split at hh
        · rename_i N' hN
          cases hh
          rcases d1 with d | d
          · have d := b2.trans (Nat.eq_of_beq_eq_true d)
            exact ⟨_, nt_x_bast b1 d hX i1 b4, sx_an1 (r := r) ⟨rfl, h1, h6, (sx_wrn_ok hN h3).2⟩⟩
          · have d := b2.trans (Nat.eq_of_beq_eq_true d)
            exact ⟨_, nt_x_zast b1 d hX i1 b4, sx_an1 (r := r) ⟨rfl, h1, h6, (sx_wrn_ok hN h3).2⟩⟩
        · cases hh
      · rename_i n0 n1
        obtain ⟨d1, hh⟩ := sx_bif h
        rw [Bool.and_eq_true] at d1
        obtain ⟨d0, d1⟩ := d1
        have d0 : vk = 1 := Nat.eq_of_beq_eq_true d0
        have d1 := Nat.eq_of_beq_eq_true d1
        subst d0
        obtain ⟨y, rfl, hy⟩ := hv
        cases hh
        exact ⟨_, nt_x_jast b1 (b2.trans d1) hX i1 b4, sx_an1 (r := r) ⟨rfl, h1, h6, sx_wrJ_ok hgl h3⟩⟩
  · cases h
/-- a row's length -/
def sx_len (E : sx_E) (pc : Nat) (ls : List (Nat × sx_V)) (st : List sx_V) (N : sx_N) : Option (List sx_A) := sx_a1 st fun a t => match E.2.1[a]? with
  | none => none
  | some q => bif Nat.blt a 100 && (Nat.ble 12 q.1 && Nat.blt q.1 18) then (bif decide (q.2.1 = q.2.2.1) then some [(pc, ls, (0, 0, (q.2.1, [])) :: t, N)] else (match sx_get a (-1, []) N.1 with
    | some v => some [(pc, ls, (0, 0, v) :: t, N)]
    | none => (match sx_fr E.2.2.2.2 q.2.1 q.2.2.1 ls t N with
      | some N' => some [(pc, ls, (0, 0, (0, [(N.2.2.2, 1)])) :: t, (((a, (-1, [])), (0, [(N.2.2.2, 1)])) :: N'.1, N'.2))]
      | none => none))) else none
theorem sx_len_ok {E : sx_E} {F : sx_F} {r : Nat → Int} {X : nt_X} {mi g t pc : Nat} {ls : List (Nat × sx_V)} {st : List sx_V} {N : sx_N} {cl : nt_V} {cs : List Value} {M : nt_M} {As : List sx_A} (h : sx_len E (pc + 1) ls st N = some As) (h1 : sx_ol F.1 r ls cl) (h2 : sx_os F.1 r st cs) (h3 : sx_on E F r N M) : ∃ c', nt_sx X mi g t .arraylength pc cl cs M = some c' ∧ sx_an E F As c' := by
  obtain ⟨a, t2, cr, rfl, h5, h⟩ := sx_a1_ok h h2
  split at h
  · cases h
  · rename_i q hq
    obtain ⟨hc, h⟩ := sx_bif h
    rw [Bool.and_eq_true, Bool.and_eq_true] at hc
    have ha : a < 100 := Nat.blt_eq.mp hc.1
    obtain ⟨b1, b2, b3, b4, b5⟩ := h3.2.1.2 a q hq
    have c1 : 12 ≤ q.1 := Nat.le_of_ble_eq_true hc.2.1
    have c2 : q.1 < 18 := Nat.blt_eq.mp hc.2.2
    have hl := nI_toInt (n := nt_l M (F.1 a)) (by omega)
    refine ⟨_, nt_x_len b1 h3.2.1.1 (by omega) (by omega), ?_⟩
    cases e : decide (q.2.1 = q.2.2.1) with
    | true =>
      rw [e] at h
      have h : some [(pc + 1, ls, (0, 0, (q.2.1, [])) :: t2, N)] = some As := h
      cases h
      have e := of_decide_eq_true e
      refine sx_an1 (r := r) ⟨rfl, h1, ⟨⟨_, rfl, ?_⟩, h5⟩, h3⟩
      dsimp only
      rw [sx_c_e, hl]
      omega
    | false =>
      rw [e] at h
      have h : (match sx_get a (-1, []) N.1 with
        | some v => some [(pc + 1, ls, (0, 0, v) :: t2, N)]
        | none => (match sx_fr E.2.2.2.2 q.2.1 q.2.2.1 ls t2 N with
          | some N' => some [(pc + 1, ls, (0, 0, (0, [(N.2.2.2, 1)])) :: t2, (((a, (-1, [])), (0, [(N.2.2.2, 1)])) :: N'.1, N'.2))]
          | none => none)) = some As := h
      split at h
      · rename_i v hv
        cases h
        have y := (h3.2.2.1 _ (sx_get_in hv)).2
        unfold sx_rd at y
        dsimp only at y
        rw [if_neg (by omega), sx_c_e, if_pos (by omega)] at y
        exact sx_an1 (r := r) ⟨rfl, h1, ⟨⟨_, rfl, by rw [hl]; exact y⟩, h5⟩, h3⟩
      · split at h
        · rename_i N' hN
          cases h
          obtain ⟨r', k1, k2, k3, k4, k5, k6⟩ := sx_fr_ok (v := (nt_l M (F.1 a) : Int)) hN h1 h5 h3 b3.1 b3.2
          refine sx_an1 (r := r') ⟨rfl, k1, ⟨⟨_, rfl, by rw [hl]; exact k4.symm⟩, k2⟩, ⟨k3.1, k3.2.1, fun p hp => ?_, k3.2.2.2⟩⟩
          rcases List.mem_cons.mp hp with e | e
          · rw [e]
            refine ⟨Or.inl (List.getElem?_eq_some_iff.mp hq).1, ?_⟩
            dsimp only
            unfold sx_rd
            rw [if_neg (by omega), sx_c_e, if_pos (by omega)]
            exact k4.symm
          · exact k3.2.2.1 p e
        · cases h
end
section
/-! the instructions -/
theorem sx_blt {a b : Nat} (h : a < b) : Nat.blt a b = true := Nat.blt_eq.mpr h
theorem sx_nblt {a b : Nat} (h : ¬ a < b) : Nat.blt a b = false := by
  cases e : Nat.blt a b with
  | false => rfl
  | true => exact absurd (Nat.blt_eq.mp e) h
theorem sx_cmp_ok (x y : Int64) : ((lg_cmp x y).toInt < 0 ↔ x.toInt - y.toInt < 0) ∧ ((lg_cmp x y).toInt = 0 ↔ x.toInt - y.toInt = 0) := by
  unfold lg_cmp
  by_cases h : x > y
  · rw [if_pos h]
    have h : y.toInt < x.toInt := Int64.lt_iff_toInt_lt.mp h
    rw [show (1 : Int32).toInt = 1 from rfl]
    omega
  · rw [if_neg h]
    by_cases e : x = y
    · rw [if_pos e, sx_z32, e]; omega
    · rw [if_neg e, show (-1 : Int32).toInt = -1 from rfl]
      have h : ¬ y.toInt < x.toInt := fun q => h (Int64.lt_iff_toInt_lt.mpr q)
      have e : ¬ x.toInt = y.toInt := fun q => e (Int64.toInt_inj.mp q)
      omega
def sx_stp (E : sx_E) (mi g t : Nat) (ins : Instr) (pc : Nat) (ls : List (Nat × sx_V)) (st : List sx_V) (N : sx_N) : Option (List sx_A) := match ins with
  | .aconst_null => some [(pc + 1, ls, (3, 0, (0, [])) :: st, N)]
  | .iconst n => sx_cst n (pc + 1) ls st N
  | .bipush n => sx_cst n (pc + 2) ls st N
  | .sipush n => sx_cst n (pc + 3) ls st N
  | .lconst n => bif Nat.blt n 1000 then some [(pc + 1, ls, (1, 0, ((n : Int), [])) :: st, N)] else none
  | .ldc _ => bif Nat.blt g 1000 then (match nt_KI[g]? with | some q => some [(pc + 2, ls, (0, 0, (q.2.2.1.toInt, [])) :: st, N)] | none => none) else (match nt_SR[g - 1000]? with | some q => some [(pc + 2, ls, (5, q.2.2.1, (0, [])) :: st, N)] | none => none)
  | .ldc_w _ => (match nt_KI[g]? with | some q => some [(pc + 3, ls, (0, 0, (q.2.2.1.toInt, [])) :: st, N)] | none => none)
  | .ldc2_w _ => (match nt_KL[g]? with | some q => some [(pc + 3, ls, (1, 0, (q.2.2.1.toInt, [])) :: st, N)] | none => none)
  | .iload i => sx_ld ls i 0 fun L => some [(pc + 2, ls, (0, 0, L) :: st, N)]
  | .iload_n i => sx_ld ls i 0 fun L => some [(pc + 1, ls, (0, 0, L) :: st, N)]
  | .lload i => sx_ld ls i 1 fun L => some [(pc + 2, ls, (1, 0, L) :: st, N)]
  | .lload_n i => sx_ld ls i 1 fun L => some [(pc + 1, ls, (1, 0, L) :: st, N)]
  | .aload i => sx_ldA i (pc + 2) ls st N
  | .aload_n i => sx_ldA i (pc + 1) ls st N
  | .istore i => sx_i1 st fun L st => some [(pc + 2, sx_s1 ls i (0, 0, L), st, N)]
  | .istore_n i => sx_i1 st fun L st => some [(pc + 1, sx_s1 ls i (0, 0, L), st, N)]
  | .lstore i => sx_j1 st fun L st => some [(pc + 2, sx_s2 ls i (1, 0, L), st, N)]
  | .lstore_n i => sx_j1 st fun L st => some [(pc + 1, sx_s2 ls i (1, 0, L), st, N)]
  | .astore i => sx_stA i (pc + 2) ls st N
  | .astore_n i => sx_stA i (pc + 1) ls st N
  | .iinc i n => sx_ld ls i 0 fun L => sx_inc E i n L (pc + 3) ls st N
  | .iadd => sx_i1 st fun y st => sx_i1 st fun x st => sx_pI E (sx_add x y) (pc + 1) ls st N
  | .isub => sx_i1 st fun y st => sx_i1 st fun x st => sx_pI E (sx_sub x y) (pc + 1) ls st N
  | .imul => sx_i1 st fun y st => sx_i1 st fun x st => sx_mul2 E x y (pc + 1) ls st N
  | .idiv => sx_i1 st fun y st => sx_i1 st fun _ st => bif sx_nz N y then sx_pF E sx_nI sx_xI (pc + 1) ls st N else none
  | .irem => sx_i1 st fun y st => sx_i1 st fun _ st => bif sx_nz N y then sx_pF E sx_nI sx_xI (pc + 1) ls st N else none
  | .iand => sx_i1 st fun y st => sx_i1 st fun _ st => sx_pA E y (pc + 1) ls st N
  | .ior => sx_i1 st fun _ st => sx_i1 st fun _ st => sx_pF E sx_nI sx_xI (pc + 1) ls st N
  | .ishl => sx_i1 st fun _ st => sx_i1 st fun _ st => sx_pF E sx_nI sx_xI (pc + 1) ls st N
  | .ishr => sx_i1 st fun _ st => sx_i1 st fun _ st => sx_pF E sx_nI sx_xI (pc + 1) ls st N
  | .iushr => sx_i1 st fun _ st => sx_i1 st fun _ st => sx_pF E sx_nI sx_xI (pc + 1) ls st N
  | .ladd => sx_j1 st fun _ st => sx_j1 st fun _ st => sx_pJ E (pc + 1) ls st N
  | .lsub => sx_j1 st fun _ st => sx_j1 st fun _ st => sx_pJ E (pc + 1) ls st N
  | .lmul => sx_j1 st fun _ st => sx_j1 st fun _ st => sx_pJ E (pc + 1) ls st N
  | .land => sx_j1 st fun _ st => sx_j1 st fun _ st => sx_pJ E (pc + 1) ls st N
  | .lor => sx_j1 st fun _ st => sx_j1 st fun _ st => sx_pJ E (pc + 1) ls st N
  | .ldiv => sx_j1 st fun y st => sx_j1 st fun _ st => bif sx_nz N y then sx_pJ E (pc + 1) ls st N else none
  | .lrem => sx_j1 st fun y st => sx_j1 st fun _ st => bif sx_nz N y then sx_pJ E (pc + 1) ls st N else none
  | .lshl => sx_i1 st fun _ st => sx_j1 st fun _ st => sx_pJ E (pc + 1) ls st N
  | .lcmp => sx_j1 st fun y st => sx_j1 st fun x st => some [(pc + 1, ls, (4, 0, sx_sub x y) :: st, N)]
  | .i2l => sx_i1 st fun x st => some [(pc + 1, ls, (1, 0, x) :: st, N)]
  | .l2i => sx_j1 st fun _ st => sx_pF E sx_nI sx_xI (pc + 1) ls st N
  | .i2b => sx_i1 st fun _ st => sx_pF E sx_nI sx_xI (pc + 1) ls st N
  | .dup => (match st with | v :: st => bif sx_c2 v then none else some [(pc + 1, ls, v :: v :: st, N)] | [] => none)
  | .pop => (match st with | v :: st => bif sx_c2 v then none else some [(pc + 1, ls, st, N)] | [] => none)
  | .dup2 => (match st with | v :: w :: st => bif sx_c2 v || sx_c2 w then none else some [(pc + 1, ls, v :: w :: v :: w :: st, N)] | _ => none)
  | .ifCond .eq _ => sx_g1 st fun b L st => some (sx_br t (pc + 3) (sx_eq L) (sx_ne b N L) ls st N)
  | .ifCond .ne _ => sx_g1 st fun b L st => some (sx_br (pc + 3) t (sx_eq L) (sx_ne b N L) ls st N)
  | .ifCond .lt _ => sx_g1 st fun _ L st => some (sx_br t (pc + 3) (sx_lt L) (sx_ge L) ls st N)
  | .ifCond .ge _ => sx_g1 st fun _ L st => some (sx_br t (pc + 3) (sx_ge L) (sx_lt L) ls st N)
  | .ifCond .gt _ => sx_g1 st fun _ L st => some (sx_br t (pc + 3) (sx_gt L) (sx_le L) ls st N)
  | .ifCond .le _ => sx_g1 st fun _ L st => some (sx_br t (pc + 3) (sx_le L) (sx_gt L) ls st N)
  | .if_icmp .eq _ => sx_i1 st fun y st => sx_i1 st fun x st => some (sx_br t (pc + 3) (sx_eq (sx_sub x y)) (sx_ne false N (sx_sub x y)) ls st N)
  | .if_icmp .ne _ => sx_i1 st fun y st => sx_i1 st fun x st => some (sx_br (pc + 3) t (sx_eq (sx_sub x y)) (sx_ne false N (sx_sub x y)) ls st N)
  | .if_icmp .lt _ => sx_i1 st fun y st => sx_i1 st fun x st => some (sx_br t (pc + 3) (sx_lt (sx_sub x y)) (sx_ge (sx_sub x y)) ls st N)
  | .if_icmp .ge _ => sx_i1 st fun y st => sx_i1 st fun x st => some (sx_br t (pc + 3) (sx_ge (sx_sub x y)) (sx_lt (sx_sub x y)) ls st N)
  | .if_icmp .gt _ => sx_i1 st fun y st => sx_i1 st fun x st => some (sx_br t (pc + 3) (sx_gt (sx_sub x y)) (sx_le (sx_sub x y)) ls st N)
  | .if_icmp .le _ => sx_i1 st fun y st => sx_i1 st fun x st => some (sx_br t (pc + 3) (sx_le (sx_sub x y)) (sx_gt (sx_sub x y)) ls st N)
  | .ifnull _ => (match st with | (2, _, _) :: st => some [(pc + 3, ls, st, N)] | (5, _, _) :: st => some [(pc + 3, ls, st, N)] | (3, _, _) :: st => some [(t, ls, st, N)] | _ => none)
  | .ifnonnull _ => (match st with | (2, _, _) :: st => some [(t, ls, st, N)] | (5, _, _) :: st => some [(t, ls, st, N)] | (3, _, _) :: st => some [(pc + 3, ls, st, N)] | _ => none)
  | .goto _ => some [(t, ls, st, N)]
  | .tableswitch dflt lo hi offs => sx_i1 st fun L st => (match sx_tsw pc L lo offs (hi - lo + 1).toNat, sx_sw pc dflt with | some ws, some d => some (sx_mw ((d, [sx_sub (lo - 1, []) L]) :: (d, [sx_sub L (hi + 1, [])]) :: ws) ls st N) | _, _ => none)
  | .lookupswitch dflt ps => sx_i1 st fun L st => bif (ps.toList.zip (ps.toList.drop 1)).all (fun (a, b) => a.1 < b.1) then (match sx_lsw pc L ps.toList, sx_sw pc dflt with | some ws, some d => some (sx_mw ((d, []) :: ws) ls st N) | _, _ => none) else none
  | .getfield _ => sx_gfl E g (pc + 3) ls st N
  | .putfield _ => sx_pfl E mi g (pc + 3) ls st N
  | .iaload => sx_ald E 0 (pc + 1) ls st N
  | .baload => sx_ald E 1 (pc + 1) ls st N
  | .laload => sx_ald E 2 (pc + 1) ls st N
  | .aaload => sx_ald E 3 (pc + 1) ls st N
  | .iastore => sx_ast E 0 (pc + 1) ls st N
  | .bastore => sx_ast E 1 (pc + 1) ls st N
  | .lastore => sx_ast E 2 (pc + 1) ls st N
  | .arraylength => sx_len E (pc + 1) ls st N
  | _ => none
set_option maxRecDepth 20000 in
set_option maxHeartbeats 4000000 in
theorem sx_stp_ok {E : sx_E} {F : sx_F} {r : Nat → Int} {X : nt_X} {mi g t pc : Nat} {ins : Instr} {ls : List (Nat × sx_V)} {st : List sx_V} {N : sx_N} {cl : nt_V} {cs : List Value} {M : nt_M} {As : List sx_A} (h : sx_stp E mi g t ins pc ls st N = some As) (h1 : sx_ol F.1 r ls cl) (h2 : sx_os F.1 r st cs) (h3 : sx_on E F r N M) : ∃ c', nt_sx X mi g t ins pc cl cs M = some c' ∧ sx_an E F As c' := by
  unfold sx_stp at h
  split at h
  · cases h
    exact ⟨_, rfl, sx_an1 (r := r) ⟨rfl, h1, ⟨rfl, h2⟩, h3⟩⟩
  · exact ⟨_, rfl, sx_cst_ok h h1 h2 h3⟩
  · exact ⟨_, rfl, sx_cst_ok h h1 h2 h3⟩
  · exact ⟨_, rfl, sx_cst_ok h h1 h2 h3⟩
  · obtain ⟨hc, h⟩ := sx_bif h
    have hc := Nat.blt_eq.mp hc
    cases h
    exact ⟨_, rfl, sx_an1 (r := r) ⟨rfl, h1, ⟨⟨_, rfl, by dsimp only; rw [sx_c_e]; exact Int64.toInt_ofNat_of_lt (by omega)⟩, h2⟩, h3⟩⟩
  · rename_i z
    by_cases e : g < 1000
    · rw [sx_blt e, cond_true] at h
      split at h
      · rename_i q hq
        cases h
        exact ⟨(pc + 2, cl, .int q.2.2.1 :: cs, M), by show (if g < 1000 then _ else _) = _; rw [if_pos e, hq], sx_an1 (r := r) ⟨rfl, h1, ⟨⟨_, rfl, by dsimp only; rw [sx_c_e]⟩, h2⟩, h3⟩⟩
      · cases h
    · rw [sx_nblt e, cond_false] at h
      split at h
      · rename_i q hq
        cases h
        exact ⟨(pc + 2, cl, .ref (nt_sp + 1 + q.2.2.1) :: cs, M), by show (if g < 1000 then _ else _) = _; rw [if_neg e, hq], sx_an1 (r := r) ⟨rfl, h1, ⟨rfl, h2⟩, h3⟩⟩
      · cases h
  · rename_i z
    split at h
    · rename_i q hq
      cases h
      exact ⟨(pc + 3, cl, .int q.2.2.1 :: cs, M), by show (match nt_KI[g]? with | some q => _ | none => none) = _; rw [hq], sx_an1 (r := r) ⟨rfl, h1, ⟨⟨_, rfl, by dsimp only; rw [sx_c_e]⟩, h2⟩, h3⟩⟩
    · cases h
  · rename_i z
    split at h
    · rename_i q hq
      cases h
      exact ⟨(pc + 3, cl, .long q.2.2.1 :: cs, M), by show (match nt_KL[g]? with | some q => _ | none => none) = _; rw [hq], sx_an1 (r := r) ⟨rfl, h1, ⟨⟨_, rfl, by dsimp only; rw [sx_c_e]⟩, h2⟩, h3⟩⟩
    · cases h
  · obtain ⟨L, x, hl, hx, h⟩ := sx_ldI_ok h h1
    cases h
    exact ⟨(pc + 2, cl, .int x :: cs, M), by show nt_lkI _ _ _ = _; unfold nt_lkI; rw [hl], sx_an1 (r := r) ⟨rfl, h1, ⟨⟨x, rfl, hx⟩, h2⟩, h3⟩⟩
  · obtain ⟨L, x, hl, hx, h⟩ := sx_ldI_ok h h1
    cases h
    exact ⟨(pc + 1, cl, .int x :: cs, M), by show nt_lkI _ _ _ = _; unfold nt_lkI; rw [hl], sx_an1 (r := r) ⟨rfl, h1, ⟨⟨x, rfl, hx⟩, h2⟩, h3⟩⟩
  · obtain ⟨L, x, hl, hx, h⟩ := sx_ldJ_ok h h1
    cases h
    exact ⟨(pc + 2, cl, .long x :: cs, M), by show nt_lkJ _ _ _ = _; unfold nt_lkJ; rw [hl], sx_an1 (r := r) ⟨rfl, h1, ⟨⟨x, rfl, hx⟩, h2⟩, h3⟩⟩
  · obtain ⟨L, x, hl, hx, h⟩ := sx_ldJ_ok h h1
    cases h
    exact ⟨(pc + 1, cl, .long x :: cs, M), by show nt_lkJ _ _ _ = _; unfold nt_lkJ; rw [hl], sx_an1 (r := r) ⟨rfl, h1, ⟨⟨x, rfl, hx⟩, h2⟩, h3⟩⟩
  · exact sx_ldA_ok h h1 h2 h3
  · exact sx_ldA_ok h h1 h2 h3
  · obtain ⟨L, t1, x, cr, rfl, hx, h4, h⟩ := sx_i1_ok h h2
    cases h
    exact ⟨_, rfl, sx_an1 (r := r) ⟨rfl, sx_s1_ok h1 ⟨x, rfl, hx⟩, h4, h3⟩⟩
  · obtain ⟨L, t1, x, cr, rfl, hx, h4, h⟩ := sx_i1_ok h h2
    cases h
    exact ⟨_, rfl, sx_an1 (r := r) ⟨rfl, sx_s1_ok h1 ⟨x, rfl, hx⟩, h4, h3⟩⟩
  · obtain ⟨L, t1, x, cr, rfl, hx, h4, h⟩ := sx_j1_ok h h2
    cases h
    exact ⟨_, rfl, sx_an1 (r := r) ⟨rfl, sx_s2_ok h1 ⟨x, rfl, hx⟩, h4, h3⟩⟩
  · obtain ⟨L, t1, x, cr, rfl, hx, h4, h⟩ := sx_j1_ok h h2
    cases h
    exact ⟨_, rfl, sx_an1 (r := r) ⟨rfl, sx_s2_ok h1 ⟨x, rfl, hx⟩, h4, h3⟩⟩
  · exact sx_stA_ok h h1 h2 h3
  · exact sx_stA_ok h h1 h2 h3
  · rename_i i n
    obtain ⟨L, x, hl, hx, h⟩ := sx_ldI_ok h h1
    exact ⟨(pc + 3, nt_s1 cl i (.int (x + Int32.ofInt n)), cs, M), by show nt_lkI _ _ _ = _; unfold nt_lkI; rw [hl], sx_inc_ok h h1 h2 h3 hx⟩
  · obtain ⟨Y, t1, y, cr1, rfl, hy, h4, h⟩ := sx_i1_ok h h2
    obtain ⟨X', t2, x, cr, rfl, hx, h5, h⟩ := sx_i1_ok h h4
    refine ⟨_, rfl, sx_pI_ok _ h h1 h5 h3 fun a b => ?_⟩
    rw [sx_add_e] at a b ⊢
    rw [Int32.toInt_add, hx, hy]
    exact sx_bm a b
  · obtain ⟨Y, t1, y, cr1, rfl, hy, h4, h⟩ := sx_i1_ok h h2
    obtain ⟨X', t2, x, cr, rfl, hx, h5, h⟩ := sx_i1_ok h h4
    refine ⟨_, rfl, sx_pI_ok _ h h1 h5 h3 fun a b => ?_⟩
    rw [sx_sub_e] at a b ⊢
    rw [Int32.toInt_sub, hx, hy]
    exact sx_bm a b
  · obtain ⟨Y, t1, y, cr1, rfl, hy, h4, h⟩ := sx_i1_ok h h2
    obtain ⟨X', t2, x, cr, rfl, hx, h5, h⟩ := sx_i1_ok h h4
    exact ⟨_, rfl, sx_mul2_ok x y h h1 h5 h3 hx hy⟩
  · obtain ⟨Y, t1, y, cr1, rfl, hy, h4, h⟩ := sx_i1_ok h h2
    obtain ⟨X', t2, x, cr, rfl, hx, h5, h⟩ := sx_i1_ok h h4
    obtain ⟨hc, h⟩ := sx_bif h
    have hc := sx_nz_ok hc h3
    have hz : ¬ y = 0 := by rw [sx_eq32, sx_z32]; omega
    exact ⟨_, if_neg hz, sx_pFf_ok _ h h1 h5 h3⟩
  · obtain ⟨Y, t1, y, cr1, rfl, hy, h4, h⟩ := sx_i1_ok h h2
    obtain ⟨X', t2, x, cr, rfl, hx, h5, h⟩ := sx_i1_ok h h4
    obtain ⟨hc, h⟩ := sx_bif h
    have hc := sx_nz_ok hc h3
    have hz : ¬ y = 0 := by rw [sx_eq32, sx_z32]; omega
    exact ⟨_, if_neg hz, sx_pFf_ok _ h h1 h5 h3⟩
  · obtain ⟨Y, t1, y, cr1, rfl, hy, h4, h⟩ := sx_i1_ok h h2
    obtain ⟨X', t2, x, cr, rfl, hx, h5, h⟩ := sx_i1_ok h h4
    exact ⟨_, rfl, sx_pA_ok x y h h1 h5 h3 hy⟩
  · obtain ⟨Y, t1, y, cr1, rfl, hy, h4, h⟩ := sx_i1_ok h h2
    obtain ⟨X', t2, x, cr, rfl, hx, h5, h⟩ := sx_i1_ok h h4
    exact ⟨_, rfl, sx_pFf_ok _ h h1 h5 h3⟩
  · obtain ⟨Y, t1, y, cr1, rfl, hy, h4, h⟩ := sx_i1_ok h h2
    obtain ⟨X', t2, x, cr, rfl, hx, h5, h⟩ := sx_i1_ok h h4
    exact ⟨_, rfl, sx_pFf_ok _ h h1 h5 h3⟩
  · obtain ⟨Y, t1, y, cr1, rfl, hy, h4, h⟩ := sx_i1_ok h h2
    obtain ⟨X', t2, x, cr, rfl, hx, h5, h⟩ := sx_i1_ok h h4
    exact ⟨_, rfl, sx_pFf_ok _ h h1 h5 h3⟩
  · obtain ⟨Y, t1, y, cr1, rfl, hy, h4, h⟩ := sx_i1_ok h h2
    obtain ⟨X', t2, x, cr, rfl, hx, h5, h⟩ := sx_i1_ok h h4
    exact ⟨_, rfl, sx_pFf_ok _ h h1 h5 h3⟩
  · obtain ⟨Y, t1, y, cr1, rfl, hy, h4, h⟩ := sx_j1_ok h h2
    obtain ⟨X', t2, x, cr, rfl, hx, h5, h⟩ := sx_j1_ok h h4
    exact ⟨_, rfl, sx_pJ_ok _ h h1 h5 h3⟩
  · obtain ⟨Y, t1, y, cr1, rfl, hy, h4, h⟩ := sx_j1_ok h h2
    obtain ⟨X', t2, x, cr, rfl, hx, h5, h⟩ := sx_j1_ok h h4
    exact ⟨_, rfl, sx_pJ_ok _ h h1 h5 h3⟩
  · obtain ⟨Y, t1, y, cr1, rfl, hy, h4, h⟩ := sx_j1_ok h h2
    obtain ⟨X', t2, x, cr, rfl, hx, h5, h⟩ := sx_j1_ok h h4
    exact ⟨_, rfl, sx_pJ_ok _ h h1 h5 h3⟩
  · obtain ⟨Y, t1, y, cr1, rfl, hy, h4, h⟩ := sx_j1_ok h h2
    obtain ⟨X', t2, x, cr, rfl, hx, h5, h⟩ := sx_j1_ok h h4
    exact ⟨_, rfl, sx_pJ_ok _ h h1 h5 h3⟩
  · obtain ⟨Y, t1, y, cr1, rfl, hy, h4, h⟩ := sx_j1_ok h h2
    obtain ⟨X', t2, x, cr, rfl, hx, h5, h⟩ := sx_j1_ok h h4
    exact ⟨_, rfl, sx_pJ_ok _ h h1 h5 h3⟩
  · obtain ⟨Y, t1, y, cr1, rfl, hy, h4, h⟩ := sx_j1_ok h h2
    obtain ⟨X', t2, x, cr, rfl, hx, h5, h⟩ := sx_j1_ok h h4
    obtain ⟨hc, h⟩ := sx_bif h
    have hc := sx_nz_ok hc h3
    have hz : ¬ y = 0 := fun q => by
      rw [q] at hy
      have hy : (0 : Int) = sx_e r Y := hy
      omega
    exact ⟨_, if_neg hz, sx_pJ_ok _ h h1 h5 h3⟩
  · obtain ⟨Y, t1, y, cr1, rfl, hy, h4, h⟩ := sx_j1_ok h h2
    obtain ⟨X', t2, x, cr, rfl, hx, h5, h⟩ := sx_j1_ok h h4
    obtain ⟨hc, h⟩ := sx_bif h
    have hc := sx_nz_ok hc h3
    have hz : ¬ y = 0 := fun q => by
      rw [q] at hy
      have hy : (0 : Int) = sx_e r Y := hy
      omega
    exact ⟨_, if_neg hz, sx_pJ_ok _ h h1 h5 h3⟩
  · obtain ⟨Y, t1, y, cr1, rfl, hy, h4, h⟩ := sx_i1_ok h h2
    obtain ⟨X', t2, x, cr, rfl, hx, h5, h⟩ := sx_j1_ok h h4
    exact ⟨_, rfl, sx_pJ_ok _ h h1 h5 h3⟩
  · obtain ⟨Y, t1, y, cr1, rfl, hy, h4, h⟩ := sx_j1_ok h h2
    obtain ⟨X', t2, x, cr, rfl, hx, h5, h⟩ := sx_j1_ok h h4
    cases h
    refine ⟨_, rfl, sx_an1 (r := r) ⟨rfl, h1, ⟨⟨_, rfl, ?_⟩, h5⟩, h3⟩⟩
    dsimp only
    rw [sx_sub_e, ← hx, ← hy]
    exact sx_cmp_ok x y
  · obtain ⟨L, t1, x, cr, rfl, hx, h4, h⟩ := sx_i1_ok h h2
    cases h
    exact ⟨_, rfl, sx_an1 (r := r) ⟨rfl, h1, ⟨⟨_, rfl, by rw [Int32.toInt_toInt64]; exact hx⟩, h4⟩, h3⟩⟩
  · obtain ⟨L, t1, x, cr, rfl, hx, h4, h⟩ := sx_j1_ok h h2
    exact ⟨_, rfl, sx_pFf_ok _ h h1 h4 h3⟩
  · obtain ⟨L, t1, x, cr, rfl, hx, h4, h⟩ := sx_i1_ok h h2
    exact ⟨_, rfl, sx_pFf_ok _ h h1 h4 h3⟩
  · split at h
    · rename_i v tt
      obtain ⟨w, u, rfl, hv, h4⟩ := sx_os_c h2
      cases e : sx_c2 v with
      | true => rw [e] at h; cases h
      | false =>
        rw [e] at h
        have h : some [(pc + 1, ls, v :: v :: tt, N)] = some As := h
        cases h
        have c := sx_c2_ok hv
        rw [e] at c
        exact ⟨_, if_pos c, sx_an1 (r := r) ⟨rfl, h1, ⟨hv, hv, h4⟩, h3⟩⟩
    · cases h
  · split at h
    · rename_i v tt
      obtain ⟨w, u, rfl, hv, h4⟩ := sx_os_c h2
      cases e : sx_c2 v with
      | true => rw [e] at h; cases h
      | false =>
        rw [e] at h
        have h : some [(pc + 1, ls, tt, N)] = some As := h
        cases h
        have c := sx_c2_ok hv
        rw [e] at c
        exact ⟨_, if_pos c, sx_an1 (r := r) ⟨rfl, h1, h4, h3⟩⟩
    · cases h
  · split at h
    · rename_i v w tt
      obtain ⟨v', u, rfl, hv, h4⟩ := sx_os_c h2
      obtain ⟨w', u2, rfl, hw, h5⟩ := sx_os_c h4
      cases e : sx_c2 v || sx_c2 w with
      | true => rw [e] at h; cases h
      | false =>
        rw [e] at h
        have h : some [(pc + 1, ls, v :: w :: v :: w :: tt, N)] = some As := h
        cases h
        have c := sx_c2_ok hv
        have c2 := sx_c2_ok hw
        rw [Bool.or_eq_false_iff] at e
        rw [e.1] at c
        rw [e.2] at c2
        exact ⟨_, if_pos ⟨c, c2⟩, sx_an1 (r := r) ⟨rfl, h1, ⟨hv, hw, hv, hw, h5⟩, h3⟩⟩
    · cases h
  · obtain ⟨b, L, t1, x, cr, rfl, ⟨hx, hx0⟩, h4, h⟩ := sx_g1_ok h h2
    cases h
    refine ⟨_, rfl, sx_br_ok h1 h4 h3 (fun k => sx_eq_ok ?_) (fun k => sx_ne_ok h3 ?_)⟩
    · rw [sx_eq32, sx_z32] at k; omega
    · rw [sx_eq32, sx_z32] at k; omega
  · obtain ⟨b, L, t1, x, cr, rfl, ⟨hx, hx0⟩, h4, h⟩ := sx_g1_ok h h2
    cases h
    refine ⟨_, rfl, sx_br_ok h1 h4 h3 (fun k => sx_eq_ok ?_) (fun k => sx_ne_ok h3 ?_)⟩
    · rw [sx_eq32, sx_z32] at k; omega
    · rw [sx_eq32, sx_z32] at k; omega
  · obtain ⟨b, L, t1, x, cr, rfl, ⟨hx, hx0⟩, h4, h⟩ := sx_g1_ok h h2
    cases h
    refine ⟨_, rfl, sx_br_ok h1 h4 h3 (fun k => sx_lt_ok ?_) (fun k => sx_ge_ok ?_)⟩
    · rw [sx_lt32, sx_z32] at k; omega
    · rw [sx_lt32, sx_z32] at k; omega
  · obtain ⟨b, L, t1, x, cr, rfl, ⟨hx, hx0⟩, h4, h⟩ := sx_g1_ok h h2
    cases h
    refine ⟨_, rfl, sx_br_ok h1 h4 h3 (fun k => sx_ge_ok ?_) (fun k => sx_lt_ok ?_)⟩
    · rw [sx_le32, sx_z32] at k; omega
    · rw [sx_le32, sx_z32] at k; omega
  · obtain ⟨b, L, t1, x, cr, rfl, ⟨hx, hx0⟩, h4, h⟩ := sx_g1_ok h h2
    cases h
    refine ⟨_, rfl, sx_br_ok h1 h4 h3 (fun k => sx_gt_ok ?_) (fun k => sx_le_ok ?_)⟩
    · rw [sx_lt32, sx_z32] at k; omega
    · rw [sx_lt32, sx_z32] at k; omega
  · obtain ⟨b, L, t1, x, cr, rfl, ⟨hx, hx0⟩, h4, h⟩ := sx_g1_ok h h2
    cases h
    refine ⟨_, rfl, sx_br_ok h1 h4 h3 (fun k => sx_le_ok ?_) (fun k => sx_gt_ok ?_)⟩
    · rw [sx_le32, sx_z32] at k; omega
    · rw [sx_le32, sx_z32] at k; omega
  · obtain ⟨Y, t1, y, cr1, rfl, hy, h4, h⟩ := sx_i1_ok h h2
    obtain ⟨X', t2, x, cr, rfl, hx, h5, h⟩ := sx_i1_ok h h4
    cases h
    refine ⟨_, rfl, sx_br_ok h1 h5 h3 (fun k => sx_eq_ok ?_) (fun k => sx_ne_ok h3 ?_)⟩
    · rw [sx_eq32] at k; rw [sx_sub_e]; omega
    · rw [sx_eq32] at k; rw [sx_sub_e]; omega
  · obtain ⟨Y, t1, y, cr1, rfl, hy, h4, h⟩ := sx_i1_ok h h2
    obtain ⟨X', t2, x, cr, rfl, hx, h5, h⟩ := sx_i1_ok h h4
    cases h
    refine ⟨_, rfl, sx_br_ok h1 h5 h3 (fun k => sx_eq_ok ?_) (fun k => sx_ne_ok h3 ?_)⟩
    · rw [sx_eq32] at k; rw [sx_sub_e]; omega
    · rw [sx_eq32] at k; rw [sx_sub_e]; omega
  · obtain ⟨Y, t1, y, cr1, rfl, hy, h4, h⟩ := sx_i1_ok h h2
    obtain ⟨X', t2, x, cr, rfl, hx, h5, h⟩ := sx_i1_ok h h4
    cases h
    refine ⟨_, rfl, sx_br_ok h1 h5 h3 (fun k => sx_lt_ok ?_) (fun k => sx_ge_ok ?_)⟩
    · rw [sx_lt32] at k; rw [sx_sub_e]; omega
    · rw [sx_lt32] at k; rw [sx_sub_e]; omega
  · obtain ⟨Y, t1, y, cr1, rfl, hy, h4, h⟩ := sx_i1_ok h h2
    obtain ⟨X', t2, x, cr, rfl, hx, h5, h⟩ := sx_i1_ok h h4
    cases h
    refine ⟨_, rfl, sx_br_ok h1 h5 h3 (fun k => sx_ge_ok ?_) (fun k => sx_lt_ok ?_)⟩
    · rw [sx_le32] at k; rw [sx_sub_e]; omega
    · rw [sx_le32] at k; rw [sx_sub_e]; omega
  · obtain ⟨Y, t1, y, cr1, rfl, hy, h4, h⟩ := sx_i1_ok h h2
    obtain ⟨X', t2, x, cr, rfl, hx, h5, h⟩ := sx_i1_ok h h4
    cases h
    refine ⟨_, rfl, sx_br_ok h1 h5 h3 (fun k => sx_gt_ok ?_) (fun k => sx_le_ok ?_)⟩
    · rw [sx_lt32] at k; rw [sx_sub_e]; omega
    · rw [sx_lt32] at k; rw [sx_sub_e]; omega
  · obtain ⟨Y, t1, y, cr1, rfl, hy, h4, h⟩ := sx_i1_ok h h2
    obtain ⟨X', t2, x, cr, rfl, hx, h5, h⟩ := sx_i1_ok h h4
    cases h
    refine ⟨_, rfl, sx_br_ok h1 h5 h3 (fun k => sx_le_ok ?_) (fun k => sx_gt_ok ?_)⟩
    · rw [sx_le32] at k; rw [sx_sub_e]; omega
    · rw [sx_le32] at k; rw [sx_sub_e]; omega
  · split at h
    · cases h
      obtain ⟨w, u, rfl, rfl, h4⟩ := sx_os_c h2
      exact ⟨_, rfl, sx_an1 (r := r) ⟨rfl, h1, h4, h3⟩⟩
    · cases h
      obtain ⟨w, u, rfl, rfl, h4⟩ := sx_os_c h2
      exact ⟨_, rfl, sx_an1 (r := r) ⟨rfl, h1, h4, h3⟩⟩
    · cases h
      obtain ⟨w, u, rfl, rfl, h4⟩ := sx_os_c h2
      exact ⟨_, rfl, sx_an1 (r := r) ⟨rfl, h1, h4, h3⟩⟩
    · cases h
  · split at h
    · cases h
      obtain ⟨w, u, rfl, rfl, h4⟩ := sx_os_c h2
      exact ⟨_, rfl, sx_an1 (r := r) ⟨rfl, h1, h4, h3⟩⟩
    · cases h
      obtain ⟨w, u, rfl, rfl, h4⟩ := sx_os_c h2
      exact ⟨_, rfl, sx_an1 (r := r) ⟨rfl, h1, h4, h3⟩⟩
    · cases h
      obtain ⟨w, u, rfl, rfl, h4⟩ := sx_os_c h2
      exact ⟨_, rfl, sx_an1 (r := r) ⟨rfl, h1, h4, h3⟩⟩
    · cases h
  · cases h
    exact ⟨_, rfl, sx_an1 (r := r) ⟨rfl, h1, h2, h3⟩⟩
  · rename_i dflt lo hi offs
    obtain ⟨L, t1, x, cr, rfl, hx, h4, h⟩ := sx_i1_ok h h2
    split at h
    · rename_i ws d e1 e2
      cases h
      show ∃ c', (if x.toInt < lo ∨ hi < x.toInt then nt_jp pc dflt fun q => some (q, cl, cr, M) else (match offs[(x.toInt - lo).toNat]? with | some off => nt_jp pc off fun q => some (q, cl, cr, M) | none => none)) = some c' ∧ _
      by_cases k : x.toInt < lo ∨ hi < x.toInt
      · rw [if_pos k, sx_sw_ok e2]
        refine ⟨_, rfl, ?_⟩
        rcases k with k | k
        · refine sx_mw_ok (w := (d, [sx_sub (lo - 1, []) L])) h1 h4 h3 (List.mem_cons_self ..) fun C hC => ?_
          rw [List.mem_singleton.mp hC, sx_sub_e, sx_c_e]; omega
        · refine sx_mw_ok (w := (d, [sx_sub L (hi + 1, [])])) h1 h4 h3 (List.mem_cons_of_mem _ (List.mem_cons_self ..)) fun C hC => ?_
          rw [List.mem_singleton.mp hC, sx_sub_e, sx_c_e]; omega
      · rw [if_neg k]
        obtain ⟨off, q, a1, a2, a3⟩ := sx_tsw_ok (k := (x.toInt - lo).toNat) _ ws e1 (by omega)
        rw [a1]
        dsimp only
        rw [sx_sw_ok a2]
        refine ⟨_, rfl, ?_⟩
        exact sx_mw_ok (w := (q, sx_is L (lo + ((x.toInt - lo).toNat : Int)))) h1 h4 h3 (List.mem_cons_of_mem _ (List.mem_cons_of_mem _ a3)) (sx_is_ok (by omega))
    · cases h
  · rename_i dflt ps
    obtain ⟨L, t1, x, cr, rfl, hx, h4, h⟩ := sx_i1_ok h h2
    obtain ⟨hc, h⟩ := sx_bif h
    split at h
    · rename_i ws d e1 e2
      cases h
      show ∃ c', (if (ps.toList.zip (ps.toList.drop 1)).all (fun (a, b) => a.1 < b.1) = true then nt_jp pc (Op.lookupswitch.offset ps.toList dflt x.toInt) fun q => some (q, cl, cr, M) else none) = some c' ∧ _
      rw [if_pos hc]
      rcases sx_lsw_ok (d := dflt) (x := x.toInt) _ _ e1 with k | ⟨q, k1, k2⟩
      · rw [k, sx_sw_ok e2]
        exact ⟨_, rfl, sx_mw_ok (w := (d, [])) h1 h4 h3 (List.mem_cons_self ..) (fun C hC => by cases hC)⟩
      · rw [sx_sw_ok k1]
        exact ⟨_, rfl, sx_mw_ok (w := (q, sx_is L x.toInt)) h1 h4 h3 (List.mem_cons_of_mem _ k2) (sx_is_ok hx.symm)⟩
    · cases h
  · exact sx_gfl_ok h h1 h2 h3
  · exact sx_pfl_ok h h1 h2 h3
  · exact sx_ald_ok (op := 0) h h1 h2 h3
  · exact sx_ald_ok (op := 1) h h1 h2 h3
  · exact sx_ald_ok (op := 2) h h1 h2 h3
  · exact sx_ald_ok (op := 3) h h1 h2 h3
  · exact sx_ast_ok (op := 0) h h1 h2 h3
  · exact sx_ast_ok (op := 1) h h1 h2 h3
  · exact sx_ast_ok (op := 2) h h1 h2 h3
  · exact sx_len_ok h h1 h2 h3
  · cases h
end
section
/-! calls without a frame, and returns, over states told by sums -/
def sx_ct : List sx_V → Nat
  | [] => 0
  | a :: t => (bif sx_c2 a then 2 else 1) + sx_ct t
theorem sx_ct_ok {pl : Nat → Nat} {r : Nat → Int} : ∀ {st : List sx_V} {cs : List Value}, sx_os pl r st cs → nt_ct cs = sx_ct st
  | [], [], _ => rfl
  | a :: t, v :: u, h => by
    have e := sx_ct_ok h.2
    have c := sx_c2_ok h.1
    show ((v :: u).map fun v => v.category).sum = _
    rw [List.map_cons, List.sum_cons]
    have e : (u.map fun v => v.category).sum = sx_ct t := e
    rw [e, c]
    show _ = (bif sx_c2 a then 2 else 1) + sx_ct t
    cases sx_c2 a <;> rfl
  | [], _ :: _, h => h.elim
  | _ :: _, [], h => h.elim
theorem sx_os_len {pl : Nat → Nat} {r : Nat → Int} : ∀ {st : List sx_V} {cs : List Value}, sx_os pl r st cs → cs.length = st.length
  | [], [], _ => rfl
  | a :: t, v :: u, h => by rw [List.length_cons, List.length_cons, sx_os_len h.2]
  | [], _ :: _, h => h.elim
  | _ :: _, [], h => h.elim
/-- one of two -/
def sx_mm (x y : sx_L) (cx cy : sx_L) (pc : Nat) (ls : List (Nat × sx_V)) (st : List sx_V) (N : sx_N) : List sx_A := [(pc, ls, (0, 0, x) :: st, sx_am [cx] N), (pc, ls, (0, 0, y) :: st, sx_am [cy] N)].filter (fun A => !sx_de A.2.2.2)
theorem sx_mm_ok {E : sx_E} {F : sx_F} {r : Nat → Int} {X Y cx cy : sx_L} {pc : Nat} {ls : List (Nat × sx_V)} {st : List sx_V} {N : sx_N} {cl : nt_V} {cs : List Value} {M : nt_M} {v : Int32} (h1 : sx_ol F.1 r ls cl) (h2 : sx_os F.1 r st cs) (h3 : sx_on E F r N M) (h : v.toInt = sx_e r X ∧ 0 ≤ sx_e r cx ∨ v.toInt = sx_e r Y ∧ 0 ≤ sx_e r cy) : sx_an E F (sx_mm X Y cx cy pc ls st N) (pc, cl, .int v :: cs, M) := by
  rcases h with ⟨e, c⟩ | ⟨e, c⟩
  · have h4 := sx_am_ok (Ls := [cx]) h3 (fun L hL => by rw [List.mem_singleton.mp hL]; exact c)
    refine ⟨_, List.mem_filter.mpr ⟨List.mem_cons_self .., ?_⟩, r, rfl, h1, ⟨⟨v, rfl, e⟩, h2⟩, h4⟩
    show (!sx_de (sx_am [cx] N)) = true
    rw [sx_de_ok h4]; rfl
  · have h4 := sx_am_ok (Ls := [cy]) h3 (fun L hL => by rw [List.mem_singleton.mp hL]; exact c)
    refine ⟨_, List.mem_filter.mpr ⟨List.mem_cons_of_mem _ (List.mem_cons_self ..), ?_⟩, r, rfl, h1, ⟨⟨v, rfl, e⟩, h2⟩, h4⟩
    show (!sx_de (sx_am [cy] N)) = true
    rw [sx_de_ok h4]; rfl
/-- what a copy lets stand -/
def sx_ka (E : sx_E) (g : Nat) (q : (Nat × sx_L) × sx_L) : Bool := bif Nat.beq q.1.1 g then (match q.1.2 with | (c, []) => decide (c < 0) | _ => false) else bif Nat.ble 100 q.1.1 then !((E.1.2.getD (q.1.1 - 100) []).any (fun h => Nat.beq h g)) else true
def sx_cpy (E : sx_E) (pc : Nat) (ls : List (Nat × sx_V)) (N : sx_N) (n : sx_L) (a0 a1 : Nat) (t : List sx_V) : Option (List sx_A) := match E.2.1[a0]?, E.2.1[a1]? with
  | some p, some q => bif sx_gd E && (Nat.blt a0 100 && (Nat.blt a1 100 && (Nat.beq p.1 q.1 && ((Nat.beq p.1 13 || Nat.beq p.1 15) && (Nat.beq p.2.2.2 q.2.2.2 && (sx_p N n && (sx_p N (sx_sub (p.2.1, []) n) && (sx_p N (sx_sub (q.2.1, []) n) && E.2.2.1.any (fun m => Nat.beq m.1 a1 && (decide (m.2.1 ≤ 0) && decide (2147483647 ≤ m.2.2)))))))))))
      then some [(pc, ls, t, (N.1.filter (sx_ka E a1), N.2))] else none
  | _, _ => none
theorem sx_cpy_ok {E : sx_E} {F : sx_F} {r : Nat → Int} {pc : Nat} {ls : List (Nat × sx_V)} {N : sx_N} {n : sx_L} {a0 a1 : Nat} {t : List sx_V} {cl : nt_V} {cs : List Value} {M : nt_M} {As : List sx_A} {x : Int32} (h : sx_cpy E pc ls N n a0 a1 t = some As) (h1 : sx_ol F.1 r ls cl) (h2 : sx_os F.1 r t cs) (h3 : sx_on E F r N M) (hx : x.toInt = sx_e r n) : (F.1 a0 < nt_n M ∧ F.1 a1 < nt_n M ∧ nt_k M (F.1 a0) = nt_k M (F.1 a1) ∧ (nt_k M (F.1 a0) = 13 ∨ nt_k M (F.1 a0) = 15) ∧ ¬ x < 0 ∧ x.toNatClampNeg ≤ nt_l M (F.1 a0) ∧ x.toNatClampNeg ≤ nt_l M (F.1 a1)) ∧ sx_an E F As (pc, cl, cs, nt_wI M (F.1 a1) (va_cpy (nt_I M (F.1 a0)) (nt_I M (F.1 a1)) 0 0 x.toNatClampNeg)) := by
  unfold sx_cpy at h
  split at h
  · rename_i p q hp hq
    obtain ⟨hc, h⟩ := sx_bif h
    simp only [Bool.and_eq_true] at hc
    obtain ⟨hd, g0, g1, c1, c2, c3, c4, c5, c6, c7⟩ := hc
    have g0 : a0 < 100 := Nat.blt_eq.mp g0
    have g1 : a1 < 100 := Nat.blt_eq.mp g1
    have c1 := Nat.eq_of_beq_eq_true c1
    have c3 := Nat.eq_of_beq_eq_true c3
    have c4 := sx_p_ok h3 c4
    have c5 := sx_p_ok h3 c5
    have c6 := sx_p_ok h3 c6
    rw [sx_sub_e, sx_c_e] at c5 c6
    cases h
    obtain ⟨b1, b2, b3, b4, b5⟩ := h3.2.1.2 a0 p hp
    obtain ⟨d1, d2, d3, d4, d5⟩ := h3.2.1.2 a1 q hq
    have hX := sx_ix (n := 0) hx c4
    have hn : x.toNatClampNeg = (sx_e r n).toNat := by
      rw [hX]; exact nI_clamp (by omega)
    have x0 : ¬ x < 0 := by rw [sx_lt32, sx_z32]; omega
    have hk : nt_k M (F.1 a0) = 13 ∨ nt_k M (F.1 a0) = 15 := by
      rw [Bool.or_eq_true] at c2
      rcases c2 with c | c
      · exact Or.inl (b2.trans (Nat.eq_of_beq_eq_true c))
      · exact Or.inr (b2.trans (Nat.eq_of_beq_eq_true c))
    have hl0 : a0 < E.2.1.length := (List.getElem?_eq_some_iff.mp hp).1
    have hl1 : a1 < E.2.1.length := (List.getElem?_eq_some_iff.mp hq).1
    refine ⟨⟨b1, d1, by rw [b2, d2, c1], hk, x0, by omega, by omega⟩, ?_⟩
    obtain ⟨e0, ⟨e1, e2⟩, e3, e4, e5, e6, e7⟩ := h3
    have row : ∀ k j, nt_I (nt_wI M (F.1 a1) (va_cpy (nt_I M (F.1 a0)) (nt_I M (F.1 a1)) 0 0 x.toNatClampNeg)) k j = if k = F.1 a1 then (if 0 ≤ j ∧ j < 0 + x.toNatClampNeg then nt_I M (F.1 a0) (0 + (j - 0)) else nt_I M (F.1 a1) j) else nt_I M k j := by
      intro k j
      show nt_u1 (nt_I M) (F.1 a1) _ k j = _
      unfold nt_u1
      by_cases e : k = F.1 a1
      · rw [if_pos e, if_pos e]; rfl
      · rw [if_neg e, if_neg e]
    refine sx_an1 (r := r) ⟨rfl, h1, h2, e0, ⟨e1, fun k s hs => ?_⟩, fun s hs => ?_, e4, e5, e6, ?_⟩
    · obtain ⟨f1, f2, f3, f4, f5⟩ := e2 k s hs
      refine ⟨f1, f2, f3, f4, fun j => ?_⟩
      rw [row]
      by_cases e : F.1 k = F.1 a1
      · have e9 := e0.2 k a1 (List.getElem?_eq_some_iff.mp hs).1 hl1 e
        rw [e9, hq] at hs
        cases hs
        rw [if_pos e]
        split
        · rw [show 0 + (j - 0) = j from by omega, ← c3]; exact b5 j
        · exact d5 j
      · rw [if_neg e]; exact f5 j
    · obtain ⟨s1, s2⟩ := List.mem_filter.mp hs
      obtain ⟨t1, t2⟩ := e3 s s1
      refine ⟨t1, ?_⟩
      rw [← t2]
      unfold sx_ka at s2
      unfold sx_rd
      by_cases k : 100 ≤ s.1.1
      · rw [if_pos k, if_pos k]
        cases k1 : Nat.beq s.1.1 a1 with
        | true =>
          have := Nat.eq_of_beq_eq_true k1
          omega
        | false =>
          rw [k1, cond_false, show Nat.ble 100 s.1.1 = true from Nat.ble_eq_true_of_le k, cond_true] at s2
          refine e0.1 _ _ _ _ fun h' hh j hj => ?_
          have hh' : h' < E.2.1.length := by
            unfold sx_gd at hd
            rw [List.getD_eq_getElem?_getD] at hh
            cases ee : E.1.2[s.1.1 - 100]? with
            | none => rw [ee] at hh; cases hh
            | some l =>
              rw [ee] at hh
              exact Nat.blt_eq.mp (List.all_eq_true.mp (List.all_eq_true.mp hd l (List.mem_of_getElem? ee)) h' hh)
          show nt_I (nt_wI M _ _) (F.1 h') j = _
          rw [row, if_neg]
          intro e
          have e9 := e0.2 h' a1 hh' hl1 e
          have : (E.1.2.getD (s.1.1 - 100) []).any (fun h => Nat.beq h a1) = true := List.any_eq_true.mpr ⟨h', hh, by rw [e9]; exact Nat.beq_refl _⟩
          rw [this] at s2
          cases s2
      · rw [if_neg k, if_neg k]
        by_cases ki : sx_e r s.1.2 < 0
        · rw [if_pos ki, if_pos ki]; rfl
        · rw [if_neg ki, if_neg ki, row, if_neg]
          intro e
          have e9 := e0.2 _ a1 (t1.resolve_right k) hl1 e
          rw [e9, Nat.beq_refl, cond_true] at s2
          split at s2
          · rename_i c hc
            rw [hc, sx_c_e] at ki
            exact ki (of_decide_eq_true s2)
          · cases s2
    · obtain ⟨f1, f5, f6, f7⟩ := e7
      refine ⟨f1, fun a j hj => ?_, f6, f7⟩
      rw [← f5 a j hj, row]
      by_cases e : a = F.1 a1
      · rw [if_pos e]
        by_cases hj2 : j < 2147483648
        · obtain ⟨m, hm, hm2⟩ := List.any_eq_true.mp c7
          rw [Bool.and_eq_true, Bool.and_eq_true, decide_eq_true_eq, decide_eq_true_eq] at hm2
          have m1 := Nat.eq_of_beq_eq_true hm2.1
          exact absurd ⟨by rw [m1]; exact e, by omega, by omega⟩ (hj m hm (by rw [m1]; exact hl1))
        · rw [if_neg (by omega), e]
      · rw [if_neg e]
  · cases h
/-- calls that make no frame -/
def sx_nx (E : sx_E) (dl g q pc : Nat) (ls : List (Nat × sx_V)) (st : List sx_V) (N : sx_N) : Option (List sx_A) :=
  bif Nat.beq g 1001 && Nat.beq q 0 then sx_i1 st fun n st => sx_i1 st fun dp st => sx_a1 st fun a1 st => sx_i1 st fun sp st => sx_a1 st fun a0 st => bif Nat.ble 1 dl && (Nat.ble (sx_ct st) 8 && (sx_leq dp (0, []) && sx_leq sp (0, []))) then sx_cpy E (pc + 3) ls N n a0 a1 st else none else
  bif Nat.beq g 1002 && Nat.beq q 0 then sx_i1 st fun y st => sx_i1 st fun x st => bif Nat.ble 1 dl && Nat.ble (sx_ct st) 8 then some (sx_mm y x (sx_add (-1, []) (sx_sub y x)) (sx_sub x y) (pc + 3) ls st N) else none else
  bif Nat.beq g 1003 && Nat.beq q 0 then sx_i1 st fun y st => sx_i1 st fun x st => bif Nat.ble 1 dl && Nat.ble (sx_ct st) 8 then some (sx_mm y x (sx_add (-1, []) (sx_sub x y)) (sx_sub y x) (pc + 3) ls st N) else none else
  bif Nat.beq g 1004 && Nat.beq q 1 then (match st with | (5, a, _) :: st => bif Nat.ble 4 dl && (Nat.ble (sx_ct st) 8 && Nat.blt a 18) then some [(pc + 3, ls, (0, 0, (((nt_SB.getD a []).length : Nat), [])) :: st, N)] else none | _ => none) else
  bif Nat.beq g 1005 && Nat.beq q 1 then sx_i1 st fun L st => (match st with | (5, a, _) :: st => bif Nat.ble 4 dl && (Nat.ble (sx_ct st) 8 && (Nat.blt a 18 && (sx_p N L && sx_p N (sx_sub ((((nt_SB.getD a []).length : Nat) : Int) - 1, []) L)))) then sx_pF E sx_nI sx_xI (pc + 3) ls st N else none | _ => none) else
  none
theorem sx_SBl : ∀ a, (nt_SB.getD a []).length < 100 := by
  intro a
  rw [List.getD_eq_getElem?_getD]
  cases e : nt_SB[a]? with
  | none => decide
  | some l =>
    have : nt_SB.all (fun l => decide (l.length < 100)) = true := by decide +kernel
    exact of_decide_eq_true (List.all_eq_true.mp this l (List.mem_of_getElem? e))
theorem sx_nx_ok {E : sx_E} {F : sx_F} {r : Nat → Int} {d dl g q pc : Nat} {ls : List (Nat × sx_V)} {st : List sx_V} {N : sx_N} {cl : nt_V} {cs : List Value} {M : nt_M} {As : List sx_A} (hd : dl ≤ d) (h : sx_nx E dl g q pc ls st N = some As) (h1 : sx_ol F.1 r ls cl) (h2 : sx_os F.1 r st cs) (h3 : sx_on E F r N M) : ∃ c', nt_nx d g q pc cl cs M = some c' ∧ sx_an E F As c' := by
  unfold sx_nx at h
  unfold nt_nx
  cases e1 : Nat.beq g 1001 && Nat.beq q 0 with
  | true =>
    rw [e1, cond_true] at h
    rw [Bool.and_eq_true] at e1
    have g1 := Nat.eq_of_beq_eq_true e1.1
    have q1 := Nat.eq_of_beq_eq_true e1.2
    rw [if_neg (by omega), if_pos ⟨g1, q1⟩]
    obtain ⟨n, t1, x, c1, rfl, hx, h4, h⟩ := sx_i1_ok h h2
    obtain ⟨dp, t2, y, c2, rfl, hy, h5, h⟩ := sx_i1_ok h h4
    obtain ⟨a1, t3, c3, rfl, h6, h⟩ := sx_a1_ok h h5
    obtain ⟨sp, t4, z, c4, rfl, hz, h7, h⟩ := sx_i1_ok h h6
    obtain ⟨a0, t5, c5, rfl, h8, h⟩ := sx_a1_ok h h7
    obtain ⟨hc, h⟩ := sx_bif h
    rw [Bool.and_eq_true, Bool.and_eq_true, Bool.and_eq_true] at hc
    obtain ⟨k1, k2, k3, k4⟩ := hc
    have k1 : 1 ≤ dl := Nat.le_of_ble_eq_true k1
    have k2 : sx_ct t5 ≤ 8 := Nat.le_of_ble_eq_true k2
    have k3 := sx_leq_ok k3
    have k4 := sx_leq_ok k4
    rw [k3, sx_c_e] at hy
    rw [k4, sx_c_e] at hz
    have hy : y = 0 := by rw [sx_eq32, sx_z32]; exact hy
    have hz : z = 0 := by rw [sx_eq32, sx_z32]; exact hz
    obtain ⟨⟨m1, m2, m3, m4, m5, m6, m7⟩, m8⟩ := sx_cpy_ok h h1 h8 h3 hx
    rw [← sx_ct_ok h8] at k2
    subst hy; subst hz
    refine ⟨_, ?_, m8⟩
    dsimp only
    rw [show (0 : Int32).toNatClampNeg = 0 from rfl, if_pos ⟨by omega, k2, m1, m2, m3, m4, by decide, by decide, m5, by omega, by omega⟩]
  | false =>
  rw [e1, cond_false] at h
  cases e2 : Nat.beq g 1002 && Nat.beq q 0 with
  | true =>
    rw [e2, cond_true] at h
    rw [Bool.and_eq_true] at e2
    have g1 := Nat.eq_of_beq_eq_true e2.1
    have q1 := Nat.eq_of_beq_eq_true e2.2
    rw [if_neg (by omega), if_neg (by omega), if_pos ⟨g1, q1⟩]
    obtain ⟨Y, t1, y, c1, rfl, hy, h4, h⟩ := sx_i1_ok h h2
    obtain ⟨X, t2, x, c2, rfl, hx, h5, h⟩ := sx_i1_ok h h4
    obtain ⟨hc, h⟩ := sx_bif h
    rw [Bool.and_eq_true] at hc
    have k1 : 1 ≤ dl := Nat.le_of_ble_eq_true hc.1
    have k2 : sx_ct t2 ≤ 8 := Nat.le_of_ble_eq_true hc.2
    rw [← sx_ct_ok h5] at k2
    cases h
    refine ⟨_, if_pos ⟨by omega, k2⟩, sx_mm_ok h1 h5 h3 ?_⟩
    by_cases k : x < y
    · rw [if_pos k]
      rw [sx_lt32] at k
      rw [sx_add_e, sx_c_e, sx_sub_e]
      exact Or.inl ⟨hy, by omega⟩
    · rw [if_neg k]
      rw [sx_lt32] at k
      rw [sx_sub_e]
      exact Or.inr ⟨hx, by omega⟩
  | false =>
  rw [e2, cond_false] at h
  cases e3 : Nat.beq g 1003 && Nat.beq q 0 with
  | true =>
    rw [e3, cond_true] at h
    rw [Bool.and_eq_true] at e3
    have g1 := Nat.eq_of_beq_eq_true e3.1
    have q1 := Nat.eq_of_beq_eq_true e3.2
    rw [if_neg (by omega), if_neg (by omega), if_neg (by omega), if_pos ⟨g1, q1⟩]
    obtain ⟨Y, t1, y, c1, rfl, hy, h4, h⟩ := sx_i1_ok h h2
    obtain ⟨X, t2, x, c2, rfl, hx, h5, h⟩ := sx_i1_ok h h4
    obtain ⟨hc, h⟩ := sx_bif h
    rw [Bool.and_eq_true] at hc
    have k1 : 1 ≤ dl := Nat.le_of_ble_eq_true hc.1
    have k2 : sx_ct t2 ≤ 8 := Nat.le_of_ble_eq_true hc.2
    rw [← sx_ct_ok h5] at k2
    cases h
    refine ⟨_, if_pos ⟨by omega, k2⟩, sx_mm_ok h1 h5 h3 ?_⟩
    by_cases k : y < x
    · rw [if_pos k]
      rw [sx_lt32] at k
      rw [sx_add_e, sx_c_e, sx_sub_e]
      exact Or.inl ⟨hy, by omega⟩
    · rw [if_neg k]
      rw [sx_lt32] at k
      rw [sx_sub_e]
      exact Or.inr ⟨hx, by omega⟩
  | false =>
  rw [e3, cond_false] at h
  cases e4 : Nat.beq g 1004 && Nat.beq q 1 with
  | true =>
    rw [e4, cond_true] at h
    rw [Bool.and_eq_true] at e4
    have g1 := Nat.eq_of_beq_eq_true e4.1
    have q1 := Nat.eq_of_beq_eq_true e4.2
    rw [if_neg (by omega), if_neg (by omega), if_neg (by omega), if_neg (by omega), if_pos ⟨g1, q1⟩]
    split at h
    · rename_i a z t1
      obtain ⟨hc, h⟩ := sx_bif h
      rw [Bool.and_eq_true, Bool.and_eq_true] at hc
      have k1 : 4 ≤ dl := Nat.le_of_ble_eq_true hc.1
      have k2 : sx_ct t1 ≤ 8 := Nat.le_of_ble_eq_true hc.2.1
      have k3 : a < 18 := Nat.blt_eq.mp hc.2.2
      cases h
      obtain ⟨w, u, rfl, hw, h4⟩ := sx_os_c h2
      have hw : w = .ref (nt_sp + 1 + a) := hw
      subst hw
      rw [← sx_ct_ok h4] at k2
      have es : nt_si (nt_sp + 1 + a) = a := by unfold nt_si; omega
      refine ⟨_, if_pos ⟨by omega, k2, by omega, by omega⟩, sx_an1 (r := r) ⟨rfl, h1, ⟨⟨_, rfl, ?_⟩, h4⟩, h3⟩⟩
      dsimp only
      rw [sx_c_e, es]
      have := sx_SBl a
      exact Int32.toInt_ofNat_of_lt (by omega)
    · cases h
  | false =>
  rw [e4, cond_false] at h
  cases e5 : Nat.beq g 1005 && Nat.beq q 1 with
  | true =>
    rw [e5, cond_true] at h
    rw [Bool.and_eq_true] at e5
    have g1 := Nat.eq_of_beq_eq_true e5.1
    have q1 := Nat.eq_of_beq_eq_true e5.2
    rw [if_neg (by omega), if_neg (by omega), if_neg (by omega), if_neg (by omega), if_neg (by omega), if_pos ⟨g1, q1⟩]
    obtain ⟨L, t0, x, c1, rfl, hx, h4, h⟩ := sx_i1_ok h h2
    split at h
    · rename_i a z t1
      obtain ⟨hc, h⟩ := sx_bif h
      rw [Bool.and_eq_true, Bool.and_eq_true, Bool.and_eq_true, Bool.and_eq_true] at hc
      have k1 : 4 ≤ dl := Nat.le_of_ble_eq_true hc.1
      have k2 : sx_ct t1 ≤ 8 := Nat.le_of_ble_eq_true hc.2.1
      have k3 : a < 18 := Nat.blt_eq.mp hc.2.2.1
      have k4 := sx_p_ok h3 hc.2.2.2.1
      have k5 := sx_p_ok h3 hc.2.2.2.2
      rw [sx_sub_e, sx_c_e] at k5
      obtain ⟨w, u, rfl, hw, h5⟩ := sx_os_c h4
      have hw : w = .ref (nt_sp + 1 + a) := hw
      subst hw
      rw [← sx_ct_ok h5] at k2
      have es : nt_si (nt_sp + 1 + a) = a := by unfold nt_si; omega
      have hX := sx_ix (n := 0) hx k4
      have := sx_SBl a
      have hn : x.toNatClampNeg = (sx_e r L).toNat := by
        rw [hX]; exact nI_clamp (by omega)
      refine ⟨_, if_pos ⟨by omega, k2, by omega, by omega, ?_⟩, sx_pFf_ok _ h h1 h5 h3⟩
      rw [es, hn, sx_lt32, sx_z32]
      omega
    · cases h
  | false =>
  rw [e5, cond_false] at h
  cases h
/-- what is handed back -/
def sx_ov (pl : Nat → Nat) (r : Nat → Int) : Option sx_V → Option Value → Prop
  | none, none => True
  | some a, some v => sx_v pl r a v
  | _, _ => False
def sx_ret (mi : Nat) (ins : Instr) (st : List sx_V) (N : sx_N) : Option (Option sx_V) := match ins, st, (nt_m mi).2.2.2.1 with
  | .ireturn, [(0, _, L)], some .int => some (some (0, 0, L))
  | .ireturn, [(0, _, L)], some .boolean => bif sx_p N L && sx_p N (sx_sub (1, []) L) then some (some (0, 0, L)) else none
  | .lreturn, [(1, _, L)], some .long => some (some (1, 0, L))
  | .areturn, [(2, a, _)], some (.object _) => some (some (2, a, (0, [])))
  | .areturn, [(3, _, _)], some (.object _) => some (some (3, 0, (0, [])))
  | .areturn, [(5, a, _)], some (.object _) => some (some (5, a, (0, [])))
  | .return_, [], none => some none
  | _, _, _ => none
theorem sx_ret_ok {E : sx_E} {F : sx_F} {r : Nat → Int} {mi : Nat} {ins : Instr} {st : List sx_V} {N : sx_N} {cs : List Value} {M : nt_M} {v : Option sx_V} (h : sx_ret mi ins st N = some v) (h2 : sx_os F.1 r st cs) (h3 : sx_on E F r N M) : ∃ o, nt_re mi ins cs M = some (o, M) ∧ sx_ov F.1 r v o := by
  unfold sx_ret at h
  unfold nt_re
  split at h
  · rename_i e
    cases h
    obtain ⟨w, u, rfl, ⟨x, rfl, hx⟩, h4⟩ := sx_os_c h2
    cases u with
    | nil => rw [e]; exact ⟨_, rfl, x, rfl, hx⟩
    | cons _ _ => exact h4.elim
  · rename_i e
    obtain ⟨hc, h⟩ := sx_bif h
    cases h
    obtain ⟨w, u, rfl, ⟨x, rfl, hx⟩, h4⟩ := sx_os_c h2
    rw [Bool.and_eq_true] at hc
    have k1 := sx_p_ok h3 hc.1
    have k2 := sx_p_ok h3 hc.2
    rw [sx_sub_e, sx_c_e] at k2
    have hz : x = 0 ∨ x = 1 := by
      rw [sx_eq32, sx_eq32, sx_z32, show (1 : Int32).toInt = 1 from rfl]
      dsimp only at hx
      omega
    cases u with
    | nil => rw [e]; exact ⟨_, if_pos hz, x, rfl, hx⟩
    | cons _ _ => exact h4.elim
  · rename_i e
    cases h
    obtain ⟨w, u, rfl, ⟨x, rfl, hx⟩, h4⟩ := sx_os_c h2
    cases u with
    | nil => rw [e]; exact ⟨_, rfl, x, rfl, hx⟩
    | cons _ _ => exact h4.elim
  · rename_i e
    cases h
    obtain ⟨w, u, rfl, rfl, h4⟩ := sx_os_c h2
    cases u with
    | nil => rw [e]; exact ⟨_, rfl, rfl⟩
    | cons _ _ => exact h4.elim
  · rename_i e
    cases h
    obtain ⟨w, u, rfl, rfl, h4⟩ := sx_os_c h2
    cases u with
    | nil => rw [e]; exact ⟨_, rfl, rfl⟩
    | cons _ _ => exact h4.elim
  · rename_i e
    cases h
    obtain ⟨w, u, rfl, rfl, h4⟩ := sx_os_c h2
    cases u with
    | nil => rw [e]; exact ⟨_, rfl, rfl⟩
    | cons _ _ => exact h4.elim
  · rename_i e
    cases h
    cases cs with
    | nil => rw [e]; exact ⟨_, rfl, trivial⟩
    | cons _ _ => exact h2.elim
  · cases h
end
section
/-! ghosts: what rows say beyond their numbers -/
/-- how many values lie on the stack behind n signs from b on; none: it can't be reckoned -/
def nt_rp (a : Nat → Int32) (b : Nat) : Nat → Option Nat
  | 0 => some 0
  | n + 1 => match nt_rp a b n with
    | none => none
    | some d => if a (b + n) &&& 15 = 0 then (if d < 60 then some (d + 1) else none) else if a (b + n) &&& 15 = 1 then (if d < 60 ∧ 0 ≤ (a (b + n) >>> 4).toInt ∧ (a (b + n) >>> 4).toInt ≤ 9 then some (d + 1) else none) else if a (b + n) &&& 15 = 11 then (if 1 ≤ d then some d else none) else (if 2 ≤ d then some (d - 1) else none)
theorem nt_rp_eq {a a' : Nat → Int32} {b : Nat} : ∀ n, (∀ j, j < b + n → a j = a' j) → nt_rp a b n = nt_rp a' b n
  | 0, _ => rfl
  | n + 1, h => by
    unfold nt_rp
    rw [nt_rp_eq n (fun j hj => h j (by omega)), h (b + n) (by omega)]
/-- what lies open: how many that join two (12, 13), how many brackets (91); none: something else -/
def nt_ob (a : Nat → Int32) : Nat → Option (Nat × Nat)
  | 0 => some (0, 0)
  | n + 1 => match nt_ob a n with
    | none => none
    | some q => if a n = 12 ∨ a n = 13 then some (q.1 + 1, q.2) else if a n = 11 then some q else if a n = 91 then some (q.1, q.2 + 1) else none
theorem nt_ob_eq {a a' : Nat → Int32} : ∀ n, (∀ j, j < n → a j = a' j) → nt_ob a n = nt_ob a' n
  | 0, _ => rfl
  | n + 1, h => by
    unfold nt_ob
    rw [nt_ob_eq n (fun j hj => h j (by omega)), h n (by omega)]
/-- a clause can be reckoned; its signs end at m -/
def nt_ck (p : Nat → Nat → Int32) (t c : Nat) (m : Int) : Prop := (0 ≤ (p 2 (48 * t + 4 * c)).toInt ∧ (p 2 (48 * t + 4 * c)).toInt ≤ (p 2 (48 * t + 4 * c + 1)).toInt ∧ (p 2 (48 * t + 4 * c + 1)).toInt ≤ m ∧ nt_rp (p 1) (400 * t + (p 2 (48 * t + 4 * c)).toInt.toNat) ((p 2 (48 * t + 4 * c + 1)).toInt - (p 2 (48 * t + 4 * c)).toInt).toNat = some 1) ∧ ((p 2 (48 * t + 4 * c + 2)).toInt < 0 ∨ (p 2 (48 * t + 4 * c + 2)).toInt ≤ (p 2 (48 * t + 4 * c + 3)).toInt ∧ (p 2 (48 * t + 4 * c + 3)).toInt ≤ m ∧ nt_rp (p 1) (400 * t + (p 2 (48 * t + 4 * c + 2)).toInt.toNat) ((p 2 (48 * t + 4 * c + 3)).toInt - (p 2 (48 * t + 4 * c + 2)).toInt).toNat = some 1)
/-- all clauses of all rules; those of the text x end at m -/
def nt_rk (p : Nat → Nat → Int32) (x : Nat) (m : Int) : Prop := ∀ (t c : Nat), t < 6 → c < 12 → (c : Int) < (p 3 t).toInt → nt_ck p t c (if t = x then m else 400)
/-- a sum was read from z / 401 on, as far as z % 401, and can be reckoned -/
def nt_pd (p : Nat → Nat → Int32) (t l z : Nat) : Prop := z % 401 ≤ l ∧ nt_rp (p 1) (400 * t + z / 401) (z % 401 - z / 401) = some 1
/-- what ghost 0 says at an index: text, end, and what is pending (0: nothing) -/
def nt_gk (p : Nat → Nat → Int32) (i : Int) : Prop := i = 10000 ∧ nt_rk p 6 400 ∨ 20000 ≤ i ∧ i % 1000 ≤ 400 ∧ nt_rk p (((i - 20000) / 1000) % 10).toNat (i % 1000) ∧ ((i - 20000) / 10000 = 0 ∨ nt_pd p (((i - 20000) / 1000) % 10).toNat (i % 1000).toNat ((i - 20000) / 10000 - 1).toNat)
noncomputable def nt_ghost (g : Nat) (p : Nat → Nat → Int32) (i : Int) : Int :=
  if g = 0 then @ite _ (nt_gk p i) (Classical.propDecidable _) 1 0
  else if g = 1 then (if 0 ≤ i then (match nt_rp (p 1) (i / 10000).toNat (i % 10000 - i / 10000).toNat with | some d => (d : Int) | none => -1) else 0)
  else if g = 2 then (match nt_ob (p 9) i.toNat with | some q => (q.1 : Int) | none => -1)
  else if g = 4 then (match nt_ob (p 9) i.toNat with | some q => (q.2 : Int) | none => -1)
  else i
def sx_GG0 : Nat → (Nat → Nat → Int32) → Int → Int := fun _ _ _ => 0
noncomputable def sx_GG (T : List (List (Nat × List (Int × Int))) × List (List Nat)) : Nat → (Nat → Nat → Int32) → Int → Int := match T.2 with
  | [] => sx_GG0
  | _ => nt_ghost
theorem nt_ck_eq {p q : Nat → Nat → Int32} {t c : Nat} {m : Int} (ht : t < 6) (hc : c < 12) (hm : m ≤ 400) (h1 : ∀ j, j < 2400 → p 1 j = q 1 j) (h2 : ∀ j, j < 288 → p 2 j = q 2 j) : nt_ck p t c m → nt_ck q t c m := by
  unfold nt_ck
  rw [h2 (48 * t + 4 * c) (by omega), h2 (48 * t + 4 * c + 1) (by omega), h2 (48 * t + 4 * c + 2) (by omega), h2 (48 * t + 4 * c + 3) (by omega)]
  rintro ⟨⟨a1, a2, a3, a4⟩, a5⟩
  refine ⟨⟨a1, a2, a3, ?_⟩, ?_⟩
  · rw [← nt_rp_eq _ (fun j hj => h1 j (by omega))]
    exact a4
  · rcases a5 with a5 | ⟨b1, b2, b3⟩
    · exact Or.inl a5
    · by_cases hn : (q 2 (48 * t + 4 * c + 2)).toInt < 0
      · exact Or.inl hn
      · refine Or.inr ⟨b1, b2, ?_⟩
        rw [← nt_rp_eq _ (fun j hj => h1 j (by omega))]
        exact b3
theorem nt_rk_eq {p q : Nat → Nat → Int32} {x : Nat} {m : Int} (hm : m ≤ 400) (h1 : ∀ j, j < 2400 → p 1 j = q 1 j) (h2 : ∀ j, j < 288 → p 2 j = q 2 j) (h3 : ∀ j, j < 6 → p 3 j = q 3 j) (h : nt_rk p x m) : nt_rk q x m := by
  intro t c ht hc hk
  rw [← h3 t ht] at hk
  refine nt_ck_eq ht hc ?_ h1 h2 (h t c ht hc hk)
  split <;> omega
theorem nt_pd_eq {p q : Nat → Nat → Int32} {t l z : Nat} (ht : t < 10) (hl : l ≤ 400) (h1 : ∀ j, j < 20000 → p 1 j = q 1 j) (h : nt_pd p t l z) : nt_pd q t l z := by
  obtain ⟨a, b⟩ := h
  refine ⟨a, ?_⟩
  by_cases hz : z / 401 ≤ z % 401
  · rw [← nt_rp_eq _ (fun j hj => h1 j (by omega))]
    exact b
  · rw [show z % 401 - z / 401 = 0 from by omega] at b ⊢
    exact b
theorem nt_gk_eq {p q : Nat → Nat → Int32} {i : Int} (h1 : ∀ j : Nat, (j : Int) < i → p 1 j = q 1 j) (h2 : ∀ j : Nat, (j : Int) < i → p 2 j = q 2 j) (h3 : ∀ j : Nat, (j : Int) < i → p 3 j = q 3 j) (h : nt_gk p i) : nt_gk q i := by
  rcases h with ⟨k1, k2⟩ | ⟨k1, k3, k2, k4⟩
  · exact Or.inl ⟨k1, nt_rk_eq (by omega) (fun j hj => h1 j (by omega)) (fun j hj => h2 j (by omega)) (fun j hj => h3 j (by omega)) k2⟩
  · refine Or.inr ⟨k1, k3, nt_rk_eq (by omega) (fun j hj => h1 j (by omega)) (fun j hj => h2 j (by omega)) (fun j hj => h3 j (by omega)) k2, ?_⟩
    rcases k4 with k4 | k4
    · exact Or.inl k4
    · exact Or.inr (nt_pd_eq (by omega) (by omega) (fun j hj => h1 j (by omega)) k4)
/-- a ghost hangs on what lies ahead alone -/
theorem nt_ghost_gh {E : sx_E} {F : sx_F} (hE : E.1.2 = [[1, 2, 3], [1], [9], [1], [9], []]) (hF : F.2.2.2 = nt_ghost) : sx_gh E F := by
  intro g p q i h
  rw [hE] at h
  rw [hF]
  unfold nt_ghost
  by_cases g0 : g = 0
  · rw [if_pos g0, if_pos g0]
    rw [g0] at h
    have h1 : ∀ j : Nat, (j : Int) < i → p 1 j = q 1 j := fun j hj => h 1 (by decide) j hj
    have h2 : ∀ j : Nat, (j : Int) < i → p 2 j = q 2 j := fun j hj => h 2 (by decide) j hj
    have h3 : ∀ j : Nat, (j : Int) < i → p 3 j = q 3 j := fun j hj => h 3 (by decide) j hj
    have key : nt_gk p i = nt_gk q i := propext ⟨nt_gk_eq h1 h2 h3, nt_gk_eq (fun j hj => (h1 j hj).symm) (fun j hj => (h2 j hj).symm) (fun j hj => (h3 j hj).symm)⟩
    exact congrArg (fun P : Prop => @ite Int P (Classical.propDecidable P) 1 0) key
  · rw [if_neg g0, if_neg g0]
    by_cases g1 : g = 1
    · rw [if_pos g1, if_pos g1]
      rw [g1] at h
      have h1 : ∀ j : Nat, (j : Int) < i → p 1 j = q 1 j := fun j hj => h 1 (by decide) j hj
      by_cases i0 : 0 ≤ i
      · rw [if_pos i0, if_pos i0]
        by_cases hn : (i % 10000 - i / 10000).toNat = 0
        · rw [hn]; rfl
        · rw [nt_rp_eq _ (fun j hj => h1 j (by omega))]
      · rw [if_neg i0, if_neg i0]
    · rw [if_neg g1, if_neg g1]
      by_cases g2 : g = 2
      · rw [if_pos g2, if_pos g2]
        rw [g2] at h
        have h9 : ∀ j : Nat, (j : Int) < i → p 9 j = q 9 j := fun j hj => h 9 (by decide) j hj
        rw [nt_ob_eq i.toNat (fun j hj => h9 j (by omega))]
      · rw [if_neg g2, if_neg g2]
        by_cases g4 : g = 4
        · rw [if_pos g4, if_pos g4]
          rw [g4] at h
          have h9 : ∀ j : Nat, (j : Int) < i → p 9 j = q 9 j := fun j hj => h 9 (by decide) j hj
          rw [nt_ob_eq i.toNat (fun j hj => h9 j (by omega))]
        · rw [if_neg g4, if_neg g4]
end
section
/-! contracts, and states held against them -/
abbrev sx_K : Type := Nat × Nat × sx_D × (List (Nat × Int × Int) × List (Nat × Nat)) × List sx_V × sx_N × List (Option sx_V × sx_N)
def sx_KE (T : List sx_T × List (List Nat)) (K : sx_K) : sx_E := (T, K.2.2.1, K.2.2.2.1.1, K.2.2.2.1.2, K.2.2.2.2.2.1.2.2.2)
/-- the method keeps the contract -/
def sx_KOK (X : nt_X) (T : List sx_T × List (List Nat)) (K : sx_K) : Prop := ∀ (F : sx_F) (r : Nat → Int) (vs : List Value) (M : nt_M) (d : Nat), K.2.1 ≤ d → F.2.1 = M → F.2.2.1 = r → F.2.2.2 = sx_GG T → sx_os F.1 r K.2.2.2.2.1 vs → sx_on (sx_KE T K) F r K.2.2.2.2.2.1 M → ∃ o, nt_ev X d K.1 vs M o ∧ ∃ p ∈ K.2.2.2.2.2.2, ∃ r', sx_ov F.1 r' p.1 o.1 ∧ sx_on (sx_KE T K) F r' p.2 o.2
def sx_sm (z : Nat → sx_L) : List (Nat × Int) → sx_L
  | [] => (0, [])
  | q :: t => sx_add (sx_mul q.2 (z q.1)) (sx_sm z t)
/-- sums put for unknowns -/
def sx_sb (z : Nat → sx_L) (L : sx_L) : sx_L := sx_add (L.1, []) (sx_sm z L.2)
def sx_rf (r : Nat → Int) (z : Nat → sx_L) (s : Nat) : Int := sx_e r (z s)
theorem sx_sm_e (r : Nat → Int) (z : Nat → sx_L) : ∀ l, sx_e r (sx_sm z l) = sx_t (sx_rf r z) l
  | [] => rfl
  | q :: t => by
    show sx_e r (sx_add (sx_mul q.2 (z q.1)) (sx_sm z t)) = q.2 * sx_rf r z q.1 + sx_t (sx_rf r z) t
    rw [sx_add_e, sx_mul_e, sx_sm_e r z t]; rfl
theorem sx_sb_e (r : Nat → Int) (z : Nat → sx_L) (L : sx_L) : sx_e r (sx_sb z L) = sx_e (sx_rf r z) L := by
  unfold sx_sb
  rw [sx_add_e, sx_c_e, sx_sm_e]; rfl
abbrev sx_Z : Type := List (Nat × Nat) × List (Nat × sx_L)
def sx_zl : List (Nat × sx_L) → Nat → Option sx_L
  | [], _ => none
  | q :: t, s => bif Nat.beq q.1 s then some q.2 else sx_zl t s
def sx_zf (z : List (Nat × sx_L)) (s : Nat) : sx_L := match sx_zl z s with
  | some L => L
  | none => (0, [])
def sx_gl : List (Nat × Nat) → Nat → Option Nat
  | [], _ => none
  | q :: t, s => bif Nat.beq q.1 s then some q.2 else sx_gl t s
def sx_gf (z : List (Nat × Nat)) (s : Nat) : Nat := match sx_gl z s with
  | some g => g
  | none => 99
def sx_b1 (z : List (Nat × sx_L)) : List (Nat × Int) → Option Nat
  | [] => none
  | q :: t => match sx_zl z q.1 with
    | none => bif decide (q.2 = 1) then some q.1 else sx_b1 z t
    | some _ => sx_b1 z t
def sx_bz (z : List (Nat × sx_L)) (p a : sx_L) : List (Nat × sx_L) := match sx_b1 z p.2 with
  | none => z
  | some u => (u, sx_sub a (sx_sb (sx_zf ((u, (0, [])) :: z)) p)) :: z
def sx_bg (z : List (Nat × Nat)) (g h : Nat) : List (Nat × Nat) := match sx_gl z g with
  | some _ => z
  | none => (g, h) :: z
def sx_bV (zs : sx_Z) (p a : sx_V) : sx_Z := match p.1 with
  | 0 => (zs.1, sx_bz zs.2 p.2.2 a.2.2)
  | 1 => (zs.1, sx_bz zs.2 p.2.2 a.2.2)
  | 2 => (sx_bg zs.1 p.2.1 a.2.1, zs.2)
  | _ => zs
def sx_bVs : List sx_V → List sx_V → sx_Z → sx_Z
  | p :: t, a :: u, zs => sx_bVs t u (sx_bV zs p a)
  | _, _, zs => zs
def sx_bR (N : sx_N) : sx_R → sx_Z → sx_Z
  | [], zs => zs
  | q :: t, zs => match sx_gtR (sx_gf zs.1 q.1.1) (sx_sb (sx_zf zs.2) q.1.2) N.2.1, q.2 with
    | some (k + 1), j + 1 => sx_bR N t (sx_bg zs.1 j k, zs.2)
    | _, _ => sx_bR N t zs
/-- a ghost that is known, wherever -/
def sx_gho (g : Nat) : sx_I → Option (sx_L × sx_L)
  | [] => none
  | q :: t => bif Nat.beq q.1.1 g then some (q.1.2, q.2) else sx_gho g t
/-- ints that are looked up or read -/
def sx_rds (E : sx_E) (ls : List (Nat × sx_V)) (st : List sx_V) : sx_I → sx_Z → sx_N → Option (sx_Z × sx_N)
  | [], zs, N => some (zs, N)
  | q :: t, zs, N => match sx_get (bif Nat.blt q.1.1 100 then sx_gf zs.1 q.1.1 else q.1.1) (sx_sb (sx_zf zs.2) q.1.2) N.1 with
    | some v => sx_rds E ls st t (zs.1, sx_bz zs.2 q.2 v) N
    | none => bif Nat.ble 100 q.1.1 then (match sx_gho q.1.1 N.1 with
      | some w => sx_rds E ls st t (zs.1, sx_bz (sx_bz zs.2 q.1.2 w.1) q.2 w.2) N
      | none => none) else bif sx_p N (sx_sb (sx_zf zs.2) q.1.2) then (match sx_rdc E (bif Nat.blt q.1.1 100 then sx_gf zs.1 q.1.1 else q.1.1) (sx_sb (sx_zf zs.2) q.1.2) ls st N with
      | some o => sx_rds E ls st t (zs.1, sx_bz zs.2 q.2 o.1) o.2
      | none => none) else none
theorem sx_rds_ok {E : sx_E} {F : sx_F} {ls : List (Nat × sx_V)} {st : List sx_V} {cl : nt_V} {cs : List Value} {M : nt_M} {o : sx_Z × sx_N} : ∀ (l : sx_I) (zs : sx_Z) (N : sx_N) (r : Nat → Int), sx_rds E ls st l zs N = some o → sx_ol F.1 r ls cl → sx_os F.1 r st cs → sx_on E F r N M → ∃ r', sx_ol F.1 r' ls cl ∧ sx_os F.1 r' st cs ∧ sx_on E F r' o.2 M
  | [], zs, N, r, h, h1, h2, h3 => by cases h; exact ⟨r, h1, h2, h3⟩
  | q :: t, zs, N, r, h, h1, h2, h3 => by
    unfold sx_rds at h
    split at h
    · exact sx_rds_ok t _ N r h h1 h2 h3
    · cases eg : Nat.ble 100 q.1.1 with
      | true =>
        rw [eg, cond_true] at h
        split at h
        · exact sx_rds_ok t _ N r h h1 h2 h3
        · cases h
      | false =>
      rw [eg, cond_false] at h
      obtain ⟨hp, h⟩ := sx_bif h
      split at h
      · rename_i o1 ho
        obtain ⟨v, N1⟩ := o1
        obtain ⟨r', k1, k2, k3, -⟩ := sx_rdc_ok ho h1 h2 h3 (sx_p_ok h3 hp)
        exact sx_rds_ok t _ _ r' h k1 k2 k3
      · cases h
def sx_qe (N : sx_N) (a b : sx_L) : Bool := sx_leq a b || (sx_p N (sx_sub a b) && sx_p N (sx_sub b a))
theorem sx_qe_ok {E : sx_E} {F : sx_F} {r : Nat → Int} {N : sx_N} {M : nt_M} {a b : sx_L} (h3 : sx_on E F r N M) (h : sx_qe N a b = true) : sx_e r a = sx_e r b := by
  unfold sx_qe at h
  rw [Bool.or_eq_true, Bool.and_eq_true] at h
  rcases h with h | ⟨h, k⟩
  · rw [sx_leq_ok h]
  · have x := sx_p_ok h3 h
    have y := sx_p_ok h3 k
    rw [sx_sub_e] at x y
    omega
def sx_vV (N : sx_N) (gf : Nat → Nat) (zf : Nat → sx_L) (p a : sx_V) : Bool := match p.1 with
  | 0 => Nat.beq a.1 0 && sx_qe N (sx_sb zf p.2.2) a.2.2
  | 1 => Nat.beq a.1 1 && sx_qe N (sx_sb zf p.2.2) a.2.2
  | 2 => Nat.beq a.1 2 && Nat.beq (gf p.2.1) a.2.1
  | 3 => Nat.beq a.1 3
  | 5 => Nat.beq a.1 5 && Nat.beq p.2.1 a.2.1
  | _ => false
theorem sx_vV_ok {E : sx_E} {F : sx_F} {r : Nat → Int} {N : sx_N} {M : nt_M} {gf : Nat → Nat} {zf : Nat → sx_L} {p a : sx_V} {v : Value} (h3 : sx_on E F r N M) (h : sx_vV N gf zf p a = true) (hv : sx_v F.1 r a v) : sx_v (fun g => F.1 (gf g)) (sx_rf r zf) p v := by
  obtain ⟨pk, pb, pL⟩ := p
  obtain ⟨ak, ab, aL⟩ := a
  unfold sx_vV at h
  dsimp only at h
  split at h
  · rw [Bool.and_eq_true] at h
    have e : ak = 0 := Nat.eq_of_beq_eq_true h.1
    subst e
    obtain ⟨x, rfl, hx⟩ := hv
    have q := sx_qe_ok h3 h.2
    rw [sx_sb_e] at q
    exact ⟨x, rfl, by rw [hx]; exact q.symm⟩
  · rw [Bool.and_eq_true] at h
    have e : ak = 1 := Nat.eq_of_beq_eq_true h.1
    subst e
    obtain ⟨x, rfl, hx⟩ := hv
    have q := sx_qe_ok h3 h.2
    rw [sx_sb_e] at q
    exact ⟨x, rfl, by rw [hx]; exact q.symm⟩
  · rw [Bool.and_eq_true] at h
    have e : ak = 2 := Nat.eq_of_beq_eq_true h.1
    have e2 : gf pb = ab := Nat.eq_of_beq_eq_true h.2
    subst e
    have hv : v = .ref (F.1 ab) := hv
    rw [← e2] at hv
    exact hv
  · have e : ak = 3 := Nat.eq_of_beq_eq_true h
    subst e
    exact hv
  · rw [Bool.and_eq_true] at h
    have e : ak = 5 := Nat.eq_of_beq_eq_true h.1
    have e2 : pb = ab := Nat.eq_of_beq_eq_true h.2
    subst e
    subst e2
    exact hv
  · cases h
def sx_vVs (N : sx_N) (gf : Nat → Nat) (zf : Nat → sx_L) : List sx_V → List sx_V → Bool
  | [], [] => true
  | p :: t, a :: u => sx_vV N gf zf p a && sx_vVs N gf zf t u
  | _, _ => false
theorem sx_vVs_ok {E : sx_E} {F : sx_F} {r : Nat → Int} {N : sx_N} {M : nt_M} {gf : Nat → Nat} {zf : Nat → sx_L} (h3 : sx_on E F r N M) : ∀ {ps as : List sx_V} {vs : List Value}, sx_vVs N gf zf ps as = true → sx_os F.1 r as vs → sx_os (fun g => F.1 (gf g)) (sx_rf r zf) ps vs
  | [], [], [], _, _ => trivial
  | p :: t, a :: u, v :: w, h, hv => by
    unfold sx_vVs at h
    rw [Bool.and_eq_true] at h
    exact ⟨sx_vV_ok h3 h.1 hv.1, sx_vVs_ok h3 h.2 hv.2⟩
  | _, a :: u, [], _, hv => hv.elim
  | _, [], v :: w, _, hv => hv.elim
  | [], _ :: _, _, h, _ => by cases h
  | _ :: _, [], _, h, _ => by cases h
/-- the rest of a pattern holds -/
def sx_vN (E : sx_E) (n : Nat) (N : sx_N) (gf : Nat → Nat) (zf : Nat → sx_L) (P : sx_N) : Bool :=
  P.1.all (fun q => match sx_get (bif Nat.blt q.1.1 100 then gf q.1.1 else q.1.1) (sx_sb zf q.1.2) N.1 with
    | some v => sx_qe N (sx_sb zf q.2) v && (bif Nat.blt q.1.1 100 then Nat.blt q.1.1 n && Nat.blt (gf q.1.1) 100 else (E.1.2.getD (q.1.1 - 100) []).all (fun h => Nat.beq (gf h) h))
    | none => false) &&
  (P.2.1.all (fun q => Nat.blt q.1.1 n && (Nat.ble q.2 n && (match sx_gtR (gf q.1.1) (sx_sb zf q.1.2) N.2.1 with
    | some k => Nat.beq k (match q.2 with | 0 => 0 | j + 1 => gf j + 1)
    | none => false))) &&
  (P.2.2.1.1.all (fun b => sx_p N (sx_sub (zf b.1) (b.2.1, [])) && sx_p N (sx_sub (b.2.2, []) (zf b.1))) &&
  P.2.2.1.2.all (fun C => sx_p N (sx_sb zf C))))
theorem sx_vN_ok {E EK : sx_E} {F : sx_F} {r : Nat → Int} {N P : sx_N} {M : nt_M} {gf : Nat → Nat} {zf : Nat → sx_L} (M0 : nt_M) (r0 : Nat → Int) (h3 : sx_on E F r N M) (h : sx_vN E EK.2.1.length N gf zf P = true) : sx_oi EK (fun g => F.1 (gf g), M0, r0, F.2.2.2) (sx_rf r zf) P.1 M ∧ sx_or EK (fun g => F.1 (gf g)) (sx_rf r zf) P.2.1 M ∧ sx_ob (sx_rf r zf) P.2.2.1.1 ∧ sx_oc (sx_rf r zf) P.2.2.1.2 := by
  unfold sx_vN at h
  rw [Bool.and_eq_true, Bool.and_eq_true, Bool.and_eq_true] at h
  obtain ⟨l1, l2, l3, l4⟩ := h
  refine ⟨fun q hq => ?_, fun q hq => ?_, fun b hb => ?_, fun C hC => ?_⟩
  · have l := List.all_eq_true.mp l1 q hq
    split at l
    · rename_i v hv
      rw [Bool.and_eq_true] at l
      have e1 := sx_qe_ok h3 l.1
      have e2 := (h3.2.2.1 _ (sx_get_in hv)).2
      dsimp only at e2
      rw [sx_sb_e] at e1 e2
      cases e : Nat.blt q.1.1 100 with
      | true =>
        rw [e, cond_true] at l e2
        rw [Bool.and_eq_true] at l
        have g1 : q.1.1 < EK.2.1.length := Nat.blt_eq.mp l.2.1
        have g2 : gf q.1.1 < 100 := Nat.blt_eq.mp l.2.2
        have g3 : q.1.1 < 100 := Nat.blt_eq.mp e
        refine ⟨Or.inl g1, ?_⟩
        rw [e1, ← e2]
        unfold sx_rd
        have n1 : ¬ 100 ≤ q.1.1 := by omega
        have n2 : ¬ 100 ≤ gf q.1.1 := by omega
        rw [if_neg n1, if_neg n2]
      | false =>
        rw [e, cond_false] at l e2
        have g3 : 100 ≤ q.1.1 := by
          have : ¬ q.1.1 < 100 := fun k => by rw [sx_blt k] at e; cases e
          omega
        refine ⟨Or.inr g3, ?_⟩
        rw [e1, ← e2]
        unfold sx_rd
        rw [if_pos g3, if_pos g3]
        refine h3.1.1 _ _ _ _ fun h' hh j hj => ?_
        have := Nat.eq_of_beq_eq_true (List.all_eq_true.mp l.2 h' hh)
        show nt_I M (F.1 (gf h')) j = nt_I M (F.1 h') j
        rw [this]
    · cases l
  · have l := List.all_eq_true.mp l2 q hq
    rw [Bool.and_eq_true, Bool.and_eq_true] at l
    obtain ⟨a1, a2, a3⟩ := l
    have a1 : q.1.1 < EK.2.1.length := Nat.blt_eq.mp a1
    have a2 : q.2 ≤ EK.2.1.length := Nat.le_of_ble_eq_true a2
    split at a3
    · rename_i k hk
      have a3 := Nat.eq_of_beq_eq_true a3
      obtain ⟨b1, b2, b3⟩ := h3.2.2.2.1 _ (sx_gtR_in hk)
      dsimp only at b2 b3
      rw [sx_sb_e] at b2 b3
      refine ⟨⟨a1, a2⟩, b2, ?_⟩
      rw [b3, a3]
      obtain ⟨q1, q2⟩ := q
      cases q2 with
      | zero => rfl
      | succ j => rfl
    · cases a3
  · have l := List.all_eq_true.mp l3 b hb
    rw [Bool.and_eq_true] at l
    have x := sx_p_ok h3 l.1
    have y := sx_p_ok h3 l.2
    rw [sx_sub_e, sx_c_e] at x y
    unfold sx_rf
    omega
  · have l := sx_p_ok h3 (List.all_eq_true.mp l4 C hC)
    rw [sx_sb_e] at l
    exact l
def sx_deq (p q : Nat × Int × Int × Nat) : Bool := Nat.beq p.1 q.1 && (decide (p.2.1 = q.2.1) && (decide (p.2.2.1 = q.2.2.1) && Nat.beq p.2.2.2 q.2.2.2))
theorem sx_deq_ok {p q : Nat × Int × Int × Nat} (h : sx_deq p q = true) : p = q := by
  unfold sx_deq at h
  rw [Bool.and_eq_true, Bool.and_eq_true, Bool.and_eq_true, decide_eq_true_eq, decide_eq_true_eq] at h
  exact Prod.ext (Nat.eq_of_beq_eq_true h.1) (Prod.ext h.2.1 (Prod.ext h.2.2.1 (Nat.eq_of_beq_eq_true h.2.2.2)))
/-- regions are regions of ours, and others are others -/
def sx_vD (E : sx_E) (gf : Nat → Nat) : Nat → sx_D → Bool
  | _, [] => true
  | i, q :: t => (match E.2.1[gf i]? with | some p => sx_deq p q | none => false) && sx_vD E gf (i + 1) t
theorem sx_vD_ok {E : sx_E} {gf : Nat → Nat} : ∀ (l : sx_D) (i : Nat), sx_vD E gf i l = true → ∀ k q, l[k]? = some q → E.2.1[gf (i + k)]? = some q
  | [], _, _, k, q, h => by cases k <;> cases h
  | p :: t, i, h, k, q, hk => by
    unfold sx_vD at h
    rw [Bool.and_eq_true] at h
    cases k with
    | zero =>
      have e : some p = some q := hk
      cases e
      have h1 := h.1
      split at h1
      · rename_i p' hp
        rw [← sx_deq_ok h1]
        exact hp
      · cases h1
    | succ k =>
      have := sx_vD_ok t (i + 1) h.2 k q hk
      rw [show i + (k + 1) = i + 1 + k from by omega]
      exact this
def sx_nd : List Nat → Bool
  | [] => true
  | a :: t => t.all (fun b => !Nat.beq a b) && sx_nd t
theorem sx_nd_ok : ∀ (l : List Nat), sx_nd l = true → ∀ (i j a : Nat), l[i]? = some a → l[j]? = some a → i = j
  | [], _, i, j, a, h, _ => by cases i <;> cases h
  | b :: t, h, i, j, a, hi, hj => by
    unfold sx_nd at h
    rw [Bool.and_eq_true] at h
    have key : ∀ k, t[k]? = some b → False := fun k hk => by
      have := List.all_eq_true.mp h.1 b (List.mem_of_getElem? hk)
      rw [Nat.beq_refl] at this
      cases this
    cases i with
    | zero =>
      have e : some b = some a := hi
      cases e
      cases j with
      | zero => rfl
      | succ j => exact (key j hj).elim
    | succ i =>
      cases j with
      | zero =>
        have e : some b = some a := hj
        cases e
        exact (key i hi).elim
      | succ j => rw [sx_nd_ok t h.2 i j a hi hj]
theorem sx_inj_ok {gf : Nat → Nat} {n : Nat} (h : sx_nd ((List.range n).map gf) = true) {i j : Nat} (hi : i < n) (hj : j < n) (e : gf i = gf j) : i = j := by
  refine sx_nd_ok _ h i j (gf j) ?_ ?_
  · rw [List.getElem?_map, List.getElem?_range hi, ← e]; rfl
  · rw [List.getElem?_map, List.getElem?_range hj]; rfl
end
section
/-! a call by its contract -/
def sx_zq (zf : Nat → sx_L) (n0 base : Nat) (i : Nat) : sx_L := bif Nat.blt i n0 then zf i else (0, [(base + (i - n0), 1)])
def sx_pg (gf : Nat → Nat) (g : Nat) : Nat := bif Nat.blt g 100 then gf g else g
def sx_pr2 (gf : Nat → Nat) (k : Nat) : Nat := match k with
  | 0 => 0
  | j + 1 => gf j + 1
/-- ints that stand over a call -/
def sx_kI (E : sx_E) (mo : List (Nat × Int × Int)) (gf : Nat → Nat) (N : sx_N) (q : (Nat × sx_L) × sx_L) : Bool := bif Nat.ble 100 q.1.1 then mo.all (fun m => !((E.1.2.getD (q.1.1 - 100) []).any (fun h => Nat.beq h (gf m.1))) || sx_p N (sx_sub (m.2.1, []) q.1.2)) else mo.all (fun m => !Nat.beq (gf m.1) q.1.1 || (sx_p N (sx_sub (m.2.1 - 1, []) q.1.2) || sx_p N (sx_sub q.1.2 (m.2.2 + 1, []))))
def sx_kR (rm : List (Nat × Nat)) (gf : Nat → Nat) (N : sx_N) (q : (Nat × sx_L) × Nat) : Bool := rm.all (fun m => !Nat.beq (gf m.1) q.1.1 || sx_nq N q.1.2 ((m.2 : Int), []))
def sx_pst (E : sx_E) (mo : List (Nat × Int × Int)) (rm : List (Nat × Nat)) (n0 : Nat) (gf : Nat → Nat) (zf : Nat → sx_L) (N P : sx_N) : sx_N := sx_am (P.2.2.1.2.map (sx_sb (sx_zq zf n0 N.2.2.2))) (P.1.map (fun q => ((sx_pg gf q.1.1, sx_sb (sx_zq zf n0 N.2.2.2) q.1.2), sx_sb (sx_zq zf n0 N.2.2.2) q.2)) ++ N.1.filter (sx_kI E mo gf N), P.2.1.map (fun q => ((gf q.1.1, sx_sb (sx_zq zf n0 N.2.2.2) q.1.2), sx_pr2 gf q.2)) ++ N.2.1.filter (sx_kR rm gf N), ((P.2.2.1.1.filter (fun b => Nat.ble n0 b.1)).map (fun b => (N.2.2.2 + (b.1 - n0), b.2)) ++ N.2.2.1.1, N.2.2.1.2), N.2.2.2 + (P.2.2.2 - n0))
/-- what may change there may change here -/
def sx_vm (E : sx_E) (mo : List (Nat × Int × Int)) (rm : List (Nat × Nat)) (n : Nat) (gf : Nat → Nat) : Bool := mo.all (fun m => Nat.blt m.1 n && E.2.2.1.any (fun e => Nat.beq e.1 (gf m.1) && (decide (e.2.1 ≤ m.2.1) && decide (m.2.2 ≤ e.2.2)))) && rm.all (fun m => Nat.blt m.1 n && E.2.2.2.1.any (fun e => Nat.beq e.1 (gf m.1) && Nat.beq e.2 m.2))
/-- of ghosts: the same regions -/
def sx_vg (E : sx_E) (gf : Nat → Nat) (c : sx_I) : Bool := c.all (fun q => Nat.blt q.1.1 100 || (E.1.2.getD (q.1.1 - 100) []).all (fun h => Nat.beq (gf h) h))
theorem sx_pst_ok {E EK : sx_E} {F : sx_F} {r rq : Nat → Int} {N P : sx_N} {M M' : nt_M} {gf : Nat → Nat} {zf : Nat → sx_L} {r0 : Nat → Int} {n0 : Nat} (hT : EK.1 = E.1) (hgd : sx_gd E = true) (hl : E.2.1.length ≤ 100) (hlk : EK.2.1.length ≤ 100) (hD : ∀ k q, EK.2.1[k]? = some q → E.2.1[gf k]? = some q) (hm : sx_vm E EK.2.2.1 EK.2.2.2.1 EK.2.1.length gf = true) (hg : sx_vg E gf P.1 = true) (hr : ∀ i, sx_rf r (sx_zq zf n0 N.2.2.2) i = rq i) (hn : sx_on E F r N M) (hk : sx_on EK (fun g => F.1 (gf g), M, r0, F.2.2.2) rq P M') : sx_on E F r (sx_pst E EK.2.2.1 EK.2.2.2.1 n0 gf zf N P) M' := by
  obtain ⟨a0, ⟨a1, a2⟩, a3, a4, ⟨a5, a5'⟩, a6, a7⟩ := hn
  have hn : sx_on E F r N M := ⟨a0, ⟨a1, a2⟩, a3, a4, ⟨a5, a5'⟩, a6, a7⟩
  obtain ⟨b0, ⟨b1, b2⟩, b3, b4, ⟨b5, b5'⟩, b6, ⟨⟨f1, f2, f3, f4⟩, f5, f6, f7⟩⟩ := hk
  have hrf : sx_rf r (sx_zq zf n0 N.2.2.2) = rq := funext hr
  have hsb : ∀ L, sx_e r (sx_sb (sx_zq zf n0 N.2.2.2) L) = sx_e rq L := fun L => by rw [sx_sb_e, hrf]
  have hlt : ∀ k, k < EK.2.1.length → gf k < E.2.1.length := fun k hk => by
    have e := List.getElem?_eq_getElem hk
    exact (List.getElem?_eq_some_iff.mp (hD k _ e)).1
  unfold sx_vm at hm
  rw [Bool.and_eq_true] at hm
  -- ints outside of what may change
  have hI : ∀ (a j : Nat), (∀ m ∈ EK.2.2.1, m.1 < EK.2.1.length → ¬ (a = F.1 (gf m.1) ∧ m.2.1 ≤ (j : Int) ∧ (j : Int) ≤ m.2.2)) → nt_I M' a j = nt_I M a j := fun a j h => f5 a j h
  refine sx_am_ok (N := (P.1.map (fun q => ((sx_pg gf q.1.1, sx_sb (sx_zq zf n0 N.2.2.2) q.1.2), sx_sb (sx_zq zf n0 N.2.2.2) q.2)) ++ N.1.filter (sx_kI E EK.2.2.1 gf N), P.2.1.map (fun q => ((gf q.1.1, sx_sb (sx_zq zf n0 N.2.2.2) q.1.2), sx_pr2 gf q.2)) ++ N.2.1.filter (sx_kR EK.2.2.2.1 gf N), ((P.2.2.1.1.filter (fun b => Nat.ble n0 b.1)).map (fun b => (N.2.2.2 + (b.1 - n0), b.2)) ++ N.2.2.1.1, N.2.2.1.2), N.2.2.2 + (P.2.2.2 - n0))) ⟨a0, ⟨by rw [f1]; exact a1, fun k q hq => ?_⟩, fun q hq => ?_, fun q hq => ?_, ⟨fun q hq => ?_, a5'⟩, a6, ?_⟩ ?_
  · obtain ⟨c1, c2, c3, c4, c5⟩ := a2 k q hq
    refine ⟨by rw [f1]; exact c1, by rw [f3]; exact c2, by rw [f4]; exact c3, by rw [f4]; exact c4, fun j => ?_⟩
    by_cases e : ∃ g, g < EK.2.1.length ∧ gf g = k
    · obtain ⟨g, g1, g2⟩ := e
      have e1 := List.getElem?_eq_getElem g1
      have e2 := hD g _ e1
      rw [g2, hq] at e2
      obtain ⟨d1, d2, d3, d4, d5⟩ := b2 g _ e1
      have d5 := d5 j
      rw [← Option.some.inj e2, hT] at d5
      dsimp only at d5
      rw [g2] at d5
      exact d5
    · rw [hI _ j fun m hm' hm2 hh => e ⟨m.1, hm2, a0.2 _ _ (hlt _ hm2) (List.getElem?_eq_some_iff.mp hq).1 hh.1.symm⟩]
      exact c5 j
  · rcases List.mem_append.mp hq with q1 | q1
    · obtain ⟨p, hp, rfl⟩ := List.mem_map.mp q1
      obtain ⟨c1, c2⟩ := b3 p hp
      dsimp only
      rw [hsb, hsb, ← c2]
      unfold sx_pg
      cases e : Nat.blt p.1.1 100 with
      | true =>
        rw [cond_true]
        have e : p.1.1 < 100 := Nat.blt_eq.mp e
        have c3 : p.1.1 < EK.2.1.length := by
          rcases c1 with c | c
          · exact c
          · omega
        have c4 := hlt _ c3
        refine ⟨Or.inl c4, ?_⟩
        unfold sx_rd
        have n1 : ¬ 100 ≤ p.1.1 := by omega
        have n2 : ¬ 100 ≤ gf p.1.1 := by omega
        rw [if_neg n1, if_neg n2]
      | false =>
        rw [cond_false]
        have g3 : 100 ≤ p.1.1 := by
          have : ¬ p.1.1 < 100 := fun k => by rw [sx_blt k] at e; cases e
          omega
        refine ⟨Or.inr g3, ?_⟩
        unfold sx_rd
        rw [if_pos g3, if_pos g3]
        refine a0.1 _ _ _ _ fun h' hh j hj => ?_
        have hg := List.all_eq_true.mp hg p hp
        rw [e, Bool.false_or] at hg
        have := Nat.eq_of_beq_eq_true (List.all_eq_true.mp hg h' hh)
        show nt_I M' (F.1 h') j = nt_I M' (F.1 (gf h')) j
        rw [this]
    · obtain ⟨q1, q2⟩ := List.mem_filter.mp q1
      obtain ⟨c1, c2⟩ := a3 q q1
      refine ⟨c1, ?_⟩
      rw [← c2]
      unfold sx_kI at q2
      unfold sx_rd
      by_cases k : 100 ≤ q.1.1
      · rw [if_pos k, if_pos k]
        rw [show Nat.ble 100 q.1.1 = true from Nat.ble_eq_true_of_le k, cond_true] at q2
        refine a0.1 _ _ _ _ fun h' hh j hj => ?_
        refine hI _ j fun m hm' hm2 hz => ?_
        have hh' : h' < E.2.1.length := by
          unfold sx_gd at hgd
          rw [List.getD_eq_getElem?_getD] at hh
          cases ee : E.1.2[q.1.1 - 100]? with
          | none => rw [ee] at hh; cases hh
          | some l =>
            rw [ee] at hh
            exact Nat.blt_eq.mp (List.all_eq_true.mp (List.all_eq_true.mp hgd l (List.mem_of_getElem? ee)) h' hh)
        have e := a0.2 _ _ hh' (hlt _ hm2) hz.1
        have w := List.all_eq_true.mp q2 m hm'
        rw [Bool.or_eq_true] at w
        rcases w with w | w
        · rw [show (E.1.2.getD (q.1.1 - 100) []).any (fun h => Nat.beq h (gf m.1)) = true from List.any_eq_true.mpr ⟨h', hh, by rw [e]; exact Nat.beq_refl _⟩] at w
          cases w
        · have := sx_p_ok hn w
          rw [sx_sub_e, sx_c_e] at this
          omega
      · rw [if_neg k, if_neg k]
        by_cases ki : sx_e r q.1.2 < 0
        · rw [if_pos ki, if_pos ki, f4]
        · rw [if_neg ki, if_neg ki]
          rw [show Nat.ble 100 q.1.1 = false from by
            cases e : Nat.ble 100 q.1.1 with
            | false => rfl
            | true => exact absurd (Nat.le_of_ble_eq_true e) k, cond_false] at q2
          rw [hI _ _ fun m hm' hm2 hz => ?_]
          have e := a0.2 _ _ (c1.resolve_right k) (hlt _ hm2) hz.1
          have w := List.all_eq_true.mp q2 m hm'
          rw [← e, Nat.beq_refl, Bool.not_true, Bool.false_or, Bool.or_eq_true] at w
          rcases w with w | w
          · have := sx_p_ok hn w
            rw [sx_sub_e, sx_c_e] at this
            omega
          · have := sx_p_ok hn w
            rw [sx_sub_e, sx_c_e] at this
            omega
  · rcases List.mem_append.mp hq with q1 | q1
    · obtain ⟨p, hp, rfl⟩ := List.mem_map.mp q1
      obtain ⟨⟨c1, c1'⟩, c2, c3⟩ := b4 p hp
      dsimp only
      rw [hsb]
      refine ⟨⟨hlt _ c1, ?_⟩, c2, ?_⟩
      · unfold sx_pr2
        split
        · exact Nat.zero_le _
        · rename_i j e
          have := hlt j (by omega)
          omega
      · rw [c3]
        unfold sx_pr2
        split
        · rename_i e; rw [e]; rfl
        · rename_i j e; rw [e]; rfl
    · obtain ⟨q1, q2⟩ := List.mem_filter.mp q1
      obtain ⟨c1, c2, c3⟩ := a4 q q1
      refine ⟨c1, c2, ?_⟩
      rw [← c3]
      refine f6 _ _ fun m hm' hm2 hz => ?_
      have e := a0.2 _ _ c1.1 (hlt _ hm2) hz.1
      have w := List.all_eq_true.mp q2 m hm'
      rw [← e, Nat.beq_refl, Bool.not_true, Bool.false_or] at w
      have := sx_nq_ok hn w
      rw [sx_c_e] at this
      have hz2 := hz.2
      omega
  · rcases List.mem_append.mp hq with q1 | q1
    · obtain ⟨b, hb, rfl⟩ := List.mem_map.mp q1
      obtain ⟨hb1, hb2⟩ := List.mem_filter.mp hb
      have hb2 : n0 ≤ b.1 := Nat.le_of_ble_eq_true hb2
      have k := b5 b hb1
      have e := hr b.1
      unfold sx_rf sx_zq at e
      rw [sx_nblt (by omega), cond_false, sx_s_e] at e
      dsimp only
      rw [e]
      exact k
    · exact a5 q q1
  · obtain ⟨g1, g5, g6, g7⟩ := a7
    refine ⟨⟨f1.trans g1.1, f2.trans g1.2.1, f3.trans g1.2.2.1, f4.trans g1.2.2.2⟩, fun a j hj => ?_, fun a j hj => ?_, fun a ha => ?_⟩
    · rw [← g5 a j hj]
      refine hI a j fun m hm' hm2 hz => ?_
      have w := List.all_eq_true.mp hm.1 m hm'
      rw [Bool.and_eq_true] at w
      obtain ⟨e, he, he2⟩ := List.any_eq_true.mp w.2
      rw [Bool.and_eq_true, Bool.and_eq_true, decide_eq_true_eq, decide_eq_true_eq] at he2
      have e3 := Nat.eq_of_beq_eq_true he2.1
      exact hj e he (by rw [e3]; exact hlt _ hm2) ⟨by rw [e3]; exact hz.1, by omega, by omega⟩
    · rw [← g6 a j hj]
      refine f6 a j fun m hm' hm2 hz => ?_
      have w := List.all_eq_true.mp hm.2 m hm'
      rw [Bool.and_eq_true] at w
      obtain ⟨e, he, he2⟩ := List.any_eq_true.mp w.2
      rw [Bool.and_eq_true] at he2
      have e3 := Nat.eq_of_beq_eq_true he2.1
      have e4 := Nat.eq_of_beq_eq_true he2.2
      exact hj e he (by rw [e3]; exact hlt _ hm2) ⟨by rw [e3]; exact hz.1, by rw [e4]; exact hz.2⟩
    · rw [← g7 a ha]
      exact f7 a fun g hg => ha _ (hlt g hg)
  · intro L hL
    obtain ⟨C, hC, rfl⟩ := List.mem_map.mp hL
    rw [hsb]
    exact b5' C hC
/-- what a call hands back -/
def sx_mV (gf : Nat → Nat) (z : Nat → sx_L) (v : sx_V) : sx_V := (v.1, bif Nat.beq v.1 2 then gf v.2.1 else v.2.1, sx_sb z v.2.2)
theorem sx_mV_ok {pl : Nat → Nat} {r rq : Nat → Int} {gf : Nat → Nat} {z : Nat → sx_L} {a : sx_V} {v : Value} (hr : ∀ L, sx_e r (sx_sb z L) = sx_e rq L) (h : sx_v (fun g => pl (gf g)) rq a v) : sx_v pl r (sx_mV gf z a) v := by
  obtain ⟨k, b, L⟩ := a
  unfold sx_v at h
  unfold sx_v sx_mV
  dsimp only at h ⊢
  rw [hr]
  split at h
  · exact h
  · exact h
  · exact h
  · exact h
  · exact h
  · exact h
  · exact h.elim
def sx_kck (E : sx_E) (K : sx_K) (ls : List (Nat × sx_V)) (st args : List sx_V) (o : sx_Z × sx_N) : Bool := sx_gd E && (Nat.ble E.2.1.length 100 && (Nat.ble K.2.2.1.length 100 && (sx_vD E (sx_gf o.1.1) 0 K.2.2.1 && (sx_nd ((List.range K.2.2.1.length).map (sx_gf o.1.1)) && (sx_vVs o.2 (sx_gf o.1.1) (sx_zf o.1.2) K.2.2.2.2.1 args && (sx_vN E K.2.2.1.length o.2 (sx_gf o.1.1) (sx_zf o.1.2) K.2.2.2.2.2.1 && (sx_vm E K.2.2.2.1.1 K.2.2.2.1.2 K.2.2.1.length (sx_gf o.1.1) && (K.2.2.2.2.2.2.all (fun p => sx_vg E (sx_gf o.1.1) p.2.1) && ((List.range K.2.2.2.2.2.1.2.2.2).all (fun i => sx_lw o.2.2.2.2 (sx_zf o.1.2 i)) && sx_fA E.2.2.2.2 ls st o.2)))))))))
def sx_kc (E : sx_E) (K : sx_K) (ls : List (Nat × sx_V)) (st args : List sx_V) (N : sx_N) : Option (sx_Z × sx_N) := match sx_rds E ls st K.2.2.2.2.2.1.1 (sx_bR N K.2.2.2.2.2.1.2.1 (sx_bVs K.2.2.2.2.1 args ([], []))) N with
  | some o => bif sx_kck E K ls st args o then some o else none
  | none => none
theorem sx_os_td {pl : Nat → Nat} {r : Nat → Int} : ∀ (n : Nat) {st : List sx_V} {cs : List Value}, sx_os pl r st cs → sx_os pl r (st.take n) (cs.take n) ∧ sx_os pl r (st.drop n) (cs.drop n)
  | 0, st, cs, h => ⟨trivial, h⟩
  | n + 1, [], [], _ => ⟨trivial, trivial⟩
  | n + 1, a :: t, v :: u, h => ⟨⟨h.1, (sx_os_td n h.2).1⟩, (sx_os_td n h.2).2⟩
  | _ + 1, [], _ :: _, h => h.elim
  | _ + 1, _ :: _, [], h => h.elim
theorem sx_os_ap {pl : Nat → Nat} {r : Nat → Int} : ∀ {s1 s2 : List sx_V} {c1 c2 : List Value}, sx_os pl r s1 c1 → sx_os pl r s2 c2 → sx_os pl r (s1 ++ s2) (c1 ++ c2)
  | [], _, [], _, _, h => h
  | _ :: _, _, _ :: _, _, h1, h2 => ⟨h1.1, sx_os_ap h1.2 h2⟩
  | [], _, _ :: _, _, h, _ => h.elim
  | _ :: _, _, [], _, h, _ => h.elim
theorem sx_os_rv {pl : Nat → Nat} {r : Nat → Int} : ∀ {st : List sx_V} {cs : List Value}, sx_os pl r st cs → sx_os pl r st.reverse cs.reverse
  | [], [], _ => trivial
  | a :: t, v :: u, h => by
    rw [List.reverse_cons, List.reverse_cons]
    exact sx_os_ap (sx_os_rv h.2) ⟨h.1, trivial⟩
  | [], _ :: _, h => h.elim
  | _ :: _, [], h => h.elim
theorem sx_kc_ok {X : nt_X} {E : sx_E} {F : sx_F} {r : Nat → Int} {K : sx_K} {d n : Nat} {ls : List (Nat × sx_V)} {st : List sx_V} {N : sx_N} {cl : nt_V} {cs : List Value} {M : nt_M} {o : sx_Z × sx_N} (hG : F.2.2.2 = sx_GG E.1) (hK : sx_KOK X E.1 K) (hd : K.2.1 ≤ d) (h : sx_kc E K ls st (st.take n).reverse N = some o) (h1 : sx_ol F.1 r ls cl) (h2 : sx_os F.1 r st cs) (h3 : sx_on E F r N M) : ∃ out, nt_ev X d K.1 (cs.take n).reverse M out ∧ ∃ p ∈ K.2.2.2.2.2.2, ∃ r2, sx_ol F.1 r2 ls cl ∧ sx_os F.1 r2 st cs ∧ sx_ov F.1 r2 (p.1.map (sx_mV (sx_gf o.1.1) (sx_zq (sx_zf o.1.2) K.2.2.2.2.2.1.2.2.2 o.2.2.2.2))) out.1 ∧ sx_on E F r2 (sx_pst E K.2.2.2.1.1 K.2.2.2.1.2 K.2.2.2.2.2.1.2.2.2 (sx_gf o.1.1) (sx_zf o.1.2) o.2 p.2) out.2 := by
  unfold sx_kc at h
  split at h
  · rename_i o1 ho
    obtain ⟨hc, h⟩ := sx_bif h
    cases h
    unfold sx_kck at hc
    simp only [Bool.and_eq_true] at hc
    obtain ⟨v0, v1, v2, v3, v4, v5, v6, v7, v8, v9, v10⟩ := hc
    obtain ⟨r1, k1, k2, k3⟩ := sx_rds_ok _ _ _ _ ho h1 h2 h3
    have v1 : E.2.1.length ≤ 100 := Nat.le_of_ble_eq_true v1
    have v2 : K.2.2.1.length ≤ 100 := Nat.le_of_ble_eq_true v2
    have hD : ∀ k q, (sx_KE E.1 K).2.1[k]? = some q → E.2.1[sx_gf o.1.1 k]? = some q := fun k q hq => by
      have := sx_vD_ok _ _ v3 k q hq
      rw [Nat.zero_add] at this
      exact this
    have hlt : ∀ k, k < K.2.2.1.length → sx_gf o.1.1 k < E.2.1.length := fun k hk => by
      have e := List.getElem?_eq_getElem hk
      exact (List.getElem?_eq_some_iff.mp (hD k _ e)).1
    have hargs := sx_vVs_ok k3 v5 (sx_os_rv (sx_os_td n k2).1)
    obtain ⟨w1, w2, w3, w4⟩ := sx_vN_ok (EK := sx_KE E.1 K) M (sx_rf r1 (sx_zf o.1.2)) k3 v6
    have hon : sx_on (sx_KE E.1 K) (fun g => F.1 (sx_gf o.1.1 g), M, sx_rf r1 (sx_zf o.1.2), F.2.2.2) (sx_rf r1 (sx_zf o.1.2)) K.2.2.2.2.2.1 M := by
      refine ⟨⟨k3.1.1, fun g h hg hh e => ?_⟩, ⟨k3.2.1.1, fun g q hq => k3.2.1.2 _ q (hD g q hq)⟩, w1, w2, ⟨w3, w4⟩, fun s _ => rfl, sx_fm_rf⟩
      exact sx_inj_ok v4 hg hh (k3.1.2 _ _ (hlt g hg) (hlt h hh) e)
    obtain ⟨out, hev, p, hp, rq, hov, hpo⟩ := hK (fun g => F.1 (sx_gf o.1.1 g), M, sx_rf r1 (sx_zf o.1.2), F.2.2.2) (sx_rf r1 (sx_zf o.1.2)) _ M d hd rfl rfl hG hargs hon
    have hup : ∀ s, s < o.2.2.2.2 → (fun s => if s < o.2.2.2.2 then r1 s else rq (s - o.2.2.2.2 + K.2.2.2.2.2.1.2.2.2)) s = r1 s := fun s hs => if_pos hs
    have hr : ∀ i, sx_rf (fun s => if s < o.2.2.2.2 then r1 s else rq (s - o.2.2.2.2 + K.2.2.2.2.2.1.2.2.2)) (sx_zq (sx_zf o.1.2) K.2.2.2.2.2.1.2.2.2 o.2.2.2.2) i = rq i := by
      intro i
      unfold sx_rf sx_zq
      by_cases hi : i < K.2.2.2.2.2.1.2.2.2
      · rw [sx_blt hi, cond_true, sx_e_up hup (List.all_eq_true.mp v9 i (List.mem_range.mpr hi))]
        exact (hpo.2.2.2.2.2.1 i hi).symm
      · rw [sx_nblt hi, cond_false, sx_s_e]
        show (if o.2.2.2.2 + (i - K.2.2.2.2.2.1.2.2.2) < o.2.2.2.2 then _ else _) = _
        rw [if_neg (by omega)]
        congr 1
        omega
    unfold sx_fA at v10
    rw [Bool.and_eq_true, Bool.and_eq_true] at v10
    obtain ⟨x1, x2, x3⟩ := v10
    refine ⟨out, hev, p, hp, _, sx_ol_up hup x1 k1, sx_os_up hup _ _ x2 k2, ?_, sx_pst_ok (EK := sx_KE E.1 K) rfl v0 v1 v2 hD v7 (List.all_eq_true.mp v8 p hp) hr (sx_on_up hup x3 k3) hpo⟩
    have hrf : sx_rf (fun s => if s < o.2.2.2.2 then r1 s else rq (s - o.2.2.2.2 + K.2.2.2.2.2.1.2.2.2)) (sx_zq (sx_zf o.1.2) K.2.2.2.2.2.1.2.2.2 o.2.2.2.2) = rq := funext hr
    have hq : ∀ L, sx_e (fun s => if s < o.2.2.2.2 then r1 s else rq (s - o.2.2.2.2 + K.2.2.2.2.2.1.2.2.2)) (sx_sb (sx_zq (sx_zf o.1.2) K.2.2.2.2.2.1.2.2.2 o.2.2.2.2) L) = sx_e rq L := fun L => by rw [sx_sb_e, hrf]
    cases hp1 : p.1 with
    | none =>
      rw [hp1] at hov
      cases ho1 : out.1 with
      | none => exact trivial
      | some v => rw [ho1] at hov; exact hov.elim
    | some a =>
      rw [hp1] at hov
      cases ho1 : out.1 with
      | none => rw [ho1] at hov; exact hov.elim
      | some v => rw [ho1] at hov; exact sx_mV_ok hq hov
  · cases h
end
section
/-! runs over states told by sums -/
abbrev sx_G : Type := List (sx_A ⊕ (Option sx_V × sx_N))
def sx_W (X : nt_X) (d mi : Nat) (Q : Option Value × nt_M → Prop) (c : nt_C) : Prop := ∃ o, nt_rn X d mi c o ∧ Q o
def sx_cat {α : Type} : List (Option (List α)) → Option (List α)
  | [] => some []
  | none :: _ => none
  | some a :: t => match sx_cat t with
    | some b => some (a ++ b)
    | none => none
theorem sx_cat_ok {α : Type} : ∀ {l : List (Option (List α))} {o : List α}, sx_cat l = some o → ∀ x ∈ l, ∃ a, x = some a ∧ ∀ z ∈ a, z ∈ o
  | [], _, _, _, h => by cases h
  | none :: _, _, h, _, _ => by cases h
  | some a :: t, o, h, x, hx => by
    unfold sx_cat at h
    split at h
    · rename_i b hb
      cases h
      rcases List.mem_cons.mp hx with e | e
      · exact ⟨a, e, fun z hz => List.mem_append_left _ hz⟩
      · obtain ⟨a', e1, e2⟩ := sx_cat_ok hb x e
        exact ⟨a', e1, fun z hz => List.mem_append_right _ (e2 z hz)⟩
    · cases h
def sx_rts : sx_G → Option (List (Option sx_V × sx_N))
  | [] => some []
  | .inr o :: t => (match sx_rts t with
    | some l => some (o :: l)
    | none => none)
  | .inl _ :: _ => none
theorem sx_rts_ok : ∀ {G : sx_G} {l : List (Option sx_V × sx_N)}, sx_rts G = some l → (∀ A, .inl A ∈ G → False) ∧ ∀ o, .inr o ∈ G → o ∈ l
  | [], l, _ => ⟨fun _ h => (by cases h), fun _ h => (by cases h)⟩
  | .inr o :: t, l, h => by
    unfold sx_rts at h
    split at h
    · rename_i l1 hl
      cases h
      obtain ⟨a, b⟩ := sx_rts_ok hl
      refine ⟨fun A hA => ?_, fun p hp => ?_⟩
      · rcases List.mem_cons.mp hA with e | e
        · cases e
        · exact a A e
      · rcases List.mem_cons.mp hp with e | e
        · cases e; exact List.mem_cons_self ..
        · exact List.mem_cons_of_mem _ (b p e)
    · cases h
  | .inl _ :: _, _, h => by cases h
def sx_args : Nat → List sx_V → List (Nat × sx_V)
  | _, [] => []
  | i, v :: t => (i, v) :: sx_args (bif sx_c2 v then i + 2 else i + 1) t
theorem sx_args_ge : ∀ {l : List sx_V} {i : Nat} {q : Nat × sx_V}, q ∈ sx_args i l → i ≤ q.1
  | [], _, _, h => by cases h
  | v :: t, i, q, h => by
    rcases List.mem_cons.mp h with e | e
    · rw [e]; exact Nat.le_refl _
    · have := sx_args_ge e
      cases k : sx_c2 v with
      | true => rw [k, cond_true] at this; omega
      | false => rw [k, cond_false] at this; omega
theorem sx_args_ok {pl : Nat → Nat} {r : Nat → Int} : ∀ {l : List sx_V} {vs : List Value} (i : Nat), sx_os pl r l vs → sx_ol pl r (sx_args i l) (lv_args i vs)
  | [], [], _, _ => fun _ h => by cases h
  | a :: t, v :: u, i, h => by
    intro q hq
    have c := sx_c2_ok h.1
    show ∃ w, nt_lk ((i, v) :: lv_args (if v.category = 2 then i + 2 else i + 1) u) q.1 = some w ∧ _
    rcases List.mem_cons.mp hq with e | e
    · rw [e]
      refine ⟨v, ?_, h.1⟩
      unfold nt_lk
      rw [if_pos rfl]
    · have g := sx_args_ge e
      have e2 : (if v.category = 2 then i + 2 else i + 1) = (bif sx_c2 a then i + 2 else i + 1) := by
        rw [c]
        cases sx_c2 a <;> rfl
      have g2 : ¬ i = q.1 := by
        cases k : sx_c2 a with
        | true => rw [k, cond_true] at g; omega
        | false => rw [k, cond_false] at g; omega
      unfold nt_lk
      rw [if_neg g2, e2]
      exact sx_args_ok _ h.2 q e
  | [], _ :: _, _, h => h.elim
  | _ :: _, [], _, h => h.elim
theorem sx_sl_len {pl : Nat → Nat} {r : Nat → Int} : ∀ {l : List sx_V} {vs : List Value}, sx_os pl r l vs → (lg_sl vs).length = sx_ct l
  | [], [], _ => rfl
  | a :: t, v :: u, h => by
    have c := sx_c2_ok h.1
    have e := sx_sl_len h.2
    unfold lg_sl at e ⊢
    rw [List.flatMap_cons, List.length_append, e]
    show _ = (bif sx_c2 a then 2 else 1) + sx_ct t
    cases k : sx_c2 a with
    | true =>
      rw [k] at c
      have c : v.category = 2 := c
      rw [if_pos c]; rfl
    | false =>
      rw [k] at c
      have c : v.category = 1 := c
      rw [if_neg (by rw [c]; decide)]; rfl
  | [], _ :: _, h => h.elim
  | _ :: _, [], h => h.elim
theorem sx_ct_rv : ∀ (l : List sx_V), sx_ct l.reverse = sx_ct l := by
  have ap : ∀ (a b : List sx_V), sx_ct (a ++ b) = sx_ct a + sx_ct b := by
    intro a b
    induction a with
    | nil => rw [List.nil_append]; show _ = 0 + _; omega
    | cons v t ih => show (bif sx_c2 v then 2 else 1) + sx_ct (t ++ b) = (bif sx_c2 v then 2 else 1) + sx_ct t + sx_ct b; rw [ih]; omega
  intro l
  induction l with
  | nil => rfl
  | cons v t ih => rw [List.reverse_cons, ap, ih]; show sx_ct t + ((bif sx_c2 v then 2 else 1) + 0) = (bif sx_c2 v then 2 else 1) + sx_ct t; omega
def sx_rcv (E : sx_E) (own : Nat) : List sx_V → Bool
  | (2, a, _) :: _ => (match E.2.1[a]? with
    | some p => Nat.beq p.1 own
    | none => false)
  | _ => false
/-- how many values a call takes -/
def sx_na (g q : Nat) : Nat := (nt_m g).2.2.2.2.2.1 + (if q = 0 then 0 else 1)
def sx_cq (E : sx_E) (dl g q : Nat) (st : List sx_V) : Bool := Nat.ble 1 dl && (Nat.blt g 239 && (Nat.beq (nt_m g).2.2.2.2.2.2.1 q && (Nat.ble (sx_na g q) st.length && (Nat.ble (sx_ct (st.take (sx_na g q))) (nt_m g).2.2.1 && (Nat.ble (sx_ct (st.drop (sx_na g q))) 8 && (bif Nat.beq q 1 then sx_rcv E (nt_m g).2.2.2.2.1 (st.take (sx_na g q)).reverse else Nat.beq q 0))))))
theorem sx_cq_ok {E : sx_E} {F : sx_F} {r : Nat → Int} {N : sx_N} {M : nt_M} {dl g q : Nat} {st : List sx_V} {cs : List Value} (h : sx_cq E dl g q st = true) (h2 : sx_os F.1 r st cs) (h3 : sx_on E F r N M) : 1 ≤ dl ∧ (q = 0 ∨ q = 1) ∧ nt_cq g q cs = some ((cs.take (sx_na g q)).reverse, cs.drop (sx_na g q)) ∧ (q = 1 → nt_rc M (nt_m g).2.2.2.2.1 (cs.take (sx_na g q)).reverse = true) := by
  unfold sx_cq at h
  simp only [Bool.and_eq_true] at h
  obtain ⟨c1, c2, c3, c4, c5, c6, c7⟩ := h
  have c2 : g < 239 := Nat.blt_eq.mp c2
  have c3 := Nat.eq_of_beq_eq_true c3
  have c4 := Nat.le_of_ble_eq_true c4
  have c5 := Nat.le_of_ble_eq_true c5
  have c6 := Nat.le_of_ble_eq_true c6
  obtain ⟨t1, t2⟩ := sx_os_td (sx_na g q) h2
  have t3 := sx_os_rv t1
  refine ⟨Nat.le_of_ble_eq_true c1, ?_, ?_, fun e => ?_⟩
  · cases k : Nat.beq q 1 with
    | true => exact Or.inr (Nat.eq_of_beq_eq_true k)
    | false => rw [k, cond_false] at c7; exact Or.inl (Nat.eq_of_beq_eq_true c7)
  · unfold nt_cq
    rw [show (nt_m g).2.2.2.2.2.1 + (if q = 0 then 0 else 1) = sx_na g q from rfl, if_pos]
    refine ⟨c2, c3, ?_, ?_, ?_⟩
    · rw [sx_os_len h2]; exact c4
    · rw [sx_sl_len t3, sx_ct_rv]; exact c5
    · rw [sx_ct_ok t2]; exact c6
  · rw [e] at c7 t3
    rw [show Nat.beq 1 1 = true from rfl, cond_true] at c7
    rw [e]
    generalize (st.take (sx_na g 1)).reverse = as at c7 t3
    unfold sx_rcv at c7
    split at c7
    · rename_i a z t
      obtain ⟨v, u, hu, hv, -⟩ := sx_os_c t3
      rw [hu]
      split at c7
      · rename_i p hp
        obtain ⟨b1, b2, -⟩ := h3.2.1.2 a p hp
        have hv : v = .ref (F.1 a) := hv
        rw [hv]
        exact nt_rcI b1 (b2.trans (Nat.eq_of_beq_eq_true c7))
      · cases c7
    · cases c7
def sx_kfd (Ks : List sx_K) (g : Nat) : List sx_K := Ks.filter (fun K => Nat.beq K.1 g)
def sx_try (E : sx_E) (ls : List (Nat × sx_V)) (st args : List sx_V) (N : sx_N) (dl : Nat) : List sx_K → Option (sx_K × (sx_Z × sx_N))
  | [] => none
  | K :: t => bif Nat.blt K.2.1 dl then (match sx_kc E K ls st args N with
    | some o => some (K, o)
    | none => sx_try E ls st args N dl t) else sx_try E ls st args N dl t
theorem sx_try_ok {E : sx_E} {ls : List (Nat × sx_V)} {st args : List sx_V} {N : sx_N} {dl : Nat} {p : sx_K × (sx_Z × sx_N)} : ∀ {l : List sx_K}, sx_try E ls st args N dl l = some p → p.1 ∈ l ∧ p.1.2.1 < dl ∧ sx_kc E p.1 ls st args N = some p.2
  | [], h => by cases h
  | K :: t, h => by
    unfold sx_try at h
    cases e : Nat.blt K.2.1 dl with
    | true =>
      rw [e, cond_true] at h
      split at h
      · rename_i o ho
        cases h
        exact ⟨List.mem_cons_self .., Nat.blt_eq.mp e, ho⟩
      · obtain ⟨a, b, c⟩ := sx_try_ok h
        exact ⟨List.mem_cons_of_mem _ a, b, c⟩
    | false =>
      rw [e, cond_false] at h
      obtain ⟨a, b, c⟩ := sx_try_ok h
      exact ⟨List.mem_cons_of_mem _ a, b, c⟩
abbrev sx_rec : Type := sx_E → List Nat → Bool → Nat → Nat → sx_A → Option sx_G
/-- the states behind a call by contract -/
def sx_aft (E : sx_E) (K : sx_K) (o : sx_Z × sx_N) (pc : Nat) (ls : List (Nat × sx_V)) (rest : List sx_V) : List sx_A := (K.2.2.2.2.2.2.map fun p => (pc, ls, (p.1.map (sx_mV (sx_gf o.1.1) (sx_zq (sx_zf o.1.2) K.2.2.2.2.2.1.2.2.2 o.2.2.2.2))).toList ++ rest, sx_pst E K.2.2.2.1.1 K.2.2.2.1.2 K.2.2.2.2.2.1.2.2.2 (sx_gf o.1.1) (sx_zf o.1.2) o.2 p.2)).filter (fun A => !sx_de A.2.2.2)
def sx_cl (Ks : List sx_K) (rc : sx_rec) (E : sx_E) (cuts : List Nat) (dl mi g q : Nat) (A : sx_A) : Option sx_G :=
  bif Nat.ble 1000 g then (match sx_nx E dl g q A.1 A.2.1 A.2.2.1 A.2.2.2 with
    | some As => sx_cat (As.map (rc E cuts false dl mi))
    | none => none)
  else bif sx_cq E dl g q A.2.2.1 then (match sx_kfd Ks g with
    | [] => bif sx_fA E.2.2.2.2 A.2.1 A.2.2.1 A.2.2.2 then (match rc (E.1, E.2.1, E.2.2.1, E.2.2.2.1, A.2.2.2.2.2.2) [] true (dl - 1) g (0, sx_args 0 (A.2.2.1.take (sx_na g q)).reverse, [], A.2.2.2) with
      | some G => (match sx_rts G with
        | some os => sx_cat (os.map fun o => rc E cuts false dl mi (A.1 + 3, A.2.1, o.1.toList ++ A.2.2.1.drop (sx_na g q), o.2))
        | none => none)
      | none => none) else none
    | Kl => (match sx_try E A.2.1 A.2.2.1 (A.2.2.1.take (sx_na g q)).reverse A.2.2.2 dl Kl with
      | some p => sx_cat ((sx_aft E p.1 p.2 (A.1 + 3) A.2.1 (A.2.2.1.drop (sx_na g q))).map (rc E cuts false dl mi))
      | none => none)) else none
def sx_gr (mi : Nat) (ins : Instr) (A : sx_A) : Option sx_G := match sx_ret mi ins A.2.2.1 A.2.2.2 with
  | some v => some [.inr (v, A.2.2.2)]
  | none => none
def sx_gi (Ks : List sx_K) (rc : sx_rec) (E : sx_E) (cuts : List Nat) (dl mi : Nat) (e : Nat × Instr × Nat × Nat) (A : sx_A) : Option sx_G := match e.2.1 with
  | .ireturn => sx_gr mi .ireturn A
  | .lreturn => sx_gr mi .lreturn A
  | .areturn => sx_gr mi .areturn A
  | .return_ => sx_gr mi .return_ A
  | .invokevirtual _ => sx_cl Ks rc E cuts dl mi e.2.2.1 1 A
  | .invokestatic _ => sx_cl Ks rc E cuts dl mi e.2.2.1 0 A
  | ins => bif nt_pl ins then (match sx_stp E mi e.2.2.1 e.2.2.2 ins A.1 A.2.1 A.2.2.1 A.2.2.2 with
    | some As => sx_cat (As.map (rc E cuts false dl mi))
    | none => none) else none
def sx_go (Ks : List sx_K) : Nat → sx_rec
  | 0, _, _, _, _, _, _ => none
  | f + 1, E, cuts, fst, dl, mi, A => bif !fst && cuts.any (fun k => Nat.beq k A.1) then some [.inl A] else (match nt_at mi A.1 with
    | none => none
    | some e => sx_gi Ks (sx_go Ks f) E cuts dl mi e A)
def sx_RS (X : nt_X) (Ks : List sx_K) (rc : sx_rec) : Prop := ∀ (E : sx_E) (cuts : List Nat) (fst : Bool) (dl mi : Nat) (A : sx_A) (G : sx_G), rc E cuts fst dl mi A = some G → ∀ (F : sx_F) (r : Nat → Int) (c : nt_C) (d : Nat) (Q : Option Value × nt_M → Prop), F.2.2.2 = sx_GG E.1 → (∀ K ∈ Ks, sx_KOK X E.1 K) → dl ≤ d → sx_ok E F r A c → (∀ A', .inl A' ∈ G → ∀ r' c', sx_ok E F r' A' c' → sx_W X d mi Q c') → (∀ o, .inr o ∈ G → ∀ r' out, sx_ov F.1 r' o.1 out.1 → sx_on E F r' o.2 out.2 → Q out) → sx_W X d mi Q c
theorem sx_sts {X : nt_X} {Ks : List sx_K} {rc : sx_rec} (hrc : sx_RS X Ks rc) {E : sx_E} {F : sx_F} {cuts : List Nat} {dl mi d : Nat} {As : List sx_A} {G : sx_G} {c : nt_C} {Q : Option Value × nt_M → Prop} (h : sx_cat (As.map (rc E cuts false dl mi)) = some G) (ha : sx_an E F As c) (hG : F.2.2.2 = sx_GG E.1) (hK : ∀ K ∈ Ks, sx_KOK X E.1 K) (hd : dl ≤ d) (hcut : ∀ A', .inl A' ∈ G → ∀ r' c', sx_ok E F r' A' c' → sx_W X d mi Q c') (hret : ∀ o, .inr o ∈ G → ∀ r' out, sx_ov F.1 r' o.1 out.1 → sx_on E F r' o.2 out.2 → Q out) : sx_W X d mi Q c := by
  obtain ⟨A, hA, r, hok⟩ := ha
  obtain ⟨g, e1, e2⟩ := sx_cat_ok h _ (List.mem_map.mpr ⟨A, hA, rfl⟩)
  exact hrc _ _ _ _ _ _ _ e1 F r c d Q hG hK hd hok (fun A' h' => hcut A' (e2 _ h')) (fun o h' => hret o (e2 _ h'))
theorem sx_gr_ok {X : nt_X} {E : sx_E} {F : sx_F} {mi d : Nat} {ins : Instr} {A : sx_A} {G : sx_G} {r : Nat → Int} {c : nt_C} {Q : Option Value × nt_M → Prop} {e : Nat × Instr × Nat × Nat} (h : sx_gr mi ins A = some G) (hat : nt_at mi c.1 = some e) (he : e.2.1 = ins) (hi : ins = .ireturn ∨ ins = .lreturn ∨ ins = .areturn ∨ ins = .return_) (hok : sx_ok E F r A c) (hret : ∀ o, .inr o ∈ G → ∀ r' out, sx_ov F.1 r' o.1 out.1 → sx_on E F r' o.2 out.2 → Q out) : sx_W X d mi Q c := by
  unfold sx_gr at h
  split at h
  · rename_i v hv
    cases h
    obtain ⟨o, ho, hov⟩ := sx_ret_ok hv hok.2.2.1 hok.2.2.2
    exact ⟨(o, c.2.2.2), nt_rn_r hat (by rw [he]; exact hi) (by rw [he]; exact ho), hret (v, A.2.2.2) (List.mem_cons_self ..) r (o, c.2.2.2) hov hok.2.2.2⟩
  · cases h
theorem sx_cl_ok {X : nt_X} {Ks : List sx_K} {rc : sx_rec} (hrc : sx_RS X Ks rc) {E : sx_E} {F : sx_F} {cuts : List Nat} {dl mi d g q : Nat} {A : sx_A} {G : sx_G} {r : Nat → Int} {c : nt_C} {Q : Option Value × nt_M → Prop} {e : Nat × Instr × Nat × Nat} (h : sx_cl Ks rc E cuts dl mi g q A = some G) (hat : nt_at mi c.1 = some e) (hg : e.2.2.1 = g) (hq : (∃ i, e.2.1 = .invokestatic i ∧ q = 0) ∨ (∃ i, e.2.1 = .invokevirtual i ∧ q = 1) ∨ (∃ i, e.2.1 = .invokespecial i ∧ q = 2)) (hG : F.2.2.2 = sx_GG E.1) (hK : ∀ K ∈ Ks, sx_KOK X E.1 K) (hd : dl ≤ d) (hok : sx_ok E F r A c) (hcut : ∀ A', .inl A' ∈ G → ∀ r' c', sx_ok E F r' A' c' → sx_W X d mi Q c') (hret : ∀ o, .inr o ∈ G → ∀ r' out, sx_ov F.1 r' o.1 out.1 → sx_on E F r' o.2 out.2 → Q out) : sx_W X d mi Q c := by
  obtain ⟨pc, ls, st, N⟩ := A
  obtain ⟨pc', cl, cs, M⟩ := c
  obtain ⟨o1, o2, o3, o4⟩ := hok
  have o1 : pc = pc' := o1
  subst o1
  dsimp only at o2 o3 o4 hat
  unfold sx_cl at h
  by_cases k : 1000 ≤ g
  · rw [show Nat.ble 1000 g = true from Nat.ble_eq_true_of_le k, cond_true] at h
    split at h
    · rename_i As hAs
      obtain ⟨c', e1, e2⟩ := sx_nx_ok hd hAs o2 o3 o4
      obtain ⟨o, k1, k2⟩ := sx_sts hrc h e2 hG hK hd hcut hret
      exact ⟨o, nt_rn_n hat hg k hq e1 k1, k2⟩
    · cases h
  · rw [show Nat.ble 1000 g = false from by
      cases e : Nat.ble 1000 g with
      | false => rfl
      | true => exact absurd (Nat.le_of_ble_eq_true e) k, cond_false] at h
    obtain ⟨hc, h⟩ := sx_bif h
    obtain ⟨d1, q1, c1, c2⟩ := sx_cq_ok hc o3 o4
    obtain ⟨d', rfl⟩ : ∃ d', d = d' + 1 := ⟨d - 1, by omega⟩
    have c3 : q = 2 → nt_rf (cs.take (sx_na g q)).reverse = true := fun e => by omega
    split at h
    · obtain ⟨hf, h⟩ := sx_bif h
      split at h
      · rename_i G1 hG1
        split at h
        · rename_i os hos
          obtain ⟨r1, r2⟩ := sx_rts_ok hos
          unfold sx_fA at hf
          rw [Bool.and_eq_true, Bool.and_eq_true] at hf
          obtain ⟨x1, x2, x3⟩ := hf
          have n0 : E.2.2.2.2 ≤ N.2.2.2 := by
            unfold sx_fN at x3
            rw [Bool.and_eq_true, Bool.and_eq_true, Bool.and_eq_true, Bool.and_eq_true] at x3
            exact Nat.le_of_ble_eq_true x3.2.2.2.2
          have hst := sx_args_ok 0 (sx_os_rv (sx_os_td (sx_na g q) o3).1)
          have key : sx_W X d' g (fun out => sx_W X (d' + 1) mi Q (pc + 3, cl, out.1.toList ++ cs.drop (sx_na g q), out.2)) (0, lv_args 0 (cs.take (sx_na g q)).reverse, [], M) := by
            refine hrc _ _ _ _ _ _ _ hG1 (F.1, F.2.1, r, F.2.2.2) r _ d' _ hG hK (by omega) ⟨rfl, hst, trivial, ⟨o4.1, o4.2.1, o4.2.2.1, o4.2.2.2.1, o4.2.2.2.2.1, fun _ _ => rfl, o4.2.2.2.2.2.2⟩⟩ (fun A' hA' => (r1 A' hA').elim) fun o ho r' out hov hon => ?_
            obtain ⟨y0, y1, y2, y3, y4, y5, y6⟩ := hon
            have hup : ∀ s, s < N.2.2.2 → r' s = r s := y5
            have hon' : sx_on E F r' o.2 out.2 := ⟨y0, y1, y2, y3, y4, fun s hs => by rw [hup s (by omega)]; exact o4.2.2.2.2.2.1 s hs, y6⟩
            obtain ⟨a, e1, e2⟩ := sx_cat_ok h _ (List.mem_map.mpr ⟨o, r2 o ho, rfl⟩)
            refine hrc _ _ _ _ _ _ _ e1 F r' _ (d' + 1) Q hG hK hd ⟨rfl, sx_ol_up hup x1 o2, ?_, hon'⟩ (fun A' h' => hcut A' (e2 _ h')) (fun o h' => hret o (e2 _ h'))
            have hr := (sx_os_td (sx_na g q) (sx_os_up hup _ _ x2 o3)).2
            obtain ⟨v1, v2⟩ := o
            obtain ⟨w1, w2⟩ := out
            dsimp only at hov ⊢
            cases v1 with
            | none =>
              cases w1 with
              | none => exact hr
              | some w => exact hov.elim
            | some v =>
              cases w1 with
              | none => exact hov.elim
              | some w => exact ⟨hov, hr⟩
          obtain ⟨out, e1, o, e2, e3⟩ := key
          exact ⟨o, nt_rn_c hat hg hq c1 c2 c3 e1 e2, e3⟩
        · cases h
      · cases h
    · rename_i Kl hKl
      split at h
      · rename_i p hp
        obtain ⟨t1, t2, t3⟩ := sx_try_ok hp
        have t4 : p.1 ∈ Ks ∧ Nat.beq p.1.1 g = true := by
          have := List.mem_filter.mp (show p.1 ∈ Ks.filter (fun K => Nat.beq K.1 g) from t1)
          exact this
        have t5 := Nat.eq_of_beq_eq_true t4.2
        obtain ⟨out, e1, P, hP, r2, z1, z2, z3, z4⟩ := sx_kc_ok (d := d') hG (hK _ t4.1) (by omega) t3 o2 o3 o4
        rw [t5] at e1
        have hr := (sx_os_td (sx_na g q) z2).2
        have han : sx_an E F (sx_aft E p.1 p.2 (pc + 3) ls (st.drop (sx_na g q))) (pc + 3, cl, out.1.toList ++ cs.drop (sx_na g q), out.2) := by
          refine ⟨_, List.mem_filter.mpr ⟨List.mem_map.mpr ⟨P, hP, rfl⟩, ?_⟩, r2, rfl, z1, ?_, z4⟩
          · show (!sx_de _) = true
            rw [sx_de_ok z4]; rfl
          · dsimp only
            generalize P.1.map _ = v1 at z3
            generalize out.1 = w1 at z3
            cases v1 with
            | none =>
              cases w1 with
              | none => exact hr
              | some w => exact z3.elim
            | some v =>
              cases w1 with
              | none => exact z3.elim
              | some w => exact ⟨z3, hr⟩
        obtain ⟨o, k1, k2⟩ := sx_sts hrc h han hG hK hd hcut hret
        exact ⟨o, nt_rn_c hat hg hq c1 c2 c3 e1 k1, k2⟩
      · cases h
theorem sx_gi_ok {X : nt_X} {Ks : List sx_K} {rc : sx_rec} (hrc : sx_RS X Ks rc) {E : sx_E} {F : sx_F} {cuts : List Nat} {dl mi d : Nat} {A : sx_A} {G : sx_G} {r : Nat → Int} {c : nt_C} {Q : Option Value × nt_M → Prop} {e : Nat × Instr × Nat × Nat} (h : sx_gi Ks rc E cuts dl mi e A = some G) (hat : nt_at mi c.1 = some e) (hG : F.2.2.2 = sx_GG E.1) (hK : ∀ K ∈ Ks, sx_KOK X E.1 K) (hd : dl ≤ d) (hok : sx_ok E F r A c) (hcut : ∀ A', .inl A' ∈ G → ∀ r' c', sx_ok E F r' A' c' → sx_W X d mi Q c') (hret : ∀ o, .inr o ∈ G → ∀ r' out, sx_ov F.1 r' o.1 out.1 → sx_on E F r' o.2 out.2 → Q out) : sx_W X d mi Q c := by
  unfold sx_gi at h
  split at h
  · rename_i he; exact sx_gr_ok h hat he (Or.inl rfl) hok hret
  · rename_i he; exact sx_gr_ok h hat he (Or.inr (Or.inl rfl)) hok hret
  · rename_i he; exact sx_gr_ok h hat he (Or.inr (Or.inr (Or.inl rfl))) hok hret
  · rename_i he; exact sx_gr_ok h hat he (Or.inr (Or.inr (Or.inr rfl))) hok hret
  · rename_i he; exact sx_cl_ok hrc h hat rfl (Or.inr (Or.inl ⟨_, he, rfl⟩)) hG hK hd hok hcut hret
  · rename_i he; exact sx_cl_ok hrc h hat rfl (Or.inl ⟨_, he, rfl⟩) hG hK hd hok hcut hret
  · obtain ⟨hpl, h⟩ := sx_bif h
    split at h
    · rename_i As hAs
      obtain ⟨o1, o2, o3, o4⟩ := hok
      obtain ⟨c', e1, e2⟩ := sx_stp_ok (X := X) hAs o2 o3 o4
      rw [o1] at e1
      obtain ⟨o, k1, k2⟩ := sx_sts hrc h e2 hG hK hd hcut hret
      exact ⟨o, nt_rn_s hat hpl e1 k1, k2⟩
    · cases h
theorem sx_go_ok (X : nt_X) (Ks : List sx_K) : ∀ f, sx_RS X Ks (sx_go Ks f)
  | 0 => fun E cuts fst dl mi A G h => by cases h
  | f + 1 => by
    intro E cuts fst dl mi A G h F r c d Q hG hK hd hok hcut hret
    unfold sx_go at h
    cases e : (!fst && cuts.any (fun k => Nat.beq k A.1)) with
    | true =>
      rw [e, cond_true] at h
      cases h
      exact hcut A (List.mem_cons_self ..) r c hok
    | false =>
      rw [e, cond_false] at h
      split at h
      · cases h
      · rename_i en hen
        exact sx_gi_ok (sx_go_ok X Ks f) h (by rw [← hok.1]; exact hen) hG hK hd hok hcut hret
end
section
/-! a method keeps its contract, if the check says so -/
def sx_id0 (n : Nat) : List (Nat × sx_L) := (List.range n).map (fun i => (i, (0, [(i, 1)])))
def sx_bls (ls : List (Nat × sx_V)) : List (Nat × sx_V) → sx_Z → sx_Z
  | [], zs => zs
  | q :: t, zs => match sx_lk ls q.1 with
    | some a => sx_bls ls t (sx_bV zs q.2 a)
    | none => sx_bls ls t zs
def sx_idg (n : Nat) : List (Nat × Nat) := (List.range n).map (fun i => (i, i))
/-- unknowns that are fixed stay themselves -/
def sx_vr (n : Nat) (zf : Nat → sx_L) : Bool := (List.range n).all (fun i => sx_leq (zf i) (0, [(i, 1)]))
/-- a state is one of a loop's -/
def sx_hm (E : sx_E) (n0 : Nat) (ro : Option sx_L) (A : sx_A) (H : sx_A × sx_L) : Bool := Nat.beq H.1.1 A.1 && (match sx_rds E A.2.1 A.2.2.1 H.1.2.2.2.1 (sx_bVs H.1.2.2.1 A.2.2.1 (sx_bls A.2.1 H.1.2.1 (sx_idg E.2.1.length, sx_id0 n0))) A.2.2.2 with
  | some o => H.1.2.1.all (fun q => match sx_lk A.2.1 q.1 with | some a => sx_vV o.2 (fun g => g) (sx_zf o.1.2) q.2 a | none => false) && (sx_vVs o.2 (fun g => g) (sx_zf o.1.2) H.1.2.2.1 A.2.2.1 && (sx_vN E E.2.1.length o.2 (fun g => g) (sx_zf o.1.2) H.1.2.2.2 && (sx_vr n0 (sx_zf o.1.2) && (match ro with | some R => sx_p o.2 (sx_sub (sx_add (-1, []) R) (sx_sb (sx_zf o.1.2) H.2)) | none => true))))
  | none => false)
theorem sx_vr_ok {n : Nat} {zf : Nat → sx_L} (h : sx_vr n zf = true) {r : Nat → Int} {s : Nat} (hs : s < n) : sx_rf r zf s = r s := by
  unfold sx_rf
  rw [sx_leq_ok (List.all_eq_true.mp h s (List.mem_range.mpr hs)), sx_s_e]
theorem sx_hm_ok {E : sx_E} {F : sx_F} {r r0 : Nat → Int} {n0 n1 : Nat} {ro : Option sx_L} {A : sx_A} {H : sx_A × sx_L} {c : nt_C} (h : sx_hm (E.1, E.2.1, E.2.2.1, E.2.2.2.1, n1) n0 ro A H = true) (h0 : n0 ≤ n1) (hE : E.2.2.2.2 = n0) (hF : ∀ s, s < n0 → r0 s = F.2.2.1 s) (hok : sx_ok (E.1, E.2.1, E.2.2.1, E.2.2.2.1, n1) (F.1, F.2.1, r0, F.2.2.2) r A c) : ∃ rh r1, sx_ok E F rh H.1 c ∧ (∀ s, s < n1 → r1 s = r0 s) ∧ ∀ R, ro = some R → sx_e rh H.2 ≤ sx_e r1 R - 1 := by
  unfold sx_hm at h
  rw [Bool.and_eq_true] at h
  obtain ⟨hpc, h⟩ := h
  have hpc := Nat.eq_of_beq_eq_true hpc
  split at h
  · rename_i o ho
    rw [Bool.and_eq_true, Bool.and_eq_true, Bool.and_eq_true, Bool.and_eq_true] at h
    obtain ⟨v1, v2, v3, v4, v5⟩ := h
    obtain ⟨o1, o2, o3, o4⟩ := hok
    obtain ⟨r1, k1, k2, k3⟩ := sx_rds_ok _ _ _ _ ho o2 o3 o4
    obtain ⟨w1, w2, w3, w4⟩ := sx_vN_ok (EK := (E.1, E.2.1, E.2.2.1, E.2.2.2.1, n1)) F.2.1 F.2.2.1 k3 v3
    refine ⟨sx_rf r1 (sx_zf o.1.2), r1, ⟨hpc.trans o1, fun q hq => ?_, sx_vVs_ok k3 v2 k2, k3.1, k3.2.1, w1, w2, ⟨w3, w4⟩, fun s hs => ?_, k3.2.2.2.2.2.2⟩, k3.2.2.2.2.2.1, fun R hR => ?_⟩
    · have l := List.all_eq_true.mp v1 q hq
      split at l
      · rename_i a ha
        obtain ⟨v, h5, h6⟩ := k1 _ (sx_lk_in ha)
        exact ⟨v, h5, sx_vV_ok (F := (F.1, F.2.1, r0, F.2.2.2)) k3 l h6⟩
      · cases l
    · rw [hE] at hs
      rw [sx_vr_ok v4 hs, k3.2.2.2.2.2.1 s (show s < n1 by omega)]
      exact hF s hs
    · rw [hR] at v5
      have := sx_p_ok k3 v5
      rw [sx_sub_e, sx_add_e, sx_c_e, sx_sb_e] at this
      omega
  · cases h
/-- what is handed back is as the contract has it -/
def sx_pm (E : sx_E) (n0 : Nat) (v : Option sx_V) (N : sx_N) (p : Option sx_V × sx_N) : Bool := match sx_rds E [] v.toList p.2.1 (sx_bVs p.1.toList v.toList (sx_idg E.2.1.length, sx_id0 n0)) N with
  | some o => sx_vVs o.2 (fun g => g) (sx_zf o.1.2) p.1.toList v.toList && (sx_vN E E.2.1.length o.2 (fun g => g) (sx_zf o.1.2) p.2 && sx_vr n0 (sx_zf o.1.2))
  | none => false
theorem sx_ov_l {pl : Nat → Nat} {r : Nat → Int} {v : Option sx_V} {w : Option Value} : sx_ov pl r v w ↔ sx_os pl r v.toList w.toList := by
  cases v with
  | none =>
    cases w with
    | none => exact Iff.rfl
    | some _ => exact Iff.rfl
  | some a =>
    cases w with
    | none => exact Iff.rfl
    | some x => exact ⟨fun h => ⟨h, trivial⟩, fun h => h.1⟩
theorem sx_pm_ok {E : sx_E} {F : sx_F} {r r0 : Nat → Int} {n0 n1 : Nat} {v : Option sx_V} {N : sx_N} {p : Option sx_V × sx_N} {out : Option Value × nt_M} (h : sx_pm (E.1, E.2.1, E.2.2.1, E.2.2.2.1, n1) n0 v N p = true) (h0 : n0 ≤ n1) (hE : E.2.2.2.2 = n0) (hF : ∀ s, s < n0 → r0 s = F.2.2.1 s) (hov : sx_ov F.1 r v out.1) (hon : sx_on (E.1, E.2.1, E.2.2.1, E.2.2.2.1, n1) (F.1, F.2.1, r0, F.2.2.2) r N out.2) : ∃ r', sx_ov F.1 r' p.1 out.1 ∧ sx_on E F r' p.2 out.2 := by
  unfold sx_pm at h
  split at h
  · rename_i o ho
    rw [Bool.and_eq_true, Bool.and_eq_true] at h
    obtain ⟨v2, v3, v4⟩ := h
    obtain ⟨r1, k1, k2, k3⟩ := sx_rds_ok (F := (F.1, F.2.1, r0, F.2.2.2)) (cl := []) _ _ _ r ho (fun _ h => (by cases h)) (sx_ov_l.mp hov) hon
    obtain ⟨w1, w2, w3, w4⟩ := sx_vN_ok (EK := (E.1, E.2.1, E.2.2.1, E.2.2.2.1, n1)) F.2.1 F.2.2.1 k3 v3
    refine ⟨sx_rf r1 (sx_zf o.1.2), sx_ov_l.mpr (sx_vVs_ok k3 v2 k2), k3.1, k3.2.1, w1, w2, ⟨w3, w4⟩, fun s hs => ?_, k3.2.2.2.2.2.2⟩
    rw [hE] at hs
    rw [sx_vr_ok v4 hs, k3.2.2.2.2.2.1 s (show s < n1 by omega)]
    exact hF s hs
  · cases h
/-- an end of a run is a loop's state or a contract's answer -/
def sx_end (E : sx_E) (n0 : Nat) (ro : Option sx_L) (hs : List (sx_A × sx_L)) (ps : List (Option sx_V × sx_N)) (z : sx_A ⊕ (Option sx_V × sx_N)) : Bool := match z with
  | .inl A => hs.any (fun H => sx_hm E n0 ro A H)
  | .inr o => ps.any (fun p => sx_pm E n0 o.1 o.2 p)
def sx_Kn (E : sx_E) (n : Nat) : sx_E := (E.1, E.2.1, E.2.2.1, E.2.2.2.1, n)
def sx_c0 (T : List sx_T × List (List Nat)) (Ks : List sx_K) (K : sx_K) (hs : List (sx_A × sx_L)) (f : Nat) : Bool := match sx_go Ks f (sx_KE T K) (hs.map fun H => H.1.1) true K.2.1 K.1 (0, sx_args 0 K.2.2.2.2.1, [], K.2.2.2.2.2.1) with
  | some G => G.all (sx_end (sx_KE T K) K.2.2.2.2.2.1.2.2.2 none hs K.2.2.2.2.2.2)
  | none => false
/-- what is asked of each loop's state -/
def sx_cr (K : sx_K) (H : sx_A × sx_L) : Bool := sx_p H.1.2.2.2 H.2 && (sx_lw H.1.2.2.2.2.2.2 H.2 && Nat.ble K.2.2.2.2.2.1.2.2.2 H.1.2.2.2.2.2.2)
def sx_c1 (T : List sx_T × List (List Nat)) (Ks : List sx_K) (K : sx_K) (hs : List (sx_A × sx_L)) (f : Nat) (H : sx_A × sx_L) : Bool := match sx_go Ks f (sx_Kn (sx_KE T K) H.1.2.2.2.2.2.2) (hs.map fun H => H.1.1) true K.2.1 K.1 H.1 with
  | some G => G.all (sx_end (sx_Kn (sx_KE T K) H.1.2.2.2.2.2.2) K.2.2.2.2.2.1.2.2.2 (some H.2) hs K.2.2.2.2.2.2)
  | none => false
/-- loops' states hs are run on from; those of hi are shown by hand to be such of others -/
def sx_chk2 (T : List sx_T × List (List Nat)) (Ks : List sx_K) (K : sx_K) (hs hi : List (sx_A × sx_L)) (f : Nat) : Bool := sx_c0 T Ks K (hs ++ hi) f && ((hs ++ hi).all (sx_cr K) && hs.all (sx_c1 T Ks K (hs ++ hi) f))
def sx_imp (T : List sx_T × List (List Nat)) (K : sx_K) (hs hi : List (sx_A × sx_L)) : Prop := ∀ (F : sx_F), F.2.2.2 = sx_GG T → ∀ H ∈ hi, ∀ (r : Nat → Int) (c : nt_C), sx_ok (sx_KE T K) F r H.1 c → ∃ H' ∈ hs ++ hi, ∃ r', sx_ok (sx_KE T K) F r' H'.1 c ∧ sx_e r' H'.2 + 1 ≤ sx_e r H.2
theorem sx_loops {X : nt_X} {T : List sx_T × List (List Nat)} {Ks : List sx_K} {K : sx_K} {hs hi : List (sx_A × sx_L)} {f d : Nat} {F : sx_F} (hG : F.2.2.2 = sx_GG T) (hK : ∀ K' ∈ Ks, sx_KOK X T K') (hr : (hs ++ hi).all (sx_cr K) = true) (h : hs.all (sx_c1 T Ks K (hs ++ hi) f) = true) (him : sx_imp T K hs hi) (hd : K.2.1 ≤ d) : ∀ (n : Nat) (H : sx_A × sx_L) (rh : Nat → Int) (c : nt_C), H ∈ hs ++ hi → sx_ok (sx_KE T K) F rh H.1 c → sx_e rh H.2 < (n : Int) → sx_W X d K.1 (fun o => ∃ p ∈ K.2.2.2.2.2.2, ∃ r', sx_ov F.1 r' p.1 o.1 ∧ sx_on (sx_KE T K) F r' p.2 o.2) c
  | 0, H, rh, c, hH, hok, hn => by
    have l := List.all_eq_true.mp hr H hH
    unfold sx_cr at l
    rw [Bool.and_eq_true] at l
    have := sx_p_ok hok.2.2.2 l.1
    omega
  | n + 1, H, rh, c, hH, hok, hn => by
    have lr := List.all_eq_true.mp hr H hH
    unfold sx_cr at lr
    rw [Bool.and_eq_true, Bool.and_eq_true] at lr
    obtain ⟨l1, l2, l3⟩ := lr
    have l3 : K.2.2.2.2.2.1.2.2.2 ≤ H.1.2.2.2.2.2.2 := Nat.le_of_ble_eq_true l3
    rcases List.mem_append.mp hH with hH1 | hH1
    · have l4 := List.all_eq_true.mp h H hH1
      unfold sx_c1 at l4
      split at l4
      · rename_i G hGo
        obtain ⟨y0, y1, y2, y3, y4, y5, y6⟩ := hok.2.2.2
        refine sx_go_ok X Ks f _ _ _ _ _ _ _ hGo (F.1, F.2.1, rh, F.2.2.2) rh c d _ hG hK hd ⟨hok.1, hok.2.1, hok.2.2.1, y0, y1, y2, y3, y4, fun _ _ => rfl, y6⟩ (fun A' hA' r' c' hok' => ?_) (fun o ho r' out hov hon => ?_)
        · have z := List.all_eq_true.mp l4 _ hA'
          obtain ⟨H', hH', z⟩ := List.any_eq_true.mp z
          obtain ⟨r2, r1, w1, w2, w3⟩ := sx_hm_ok (E := sx_KE T K) (F := F) (r0 := rh) z l3 rfl (fun s hs => y5 s hs) hok'
          have w3 := w3 _ rfl
          rw [sx_e_up w2 l2] at w3
          exact sx_loops hG hK hr h him hd n H' r2 c' hH' w1 (by omega)
        · have z := List.all_eq_true.mp l4 _ ho
          obtain ⟨p, hp, z⟩ := List.any_eq_true.mp z
          obtain ⟨r2, w1, w2⟩ := sx_pm_ok (E := sx_KE T K) (F := F) (r0 := rh) z l3 rfl (fun s hs => y5 s hs) hov hon
          exact ⟨p, hp, r2, w1, w2⟩
      · cases l4
    · obtain ⟨H', hH', r', w1, w2⟩ := him F hG H hH1 rh c hok
      exact sx_loops hG hK hr h him hd n H' r' c hH' w1 (by omega)
/-- THE CHECK: the method keeps its contract -/
theorem sx_keeps2 {X : nt_X} {T : List sx_T × List (List Nat)} {Ks : List sx_K} {K : sx_K} {hs hi : List (sx_A × sx_L)} {f : Nat} (hK : ∀ K' ∈ Ks, sx_KOK X T K') (him : sx_imp T K hs hi) (h : sx_chk2 T Ks K hs hi f = true) : sx_KOK X T K := by
  intro F r vs M d hd hM hr hG hargs hon
  unfold sx_chk2 at h
  rw [Bool.and_eq_true, Bool.and_eq_true] at h
  obtain ⟨h0, h1, h2⟩ := h
  unfold sx_c0 at h0
  split at h0
  · rename_i G hGo
    have hF : (F.1, F.2.1, r, F.2.2.2) = F := by rw [← hr]
    have key := sx_go_ok X Ks f _ _ _ _ _ _ _ hGo F r (0, lv_args 0 vs, [], M) d (fun o => ∃ p ∈ K.2.2.2.2.2.2, ∃ r', sx_ov F.1 r' p.1 o.1 ∧ sx_on (sx_KE T K) F r' p.2 o.2) hG hK hd ⟨rfl, sx_args_ok 0 hargs, trivial, hon⟩ (fun A' hA' r' c' hok' => ?_) (fun o ho r' out hov hon' => ?_)
    · obtain ⟨o, k1, k2⟩ := key
      exact ⟨o, k1, k2⟩
    · have z := List.all_eq_true.mp h0 _ hA'
      obtain ⟨H', hH', z⟩ := List.any_eq_true.mp z
      obtain ⟨r2, r1, w1, w2, w3⟩ := sx_hm_ok (E := sx_KE T K) (F := F) (r0 := r) (n1 := K.2.2.2.2.2.1.2.2.2) z (Nat.le_refl _) rfl (fun s _ => by rw [hr]) (by rw [hF]; exact hok')
      exact sx_loops hG hK h1 h2 him hd ((sx_e r2 H'.2).toNat + 1) H' r2 c' hH' w1 (by omega)
    · have z := List.all_eq_true.mp h0 _ ho
      obtain ⟨p, hp, z⟩ := List.any_eq_true.mp z
      obtain ⟨r2, w1, w2⟩ := sx_pm_ok (E := sx_KE T K) (F := F) (r0 := r) (n1 := K.2.2.2.2.2.1.2.2.2) z (Nat.le_refl _) rfl (fun s _ => by rw [hr]) hov (by rw [hF]; exact hon')
      exact ⟨p, hp, r2, w1, w2⟩
  · cases h0
def sx_chk (T : List sx_T × List (List Nat)) (Ks : List sx_K) (K : sx_K) (hs : List (sx_A × sx_L)) (f : Nat) : Bool := sx_chk2 T Ks K hs [] f
theorem sx_keeps {X : nt_X} {T : List sx_T × List (List Nat)} {Ks : List sx_K} {K : sx_K} {hs : List (sx_A × sx_L)} {f : Nat} (hK : ∀ K' ∈ Ks, sx_KOK X T K') (h : sx_chk T Ks K hs f = true) : sx_KOK X T K := sx_keeps2 (hi := []) hK (fun F _ H hH => (by cases hH)) h
end
section
/-! contracts without ghosts serve where there are ghosts, too -/
def sx_ng (N : sx_N) : Bool := N.1.all (fun q => Nat.blt q.1.1 100)
theorem sx_rd_ng {F F' : sx_F} {M : nt_M} {g : Nat} {i : Int} (hp : F.1 = F'.1) (h : g < 100) : sx_rd F M g i = sx_rd F' M g i := by
  unfold sx_rd
  have n : ¬ 100 ≤ g := by omega
  rw [if_neg n, if_neg n, hp]
theorem sx_on_ng {E E' : sx_E} {F F' : sx_F} {r : Nat → Int} {N : sx_N} {M : nt_M} (hn : sx_ng N = true) (hT : E.1.1 = E'.1.1) (hE : E.2 = E'.2) (hp : F.1 = F'.1) (hM : F.2.1 = F'.2.1) (hr : F.2.2.1 = F'.2.2.1) (hg : sx_gh E' F') (h : sx_on E F r N M) : sx_on E' F' r N M := by
  obtain ⟨a0, a1, a2, a3, a4, a5, a6⟩ := h
  refine ⟨⟨hg, ?_⟩, ?_, fun q hq => ?_, ?_, a4, ?_, ?_⟩
  · have := a0.2
    unfold sx_ij at this ⊢
    rw [← hE, ← hp]
    exact this
  · unfold sx_hp at a1 ⊢
    rw [← hE, ← hp, ← hT]
    exact a1
  · obtain ⟨b1, b2⟩ := a2 q hq
    have h100 : q.1.1 < 100 := Nat.blt_eq.mp (List.all_eq_true.mp hn q hq)
    refine ⟨by rw [← hE]; exact b1, ?_⟩
    rw [← sx_rd_ng hp h100]
    exact b2
  · unfold sx_or at a3 ⊢
    rw [← hE, ← hp]
    exact a3
  · rw [← hE, ← hr]; exact a5
  · unfold sx_fm at a6 ⊢
    rw [← hE, ← hp, ← hM]
    exact a6
theorem sx_lift {X : nt_X} {T : List sx_T} {G : List (List Nat)} {K : sx_K} (hn : (sx_ng K.2.2.2.2.2.1 && K.2.2.2.2.2.2.all (fun p => sx_ng p.2)) = true) (h : sx_KOK X (T, []) K) : sx_KOK X (T, G) K := by
  rw [Bool.and_eq_true] at hn
  intro F r vs M d hd hM hr hG hargs hon
  obtain ⟨o, h1, p, hp, r', h2, h3⟩ := h (F.1, F.2.1, F.2.2.1, fun _ _ _ => 0) r vs M d hd hM hr rfl hargs (sx_on_ng (E := sx_KE (T, G) K) (E' := sx_KE (T, []) K) (F := F) hn.1 rfl rfl rfl rfl rfl (fun _ _ _ _ _ => rfl) hon)
  exact ⟨o, h1, p, hp, r', h2, sx_on_ng (E := sx_KE (T, []) K) (E' := sx_KE (T, G) K) (F := (F.1, F.2.1, F.2.2.1, fun _ _ _ => 0)) (F' := F) (List.all_eq_true.mp hn.2 p hp) rfl rfl rfl rfl rfl hon.1.1 h3⟩
end
section
/-! the check once more: states that a run by hand turns into others -/
def sx_imp3 (X : nt_X) (T : List sx_T × List (List Nat)) (K : sx_K) (hs hi : List (sx_A × sx_L)) : Prop := ∀ (F : sx_F), F.2.2.2 = sx_GG T → ∀ H ∈ hi, ∀ (r : Nat → Int) (c : nt_C) (d : Nat), K.2.1 ≤ d → sx_ok (sx_KE T K) F r H.1 c → ∃ H' ∈ hs ++ hi, ∃ (r' : Nat → Int) (c' : nt_C), (∀ o, nt_rn X d K.1 c' o → nt_rn X d K.1 c o) ∧ sx_ok (sx_KE T K) F r' H'.1 c' ∧ sx_e r' H'.2 + 1 ≤ sx_e r H.2
theorem sx_loops3 {X : nt_X} {T : List sx_T × List (List Nat)} {Ks : List sx_K} {K : sx_K} {hs hi : List (sx_A × sx_L)} {f d : Nat} {F : sx_F} (hG : F.2.2.2 = sx_GG T) (hK : ∀ K' ∈ Ks, sx_KOK X T K') (hr : (hs ++ hi).all (sx_cr K) = true) (h : hs.all (sx_c1 T Ks K (hs ++ hi) f) = true) (him : sx_imp3 X T K hs hi) (hd : K.2.1 ≤ d) : ∀ (n : Nat) (H : sx_A × sx_L) (rh : Nat → Int) (c : nt_C), H ∈ hs ++ hi → sx_ok (sx_KE T K) F rh H.1 c → sx_e rh H.2 < (n : Int) → sx_W X d K.1 (fun o => ∃ p ∈ K.2.2.2.2.2.2, ∃ r', sx_ov F.1 r' p.1 o.1 ∧ sx_on (sx_KE T K) F r' p.2 o.2) c
  | 0, H, rh, c, hH, hok, hn => by
    have l := List.all_eq_true.mp hr H hH
    unfold sx_cr at l
    rw [Bool.and_eq_true] at l
    have := sx_p_ok hok.2.2.2 l.1
    omega
  | n + 1, H, rh, c, hH, hok, hn => by
    have lr := List.all_eq_true.mp hr H hH
    unfold sx_cr at lr
    rw [Bool.and_eq_true, Bool.and_eq_true] at lr
    obtain ⟨l1, l2, l3⟩ := lr
    have l3 : K.2.2.2.2.2.1.2.2.2 ≤ H.1.2.2.2.2.2.2 := Nat.le_of_ble_eq_true l3
    rcases List.mem_append.mp hH with hH1 | hH1
    · have l4 := List.all_eq_true.mp h H hH1
      unfold sx_c1 at l4
      split at l4
      · rename_i G hGo
        obtain ⟨y0, y1, y2, y3, y4, y5, y6⟩ := hok.2.2.2
        refine sx_go_ok X Ks f _ _ _ _ _ _ _ hGo (F.1, F.2.1, rh, F.2.2.2) rh c d _ hG hK hd ⟨hok.1, hok.2.1, hok.2.2.1, y0, y1, y2, y3, y4, fun _ _ => rfl, y6⟩ (fun A' hA' r' c' hok' => ?_) (fun o ho r' out hov hon => ?_)
        · have z := List.all_eq_true.mp l4 _ hA'
          obtain ⟨H', hH', z⟩ := List.any_eq_true.mp z
          obtain ⟨r2, r1, w1, w2, w3⟩ := sx_hm_ok (E := sx_KE T K) (F := F) (r0 := rh) z l3 rfl (fun s hs => y5 s hs) hok'
          have w3 := w3 _ rfl
          rw [sx_e_up w2 l2] at w3
          exact sx_loops3 hG hK hr h him hd n H' r2 c' hH' w1 (by omega)
        · have z := List.all_eq_true.mp l4 _ ho
          obtain ⟨p, hp, z⟩ := List.any_eq_true.mp z
          obtain ⟨r2, w1, w2⟩ := sx_pm_ok (E := sx_KE T K) (F := F) (r0 := rh) z l3 rfl (fun s hs => y5 s hs) hov hon
          exact ⟨p, hp, r2, w1, w2⟩
      · cases l4
    · obtain ⟨H', hH', r', c', w0, w1, w2⟩ := him F hG H hH1 rh c d hd hok
      obtain ⟨o, k1, k2⟩ := sx_loops3 hG hK hr h him hd n H' r' c' hH' w1 (by omega)
      exact ⟨o, w0 o k1, k2⟩
/-- THE CHECK: the method keeps its contract -/
theorem sx_keeps3 {X : nt_X} {T : List sx_T × List (List Nat)} {Ks : List sx_K} {K : sx_K} {hs hi : List (sx_A × sx_L)} {f : Nat} (hK : ∀ K' ∈ Ks, sx_KOK X T K') (him : sx_imp3 X T K hs hi) (h : sx_chk2 T Ks K hs hi f = true) : sx_KOK X T K := by
  intro F r vs M d hd hM hr hG hargs hon
  unfold sx_chk2 at h
  rw [Bool.and_eq_true, Bool.and_eq_true] at h
  obtain ⟨h0, h1, h2⟩ := h
  unfold sx_c0 at h0
  split at h0
  · rename_i G hGo
    have hF : (F.1, F.2.1, r, F.2.2.2) = F := by rw [← hr]
    have key := sx_go_ok X Ks f _ _ _ _ _ _ _ hGo F r (0, lv_args 0 vs, [], M) d (fun o => ∃ p ∈ K.2.2.2.2.2.2, ∃ r', sx_ov F.1 r' p.1 o.1 ∧ sx_on (sx_KE T K) F r' p.2 o.2) hG hK hd ⟨rfl, sx_args_ok 0 hargs, trivial, hon⟩ (fun A' hA' r' c' hok' => ?_) (fun o ho r' out hov hon' => ?_)
    · obtain ⟨o, k1, k2⟩ := key
      exact ⟨o, k1, k2⟩
    · have z := List.all_eq_true.mp h0 _ hA'
      obtain ⟨H', hH', z⟩ := List.any_eq_true.mp z
      obtain ⟨r2, r1, w1, w2, w3⟩ := sx_hm_ok (E := sx_KE T K) (F := F) (r0 := r) (n1 := K.2.2.2.2.2.1.2.2.2) z (Nat.le_refl _) rfl (fun s _ => by rw [hr]) (by rw [hF]; exact hok')
      exact sx_loops3 hG hK h1 h2 him hd ((sx_e r2 H'.2).toNat + 1) H' r2 c' hH' w1 (by omega)
    · have z := List.all_eq_true.mp h0 _ ho
      obtain ⟨p, hp, z⟩ := List.any_eq_true.mp z
      obtain ⟨r2, w1, w2⟩ := sx_pm_ok (E := sx_KE T K) (F := F) (r0 := r) (n1 := K.2.2.2.2.2.1.2.2.2) z (Nat.le_refl _) rfl (fun s _ => by rw [hr]) hov (by rw [hF]; exact hon')
      exact ⟨p, hp, r2, w1, w2⟩
  · cases h0
end
section
/-! contracts -/
def sx_tbs : List sx_T := [[], [(0, [(0, 4), (0, 6), (0, 24), (0, 8), ((-2147483648), 2147483647), ((-2147483648), 2147483647), ((-2147483648), 2147483647), ((-2147483648), 2147483647), ((-2147483648), 2147483647), ((-2147483648), 2147483647), ((-2147483648), 2147483647), ((-2147483648), 2147483647), ((-2147483648), 2147483647)])], [(0, [(0, 3)])], [(0, [(0, 5)])], [(0, [((-2147483648), 2147483647), (0, 400)])], [(0, [((-2147483648), 2147483647), (0, 400), ((-2147483648), 2147483647)])], [(0, [((-2147483648), 2147483647), ((-2147483648), 2147483647), (0, 400), (0, 60)])], [(0, [((-2147483648), 2147483647), ((-2147483648), 2147483647), (0, 60), ((-2147483648), 2147483647)])], [(0, [((-2147483648), 2147483647), ((-2147483648), 2147483647), ((-2147483648), 2147483647), ((-2147483648), 2147483647), (0, 6), ((-2147483648), 2147483647), ((-2147483648), 2147483647), ((-2147483648), 2147483647), ((-2147483648), 2147483647), ((-2147483648), 2147483647)])], [(0, [((-2147483648), 2147483647), (0, 400), (0, 6), ((-2147483648), 2147483647), ((-2147483648), 2147483647), ((-2147483648), 2147483647), ((-2147483648), 2147483647), (0, 4), (0, 6), (0, 24), (0, 8), ((-2147483648), 2147483647), ((-2147483648), 2147483647), ((-2147483648), 2147483647), ((-2147483648), 2147483647), (0, 400), ((-2147483648), 2147483647), ((-2147483648), 2147483647), (0, 6), (0, 60), ((-2147483648), 2147483647), ((-2147483648), 2147483647), ((-2147483648), 2147483647), (0, 400), ((-2147483648), 2147483647), ((-2147483648), 2147483647), ((-2147483648), 2147483647), ((-2147483648), 2147483647), ((-2147483648), 2147483647), ((-2147483648), 2147483647), ((-2147483648), 2147483647)])], [(172, [(0, 5), ((-2147483648), 2147483647), ((-2147483648), 2147483647), ((-2147483648), 2147483647), ((-2147483648), 2147483647)]), (52, [((-2147483648), 2147483647), ((-2147483648), 2147483647), (0, 5), ((-1), 5), ((-2147483648), 2147483647)]), (10, [((-2147483648), 2147483647), ((-2147483648), 2147483647), ((-2147483648), 2147483647), ((-2147483648), 2147483647), ((-2147483648), 2147483647), ((-1), 7), ((-2147483648), 2147483647)]), (0, [(0, 4), (0, 6), (0, 24), (0, 8), ((-2147483648), 2147483647), ((-2147483648), 2147483647), ((-2147483648), 2147483647), ((-2147483648), 2147483647), ((-2147483648), 2147483647), ((-2147483648), 2147483647)])], [(0, [(0, 3), ((-2147483648), 2147483647), (0, 5)])], [(0, [(0, 5), ((-2147483648), 2147483647), ((-2147483648), 2147483647), ((-2147483648), 2147483647)])], [(0, [(0, 400)])], [(0, [(0, 12)])], [(0, [((-2147483648), 2147483647), (0, 1), ((-2147483648), 2147483647), ((-2147483648), 2147483647), ((-2147483648), 2147483647), ((-2147483648), 2147483647), ((-2147483648), 2147483647), ((-2147483648), 2147483647), ((-2147483648), 2147483647), ((-2147483648), 2147483647), ((-2147483648), 2147483647), ((-2147483648), 2147483647), ((-2147483648), 2147483647), ((-2147483648), 2147483647)])], [(808, [(0, 5), ((-2147483648), 2147483647), ((-2147483648), 2147483647), ((-2147483648), 2147483647), ((-2147483648), 2147483647)]), (688, [((-2147483648), 2147483647), ((-2147483648), 2147483647), (0, 5), ((-1), 5), ((-2147483648), 2147483647)]), (646, [((-2147483648), 2147483647), ((-2147483648), 2147483647), ((-2147483648), 2147483647), ((-2147483648), 2147483647), ((-2147483648), 2147483647), ((-1), 7), ((-2147483648), 2147483647)]), (636, [(0, 4), (0, 6), (0, 24), (0, 8), ((-2147483648), 2147483647), ((-2147483648), 2147483647), ((-2147483648), 2147483647), ((-2147483648), 2147483647), ((-2147483648), 2147483647), ((-2147483648), 2147483647)]), (596, [(0, 5), ((-2147483648), 2147483647), ((-2147483648), 2147483647), ((-2147483648), 2147483647), ((-2147483648), 2147483647)]), (476, [((-2147483648), 2147483647), ((-2147483648), 2147483647), (0, 5), ((-1), 5), ((-2147483648), 2147483647)]), (434, [((-2147483648), 2147483647), ((-2147483648), 2147483647), ((-2147483648), 2147483647), ((-2147483648), 2147483647), ((-2147483648), 2147483647), ((-1), 7), ((-2147483648), 2147483647)]), (424, [(0, 4), (0, 6), (0, 24), (0, 8), ((-2147483648), 2147483647), ((-2147483648), 2147483647), ((-2147483648), 2147483647), ((-2147483648), 2147483647), ((-2147483648), 2147483647), ((-2147483648), 2147483647)]), (384, [(0, 5), ((-2147483648), 2147483647), ((-2147483648), 2147483647), ((-2147483648), 2147483647), ((-2147483648), 2147483647)]), (264, [((-2147483648), 2147483647), ((-2147483648), 2147483647), (0, 5), ((-1), 5), ((-2147483648), 2147483647)]), (222, [((-2147483648), 2147483647), ((-2147483648), 2147483647), ((-2147483648), 2147483647), ((-2147483648), 2147483647), ((-2147483648), 2147483647), ((-1), 7), ((-2147483648), 2147483647)]), (212, [(0, 4), (0, 6), (0, 24), (0, 8), ((-2147483648), 2147483647), ((-2147483648), 2147483647), ((-2147483648), 2147483647), ((-2147483648), 2147483647), ((-2147483648), 2147483647), ((-2147483648), 2147483647)]), (172, [(0, 5), ((-2147483648), 2147483647), ((-2147483648), 2147483647), ((-2147483648), 2147483647), ((-2147483648), 2147483647)]), (52, [((-2147483648), 2147483647), ((-2147483648), 2147483647), (0, 5), ((-1), 5), ((-2147483648), 2147483647)]), (10, [((-2147483648), 2147483647), ((-2147483648), 2147483647), ((-2147483648), 2147483647), ((-2147483648), 2147483647), ((-2147483648), 2147483647), ((-1), 7), ((-2147483648), 2147483647)]), (0, [(0, 4), (0, 6), (0, 24), (0, 8), ((-2147483648), 2147483647), ((-2147483648), 2147483647), ((-2147483648), 2147483647), ((-2147483648), 2147483647), ((-2147483648), 2147483647), ((-2147483648), 2147483647)])]]
def sx_gps : List (List Nat) := [[1, 2, 3], [1], [9], [1], [9], []]
end
section
def kk_bits : sx_K := (214, 0, [], ([], []), [(0, 0, (0, [(0, 1)]))], ([], [], ([(0, (-2147483648), 2147483647)], []), 1), [(some (0, 0, (0, [(1, 1)])), ([], [], ([(1, (-2147483648), 2147483647)], []), 2))])
/-! bits, by hand: the set gets less with each turn -/
theorem kb_and {s : Int32} (h : ¬ s = 0) : (s &&& (s - 1)).toBitVec.toNat < s.toBitVec.toNat := by
  have h0 : s.toBitVec.toNat ≠ 0 := by
    intro e
    apply h
    apply Int32.toBitVec_inj.mp
    apply BitVec.eq_of_toNat_eq
    rw [e]; rfl
  have e : (s &&& (s - 1)).toBitVec.toNat = s.toBitVec.toNat &&& (s - 1).toBitVec.toNat := by
    show (s.toBitVec &&& (s - 1).toBitVec).toNat = _
    rw [BitVec.toNat_and]
  have e2 : (s - 1).toBitVec.toNat = s.toBitVec.toNat - 1 := by
    show (s.toBitVec - (1 : Int32).toBitVec).toNat = _
    rw [BitVec.toNat_sub]
    have := s.toBitVec.isLt
    rw [show (1 : Int32).toBitVec.toNat = 1 from rfl]
    omega
  have := Nat.and_le_right (n := s.toBitVec.toNat) (m := (s - 1).toBitVec.toNat)
  rw [e, e2] at *
  omega
theorem kb_loop (X : nt_X) (d : Nat) (M : nt_M) (x : Int32) : ∀ (n : Nat) (s acc : Int32), s.toBitVec.toNat < n → ∃ k : Int32, nt_rn X d 214 (4, [(2, .int s), (1, .int acc), (0, .int x)], [], M) (some (.int k), M)
  | 0, s, acc, h => by omega
  | n + 1, s, acc, h => by
    by_cases hs : s = 0
    · refine ⟨acc, ?_⟩
      refine nt_rn_b 2 (c' := (if s = 0 then 20 else 8, [(2, .int s), (1, .int acc), (0, .int x)], [], M)) rfl ?_
      rw [if_pos hs]
      refine nt_rn_b 1 (c' := (21, [(2, .int s), (1, .int acc), (0, .int x)], [.int acc], M)) rfl ?_
      exact nt_rn_ri (e := (21, .ireturn, 0, 0)) rfl rfl rfl rfl rfl
    · obtain ⟨k, hk⟩ := kb_loop X d M x n (s &&& (s - 1)) (acc + Int32.ofInt 1) (by have := kb_and hs; omega)
      refine ⟨k, ?_⟩
      refine nt_rn_b 2 (c' := (if s = 0 then 20 else 8, [(2, .int s), (1, .int acc), (0, .int x)], [], M)) rfl ?_
      rw [if_neg hs]
      exact nt_rn_b 8 (c' := (4, [(2, .int (s &&& (s - 1))), (1, .int (acc + Int32.ofInt 1)), (0, .int x)], [], M)) rfl hk
theorem ko_bits (X : nt_X) : sx_KOK X (sx_tbs, []) kk_bits := by
  intro F r vs M d hd hM hr hG hargs hon
  obtain ⟨v, u, rfl, ⟨x, rfl, hx⟩, hu⟩ := sx_os_c hargs
  cases u with
  | cons _ _ => exact hu.elim
  | nil =>
    obtain ⟨k, hk⟩ := kb_loop X d M x (x.toBitVec.toNat + 1) x (Int32.ofInt 0) (by omega)
    refine ⟨(some (.int k), M), ?_, _, List.mem_cons_self .., sx_ud r 1 k.toInt, ?_, ?_⟩
    · exact nt_rn_b 4 (c' := (4, [(2, .int x), (1, .int (Int32.ofInt 0)), (0, .int x)], [], M)) rfl hk
    · refine ⟨k, rfl, ?_⟩
      show k.toInt = sx_e _ (0, [(1, 1)])
      rw [sx_s_e]
      exact (if_pos rfl).symm
    · obtain ⟨y0, y1, y2, y3, y4, y5, y6⟩ := hon
      refine ⟨y0, y1, fun q hq => (by cases hq), fun q hq => (by cases hq), ⟨fun q hq => ?_, fun q hq => (by cases hq)⟩, fun s hs => ?_, y6⟩
      · rw [List.mem_singleton.mp hq]
        have a := k.le_toInt
        have b := k.toInt_lt
        show -2147483648 ≤ sx_ud r 1 k.toInt 1 ∧ sx_ud r 1 k.toInt 1 ≤ 2147483647
        unfold sx_ud
        rw [if_pos rfl]
        omega
      · have hs : s < 1 := hs
        rw [← y5 s hs]
        exact if_neg (by omega)
end
section
/-! contracts: the reference is asked -/
def kk_lacksOf : sx_K := (175, 3, [(11, 0, 0, 9), (13, 212, 212, 10)], ([], []), [(2, 0, (0, [])), (0, 0, (0, [(0, 1)])), (0, 0, (0, [(1, 1)]))], ([], [((0, (27, [])), 2)], ([(0, 0, 5), (1, 0, 3)], []), 2), [(some (0, 0, (0, [(2, 1)])), ([], [], ([(2, 0, 2147483647)], []), 3))])
def kh_lacksOf : List (sx_A × sx_L) := [((10, [(0, (2, 0, (0, []))), (1, (0, 0, (0, [(0, 1)]))), (2, (0, 0, (0, [(1, 1)]))), (3, (0, 0, (0, [(2, 1)]))), (4, (0, 0, (0, [(3, 1)])))], [], ([], [((0, (27, [])), 2)], ([(0, 0, 5), (1, 0, 3), (2, (-2147483648), 2147483647), (3, 0, 24)], []), 4)), (2147483647, [(3, (-1))]))]
def kk_isWhole : sx_K := (174, 4, [(11, 0, 0, 9), (13, 212, 212, 10)], ([], []), [(2, 0, (0, [])), (0, 0, (0, [(0, 1)]))], ([], [((0, (27, [])), 2)], ([(0, 0, 5)], []), 1), [(some (0, 0, (0, [(1, 1)])), ([], [], ([(1, 0, 1)], []), 2))])
def kh_isWhole : List (sx_A × sx_L) := [((2, [(0, (2, 0, (0, []))), (1, (0, 0, (0, [(0, 1)]))), (2, (0, 0, (0, [(1, 1)])))], [], ([], [((0, (27, [])), 2)], ([(0, 0, 5), (1, 0, 4)], []), 2)), (2147483647, [(1, (-1))]))]
def kk_beginsToday : sx_K := (195, 1, [(11, 0, 0, 9), (13, 212, 212, 10)], ([], []), [(2, 0, (0, [])), (0, 0, (0, [(0, 1)]))], ([], [((0, (27, [])), 2)], ([(0, (-2147483648), 2147483647)], []), 1), [(some (0, 0, (0, [(1, 1)])), ([], [], ([(1, 0, 1)], []), 2))])
def kh_beginsToday : List (sx_A × sx_L) := [((2, [(0, (2, 0, (0, []))), (1, (0, 0, (0, [(0, 1)]))), (2, (0, 0, (0, [(1, 1)])))], [], ([], [((0, (27, [])), 2)], ([(0, (-2147483648), 2147483647), (1, 0, 8)], []), 2)), (2147483647, [(1, (-1))]))]
def kk_soundIn : sx_K := (170, 3, [(11, 0, 0, 9), (13, 212, 212, 10)], ([], []), [(2, 0, (0, [])), (0, 0, (0, [(0, 1)]))], ([], [((0, (27, [])), 2)], ([(0, (-2147483648), 2147483647)], []), 1), [(some (0, 0, (0, [(1, 1)])), ([], [], ([(1, 0, 24)], []), 2))])
def kh_soundIn : List (sx_A × sx_L) := [((4, [(0, (2, 0, (0, []))), (1, (0, 0, (0, [(0, 1)]))), (2, (0, 0, (0, [(1, 1)]))), (3, (0, 0, (0, [(2, 1)])))], [], ([], [((0, (27, [])), 2)], ([(0, (-2147483648), 2147483647), (2, 0, 24), (1, 0, 24)], [(0, [(1, (-1)), (2, 1)])]), 3)), (2147483647, [(2, (-1))]))]
def kk_notLost : sx_K := (210, 1, [(11, 0, 0, 9), (13, 212, 212, 10)], ([], []), [(2, 0, (0, [])), (0, 0, (0, [(0, 1)]))], ([], [((0, (27, [])), 2)], ([(0, (-2147483648), 2147483647)], []), 1), [(some (0, 0, (0, [(1, 1)])), ([], [], ([(1, (-2147483648), 2147483647)], []), 2))])
def kh_notLost : List (sx_A × sx_L) := [((4, [(0, (2, 0, (0, []))), (1, (0, 0, (0, [(0, 1)]))), (2, (0, 0, (0, [(1, 1)]))), (3, (0, 0, (0, [(2, 1)])))], [], ([], [((0, (27, [])), 2)], ([(0, (-2147483648), 2147483647), (1, (-2147483648), 2147483647), (2, 0, 24)], []), 3)), (2147483647, [(2, (-1))]))]
def kk_ofOwner : sx_K := (220, 3, [(11, 0, 0, 9), (13, 212, 212, 10)], ([], []), [(2, 0, (0, [])), (0, 0, (0, [(0, 1)])), (0, 0, (0, [(1, 1)]))], ([], [((0, (27, [])), 2)], ([(0, (-2147483648), 2147483647), (1, (-2147483648), 2147483647)], []), 2), [(some (0, 0, (0, [(2, 1)])), ([], [], ([(2, (-2147483648), 2147483647)], []), 3))])
def kh_ofOwner : List (sx_A × sx_L) := [((5, [(0, (2, 0, (0, []))), (1, (0, 0, (0, [(0, 1)]))), (2, (0, 0, (0, [(1, 1)]))), (3, (0, 0, (0, [(2, 1)]))), (4, (0, 0, (0, [(3, 1)])))], [], ([], [((0, (27, [])), 2)], ([(0, (-2147483648), 2147483647), (1, (-2147483648), 2147483647), (3, 0, 24), (2, (-2147483648), 2147483647)], []), 4)), (2147483647, [(3, (-1))]))]
def kk_mostIn : sx_K := (219, 4, [(11, 0, 0, 9), (13, 212, 212, 10)], ([], []), [(2, 0, (0, [])), (0, 0, (0, [(0, 1)]))], ([], [((0, (27, [])), 2)], ([(0, (-2147483648), 2147483647)], []), 1), [(some (0, 0, (0, [(1, 1)])), ([], [], ([(1, (-2147483648), 2147483647)], []), 2))])
def kh_mostIn : List (sx_A × sx_L) := [((7, [(0, (2, 0, (0, []))), (1, (0, 0, (0, [(0, 1)]))), (2, (0, 0, (0, [(1, 1)]))), (3, (0, 0, (0, [(2, 1)]))), (4, (0, 0, (0, [(3, 1)])))], [], ([], [((0, (27, [])), 2)], ([(0, (-2147483648), 2147483647), (3, 0, 6), (1, (-1), 5), (2, 0, 2147483647)], []), 4)), (2147483647, [(3, (-1))]))]
def kk_payOf : sx_K := (213, 1, [(11, 0, 0, 9), (13, 212, 212, 10)], ([], []), [(2, 0, (0, [])), (0, 0, (0, [(0, 1)]))], ([], [((0, (27, [])), 2)], ([(0, (-2147483648), 2147483647)], []), 1), [(some (0, 0, (0, [(1, 1)])), ([], [], ([(1, (-2147483648), 2147483647)], []), 2))])
def kh_payOf : List (sx_A × sx_L) := [((4, [(0, (2, 0, (0, []))), (1, (0, 0, (0, [(0, 1)]))), (2, (0, 0, (0, [(1, 1)]))), (3, (0, 0, (0, [(2, 1)])))], [], ([], [((0, (27, [])), 2)], ([(0, (-2147483648), 2147483647), (1, (-2147483648), 2147483647), (2, 0, 8)], []), 3)), (2147483647, [(2, (-1))]))]
def kk_payFrom : sx_K := (224, 1, [(11, 0, 0, 9), (13, 212, 212, 10)], ([], []), [(2, 0, (0, [])), (0, 0, (0, [(0, 1)]))], ([], [((0, (27, [])), 2)], ([(0, (-2147483648), 2147483647)], []), 1), [(some (0, 0, (0, [(1, 1)])), ([], [], ([(1, (-2147483648), 2147483647)], []), 2))])
def kh_payFrom : List (sx_A × sx_L) := [((4, [(0, (2, 0, (0, []))), (1, (0, 0, (0, [(0, 1)]))), (2, (0, 0, (0, [(1, 1)]))), (3, (0, 0, (0, [(2, 1)])))], [], ([], [((0, (27, [])), 2)], ([(0, (-2147483648), 2147483647), (2, 0, 8), (1, (-2147483648), 2147483647)], []), 3)), (2147483647, [(2, (-1))]))]
def kk_cutOn : sx_K := (207, 2, [(11, 0, 0, 9), (13, 212, 212, 10)], ([], []), [(2, 0, (0, [])), (0, 0, (0, [(0, 1)])), (0, 0, (0, [(1, 1)]))], ([], [((0, (27, [])), 2)], ([(0, (-2147483648), 2147483647), (1, (-2147483648), 2147483647)], []), 2), [(some (0, 0, (0, [(2, 1)])), ([], [], ([(2, (-2147483648), 2147483647)], []), 3))])
def kh_cutOn : List (sx_A × sx_L) := [((2, [(0, (2, 0, (0, []))), (1, (0, 0, (0, [(0, 1)]))), (2, (0, 0, (0, [(1, 1)]))), (3, (0, 0, (0, [(2, 1)])))], [], ([], [((0, (27, [])), 2)], ([(0, (-2147483648), 2147483647), (1, (-2147483648), 2147483647), (2, 0, 4)], []), 3)), (18446744084446969855, [(2, (-8589934593))])), ((18, [(0, (2, 0, (0, []))), (1, (0, 0, (0, [(0, 1)]))), (2, (0, 0, (0, [(1, 1)]))), (3, (0, 0, (0, [(2, 1)]))), (4, (0, 0, (0, [(3, 1)]))), (5, (0, 0, (0, [(4, 1)])))], [], ([((1, (0, [])), (0, [(5, 1)]))], [((0, (27, [])), 2)], ([(0, (-2147483648), 2147483647), (1, (-2147483648), 2147483647), (5, 1, 4), (4, 0, 8), (3, (-2147483648), 2147483647), (2, 0, 3)], []), 6)), (18446744078004518910, [(2, (-8589934593)), (4, (-1))])), ((90, [(0, (2, 0, (0, []))), (1, (0, 0, (0, [(0, 1)]))), (2, (0, 0, (0, [(1, 1)]))), (3, (0, 0, (0, [(2, 1)]))), (4, (0, 0, (0, [(3, 1)])))], [], ([((1, (0, [])), (0, [(4, 1)]))], [((0, (27, [])), 2)], ([(0, (-2147483648), 2147483647), (1, (-2147483648), 2147483647), (4, 0, 4), (3, 0, 8), (2, (-2147483648), 2147483647)], []), 5)), (2147483647, [(3, (-1))]))]
def kk_cutDay : sx_K := (206, 3, [(11, 0, 0, 9), (13, 212, 212, 10)], ([], []), [(2, 0, (0, [])), (0, 0, (0, [(0, 1)]))], ([], [((0, (27, [])), 2)], ([(0, (-2147483648), 2147483647)], []), 1), [(some (0, 0, (0, [(1, 1)])), ([], [], ([(1, (-2147483648), 2147483647)], []), 2))])
def kh_cutDay : List (sx_A × sx_L) := [((2, [(0, (2, 0, (0, []))), (1, (0, 0, (0, [(0, 1)]))), (2, (0, 0, (0, [(1, 1)])))], [], ([], [((0, (27, [])), 2)], ([(0, (-2147483648), 2147483647), (1, 0, 99)], []), 2)), (2147483647, [(1, (-1))]))]
def kk_leastRot : sx_K := (216, 3, [(11, 0, 0, 9), (13, 212, 212, 10)], ([], []), [(2, 0, (0, [])), (0, 0, (0, [(0, 1)])), (0, 0, (0, [(1, 1)])), (0, 0, (0, [(2, 1)]))], ([], [((0, (27, [])), 2)], ([(0, (-2147483648), 2147483647), (1, (-2147483648), 2147483647), (2, (-2147483648), 2147483647)], []), 3), [(some (0, 0, (0, [(3, 1)])), ([], [], ([(3, (-1), 23)], []), 4))])
def kh_leastRot : List (sx_A × sx_L) := [((6, [(0, (2, 0, (0, []))), (1, (0, 0, (0, [(0, 1)]))), (2, (0, 0, (0, [(1, 1)]))), (3, (0, 0, (0, [(2, 1)]))), (4, (0, 0, (0, [(3, 1)]))), (5, (0, 0, (0, [(4, 1)])))], [], ([], [((0, (27, [])), 2)], ([(0, (-2147483648), 2147483647), (1, (-2147483648), 2147483647), (2, (-2147483648), 2147483647), (4, 0, 24), (3, (-1), 23)], []), 5)), (2147483647, [(4, (-1))]))]
def kk_sameBy : sx_K := (218, 5, [(11, 0, 0, 9), (13, 212, 212, 10)], ([], []), [(2, 0, (0, [])), (0, 0, (0, [(0, 1)])), (0, 0, (0, [(1, 1)]))], ([], [((0, (27, [])), 2)], ([(0, (-2147483648), 2147483647), (1, (-2147483648), 2147483647)], []), 2), [(some (0, 0, (0, [(2, 1)])), ([], [], ([(2, (-2147483648), 2147483647)], []), 3))])
def kh_sameBy : List (sx_A × sx_L) := [((20, [(0, (2, 0, (0, []))), (1, (0, 0, (0, [(0, 1)]))), (2, (0, 0, (0, [(1, 1)]))), (3, (0, 0, (0, [(2, 1)])))], [], ([], [((0, (27, [])), 2)], ([(0, (-2147483648), 2147483647), (1, (-2147483648), 2147483647), (2, 0, 24)], []), 3)), (2147483647, [(2, (-1))]))]
def kk_couldBe : sx_K := (225, 2, [(11, 0, 0, 9), (13, 212, 212, 10)], ([], []), [(2, 0, (0, [])), (0, 0, (0, [(0, 1)]))], ([], [((0, (27, [])), 2)], ([(0, (-2147483648), 2147483647)], []), 1), [(some (0, 0, (0, [(1, 1)])), ([], [], ([(1, 0, 1)], []), 2))])
def kh_couldBe : List (sx_A × sx_L) := [((2, [(0, (2, 0, (0, []))), (1, (0, 0, (0, [(0, 1)]))), (2, (0, 0, (0, [(1, 1)])))], [], ([], [((0, (27, [])), 2)], ([(0, (-2147483648), 2147483647), (1, 0, 6)], []), 2)), (147573952600413831167, [(1, (-1))])), ((40, [(0, (2, 0, (0, []))), (1, (0, 0, (0, [(0, 1)]))), (2, (0, 0, (0, [(1, 1)])))], [], ([((1, (1, [])), (0, [(2, 1)]))], [((0, (27, [])), 2)], ([(0, (-2147483648), 2147483647), (2, 0, 6), (1, 0, 4)], []), 3)), (36893488149566586879, [(1, (-17179869185))])), ((55, [(0, (2, 0, (0, []))), (1, (0, 0, (0, [(0, 1)]))), (2, (0, 0, (0, [(1, 1)]))), (3, (0, 0, (0, [(2, 1)]))), (4, (0, 0, (0, [(3, 1)])))], [], ([((1, (0, [])), (0, [(4, 1)])), ((1, (1, [])), (0, [(5, 1)]))], [((0, (27, [])), 2)], ([(0, (-2147483648), 2147483647), (5, 0, 6), (4, 1, 4), (3, 0, 24), (2, (-2147483648), 2147483647), (1, 0, 3)], []), 6)), (36893488143124135934, [(1, (-17179869185)), (3, (-1))])), ((103, [(0, (2, 0, (0, []))), (1, (0, 0, (0, [(0, 1)]))), (2, (0, 0, (0, [(1, 1)]))), (3, (0, 0, (0, [(2, 1)]))), (4, (0, 0, (0, [(3, 1)])))], [], ([((1, (2, [])), (0, [(4, 1)])), ((1, (0, [])), (0, [(5, 1)])), ((1, (1, [])), (0, [(6, 1)]))], [((0, (27, [])), 2)], ([(0, (-2147483648), 2147483647), (6, 0, 6), (5, 1, 4), (4, 0, 24), (2, (-2147483648), 2147483647), (3, 0, 6), (1, 0, 3)], []), 7)), (36893488134534201342, [(1, (-17179869185)), (3, (-1))]))]
def kk_lostOnes : sx_K := (228, 1, [(11, 0, 0, 9), (13, 212, 212, 10)], ([], []), [(2, 0, (0, []))], ([], [((0, (27, [])), 2)], ([], []), 0), [(some (0, 0, (0, [(0, 1)])), ([], [], ([(0, (-2147483648), 2147483647)], []), 1))])
def kh_lostOnes : List (sx_A × sx_L) := [((4, [(0, (2, 0, (0, []))), (1, (0, 0, (0, [(0, 1)]))), (2, (0, 0, (0, [(1, 1)])))], [], ([], [((0, (27, [])), 2)], ([(0, (-2147483648), 2147483647), (1, 0, 6)], []), 2)), (2147483647, [(1, (-1))]))]
def kk_firstIn : sx_K := (232, 3, [(11, 0, 0, 9), (13, 212, 212, 10)], ([], []), [(2, 0, (0, [])), (0, 0, (0, [(0, 1)]))], ([], [((0, (27, [])), 2)], ([(0, (-2147483648), 2147483647)], []), 1), [(some (0, 0, (0, [(1, 1)])), ([], [], ([(1, (-1), 23)], []), 2))])
def kh_firstIn : List (sx_A × sx_L) := [((2, [(0, (2, 0, (0, []))), (1, (0, 0, (0, [(0, 1)]))), (2, (0, 0, (0, [(1, 1)])))], [], ([], [((0, (27, [])), 2)], ([(0, (-2147483648), 2147483647), (1, 0, 24)], []), 2)), (2147483647, [(1, (-1))]))]
def kk_comesHome : sx_K := (191, 4, [(11, 0, 0, 9), (13, 212, 212, 10)], ([(1, 7, 7), (1, 14, 51), (1, 176, 211)], []), [(2, 0, (0, [])), (0, 0, (0, [(0, 1)]))], ([], [((0, (27, [])), 2)], ([(0, 0, 7)], []), 1), [(none, ([], [], ([], []), 1))])
def kh_comesHome : List (sx_A × sx_L) := [((31, [(0, (2, 0, (0, []))), (1, (0, 0, (0, [(0, 1)]))), (2, (0, 0, (0, [(1, 1)]))), (3, (0, 0, (0, [(2, 1)]))), (4, (0, 0, (0, [(3, 1)]))), (5, (0, 0, (0, [(4, 1)]))), (6, (0, 0, (0, [(5, 1)])))], [], ([((1, (175, [(0, 5)])), (0, [(2, 1)])), ((1, (172, [(0, 5)])), (0, [(1, 1)]))], [((0, (27, [])), 2)], ([(0, 0, 7), (1, 0, 5), (2, (-2147483648), 2147483647), (3, (-2147483648), 2147483647), (5, 0, 24), (4, (-2147483648), 2147483647)], []), 6)), (2147483647, [(5, (-1))]))]
def kk_rots : sx_K := (202, 3, [(11, 0, 0, 9), (13, 212, 212, 10)], ([(1, 14, 50), (1, 53, 211)], []), [(2, 0, (0, [])), (0, 0, (0, [(0, 1)]))], ([], [((0, (27, [])), 2)], ([(0, 0, 5)], []), 1), [(none, ([], [], ([], []), 1))])
def kh_rots : List (sx_A × sx_L) := [((4, [(0, (2, 0, (0, []))), (1, (0, 0, (0, [(0, 1)]))), (2, (0, 0, (0, [(1, 1)]))), (3, (0, 0, (0, [(2, 1)])))], [], ([], [((0, (27, [])), 2)], ([(0, 0, 5), (2, 0, 24), (1, 0, 1)], []), 3)), (10737418239, [(2, (-1))])), ((145, [(0, (2, 0, (0, []))), (1, (0, 0, (0, [(0, 1)]))), (2, (0, 0, (0, [(1, 1)]))), (3, (0, 0, (0, [(2, 1)]))), (4, (0, 0, (0, [(3, 1)])))], [], ([((1, (15, [(0, 7)])), ((-1), [])), ((1, (14, [(0, 7)])), (2, [])), ((1, (4, [])), (0, [(4, 1)])), ((1, (174, [(2, 5)])), (0, [(5, 1)])), ((1, (2, [])), (0, [(6, 1)]))], [((0, (27, [])), 2)], ([(0, 0, 5), (1, 1, 1), (6, 0, 24), (2, (-1), 7), (5, (-2147483648), 2147483647), (4, (-2147483648), 2147483647), (3, 0, 24)], []), 7)), (2147483647, [(3, (-1))]))]
def kk_ship : sx_K := (167, 5, [(11, 0, 0, 9), (13, 212, 212, 10)], ([], []), [(2, 0, (0, [])), (0, 0, (0, [(0, 1)])), (0, 0, (0, [(1, 1)]))], ([], [((0, (27, [])), 2)], ([(0, (-2147483648), 2147483647), (1, (-2147483648), 2147483647)], []), 2), [(some (0, 0, (0, [(2, 1)])), ([], [], ([(2, (-2147483648), 2147483647)], []), 3))])
def kh_ship : List (sx_A × sx_L) := []
def kk_plank : sx_K := (176, 1, [(11, 0, 0, 9), (13, 212, 212, 10)], ([], []), [(2, 0, (0, [])), (0, 0, (0, [(0, 1)])), (0, 0, (0, [(1, 1)]))], ([], [((0, (27, [])), 2)], ([(0, (-2147483648), 2147483647), (1, (-2147483648), 2147483647)], []), 2), [(some (0, 0, (0, [(2, 1)])), ([], [], ([(2, (-2147483648), 2147483647)], []), 3))])
def kh_plank : List (sx_A × sx_L) := []
def kk_voyage : sx_K := (178, 1, [(11, 0, 0, 9), (13, 212, 212, 10)], ([], []), [(2, 0, (0, [])), (0, 0, (0, [(0, 1)])), (0, 0, (0, [(1, 1)]))], ([], [((0, (27, [])), 2)], ([(0, (-2147483648), 2147483647), (1, (-2147483648), 2147483647)], []), 2), [(some (0, 0, (0, [(2, 1)])), ([], [], ([(2, (-2147483648), 2147483647)], []), 3))])
def kh_voyage : List (sx_A × sx_L) := []
def kk_move : sx_K := (181, 3, [(11, 0, 0, 9), (13, 212, 212, 10)], ([(1, 6, 6), (1, 8, 8), (1, 55, 170)], []), [(2, 0, (0, [])), (0, 0, (0, [(0, 1)])), (0, 0, (0, [(1, 1)]))], ([], [((0, (27, [])), 2)], ([(0, (-2147483648), 2147483647), (1, (-2147483648), 2147483647)], []), 2), [(some (0, 0, (0, [(2, 1)])), ([], [], ([(2, 0, 1)], []), 3))])
def kh_move : List (sx_A × sx_L) := []
def kk_lacks : sx_K := (203, 4, [(11, 0, 0, 9), (13, 212, 212, 10)], ([], []), [(2, 0, (0, [])), (0, 0, (0, [(0, 1)])), (0, 0, (0, [(1, 1)]))], ([], [((0, (27, [])), 2)], ([(0, (-2147483648), 2147483647), (1, (-2147483648), 2147483647)], []), 2), [(some (0, 0, (0, [(2, 1)])), ([], [], ([(2, (-2147483648), 2147483647)], []), 3))])
def kh_lacks : List (sx_A × sx_L) := []
def kk_together : sx_K := (204, 4, [(11, 0, 0, 9), (13, 212, 212, 10)], ([], []), [(2, 0, (0, [])), (0, 0, (0, [(0, 1)]))], ([], [((0, (27, [])), 2)], ([(0, (-2147483648), 2147483647)], []), 1), [(some (0, 0, (0, [(1, 1)])), ([], [], ([(1, (-2147483648), 2147483647)], []), 2))])
def kh_together : List (sx_A × sx_L) := []
def kk_cut : sx_K := (211, 4, [(11, 0, 0, 9), (13, 212, 212, 10)], ([], []), [(2, 0, (0, [])), (0, 0, (0, [(0, 1)])), (0, 0, (0, [(1, 1)]))], ([], [((0, (27, [])), 2)], ([(0, (-2147483648), 2147483647), (1, (-2147483648), 2147483647)], []), 2), [(some (0, 0, (0, [(2, 1)])), ([], [], ([(2, (-2147483648), 2147483647)], []), 3))])
def kh_cut : List (sx_A × sx_L) := []
def kk_most : sx_K := (212, 4, [(11, 0, 0, 9), (13, 212, 212, 10)], ([], []), [(2, 0, (0, [])), (0, 0, (0, [(0, 1)]))], ([], [((0, (27, [])), 2)], ([(0, (-2147483648), 2147483647)], []), 1), [(some (0, 0, (0, [(1, 1)])), ([], [], ([(1, (-2147483648), 2147483647)], []), 2))])
def kh_most : List (sx_A × sx_L) := [((23, [(0, (2, 0, (0, []))), (1, (0, 0, (0, [(0, 1)]))), (2, (0, 0, (0, [(1, 1)]))), (3, (0, 0, (0, [(2, 1)])))], [], ([((1, (0, [])), (0, [(3, 1)]))], [((0, (27, [])), 2)], ([(0, 0, 1), (3, 1, 4), (2, 1, 2147483647), (1, 0, 2147483647)], []), 4)), (2147483647, [(2, (-1))]))]
def kk_willDo : sx_K := (215, 4, [(11, 0, 0, 9), (13, 212, 212, 10)], ([], []), [(2, 0, (0, [])), (0, 0, (0, [(0, 1)]))], ([], [((0, (27, [])), 2)], ([(0, (-2147483648), 2147483647)], []), 1), [(some (0, 0, (0, [(1, 1)])), ([], [], ([(1, (-2147483648), 2147483647)], []), 2))])
def kh_willDo : List (sx_A × sx_L) := [((29, [(0, (2, 0, (0, []))), (1, (0, 0, (0, [(0, 1)]))), (2, (0, 0, (0, [(1, 1)]))), (3, (0, 0, (0, [(2, 1)]))), (4, (0, 0, (0, [(3, 1)])))], [], ([((1, (173, [(0, 5)])), (0, [(4, 1)])), ((1, (174, [(0, 5)])), (0, [(5, 1)])), ((1, (3, [])), (0, [(6, 1)]))], [((0, (27, [])), 2)], ([(0, 0, 7), (6, 1, 8), (5, (-2147483648), 2147483647), (4, (-2147483648), 2147483647), (1, (-2147483648), 2147483647), (3, 0, 4), (2, (-2147483648), 2147483647)], [((-1), [(0, (-1)), (6, 1)])]), 7)), (18446744075857035263, [(3, (-8589934593))])), ((43, [(0, (2, 0, (0, []))), (1, (0, 0, (0, [(0, 1)]))), (2, (0, 0, (0, [(1, 1)]))), (3, (0, 0, (0, [(2, 1)]))), (4, (0, 0, (0, [(3, 1)]))), (5, (0, 0, (0, [(4, 1)])))], [], ([((1, (0, [])), (0, [(5, 1)])), ((1, (173, [(0, 5)])), (0, [(6, 1)])), ((1, (174, [(0, 5)])), (0, [(7, 1)])), ((1, (3, [])), (0, [(8, 1)]))], [((0, (27, [])), 2)], ([(0, 0, 7), (8, 1, 8), (7, (-2147483648), 2147483647), (6, (-2147483648), 2147483647), (1, (-2147483648), 2147483647), (5, 1, 4), (2, (-2147483648), 2147483647), (4, 0, 2147483647), (3, 0, 3)], [((-1), [(0, (-1)), (8, 1)])]), 9)), (18446744069414584318, [(3, (-8589934593)), (4, (-1))]))]
def kk_same : sx_K := (217, 6, [(11, 0, 0, 9), (13, 212, 212, 10)], ([], []), [(2, 0, (0, [])), (0, 0, (0, [(0, 1)])), (0, 0, (0, [(1, 1)]))], ([], [((0, (27, [])), 2)], ([(0, (-2147483648), 2147483647), (1, (-2147483648), 2147483647)], []), 2), [(some (0, 0, (0, [(2, 1)])), ([], [], ([(2, (-2147483648), 2147483647)], []), 3))])
def kh_same : List (sx_A × sx_L) := []
def kk_unlike : sx_K := (221, 6, [(11, 0, 0, 9), (13, 212, 212, 10)], ([], []), [(2, 0, (0, []))], ([], [((0, (27, [])), 2)], ([], []), 0), [(some (0, 0, (0, [(0, 1)])), ([], [], ([(0, (-2147483648), 2147483647)], []), 1))])
def kh_unlike : List (sx_A × sx_L) := [((13, [(0, (2, 0, (0, []))), (1, (0, 0, (0, [(0, 1)]))), (2, (0, 0, (0, [(1, 1)])))], [], ([((1, (0, [])), (0, [(2, 1)]))], [((0, (27, [])), 2)], ([(2, 1, 4), (0, (-2147483648), 2147483647), (1, 0, 6)], []), 3)), (2147483647, [(1, (-1))]))]
def kk_wreck : sx_K := (222, 5, [(11, 0, 0, 9), (13, 212, 212, 10)], ([], []), [(2, 0, (0, [])), (0, 0, (0, [(0, 1)])), (0, 0, (0, [(1, 1)]))], ([], [((0, (27, [])), 2)], ([(0, (-2147483648), 2147483647), (1, (-2147483648), 2147483647)], []), 2), [(some (0, 0, (0, [(2, 1)])), ([], [], ([(2, (-2147483648), 2147483647)], []), 3))])
def kh_wreck : List (sx_A × sx_L) := []
def kk_dealt : sx_K := (223, 3, [(11, 0, 0, 9), (13, 212, 212, 10)], ([], []), [(2, 0, (0, [])), (0, 0, (0, [(0, 1)]))], ([], [((0, (27, [])), 2)], ([(0, (-2147483648), 2147483647)], []), 1), [(some (0, 0, (0, [(1, 1)])), ([], [], ([(1, (-2147483648), 2147483647)], []), 2))])
def kh_dealt : List (sx_A × sx_L) := [((23, [(0, (2, 0, (0, []))), (1, (0, 0, (0, [(0, 1)]))), (2, (0, 0, (0, [(1, 1)]))), (3, (0, 0, (0, [(2, 1)])))], [], ([((1, (0, [])), (0, [(3, 1)]))], [((0, (27, [])), 2)], ([(0, 0, 1), (3, 1, 4), (2, 1, 2147483647), (1, 0, 2147483647)], []), 4)), (2147483647, [(2, (-1))]))]
def kk_count : sx_K := (233, 3, [(11, 0, 0, 9), (13, 212, 212, 10)], ([], []), [(2, 0, (0, [])), (0, 0, (0, [(0, 1)]))], ([], [((0, (27, [])), 2)], ([(0, (-2147483648), 2147483647)], []), 1), [(some (0, 0, (0, [(1, 1)])), ([], [], ([(1, (-2147483648), 2147483647)], []), 2))])
def kh_count : List (sx_A × sx_L) := [((108, [(0, (2, 0, (0, []))), (1, (0, 0, (0, [(0, 1)]))), (2, (0, 0, (0, [(1, 1)]))), (3, (0, 0, (0, [(2, 1)])))], [], ([], [((0, (27, [])), 2)], ([(0, 8, 8), (2, 0, 24), (1, (-2147483648), 2147483647)], []), 3)), (2147483647, [(2, (-1))]))]
def kk_feed : sx_K := (130, 1, [(11, 0, 0, 9), (12, 400, 400, 0)], ([(0, 1, 1), (1, 0, 2147483647)], []), [(2, 0, (0, [])), (0, 0, (0, [(0, 1)])), (0, 0, (0, [(1, 1)])), (0, 0, (0, [(2, 1)])), (0, 0, (0, [(3, 1)])), (0, 0, (0, [(4, 1)]))], ([], [((0, (0, [])), 2)], ([(0, (-2147483648), 2147483647), (1, (-2147483648), 2147483647), (2, (-2147483648), 2147483647), (3, (-2147483648), 2147483647), (4, (-2147483648), 2147483647)], []), 5), [(some (0, 0, (0, [(5, 1)])), ([], [], ([(5, (-2147483648), 2147483647)], []), 6))])
def kh_feed : List (sx_A × sx_L) := []
def kk_end : sx_K := (132, 0, [(11, 0, 0, 9)], ([(0, 1, 1)], []), [(2, 0, (0, [])), (0, 0, (0, [(0, 1)]))], ([], [], ([(0, (-2147483648), 2147483647)], []), 1), [(some (0, 0, (0, [(1, 1)])), ([], [], ([(1, (-2147483648), 2147483647)], []), 2))])
def kh_end : List (sx_A × sx_L) := []
theorem kc_lacksOf : sx_chk (sx_tbs, []) [] kk_lacksOf kh_lacksOf 3000 = true := by decide +kernel
theorem ko_lacksOf (X : nt_X) : sx_KOK X (sx_tbs, []) kk_lacksOf := sx_keeps (Ks := []) (fun K h => by cases h) kc_lacksOf
theorem kc_isWhole : sx_chk (sx_tbs, []) [kk_lacksOf] kk_isWhole kh_isWhole 3000 = true := by decide +kernel
theorem ko_isWhole (X : nt_X) : sx_KOK X (sx_tbs, []) kk_isWhole := sx_keeps (Ks := [kk_lacksOf]) (fun K h => by
    rcases List.mem_cons.mp h with e | h
    · rw [e]; exact ko_lacksOf X
    cases h) kc_isWhole
theorem kc_beginsToday : sx_chk (sx_tbs, []) [] kk_beginsToday kh_beginsToday 3000 = true := by decide +kernel
theorem ko_beginsToday (X : nt_X) : sx_KOK X (sx_tbs, []) kk_beginsToday := sx_keeps (Ks := []) (fun K h => by cases h) kc_beginsToday
theorem kc_soundIn : sx_chk (sx_tbs, []) [] kk_soundIn kh_soundIn 3000 = true := by decide +kernel
theorem ko_soundIn (X : nt_X) : sx_KOK X (sx_tbs, []) kk_soundIn := sx_keeps (Ks := []) (fun K h => by cases h) kc_soundIn
theorem kc_notLost : sx_chk (sx_tbs, []) [] kk_notLost kh_notLost 3000 = true := by decide +kernel
theorem ko_notLost (X : nt_X) : sx_KOK X (sx_tbs, []) kk_notLost := sx_keeps (Ks := []) (fun K h => by cases h) kc_notLost
theorem kc_ofOwner : sx_chk (sx_tbs, []) [] kk_ofOwner kh_ofOwner 3000 = true := by decide +kernel
theorem ko_ofOwner (X : nt_X) : sx_KOK X (sx_tbs, []) kk_ofOwner := sx_keeps (Ks := []) (fun K h => by cases h) kc_ofOwner
theorem kc_mostIn : sx_chk (sx_tbs, []) [kk_ofOwner] kk_mostIn kh_mostIn 3000 = true := by decide +kernel
theorem ko_mostIn (X : nt_X) : sx_KOK X (sx_tbs, []) kk_mostIn := sx_keeps (Ks := [kk_ofOwner]) (fun K h => by
    rcases List.mem_cons.mp h with e | h
    · rw [e]; exact ko_ofOwner X
    cases h) kc_mostIn
theorem kc_payOf : sx_chk (sx_tbs, []) [] kk_payOf kh_payOf 3000 = true := by decide +kernel
theorem ko_payOf (X : nt_X) : sx_KOK X (sx_tbs, []) kk_payOf := sx_keeps (Ks := []) (fun K h => by cases h) kc_payOf
theorem kc_payFrom : sx_chk (sx_tbs, []) [] kk_payFrom kh_payFrom 3000 = true := by decide +kernel
theorem ko_payFrom (X : nt_X) : sx_KOK X (sx_tbs, []) kk_payFrom := sx_keeps (Ks := []) (fun K h => by cases h) kc_payFrom
theorem kc_cutOn : sx_chk (sx_tbs, []) [kk_notLost] kk_cutOn kh_cutOn 3000 = true := by decide +kernel
theorem ko_cutOn (X : nt_X) : sx_KOK X (sx_tbs, []) kk_cutOn := sx_keeps (Ks := [kk_notLost]) (fun K h => by
    rcases List.mem_cons.mp h with e | h
    · rw [e]; exact ko_notLost X
    cases h) kc_cutOn
theorem kc_cutDay : sx_chk (sx_tbs, []) [kk_cutOn] kk_cutDay kh_cutDay 3000 = true := by decide +kernel
theorem ko_cutDay (X : nt_X) : sx_KOK X (sx_tbs, []) kk_cutDay := sx_keeps (Ks := [kk_cutOn]) (fun K h => by
    rcases List.mem_cons.mp h with e | h
    · rw [e]; exact ko_cutOn X
    cases h) kc_cutDay
theorem kc_leastRot : sx_chk (sx_tbs, []) [] kk_leastRot kh_leastRot 3000 = true := by decide +kernel
theorem ko_leastRot (X : nt_X) : sx_KOK X (sx_tbs, []) kk_leastRot := sx_keeps (Ks := []) (fun K h => by cases h) kc_leastRot
theorem kc_sameBy : sx_chk (sx_tbs, []) [kk_mostIn] kk_sameBy kh_sameBy 3000 = true := by decide +kernel
theorem ko_sameBy (X : nt_X) : sx_KOK X (sx_tbs, []) kk_sameBy := sx_keeps (Ks := [kk_mostIn]) (fun K h => by
    rcases List.mem_cons.mp h with e | h
    · rw [e]; exact ko_mostIn X
    cases h) kc_sameBy
theorem kc_couldBe : sx_chk (sx_tbs, []) [] kk_couldBe kh_couldBe 3000 = true := by decide +kernel
theorem ko_couldBe (X : nt_X) : sx_KOK X (sx_tbs, []) kk_couldBe := sx_keeps (Ks := []) (fun K h => by cases h) kc_couldBe
theorem kc_lostOnes : sx_chk (sx_tbs, []) [] kk_lostOnes kh_lostOnes 3000 = true := by decide +kernel
theorem ko_lostOnes (X : nt_X) : sx_KOK X (sx_tbs, []) kk_lostOnes := sx_keeps (Ks := []) (fun K h => by cases h) kc_lostOnes
theorem kc_firstIn : sx_chk (sx_tbs, []) [] kk_firstIn kh_firstIn 3000 = true := by decide +kernel
theorem ko_firstIn (X : nt_X) : sx_KOK X (sx_tbs, []) kk_firstIn := sx_keeps (Ks := []) (fun K h => by cases h) kc_firstIn
theorem kc_comesHome : sx_chk (sx_tbs, []) [kk_soundIn] kk_comesHome kh_comesHome 3000 = true := by decide +kernel
theorem ko_comesHome (X : nt_X) : sx_KOK X (sx_tbs, []) kk_comesHome := sx_keeps (Ks := [kk_soundIn]) (fun K h => by
    rcases List.mem_cons.mp h with e | h
    · rw [e]; exact ko_soundIn X
    cases h) kc_comesHome
theorem kc_rots : sx_chk (sx_tbs, []) [] kk_rots kh_rots 3000 = true := by decide +kernel
theorem ko_rots (X : nt_X) : sx_KOK X (sx_tbs, []) kk_rots := sx_keeps (Ks := []) (fun K h => by cases h) kc_rots
theorem kc_ship : sx_chk (sx_tbs, []) [kk_isWhole, kk_soundIn] kk_ship kh_ship 3000 = true := by decide +kernel
theorem ko_ship (X : nt_X) : sx_KOK X (sx_tbs, []) kk_ship := sx_keeps (Ks := [kk_isWhole, kk_soundIn]) (fun K h => by
    rcases List.mem_cons.mp h with e | h
    · rw [e]; exact ko_isWhole X
    rcases List.mem_cons.mp h with e | h
    · rw [e]; exact ko_soundIn X
    cases h) kc_ship
theorem kc_plank : sx_chk (sx_tbs, []) [] kk_plank kh_plank 3000 = true := by decide +kernel
theorem ko_plank (X : nt_X) : sx_KOK X (sx_tbs, []) kk_plank := sx_keeps (Ks := []) (fun K h => by cases h) kc_plank
theorem kc_voyage : sx_chk (sx_tbs, []) [] kk_voyage kh_voyage 3000 = true := by decide +kernel
theorem ko_voyage (X : nt_X) : sx_KOK X (sx_tbs, []) kk_voyage := sx_keeps (Ks := []) (fun K h => by cases h) kc_voyage
theorem kc_move : sx_chk (sx_tbs, []) [] kk_move kh_move 3000 = true := by decide +kernel
theorem ko_move (X : nt_X) : sx_KOK X (sx_tbs, []) kk_move := sx_keeps (Ks := []) (fun K h => by cases h) kc_move
theorem kc_lacks : sx_chk (sx_tbs, []) [kk_lacksOf] kk_lacks kh_lacks 3000 = true := by decide +kernel
theorem ko_lacks (X : nt_X) : sx_KOK X (sx_tbs, []) kk_lacks := sx_keeps (Ks := [kk_lacksOf]) (fun K h => by
    rcases List.mem_cons.mp h with e | h
    · rw [e]; exact ko_lacksOf X
    cases h) kc_lacks
theorem kc_together : sx_chk (sx_tbs, []) [kk_cutDay] kk_together kh_together 3000 = true := by decide +kernel
theorem ko_together (X : nt_X) : sx_KOK X (sx_tbs, []) kk_together := sx_keeps (Ks := [kk_cutDay]) (fun K h => by
    rcases List.mem_cons.mp h with e | h
    · rw [e]; exact ko_cutDay X
    cases h) kc_together
theorem kc_cut : sx_chk (sx_tbs, []) [kk_cutOn, kk_cutDay] kk_cut kh_cut 3000 = true := by decide +kernel
theorem ko_cut (X : nt_X) : sx_KOK X (sx_tbs, []) kk_cut := sx_keeps (Ks := [kk_cutOn, kk_cutDay]) (fun K h => by
    rcases List.mem_cons.mp h with e | h
    · rw [e]; exact ko_cutOn X
    rcases List.mem_cons.mp h with e | h
    · rw [e]; exact ko_cutDay X
    cases h) kc_cut
theorem kc_most : sx_chk (sx_tbs, []) [kk_bits, kk_payOf, kk_cutDay] kk_most kh_most 3000 = true := by decide +kernel
theorem ko_most (X : nt_X) : sx_KOK X (sx_tbs, []) kk_most := sx_keeps (Ks := [kk_bits, kk_payOf, kk_cutDay]) (fun K h => by
    rcases List.mem_cons.mp h with e | h
    · rw [e]; exact ko_bits X
    rcases List.mem_cons.mp h with e | h
    · rw [e]; exact ko_payOf X
    rcases List.mem_cons.mp h with e | h
    · rw [e]; exact ko_cutDay X
    cases h) kc_most
theorem kc_willDo : sx_chk (sx_tbs, []) [kk_leastRot] kk_willDo kh_willDo 3000 = true := by decide +kernel
theorem ko_willDo (X : nt_X) : sx_KOK X (sx_tbs, []) kk_willDo := sx_keeps (Ks := [kk_leastRot]) (fun K h => by
    rcases List.mem_cons.mp h with e | h
    · rw [e]; exact ko_leastRot X
    cases h) kc_willDo
theorem kc_same : sx_chk (sx_tbs, []) [kk_sameBy] kk_same kh_same 3000 = true := by decide +kernel
theorem ko_same (X : nt_X) : sx_KOK X (sx_tbs, []) kk_same := sx_keeps (Ks := [kk_sameBy]) (fun K h => by
    rcases List.mem_cons.mp h with e | h
    · rw [e]; exact ko_sameBy X
    cases h) kc_same
theorem kc_unlike : sx_chk (sx_tbs, []) [kk_sameBy] kk_unlike kh_unlike 3000 = true := by decide +kernel
theorem ko_unlike (X : nt_X) : sx_KOK X (sx_tbs, []) kk_unlike := sx_keeps (Ks := [kk_sameBy]) (fun K h => by
    rcases List.mem_cons.mp h with e | h
    · rw [e]; exact ko_sameBy X
    cases h) kc_unlike
theorem kc_wreck : sx_chk (sx_tbs, []) [kk_ofOwner, kk_mostIn] kk_wreck kh_wreck 3000 = true := by decide +kernel
theorem ko_wreck (X : nt_X) : sx_KOK X (sx_tbs, []) kk_wreck := sx_keeps (Ks := [kk_ofOwner, kk_mostIn]) (fun K h => by
    rcases List.mem_cons.mp h with e | h
    · rw [e]; exact ko_ofOwner X
    rcases List.mem_cons.mp h with e | h
    · rw [e]; exact ko_mostIn X
    cases h) kc_wreck
theorem kc_dealt : sx_chk (sx_tbs, []) [kk_bits, kk_payFrom, kk_couldBe] kk_dealt kh_dealt 3000 = true := by decide +kernel
theorem ko_dealt (X : nt_X) : sx_KOK X (sx_tbs, []) kk_dealt := sx_keeps (Ks := [kk_bits, kk_payFrom, kk_couldBe]) (fun K h => by
    rcases List.mem_cons.mp h with e | h
    · rw [e]; exact ko_bits X
    rcases List.mem_cons.mp h with e | h
    · rw [e]; exact ko_payFrom X
    rcases List.mem_cons.mp h with e | h
    · rw [e]; exact ko_couldBe X
    cases h) kc_dealt
theorem kc_count : sx_chk (sx_tbs, []) [] kk_count kh_count 3000 = true := by decide +kernel
theorem ko_count (X : nt_X) : sx_KOK X (sx_tbs, []) kk_count := sx_keeps (Ks := []) (fun K h => by cases h) kc_count
theorem kc_feed : sx_chk (sx_tbs, []) [] kk_feed kh_feed 3000 = true := by decide +kernel
theorem ko_feed (X : nt_X) : sx_KOK X (sx_tbs, []) kk_feed := sx_keeps (Ks := []) (fun K h => by cases h) kc_feed
theorem kc_end : sx_chk (sx_tbs, []) [] kk_end kh_end 3000 = true := by decide +kernel
theorem ko_end (X : nt_X) : sx_KOK X (sx_tbs, []) kk_end := sx_keeps (Ks := []) (fun K h => by cases h) kc_end
end
