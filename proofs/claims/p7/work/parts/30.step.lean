/-! one step -/
def sx_cst (n : Int) (pc : Nat) (ls : List (Nat × sx_V)) (st : List sx_V) (N : sx_N) : Option (List sx_A) := bif decide (-2147483648 ≤ n) && decide (n ≤ 2147483647) then some [(pc, ls, (0, 0, (n, [])) :: st, N)] else none
theorem sx_cst_ok {E : sx_E} {F : sx_F} {r : Nat → Int} {n : Int} {pc : Nat} {ls : List (Nat × sx_V)} {st : List sx_V} {N : sx_N} {cl : nt_V} {cs : List Value} {M : nt_M} {As : List sx_A} (h : sx_cst n pc ls st N = some As) (h1 : sx_ol F.1 r ls cl) (h2 : sx_os F.1 r st cs) (h3 : sx_on E F r N M) : sx_an E F As (pc, cl, .int (Int32.ofInt n) :: cs, M) := by
  unfold sx_cst at h
  obtain ⟨hc, h⟩ := sx_bif h
  rw [Bool.and_eq_true, decide_eq_true_eq, decide_eq_true_eq] at hc
  cases h
  exact sx_an1 (r := r) ⟨rfl, h1, ⟨⟨_, rfl, by dsimp only; rw [sx_c_e]; exact Int32.toInt_ofInt_of_le (by omega) (by omega)⟩, h2⟩, h3⟩
def sx_stA (i pc : Nat) (ls : List (Nat × sx_V)) (st : List sx_V) (N : sx_N) : Option (List sx_A) := match st with
  | a :: t => bif sx_ra a then some [(pc, sx_s1 ls i a, t, N)] else none
  | [] => none
theorem sx_stA_ok {E : sx_E} {F : sx_F} {r : Nat → Int} {i pc : Nat} {ls : List (Nat × sx_V)} {st : List sx_V} {N : sx_N} {cl : nt_V} {cs : List Value} {M : nt_M} {As : List sx_A} (h : sx_stA i pc ls st N = some As) (h1 : sx_ol F.1 r ls cl) (h2 : sx_os F.1 r st cs) (h3 : sx_on E F r N M) : ∃ c', (nt_stA cs fun x q => some (pc, nt_s1 cl i x, q, M)) = some c' ∧ sx_an E F As c' := by
  unfold sx_stA at h
  split at h
  · rename_i a t
    obtain ⟨hr, h⟩ := sx_bif h
    cases h
    obtain ⟨v, u, rfl, hv, h4⟩ := sx_os_c h2
    rcases sx_ra_ok hr hv with ⟨b, rfl⟩ | rfl
    · exact ⟨_, rfl, sx_an1 (r := r) ⟨rfl, sx_s1_ok h1 hv, h4, h3⟩⟩
    · exact ⟨_, rfl, sx_an1 (r := r) ⟨rfl, sx_s1_ok h1 hv, h4, h3⟩⟩
  · cases h
def sx_ldA (i pc : Nat) (ls : List (Nat × sx_V)) (st : List sx_V) (N : sx_N) : Option (List sx_A) := match sx_lk ls i with
  | some a => bif sx_ra a then some [(pc, ls, a :: st, N)] else none
  | none => none
theorem sx_ldA_ok {E : sx_E} {F : sx_F} {r : Nat → Int} {i pc : Nat} {ls : List (Nat × sx_V)} {st : List sx_V} {N : sx_N} {cl : nt_V} {cs : List Value} {M : nt_M} {As : List sx_A} (h : sx_ldA i pc ls st N = some As) (h1 : sx_ol F.1 r ls cl) (h2 : sx_os F.1 r st cs) (h3 : sx_on E F r N M) : ∃ c', (nt_lkA cl i fun x => some (pc, cl, x :: cs, M)) = some c' ∧ sx_an E F As c' := by
  unfold sx_ldA at h
  split at h
  · rename_i a ha
    obtain ⟨hr, h⟩ := sx_bif h
    cases h
    obtain ⟨v, h5, hv⟩ := h1 _ (sx_lk_in ha)
    rcases sx_ra_ok hr hv with ⟨b, rfl⟩ | rfl
    · exact ⟨(pc, cl, .ref b :: cs, M), by unfold nt_lkA; rw [h5], sx_an1 (r := r) ⟨rfl, h1, ⟨hv, h2⟩, h3⟩⟩
    · exact ⟨(pc, cl, .null :: cs, M), by unfold nt_lkA; rw [h5], sx_an1 (r := r) ⟨rfl, h1, ⟨hv, h2⟩, h3⟩⟩
  · cases h
def sx_inc (E : sx_E) (i : Nat) (n : Int) (L : sx_L) (pc : Nat) (ls : List (Nat × sx_V)) (st : List sx_V) (N : sx_N) : Option (List sx_A) := bif decide (-2147483648 ≤ n) && decide (n ≤ 2147483647) then (bif sx_ir N (sx_add L (n, [])) then some [(pc, sx_s1 ls i (0, 0, sx_add L (n, [])), st, N)] else (match sx_fr E.2.2.2.2 sx_nI sx_xI ls st N with
  | some N' => some [(pc, sx_s1 ls i (0, 0, (0, [(N.2.2.2, 1)])), st, N')]
  | none => none)) else none
theorem sx_inc_ok {E : sx_E} {F : sx_F} {r : Nat → Int} {i : Nat} {n : Int} {L : sx_L} {pc : Nat} {ls : List (Nat × sx_V)} {st : List sx_V} {N : sx_N} {cl : nt_V} {cs : List Value} {M : nt_M} {As : List sx_A} {x : Int32} (h : sx_inc E i n L pc ls st N = some As) (h1 : sx_ol F.1 r ls cl) (h2 : sx_os F.1 r st cs) (h3 : sx_on E F r N M) (hx : x.toInt = sx_e r L) : sx_an E F As (pc, nt_s1 cl i (.int (x + Int32.ofInt n)), cs, M) := by
  unfold sx_inc at h
  obtain ⟨hc, h⟩ := sx_bif h
  rw [Bool.and_eq_true, decide_eq_true_eq, decide_eq_true_eq] at hc
  cases e : sx_ir N (sx_add L (n, [])) with
  | true =>
    rw [e] at h
    have h : some [(pc, sx_s1 ls i (0, 0, sx_add L (n, [])), st, N)] = some As := h
    cases h
    obtain ⟨a, b⟩ := sx_ir_ok e h3
    refine sx_an1 (r := r) ⟨rfl, sx_s1_ok h1 ⟨_, rfl, ?_⟩, h2, h3⟩
    dsimp only
    rw [sx_add_e, sx_c_e] at a b ⊢
    rw [Int32.toInt_add, hx, Int32.toInt_ofInt_of_le (by omega) (by omega)]
    exact sx_bm a b
  | false =>
    rw [e] at h
    have h : (match sx_fr E.2.2.2.2 sx_nI sx_xI ls st N with
      | some N' => some [(pc, sx_s1 ls i (0, 0, (0, [(N.2.2.2, 1)])), st, N')]
      | none => none) = some As := h
    split at h
    · rename_i N' hN
      cases h
      have x1 := (x + Int32.ofInt n).le_toInt
      have x2 := (x + Int32.ofInt n).toInt_lt
      obtain ⟨r', k1, k2, k3, k4, k5, k6⟩ := sx_fr_ok (v := (x + Int32.ofInt n).toInt) hN h1 h2 h3 (by unfold sx_nI; omega) (by unfold sx_xI; omega)
      exact sx_an1 (r := r') ⟨rfl, sx_s1_ok k1 ⟨_, rfl, k4.symm⟩, k2, k3⟩
    · cases h
def sx_mul2 (E : sx_E) (x y : sx_L) (pc : Nat) (ls : List (Nat × sx_V)) (st : List sx_V) (N : sx_N) : Option (List sx_A) := match x, y with
  | (c, []), _ => sx_pI E (sx_mul c y) pc ls st N
  | _, (c, []) => sx_pI E (sx_mul c x) pc ls st N
  | _, _ => sx_pF E sx_nI sx_xI pc ls st N
theorem sx_mul2_ok {E : sx_E} {F : sx_F} {r : Nat → Int} {X Y : sx_L} {pc : Nat} {ls : List (Nat × sx_V)} {st : List sx_V} {N : sx_N} {cl : nt_V} {cs : List Value} {M : nt_M} {As : List sx_A} (x y : Int32) (h : sx_mul2 E X Y pc ls st N = some As) (h1 : sx_ol F.1 r ls cl) (h2 : sx_os F.1 r st cs) (h3 : sx_on E F r N M) (hx : x.toInt = sx_e r X) (hy : y.toInt = sx_e r Y) : sx_an E F As (pc, cl, .int (x * y) :: cs, M) := by
  unfold sx_mul2 at h
  split at h
  · rename_i c
    rw [sx_c_e] at hx
    refine sx_pI_ok _ h h1 h2 h3 fun a b => ?_
    rw [sx_mul_e] at a b ⊢
    rw [Int32.toInt_mul, hx, hy]
    exact sx_bm a b
  · rename_i c _
    rw [sx_c_e] at hy
    refine sx_pI_ok _ h h1 h2 h3 fun a b => ?_
    rw [sx_mul_e] at a b ⊢
    rw [Int32.toInt_mul, hx, hy, Int.mul_comm]
    exact sx_bm a b
  · exact sx_pFf_ok _ h h1 h2 h3
/-- a field is read -/
def sx_gfl (E : sx_E) (g pc : Nat) (ls : List (Nat × sx_V)) (st : List sx_V) (N : sx_N) : Option (List sx_A) := sx_a1 st fun a t => match E.2.1[a]? with
  | none => none
  | some q => bif Nat.beq q.1 (g / 100) && (Nat.blt (g / 100) 12 && (Nat.blt (g % 100) (nt_N (g / 100)))) then (match nt_tg (g / 100) (g % 100) with
    | 1 => sx_pJ E pc ls t N
    | 2 => (match sx_gtR a (((g % 100 : Nat) : Int), []) N.2.1 with
      | some 0 => some [(pc, ls, (3, 0, (0, [])) :: t, N)]
      | some (k + 1) => some [(pc, ls, (2, k, (0, [])) :: t, N)]
      | none => none)
    | _ => (match sx_rdc E a (((g % 100 : Nat) : Int), []) ls t N with
      | some o => some [(pc, ls, (0, 0, o.1) :: t, o.2)]
      | none => none)) else none
theorem sx_gfl_ok {E : sx_E} {F : sx_F} {r : Nat → Int} {X : nt_X} {mi g t i pc : Nat} {ls : List (Nat × sx_V)} {st : List sx_V} {N : sx_N} {cl : nt_V} {cs : List Value} {M : nt_M} {As : List sx_A} (h : sx_gfl E g (pc + 3) ls st N = some As) (h1 : sx_ol F.1 r ls cl) (h2 : sx_os F.1 r st cs) (h3 : sx_on E F r N M) : ∃ c', nt_sx X mi g t (.getfield i) pc cl cs M = some c' ∧ sx_an E F As c' := by
  obtain ⟨a, tt, cr, rfl, h4, h⟩ := sx_a1_ok h h2
  split at h
  · cases h
  · rename_i q hq
    obtain ⟨hc, h⟩ := sx_bif h
    rw [Bool.and_eq_true, Bool.and_eq_true] at hc
    obtain ⟨c1, c2, c3⟩ := hc
    have c1 := Nat.eq_of_beq_eq_true c1
    obtain ⟨b1, b2, b3, b4, b5⟩ := h3.2.1.2 a q hq
    refine ⟨_, nt_x_get (c := g / 100) b1 (b2.trans c1) (by rw [Bool.and_eq_true, Bool.and_eq_true]; exact ⟨Nat.beq_refl _, c2, c3⟩) rfl, ?_⟩
    unfold nt_gf
    split at h
    · rename_i e
      rw [e]
      exact sx_pJ_ok _ h h1 h4 h3
    · rename_i e
      rw [e]
      split at h
      · rename_i e2
        cases h
        obtain ⟨d1, d2, d3⟩ := h3.2.2.2.1 _ (sx_gtR_in e2)
        dsimp only at d3
        rw [sx_c_e] at d3
        have d3 : nt_R M (F.1 a) (g % 100) = none := d3
        rw [d3]
        exact sx_an1 (r := r) ⟨rfl, h1, ⟨rfl, h4⟩, h3⟩
      · rename_i k e2
        cases h
        obtain ⟨d1, d2, d3⟩ := h3.2.2.2.1 _ (sx_gtR_in e2)
        dsimp only at d3
        rw [sx_c_e] at d3
        have d3 : nt_R M (F.1 a) (g % 100) = some (F.1 k) := d3
        rw [d3]
        exact sx_an1 (r := r) ⟨rfl, h1, ⟨rfl, h4⟩, h3⟩
      · cases h
    · rename_i n1 n2
      split at h
      · rename_i o ho
        cases h
        obtain ⟨o1, o2⟩ := o
        obtain ⟨r', k1, k2, k3, k4, k5, k6⟩ := sx_rdc_ok ho h1 h4 h3 (by rw [sx_c_e]; omega)
        rw [sx_c_e] at k4
        refine sx_an1 (r := r') ⟨rfl, k1, ⟨?_, k2⟩, k3⟩
        split
        · rename_i e; exact absurd e n1
        · rename_i e; exact absurd e n2
        · exact ⟨_, rfl, k4.symm⟩
      · cases h
/-- a field is written -/
def sx_pfl (E : sx_E) (mi g pc : Nat) (ls : List (Nat × sx_V)) (st : List sx_V) (N : sx_N) : Option (List sx_A) := match st with
  | v :: (2, a, _) :: t => (match E.2.1[a]? with
    | none => none
    | some q => bif Nat.beq q.1 (g / 100) && (Nat.blt (g / 100) 12 && (Nat.blt (g % 100) (nt_N (g / 100)) && (!(nt_T (g / 100) (g % 100)).2.2.2 || (Nat.beq (nt_m mi).2.2.2.2.2.2.1 2 && Nat.beq (nt_m mi).2.2.2.2.1 (g / 100))))) then (match nt_tg (g / 100) (g % 100) with
      | 0 => bif Nat.beq v.1 0 then (match sx_wrc E a (((g % 100 : Nat) : Int), []) v.2.2 N with
        | some N' => some [(pc, ls, t, N')]
        | none => none) else none
      | 1 => bif Nat.beq v.1 1 then some [(pc, ls, t, N)] else none
      | 2 => bif Nat.beq v.1 2 then (match sx_wrR E a (g % 100) (v.2.1 + 1) N with
        | some N' => some [(pc, ls, t, N')]
        | none => none) else none
      | 3 => bif Nat.beq v.1 0 && (sx_p N v.2.2 && sx_p N (sx_sub (1, []) v.2.2)) then (match sx_wrc E a (((g % 100 : Nat) : Int), []) v.2.2 N with
        | some N' => some [(pc, ls, t, N')]
        | none => none) else none
      | _ => none) else none)
  | _ => none
theorem sx_pfl_ok {E : sx_E} {F : sx_F} {r : Nat → Int} {X : nt_X} {mi g t i pc : Nat} {ls : List (Nat × sx_V)} {st : List sx_V} {N : sx_N} {cl : nt_V} {cs : List Value} {M : nt_M} {As : List sx_A} (h : sx_pfl E mi g (pc + 3) ls st N = some As) (h1 : sx_ol F.1 r ls cl) (h2 : sx_os F.1 r st cs) (h3 : sx_on E F r N M) : ∃ c', nt_sx X mi g t (.putfield i) pc cl cs M = some c' ∧ sx_an E F As c' := by
  unfold sx_pfl at h
  split at h
  · rename_i v a z tt
    obtain ⟨w, u, rfl, hv, h4⟩ := sx_os_c h2
    obtain ⟨w2, u2, rfl, rfl, h5⟩ := sx_os_c h4
    split at h
    · cases h
    · rename_i q hq
      obtain ⟨hc, h⟩ := sx_bif h
      rw [Bool.and_eq_true] at hc
      obtain ⟨c1, c2⟩ := hc
      have c1 := Nat.eq_of_beq_eq_true c1
      obtain ⟨b1, b2, b3, b4, b5⟩ := h3.2.1.2 a q hq
      have hgl := (List.getElem?_eq_some_iff.mp hq).1
      have key : ∀ M', nt_pf M (F.1 a) (g / 100) (g % 100) w (fun M2 => some (pc + 3, cl, u2, M2)) = some (pc + 3, cl, u2, M') → nt_sx X mi g t (.putfield i) pc cl (w :: .ref (F.1 a) :: u2) M = some (pc + 3, cl, u2, M') := fun M' hM => nt_x_put (c := g / 100) b1 (b2.trans c1) (by rw [Bool.and_eq_true]; exact ⟨Nat.beq_refl _, c2⟩) hM
      obtain ⟨vk, vb, vL⟩ := v
      split at h
      · rename_i e
        obtain ⟨d1, h⟩ := sx_bif h
        have d1 : vk = 0 := Nat.eq_of_beq_eq_true d1
        subst d1
        obtain ⟨x, rfl, hx⟩ := hv
        split at h
        · rename_i N' hN
          cases h
          obtain ⟨k0, k1⟩ := sx_wrc_ok hN h3 hx
          rw [sx_c_e] at k1
          exact ⟨_, key (nt_sI M (F.1 a) (g % 100) x) (by unfold nt_pf; rw [e] <;> rfl), sx_an1 (r := r) ⟨rfl, h1, h5, k1⟩⟩
        · cases h
      · rename_i e
        obtain ⟨d1, h⟩ := sx_bif h
        have d1 : vk = 1 := Nat.eq_of_beq_eq_true d1
        subst d1
        obtain ⟨x, rfl, hx⟩ := hv
        cases h
        exact ⟨_, key (nt_sJ M (F.1 a) (g % 100) x) (by unfold nt_pf; rw [e] <;> rfl), sx_an1 (r := r) ⟨rfl, h1, h5, sx_wrJ_ok hgl h3⟩⟩
      · rename_i e
        obtain ⟨d1, h⟩ := sx_bif h
        have d1 : vk = 2 := Nat.eq_of_beq_eq_true d1
        subst d1
        have hv : w = .ref (F.1 vb) := hv
        subst hv
        split at h
        · rename_i N' hN
          cases h
          have k1 := sx_wrR_ok hN h3
          exact ⟨_, key (nt_sR M (F.1 a) (g % 100) (some (F.1 vb))) (by unfold nt_pf; rw [e] <;> rfl), sx_an1 (r := r) ⟨rfl, h1, h5, k1⟩⟩
        · cases h
      · rename_i e
        obtain ⟨d1, h⟩ := sx_bif h
        rw [Bool.and_eq_true, Bool.and_eq_true] at d1
        obtain ⟨d1, d2, d3⟩ := d1
        have d1 : vk = 0 := Nat.eq_of_beq_eq_true d1
        subst d1
        obtain ⟨x, rfl, hx⟩ := hv
        have d2 := sx_p_ok h3 d2
        have d3 := sx_p_ok h3 d3
        rw [sx_sub_e, sx_c_e] at d3
        dsimp only at d2 d3 hx
        have hz : x = 0 ∨ x = 1 := by
          rw [sx_eq32, sx_eq32, sx_z32, show (1 : Int32).toInt = 1 from rfl]
          omega
        split at h
        · rename_i N' hN
          cases h
          obtain ⟨k0, k1⟩ := sx_wrc_ok hN h3 hx
          rw [sx_c_e] at k1
          exact ⟨_, key (nt_sI M (F.1 a) (g % 100) x) (by unfold nt_pf; rw [e]; exact if_pos hz), sx_an1 (r := r) ⟨rfl, h1, h5, k1⟩⟩
        · cases h
      · cases h
  · cases h
/-- an index that is there -/
theorem sx_ix {x : Int32} {L : sx_L} {r : Nat → Int} {n : Nat} (hx : x.toInt = sx_e r L) (h0 : 0 ≤ sx_e r L) : x = nI (sx_e r L).toNat := by
  have x2 := x.toInt_lt
  refine Int32.toInt_inj.mp ?_
  rw [nI_toInt (by omega)]
  omega
/-- rows are read -/
def sx_ald (E : sx_E) (op pc : Nat) (ls : List (Nat × sx_V)) (st : List sx_V) (N : sx_N) : Option (List sx_A) := sx_i1 st fun L t => sx_a1 t fun a t => match E.2.1[a]? with
  | none => none
  | some q => bif Nat.blt a 100 && sx_inb N a q L then (match op with
    | 0 => bif Nat.beq q.1 13 then (match sx_rdc E a L ls t N with
      | some o => some [(pc, ls, (0, 0, o.1) :: t, o.2)]
      | none => none) else none
    | 1 => bif Nat.beq q.1 12 || Nat.beq q.1 15 then (match sx_rdc E a L ls t N with
      | some o => some [(pc, ls, (0, 0, o.1) :: t, o.2)]
      | none => none) else none
    | 2 => bif Nat.beq q.1 14 then sx_pJ E pc ls t N else none
    | _ => bif Nat.beq q.1 16 || Nat.beq q.1 17 then (match sx_gtR a L N.2.1 with
      | some 0 => some [(pc, ls, (3, 0, (0, [])) :: t, N)]
      | some (k + 1) => some [(pc, ls, (2, k, (0, [])) :: t, N)]
      | none => none) else none) else none
theorem sx_ald_ok {E : sx_E} {F : sx_F} {r : Nat → Int} {X : nt_X} {mi g t pc op : Nat} {ls : List (Nat × sx_V)} {st : List sx_V} {N : sx_N} {cl : nt_V} {cs : List Value} {M : nt_M} {As : List sx_A} (h : sx_ald E op (pc + 1) ls st N = some As) (h1 : sx_ol F.1 r ls cl) (h2 : sx_os F.1 r st cs) (h3 : sx_on E F r N M) : ∃ c', nt_sx X mi g t (match op with | 0 => .iaload | 1 => .baload | 2 => .laload | _ => .aaload) pc cl cs M = some c' ∧ sx_an E F As c' := by
  obtain ⟨L, t1, x, cr1, rfl, hx, h4, h⟩ := sx_i1_ok h h2
  obtain ⟨a, t2, cr, rfl, h5, h⟩ := sx_a1_ok h h4
  split at h
  · cases h
  · rename_i q hq
    obtain ⟨hc, h⟩ := sx_bif h
    rw [Bool.and_eq_true] at hc
    have ha : a < 100 := Nat.blt_eq.mp hc.1
    obtain ⟨i0, i1⟩ := sx_inb_ok hc.2 h3 hq ha
    obtain ⟨b1, b2, b3, b4, b5⟩ := h3.2.1.2 a q hq
    have hX := sx_ix (n := 0) hx i0
    split at h
    · obtain ⟨d1, h⟩ := sx_bif h
      have d1 := Nat.eq_of_beq_eq_true d1
      split at h
      · rename_i o ho
        cases h
        obtain ⟨o1, o2⟩ := o
        obtain ⟨r', k1, k2, k3, k4, k5, k6⟩ := sx_rdc_ok ho h1 h5 h3 i0
        exact ⟨_, nt_x_iald b1 (b2.trans d1) h3.2.1.1 hX i1 b4, sx_an1 (r := r') ⟨rfl, k1, ⟨⟨_, rfl, k4.symm⟩, k2⟩, k3⟩⟩
      · cases h
    · obtain ⟨d1, h⟩ := sx_bif h
      rw [Bool.or_eq_true] at d1
      have d1 : nt_k M (F.1 a) = 12 ∨ nt_k M (F.1 a) = 15 := by
        rcases d1 with d | d
        · exact Or.inl (b2.trans (Nat.eq_of_beq_eq_true d))
        · exact Or.inr (b2.trans (Nat.eq_of_beq_eq_true d))
      split at h
      · rename_i o ho
        cases h
        obtain ⟨o1, o2⟩ := o
        obtain ⟨r', k1, k2, k3, k4, k5, k6⟩ := sx_rdc_ok ho h1 h5 h3 i0
        exact ⟨_, nt_x_bald b1 d1 hX i1 b4, sx_an1 (r := r') ⟨rfl, k1, ⟨⟨_, rfl, k4.symm⟩, k2⟩, k3⟩⟩
      · cases h
    · obtain ⟨d1, h⟩ := sx_bif h
      have d1 := Nat.eq_of_beq_eq_true d1
      exact ⟨_, nt_x_jald b1 (b2.trans d1) hX i1 b4, sx_pJ_ok _ h h1 h5 h3⟩
    · rename_i n0 n1 n2
      obtain ⟨d1, h⟩ := sx_bif h
      rw [Bool.or_eq_true] at d1
      have hs : nt_sx X mi g t .aaload pc cl (.int x :: .ref (F.1 a) :: cr) M = some (pc + 1, cl, nt_rv (nt_R M (F.1 a) (sx_e r L).toNat) :: cr, M) := by
        show (if nt_k M (F.1 a) = 17 then nt_in M (F.1 a) 17 x (some (pc + 1, cl, nt_rv (nt_R M (F.1 a) x.toNatClampNeg) :: cr, M)) else nt_in M (F.1 a) 16 x (some (pc + 1, cl, nt_rv (nt_R M (F.1 a) x.toNatClampNeg) :: cr, M))) = _
        rcases d1 with d | d
        · have d := b2.trans (Nat.eq_of_beq_eq_true d)
          rw [if_neg (by omega), nt_inI b1 d hX i1 b4, hX, nI_clamp (by omega)]
        · have d := b2.trans (Nat.eq_of_beq_eq_true d)
          rw [if_pos d, nt_inI b1 d hX i1 b4, hX, nI_clamp (by omega)]
      refine ⟨_, hs, ?_⟩
      split at h
      · rename_i e2
        cases h
        obtain ⟨d1, d2, d3⟩ := h3.2.2.2.1 _ (sx_gtR_in e2)
        have d3 : nt_R M (F.1 a) (sx_e r L).toNat = none := d3
        rw [d3]
        exact sx_an1 (r := r) ⟨rfl, h1, ⟨rfl, h5⟩, h3⟩
      · rename_i k e2
        cases h
        obtain ⟨d1, d2, d3⟩ := h3.2.2.2.1 _ (sx_gtR_in e2)
        have d3 : nt_R M (F.1 a) (sx_e r L).toNat = some (F.1 k) := d3
        rw [d3]
        exact sx_an1 (r := r) ⟨rfl, h1, ⟨rfl, h5⟩, h3⟩
      · cases h
/-- rows are written -/
def sx_ast (E : sx_E) (op pc : Nat) (ls : List (Nat × sx_V)) (st : List sx_V) (N : sx_N) : Option (List sx_A) := match st with
  | v :: t0 => sx_i1 t0 fun L t => sx_a1 t fun a t => (match E.2.1[a]? with
    | none => none
    | some q => bif Nat.blt a 100 && sx_inb N a q L then (match op with
      | 0 => bif Nat.beq v.1 0 && Nat.beq q.1 13 then (match sx_wrc E a L v.2.2 N with
        | some N' => some [(pc, ls, t, N')]
        | none => none) else none
      | 1 => bif Nat.beq v.1 0 && (Nat.beq q.1 12 || Nat.beq q.1 15) then (bif Nat.beq q.1 15 && (sx_p N v.2.2 && sx_p N (sx_sub (1, []) v.2.2)) then (match sx_wrc E a L v.2.2 N with
        | some N' => some [(pc, ls, t, N')]
        | none => none) else (match sx_wrn E a L N with
        | some N' => some [(pc, ls, t, N')]
        | none => none)) else none
      | _ => bif Nat.beq v.1 1 && Nat.beq q.1 14 then some [(pc, ls, t, N)] else none) else none)
  | [] => none
theorem sx_ast_ok {E : sx_E} {F : sx_F} {r : Nat → Int} {X : nt_X} {mi g t pc op : Nat} {ls : List (Nat × sx_V)} {st : List sx_V} {N : sx_N} {cl : nt_V} {cs : List Value} {M : nt_M} {As : List sx_A} (h : sx_ast E op (pc + 1) ls st N = some As) (h1 : sx_ol F.1 r ls cl) (h2 : sx_os F.1 r st cs) (h3 : sx_on E F r N M) : ∃ c', nt_sx X mi g t (match op with | 0 => .iastore | 1 => .bastore | _ => .lastore) pc cl cs M = some c' ∧ sx_an E F As c' := by
  unfold sx_ast at h
  split at h
  · rename_i v t0
    obtain ⟨w, u, rfl, hv, h4⟩ := sx_os_c h2
    obtain ⟨L, t1, x, cr1, rfl, hx, h5, h⟩ := sx_i1_ok h h4
    obtain ⟨a, t2, cr, rfl, h6, h⟩ := sx_a1_ok h h5
    obtain ⟨vk, vb, vL⟩ := v
    split at h
    · cases h
    · rename_i q hq
      obtain ⟨hc, h⟩ := sx_bif h
      rw [Bool.and_eq_true] at hc
      have ha : a < 100 := Nat.blt_eq.mp hc.1
      obtain ⟨i0, i1⟩ := sx_inb_ok hc.2 h3 hq ha
      obtain ⟨b1, b2, b3, b4, b5⟩ := h3.2.1.2 a q hq
      have hX := sx_ix (n := 0) hx i0
      have hgl := (List.getElem?_eq_some_iff.mp hq).1
      split at h
      · obtain ⟨d1, hh⟩ := sx_bif h
        rw [Bool.and_eq_true] at d1
        obtain ⟨d0, d1⟩ := d1
        have d0 : vk = 0 := Nat.eq_of_beq_eq_true d0
        have d1 := Nat.eq_of_beq_eq_true d1
        subst d0
        obtain ⟨y, rfl, hy⟩ := hv
        split at hh
        · rename_i N' hN
          cases hh
          obtain ⟨k0, k1⟩ := sx_wrc_ok hN h3 hy
          exact ⟨_, nt_x_iast b1 (b2.trans d1) hX i1 b4, sx_an1 (r := r) ⟨rfl, h1, h6, k1⟩⟩
        · cases hh
      · obtain ⟨d1, hh⟩ := sx_bif h
        rw [Bool.and_eq_true, Bool.or_eq_true] at d1
        obtain ⟨d0, d1⟩ := d1
        have d0 : vk = 0 := Nat.eq_of_beq_eq_true d0
        subst d0
        obtain ⟨y, rfl, hy⟩ := hv
        cases e9 : Nat.beq q.1 15 && (sx_p N vL && sx_p N (sx_sub (1, []) vL)) with
        | true =>
          rw [e9, cond_true] at hh
          rw [Bool.and_eq_true, Bool.and_eq_true] at e9
          obtain ⟨e1, e2, e3⟩ := e9
          have e1 := b2.trans (Nat.eq_of_beq_eq_true e1)
          have e2 := sx_p_ok h3 e2
          have e3 := sx_p_ok h3 e3
          rw [sx_sub_e, sx_c_e] at e3
          have hz : y = 0 ∨ y = 1 := by
            rw [sx_eq32, sx_eq32, sx_z32, show (1 : Int32).toInt = 1 from rfl]
            dsimp only at hy
            omega
          have hnar : vp_nar .boolean y = y := by
            rcases hz with rfl | rfl <;> rfl
          split at hh
          · rename_i N' hN
            cases hh
            obtain ⟨k0, k1⟩ := sx_wrc_ok hN h3 hy
            refine ⟨_, nt_x_zast b1 e1 hX i1 b4, sx_an1 (r := r) ⟨rfl, h1, h6, ?_⟩⟩
            rw [hnar]
            exact k1
          · cases hh
        | false =>
        rw [e9, cond_false] at hh
        split at hh
        · rename_i N' hN
          cases hh
          rcases d1 with d | d
          · have d := b2.trans (Nat.eq_of_beq_eq_true d)
            exact ⟨_, nt_x_bast b1 d hX i1 b4, sx_an1 (r := r) ⟨rfl, h1, h6, (sx_wrn_ok hN h3).2⟩⟩
          · have d := b2.trans (Nat.eq_of_beq_eq_true d)
            exact ⟨_, nt_x_zast b1 d hX i1 b4, sx_an1 (r := r) ⟨rfl, h1, h6, (sx_wrn_ok hN h3).2⟩⟩
        · cases hh
      · rename_i n0 n1
        obtain ⟨d1, hh⟩ := sx_bif h
        rw [Bool.and_eq_true] at d1
        obtain ⟨d0, d1⟩ := d1
        have d0 : vk = 1 := Nat.eq_of_beq_eq_true d0
        have d1 := Nat.eq_of_beq_eq_true d1
        subst d0
        obtain ⟨y, rfl, hy⟩ := hv
        cases hh
        exact ⟨_, nt_x_jast b1 (b2.trans d1) hX i1 b4, sx_an1 (r := r) ⟨rfl, h1, h6, sx_wrJ_ok hgl h3⟩⟩
  · cases h
/-- a row's length -/
def sx_len (E : sx_E) (pc : Nat) (ls : List (Nat × sx_V)) (st : List sx_V) (N : sx_N) : Option (List sx_A) := sx_a1 st fun a t => match E.2.1[a]? with
  | none => none
  | some q => bif Nat.blt a 100 && (Nat.ble 12 q.1 && Nat.blt q.1 18) then (bif decide (q.2.1 = q.2.2.1) then some [(pc, ls, (0, 0, (q.2.1, [])) :: t, N)] else (match sx_get a (-1, []) N.1 with
    | some v => some [(pc, ls, (0, 0, v) :: t, N)]
    | none => (match sx_fr E.2.2.2.2 q.2.1 q.2.2.1 ls t N with
      | some N' => some [(pc, ls, (0, 0, (0, [(N.2.2.2, 1)])) :: t, (((a, (-1, [])), (0, [(N.2.2.2, 1)])) :: N'.1, N'.2))]
      | none => none))) else none
theorem sx_len_ok {E : sx_E} {F : sx_F} {r : Nat → Int} {X : nt_X} {mi g t pc : Nat} {ls : List (Nat × sx_V)} {st : List sx_V} {N : sx_N} {cl : nt_V} {cs : List Value} {M : nt_M} {As : List sx_A} (h : sx_len E (pc + 1) ls st N = some As) (h1 : sx_ol F.1 r ls cl) (h2 : sx_os F.1 r st cs) (h3 : sx_on E F r N M) : ∃ c', nt_sx X mi g t .arraylength pc cl cs M = some c' ∧ sx_an E F As c' := by
  obtain ⟨a, t2, cr, rfl, h5, h⟩ := sx_a1_ok h h2
  split at h
  · cases h
  · rename_i q hq
    obtain ⟨hc, h⟩ := sx_bif h
    rw [Bool.and_eq_true, Bool.and_eq_true] at hc
    have ha : a < 100 := Nat.blt_eq.mp hc.1
    obtain ⟨b1, b2, b3, b4, b5⟩ := h3.2.1.2 a q hq
    have c1 : 12 ≤ q.1 := Nat.le_of_ble_eq_true hc.2.1
    have c2 : q.1 < 18 := Nat.blt_eq.mp hc.2.2
    have hl := nI_toInt (n := nt_l M (F.1 a)) (by omega)
    refine ⟨_, nt_x_len b1 h3.2.1.1 (by omega) (by omega), ?_⟩
    cases e : decide (q.2.1 = q.2.2.1) with
    | true =>
      rw [e] at h
      have h : some [(pc + 1, ls, (0, 0, (q.2.1, [])) :: t2, N)] = some As := h
      cases h
      have e := of_decide_eq_true e
      refine sx_an1 (r := r) ⟨rfl, h1, ⟨⟨_, rfl, ?_⟩, h5⟩, h3⟩
      dsimp only
      rw [sx_c_e, hl]
      omega
    | false =>
      rw [e] at h
      have h : (match sx_get a (-1, []) N.1 with
        | some v => some [(pc + 1, ls, (0, 0, v) :: t2, N)]
        | none => (match sx_fr E.2.2.2.2 q.2.1 q.2.2.1 ls t2 N with
          | some N' => some [(pc + 1, ls, (0, 0, (0, [(N.2.2.2, 1)])) :: t2, (((a, (-1, [])), (0, [(N.2.2.2, 1)])) :: N'.1, N'.2))]
          | none => none)) = some As := h
      split at h
      · rename_i v hv
        cases h
        have y := (h3.2.2.1 _ (sx_get_in hv)).2
        unfold sx_rd at y
        dsimp only at y
        rw [if_neg (by omega), sx_c_e, if_pos (by omega)] at y
        exact sx_an1 (r := r) ⟨rfl, h1, ⟨⟨_, rfl, by rw [hl]; exact y⟩, h5⟩, h3⟩
      · split at h
        · rename_i N' hN
          cases h
          obtain ⟨r', k1, k2, k3, k4, k5, k6⟩ := sx_fr_ok (v := (nt_l M (F.1 a) : Int)) hN h1 h5 h3 b3.1 b3.2
          refine sx_an1 (r := r') ⟨rfl, k1, ⟨⟨_, rfl, by rw [hl]; exact k4.symm⟩, k2⟩, ⟨k3.1, k3.2.1, fun p hp => ?_, k3.2.2.2⟩⟩
          rcases List.mem_cons.mp hp with e | e
          · rw [e]
            refine ⟨Or.inl (List.getElem?_eq_some_iff.mp hq).1, ?_⟩
            dsimp only
            unfold sx_rd
            rw [if_neg (by omega), sx_c_e, if_pos (by omega)]
            exact k4.symm
          · exact k3.2.2.1 p e
        · cases h
