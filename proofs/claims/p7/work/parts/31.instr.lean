/-! the instructions -/
theorem sx_blt {a b : Nat} (h : a < b) : Nat.blt a b = true := Nat.blt_eq.mpr h
theorem sx_nblt {a b : Nat} (h : ¬ a < b) : Nat.blt a b = false := by
  cases e : Nat.blt a b with
  | false => rfl
  | true => exact absurd (Nat.blt_eq.mp e) h
theorem sx_cmp_ok (x y : Int64) : ((lg_cmp x y).toInt < 0 ↔ x.toInt - y.toInt < 0) ∧ ((lg_cmp x y).toInt = 0 ↔ x.toInt - y.toInt = 0) := by
  unfold lg_cmp
  by_cases h : x > y
  · rw [if_pos h]
    have h : y.toInt < x.toInt := Int64.lt_iff_toInt_lt.mp h
    rw [show (1 : Int32).toInt = 1 from rfl]
    omega
  · rw [if_neg h]
    by_cases e : x = y
    · rw [if_pos e, sx_z32, e]; omega
    · rw [if_neg e, show (-1 : Int32).toInt = -1 from rfl]
      have h : ¬ y.toInt < x.toInt := fun q => h (Int64.lt_iff_toInt_lt.mpr q)
      have e : ¬ x.toInt = y.toInt := fun q => e (Int64.toInt_inj.mp q)
      omega
def sx_stp (E : sx_E) (mi g t : Nat) (ins : Instr) (pc : Nat) (ls : List (Nat × sx_V)) (st : List sx_V) (N : sx_N) : Option (List sx_A) := match ins with
  | .aconst_null => some [(pc + 1, ls, (3, 0, (0, [])) :: st, N)]
  | .iconst n => sx_cst n (pc + 1) ls st N
  | .bipush n => sx_cst n (pc + 2) ls st N
  | .sipush n => sx_cst n (pc + 3) ls st N
  | .lconst n => bif Nat.blt n 1000 then some [(pc + 1, ls, (1, 0, ((n : Int), [])) :: st, N)] else none
  | .ldc _ => bif Nat.blt g 1000 then (match nt_KI[g]? with | some q => some [(pc + 2, ls, (0, 0, (q.2.2.1.toInt, [])) :: st, N)] | none => none) else (match nt_SR[g - 1000]? with | some q => some [(pc + 2, ls, (5, q.2.2.1, (0, [])) :: st, N)] | none => none)
  | .ldc_w _ => (match nt_KI[g]? with | some q => some [(pc + 3, ls, (0, 0, (q.2.2.1.toInt, [])) :: st, N)] | none => none)
  | .ldc2_w _ => (match nt_KL[g]? with | some q => some [(pc + 3, ls, (1, 0, (q.2.2.1.toInt, [])) :: st, N)] | none => none)
  | .iload i => sx_ld ls i 0 fun L => some [(pc + 2, ls, (0, 0, L) :: st, N)]
  | .iload_n i => sx_ld ls i 0 fun L => some [(pc + 1, ls, (0, 0, L) :: st, N)]
  | .lload i => sx_ld ls i 1 fun L => some [(pc + 2, ls, (1, 0, L) :: st, N)]
  | .lload_n i => sx_ld ls i 1 fun L => some [(pc + 1, ls, (1, 0, L) :: st, N)]
  | .aload i => sx_ldA i (pc + 2) ls st N
  | .aload_n i => sx_ldA i (pc + 1) ls st N
  | .istore i => sx_i1 st fun L st => some [(pc + 2, sx_s1 ls i (0, 0, L), st, N)]
  | .istore_n i => sx_i1 st fun L st => some [(pc + 1, sx_s1 ls i (0, 0, L), st, N)]
  | .lstore i => sx_j1 st fun L st => some [(pc + 2, sx_s2 ls i (1, 0, L), st, N)]
  | .lstore_n i => sx_j1 st fun L st => some [(pc + 1, sx_s2 ls i (1, 0, L), st, N)]
  | .astore i => sx_stA i (pc + 2) ls st N
  | .astore_n i => sx_stA i (pc + 1) ls st N
  | .iinc i n => sx_ld ls i 0 fun L => sx_inc E i n L (pc + 3) ls st N
  | .iadd => sx_i1 st fun y st => sx_i1 st fun x st => sx_pI E (sx_add x y) (pc + 1) ls st N
  | .isub => sx_i1 st fun y st => sx_i1 st fun x st => sx_pI E (sx_sub x y) (pc + 1) ls st N
  | .imul => sx_i1 st fun y st => sx_i1 st fun x st => sx_mul2 E x y (pc + 1) ls st N
  | .idiv => sx_i1 st fun y st => sx_i1 st fun _ st => bif sx_nz N y then sx_pF E sx_nI sx_xI (pc + 1) ls st N else none
  | .irem => sx_i1 st fun y st => sx_i1 st fun _ st => bif sx_nz N y then sx_pF E sx_nI sx_xI (pc + 1) ls st N else none
  | .iand => sx_i1 st fun y st => sx_i1 st fun _ st => sx_pA E y (pc + 1) ls st N
  | .ior => sx_i1 st fun _ st => sx_i1 st fun _ st => sx_pF E sx_nI sx_xI (pc + 1) ls st N
  | .ishl => sx_i1 st fun _ st => sx_i1 st fun _ st => sx_pF E sx_nI sx_xI (pc + 1) ls st N
  | .ishr => sx_i1 st fun _ st => sx_i1 st fun _ st => sx_pF E sx_nI sx_xI (pc + 1) ls st N
  | .iushr => sx_i1 st fun _ st => sx_i1 st fun _ st => sx_pF E sx_nI sx_xI (pc + 1) ls st N
  | .ladd => sx_j1 st fun _ st => sx_j1 st fun _ st => sx_pJ E (pc + 1) ls st N
  | .lsub => sx_j1 st fun _ st => sx_j1 st fun _ st => sx_pJ E (pc + 1) ls st N
  | .lmul => sx_j1 st fun _ st => sx_j1 st fun _ st => sx_pJ E (pc + 1) ls st N
  | .land => sx_j1 st fun _ st => sx_j1 st fun _ st => sx_pJ E (pc + 1) ls st N
  | .lor => sx_j1 st fun _ st => sx_j1 st fun _ st => sx_pJ E (pc + 1) ls st N
  | .ldiv => sx_j1 st fun y st => sx_j1 st fun _ st => bif sx_nz N y then sx_pJ E (pc + 1) ls st N else none
  | .lrem => sx_j1 st fun y st => sx_j1 st fun _ st => bif sx_nz N y then sx_pJ E (pc + 1) ls st N else none
  | .lshl => sx_i1 st fun _ st => sx_j1 st fun _ st => sx_pJ E (pc + 1) ls st N
  | .lcmp => sx_j1 st fun y st => sx_j1 st fun x st => some [(pc + 1, ls, (4, 0, sx_sub x y) :: st, N)]
  | .i2l => sx_i1 st fun x st => some [(pc + 1, ls, (1, 0, x) :: st, N)]
  | .l2i => sx_j1 st fun _ st => sx_pF E sx_nI sx_xI (pc + 1) ls st N
  | .i2b => sx_i1 st fun _ st => sx_pF E sx_nI sx_xI (pc + 1) ls st N
  | .dup => (match st with | v :: st => bif sx_c2 v then none else some [(pc + 1, ls, v :: v :: st, N)] | [] => none)
  | .pop => (match st with | v :: st => bif sx_c2 v then none else some [(pc + 1, ls, st, N)] | [] => none)
  | .dup2 => (match st with | v :: w :: st => bif sx_c2 v || sx_c2 w then none else some [(pc + 1, ls, v :: w :: v :: w :: st, N)] | _ => none)
  | .ifCond .eq _ => sx_g1 st fun b L st => some (sx_br t (pc + 3) (sx_eq L) (sx_ne b N L) ls st N)
  | .ifCond .ne _ => sx_g1 st fun b L st => some (sx_br (pc + 3) t (sx_eq L) (sx_ne b N L) ls st N)
  | .ifCond .lt _ => sx_g1 st fun _ L st => some (sx_br t (pc + 3) (sx_lt L) (sx_ge L) ls st N)
  | .ifCond .ge _ => sx_g1 st fun _ L st => some (sx_br t (pc + 3) (sx_ge L) (sx_lt L) ls st N)
  | .ifCond .gt _ => sx_g1 st fun _ L st => some (sx_br t (pc + 3) (sx_gt L) (sx_le L) ls st N)
  | .ifCond .le _ => sx_g1 st fun _ L st => some (sx_br t (pc + 3) (sx_le L) (sx_gt L) ls st N)
  | .if_icmp .eq _ => sx_i1 st fun y st => sx_i1 st fun x st => some (sx_br t (pc + 3) (sx_eq (sx_sub x y)) (sx_ne false N (sx_sub x y)) ls st N)
  | .if_icmp .ne _ => sx_i1 st fun y st => sx_i1 st fun x st => some (sx_br (pc + 3) t (sx_eq (sx_sub x y)) (sx_ne false N (sx_sub x y)) ls st N)
  | .if_icmp .lt _ => sx_i1 st fun y st => sx_i1 st fun x st => some (sx_br t (pc + 3) (sx_lt (sx_sub x y)) (sx_ge (sx_sub x y)) ls st N)
  | .if_icmp .ge _ => sx_i1 st fun y st => sx_i1 st fun x st => some (sx_br t (pc + 3) (sx_ge (sx_sub x y)) (sx_lt (sx_sub x y)) ls st N)
  | .if_icmp .gt _ => sx_i1 st fun y st => sx_i1 st fun x st => some (sx_br t (pc + 3) (sx_gt (sx_sub x y)) (sx_le (sx_sub x y)) ls st N)
  | .if_icmp .le _ => sx_i1 st fun y st => sx_i1 st fun x st => some (sx_br t (pc + 3) (sx_le (sx_sub x y)) (sx_gt (sx_sub x y)) ls st N)
  | .ifnull _ => (match st with | (2, _, _) :: st => some [(pc + 3, ls, st, N)] | (5, _, _) :: st => some [(pc + 3, ls, st, N)] | (3, _, _) :: st => some [(t, ls, st, N)] | _ => none)
  | .ifnonnull _ => (match st with | (2, _, _) :: st => some [(t, ls, st, N)] | (5, _, _) :: st => some [(t, ls, st, N)] | (3, _, _) :: st => some [(pc + 3, ls, st, N)] | _ => none)
  | .goto _ => some [(t, ls, st, N)]
  | .tableswitch dflt lo hi offs => sx_i1 st fun L st => (match sx_tsw pc L lo offs (hi - lo + 1).toNat, sx_sw pc dflt with | some ws, some d => some (sx_mw ((d, [sx_sub (lo - 1, []) L]) :: (d, [sx_sub L (hi + 1, [])]) :: ws) ls st N) | _, _ => none)
  | .lookupswitch dflt ps => sx_i1 st fun L st => bif (ps.toList.zip (ps.toList.drop 1)).all (fun (a, b) => a.1 < b.1) then (match sx_lsw pc L ps.toList, sx_sw pc dflt with | some ws, some d => some (sx_mw ((d, []) :: ws) ls st N) | _, _ => none) else none
  | .getfield _ => sx_gfl E g (pc + 3) ls st N
  | .putfield _ => sx_pfl E mi g (pc + 3) ls st N
  | .iaload => sx_ald E 0 (pc + 1) ls st N
  | .baload => sx_ald E 1 (pc + 1) ls st N
  | .laload => sx_ald E 2 (pc + 1) ls st N
  | .aaload => sx_ald E 3 (pc + 1) ls st N
  | .iastore => sx_ast E 0 (pc + 1) ls st N
  | .bastore => sx_ast E 1 (pc + 1) ls st N
  | .lastore => sx_ast E 2 (pc + 1) ls st N
  | .arraylength => sx_len E (pc + 1) ls st N
  | _ => none
set_option maxRecDepth 20000 in
set_option maxHeartbeats 4000000 in
theorem sx_stp_ok {E : sx_E} {F : sx_F} {r : Nat → Int} {X : nt_X} {mi g t pc : Nat} {ins : Instr} {ls : List (Nat × sx_V)} {st : List sx_V} {N : sx_N} {cl : nt_V} {cs : List Value} {M : nt_M} {As : List sx_A} (h : sx_stp E mi g t ins pc ls st N = some As) (h1 : sx_ol F.1 r ls cl) (h2 : sx_os F.1 r st cs) (h3 : sx_on E F r N M) : ∃ c', nt_sx X mi g t ins pc cl cs M = some c' ∧ sx_an E F As c' := by
  unfold sx_stp at h
  split at h
  · cases h
    exact ⟨_, rfl, sx_an1 (r := r) ⟨rfl, h1, ⟨rfl, h2⟩, h3⟩⟩
  · exact ⟨_, rfl, sx_cst_ok h h1 h2 h3⟩
  · exact ⟨_, rfl, sx_cst_ok h h1 h2 h3⟩
  · exact ⟨_, rfl, sx_cst_ok h h1 h2 h3⟩
  · obtain ⟨hc, h⟩ := sx_bif h
    have hc := Nat.blt_eq.mp hc
    cases h
    exact ⟨_, rfl, sx_an1 (r := r) ⟨rfl, h1, ⟨⟨_, rfl, by dsimp only; rw [sx_c_e]; exact Int64.toInt_ofNat_of_lt (by omega)⟩, h2⟩, h3⟩⟩
  · rename_i z
    by_cases e : g < 1000
    · rw [sx_blt e, cond_true] at h
      split at h
      · rename_i q hq
        cases h
        exact ⟨(pc + 2, cl, .int q.2.2.1 :: cs, M), by show (if g < 1000 then _ else _) = _; rw [if_pos e, hq], sx_an1 (r := r) ⟨rfl, h1, ⟨⟨_, rfl, by dsimp only; rw [sx_c_e]⟩, h2⟩, h3⟩⟩
      · cases h
    · rw [sx_nblt e, cond_false] at h
      split at h
      · rename_i q hq
        cases h
        exact ⟨(pc + 2, cl, .ref (nt_sp + 1 + q.2.2.1) :: cs, M), by show (if g < 1000 then _ else _) = _; rw [if_neg e, hq], sx_an1 (r := r) ⟨rfl, h1, ⟨rfl, h2⟩, h3⟩⟩
      · cases h
  · rename_i z
    split at h
    · rename_i q hq
      cases h
      exact ⟨(pc + 3, cl, .int q.2.2.1 :: cs, M), by show (match nt_KI[g]? with | some q => _ | none => none) = _; rw [hq], sx_an1 (r := r) ⟨rfl, h1, ⟨⟨_, rfl, by dsimp only; rw [sx_c_e]⟩, h2⟩, h3⟩⟩
    · cases h
  · rename_i z
    split at h
    · rename_i q hq
      cases h
      exact ⟨(pc + 3, cl, .long q.2.2.1 :: cs, M), by show (match nt_KL[g]? with | some q => _ | none => none) = _; rw [hq], sx_an1 (r := r) ⟨rfl, h1, ⟨⟨_, rfl, by dsimp only; rw [sx_c_e]⟩, h2⟩, h3⟩⟩
    · cases h
  · obtain ⟨L, x, hl, hx, h⟩ := sx_ldI_ok h h1
    cases h
    exact ⟨(pc + 2, cl, .int x :: cs, M), by show nt_lkI _ _ _ = _; unfold nt_lkI; rw [hl], sx_an1 (r := r) ⟨rfl, h1, ⟨⟨x, rfl, hx⟩, h2⟩, h3⟩⟩
  · obtain ⟨L, x, hl, hx, h⟩ := sx_ldI_ok h h1
    cases h
    exact ⟨(pc + 1, cl, .int x :: cs, M), by show nt_lkI _ _ _ = _; unfold nt_lkI; rw [hl], sx_an1 (r := r) ⟨rfl, h1, ⟨⟨x, rfl, hx⟩, h2⟩, h3⟩⟩
  · obtain ⟨L, x, hl, hx, h⟩ := sx_ldJ_ok h h1
    cases h
    exact ⟨(pc + 2, cl, .long x :: cs, M), by show nt_lkJ _ _ _ = _; unfold nt_lkJ; rw [hl], sx_an1 (r := r) ⟨rfl, h1, ⟨⟨x, rfl, hx⟩, h2⟩, h3⟩⟩
  · obtain ⟨L, x, hl, hx, h⟩ := sx_ldJ_ok h h1
    cases h
    exact ⟨(pc + 1, cl, .long x :: cs, M), by show nt_lkJ _ _ _ = _; unfold nt_lkJ; rw [hl], sx_an1 (r := r) ⟨rfl, h1, ⟨⟨x, rfl, hx⟩, h2⟩, h3⟩⟩
  · exact sx_ldA_ok h h1 h2 h3
  · exact sx_ldA_ok h h1 h2 h3
  · obtain ⟨L, t1, x, cr, rfl, hx, h4, h⟩ := sx_i1_ok h h2
    cases h
    exact ⟨_, rfl, sx_an1 (r := r) ⟨rfl, sx_s1_ok h1 ⟨x, rfl, hx⟩, h4, h3⟩⟩
  · obtain ⟨L, t1, x, cr, rfl, hx, h4, h⟩ := sx_i1_ok h h2
    cases h
    exact ⟨_, rfl, sx_an1 (r := r) ⟨rfl, sx_s1_ok h1 ⟨x, rfl, hx⟩, h4, h3⟩⟩
  · obtain ⟨L, t1, x, cr, rfl, hx, h4, h⟩ := sx_j1_ok h h2
    cases h
    exact ⟨_, rfl, sx_an1 (r := r) ⟨rfl, sx_s2_ok h1 ⟨x, rfl, hx⟩, h4, h3⟩⟩
  · obtain ⟨L, t1, x, cr, rfl, hx, h4, h⟩ := sx_j1_ok h h2
    cases h
    exact ⟨_, rfl, sx_an1 (r := r) ⟨rfl, sx_s2_ok h1 ⟨x, rfl, hx⟩, h4, h3⟩⟩
  · exact sx_stA_ok h h1 h2 h3
  · exact sx_stA_ok h h1 h2 h3
  · rename_i i n
    obtain ⟨L, x, hl, hx, h⟩ := sx_ldI_ok h h1
    exact ⟨(pc + 3, nt_s1 cl i (.int (x + Int32.ofInt n)), cs, M), by show nt_lkI _ _ _ = _; unfold nt_lkI; rw [hl], sx_inc_ok h h1 h2 h3 hx⟩
  · obtain ⟨Y, t1, y, cr1, rfl, hy, h4, h⟩ := sx_i1_ok h h2
    obtain ⟨X', t2, x, cr, rfl, hx, h5, h⟩ := sx_i1_ok h h4
    refine ⟨_, rfl, sx_pI_ok _ h h1 h5 h3 fun a b => ?_⟩
    rw [sx_add_e] at a b ⊢
    rw [Int32.toInt_add, hx, hy]
    exact sx_bm a b
  · obtain ⟨Y, t1, y, cr1, rfl, hy, h4, h⟩ := sx_i1_ok h h2
    obtain ⟨X', t2, x, cr, rfl, hx, h5, h⟩ := sx_i1_ok h h4
    refine ⟨_, rfl, sx_pI_ok _ h h1 h5 h3 fun a b => ?_⟩
    rw [sx_sub_e] at a b ⊢
    rw [Int32.toInt_sub, hx, hy]
    exact sx_bm a b
  · obtain ⟨Y, t1, y, cr1, rfl, hy, h4, h⟩ := sx_i1_ok h h2
    obtain ⟨X', t2, x, cr, rfl, hx, h5, h⟩ := sx_i1_ok h h4
    exact ⟨_, rfl, sx_mul2_ok x y h h1 h5 h3 hx hy⟩
  · obtain ⟨Y, t1, y, cr1, rfl, hy, h4, h⟩ := sx_i1_ok h h2
    obtain ⟨X', t2, x, cr, rfl, hx, h5, h⟩ := sx_i1_ok h h4
    obtain ⟨hc, h⟩ := sx_bif h
    have hc := sx_nz_ok hc h3
    have hz : ¬ y = 0 := by rw [sx_eq32, sx_z32]; omega
    exact ⟨_, if_neg hz, sx_pFf_ok _ h h1 h5 h3⟩
  · obtain ⟨Y, t1, y, cr1, rfl, hy, h4, h⟩ := sx_i1_ok h h2
    obtain ⟨X', t2, x, cr, rfl, hx, h5, h⟩ := sx_i1_ok h h4
    obtain ⟨hc, h⟩ := sx_bif h
    have hc := sx_nz_ok hc h3
    have hz : ¬ y = 0 := by rw [sx_eq32, sx_z32]; omega
    exact ⟨_, if_neg hz, sx_pFf_ok _ h h1 h5 h3⟩
  · obtain ⟨Y, t1, y, cr1, rfl, hy, h4, h⟩ := sx_i1_ok h h2
    obtain ⟨X', t2, x, cr, rfl, hx, h5, h⟩ := sx_i1_ok h h4
    exact ⟨_, rfl, sx_pA_ok x y h h1 h5 h3 hy⟩
  · obtain ⟨Y, t1, y, cr1, rfl, hy, h4, h⟩ := sx_i1_ok h h2
    obtain ⟨X', t2, x, cr, rfl, hx, h5, h⟩ := sx_i1_ok h h4
    exact ⟨_, rfl, sx_pFf_ok _ h h1 h5 h3⟩
  · obtain ⟨Y, t1, y, cr1, rfl, hy, h4, h⟩ := sx_i1_ok h h2
    obtain ⟨X', t2, x, cr, rfl, hx, h5, h⟩ := sx_i1_ok h h4
    exact ⟨_, rfl, sx_pFf_ok _ h h1 h5 h3⟩
  · obtain ⟨Y, t1, y, cr1, rfl, hy, h4, h⟩ := sx_i1_ok h h2
    obtain ⟨X', t2, x, cr, rfl, hx, h5, h⟩ := sx_i1_ok h h4
    exact ⟨_, rfl, sx_pFf_ok _ h h1 h5 h3⟩
  · obtain ⟨Y, t1, y, cr1, rfl, hy, h4, h⟩ := sx_i1_ok h h2
    obtain ⟨X', t2, x, cr, rfl, hx, h5, h⟩ := sx_i1_ok h h4
    exact ⟨_, rfl, sx_pFf_ok _ h h1 h5 h3⟩
  · obtain ⟨Y, t1, y, cr1, rfl, hy, h4, h⟩ := sx_j1_ok h h2
    obtain ⟨X', t2, x, cr, rfl, hx, h5, h⟩ := sx_j1_ok h h4
    exact ⟨_, rfl, sx_pJ_ok _ h h1 h5 h3⟩
  · obtain ⟨Y, t1, y, cr1, rfl, hy, h4, h⟩ := sx_j1_ok h h2
    obtain ⟨X', t2, x, cr, rfl, hx, h5, h⟩ := sx_j1_ok h h4
    exact ⟨_, rfl, sx_pJ_ok _ h h1 h5 h3⟩
  · obtain ⟨Y, t1, y, cr1, rfl, hy, h4, h⟩ := sx_j1_ok h h2
    obtain ⟨X', t2, x, cr, rfl, hx, h5, h⟩ := sx_j1_ok h h4
    exact ⟨_, rfl, sx_pJ_ok _ h h1 h5 h3⟩
  · obtain ⟨Y, t1, y, cr1, rfl, hy, h4, h⟩ := sx_j1_ok h h2
    obtain ⟨X', t2, x, cr, rfl, hx, h5, h⟩ := sx_j1_ok h h4
    exact ⟨_, rfl, sx_pJ_ok _ h h1 h5 h3⟩
  · obtain ⟨Y, t1, y, cr1, rfl, hy, h4, h⟩ := sx_j1_ok h h2
    obtain ⟨X', t2, x, cr, rfl, hx, h5, h⟩ := sx_j1_ok h h4
    exact ⟨_, rfl, sx_pJ_ok _ h h1 h5 h3⟩
  · obtain ⟨Y, t1, y, cr1, rfl, hy, h4, h⟩ := sx_j1_ok h h2
    obtain ⟨X', t2, x, cr, rfl, hx, h5, h⟩ := sx_j1_ok h h4
    obtain ⟨hc, h⟩ := sx_bif h
    have hc := sx_nz_ok hc h3
    have hz : ¬ y = 0 := fun q => by
      rw [q] at hy
      have hy : (0 : Int) = sx_e r Y := hy
      omega
    exact ⟨_, if_neg hz, sx_pJ_ok _ h h1 h5 h3⟩
  · obtain ⟨Y, t1, y, cr1, rfl, hy, h4, h⟩ := sx_j1_ok h h2
    obtain ⟨X', t2, x, cr, rfl, hx, h5, h⟩ := sx_j1_ok h h4
    obtain ⟨hc, h⟩ := sx_bif h
    have hc := sx_nz_ok hc h3
    have hz : ¬ y = 0 := fun q => by
      rw [q] at hy
      have hy : (0 : Int) = sx_e r Y := hy
      omega
    exact ⟨_, if_neg hz, sx_pJ_ok _ h h1 h5 h3⟩
  · obtain ⟨Y, t1, y, cr1, rfl, hy, h4, h⟩ := sx_i1_ok h h2
    obtain ⟨X', t2, x, cr, rfl, hx, h5, h⟩ := sx_j1_ok h h4
    exact ⟨_, rfl, sx_pJ_ok _ h h1 h5 h3⟩
  · obtain ⟨Y, t1, y, cr1, rfl, hy, h4, h⟩ := sx_j1_ok h h2
    obtain ⟨X', t2, x, cr, rfl, hx, h5, h⟩ := sx_j1_ok h h4
    cases h
    refine ⟨_, rfl, sx_an1 (r := r) ⟨rfl, h1, ⟨⟨_, rfl, ?_⟩, h5⟩, h3⟩⟩
    dsimp only
    rw [sx_sub_e, ← hx, ← hy]
    exact sx_cmp_ok x y
  · obtain ⟨L, t1, x, cr, rfl, hx, h4, h⟩ := sx_i1_ok h h2
    cases h
    exact ⟨_, rfl, sx_an1 (r := r) ⟨rfl, h1, ⟨⟨_, rfl, by rw [Int32.toInt_toInt64]; exact hx⟩, h4⟩, h3⟩⟩
  · obtain ⟨L, t1, x, cr, rfl, hx, h4, h⟩ := sx_j1_ok h h2
    exact ⟨_, rfl, sx_pFf_ok _ h h1 h4 h3⟩
  · obtain ⟨L, t1, x, cr, rfl, hx, h4, h⟩ := sx_i1_ok h h2
    exact ⟨_, rfl, sx_pFf_ok _ h h1 h4 h3⟩
  · split at h
    · rename_i v tt
      obtain ⟨w, u, rfl, hv, h4⟩ := sx_os_c h2
      cases e : sx_c2 v with
      | true => rw [e] at h; cases h
      | false =>
        rw [e] at h
        have h : some [(pc + 1, ls, v :: v :: tt, N)] = some As := h
        cases h
        have c := sx_c2_ok hv
        rw [e] at c
        exact ⟨_, if_pos c, sx_an1 (r := r) ⟨rfl, h1, ⟨hv, hv, h4⟩, h3⟩⟩
    · cases h
  · split at h
    · rename_i v tt
      obtain ⟨w, u, rfl, hv, h4⟩ := sx_os_c h2
      cases e : sx_c2 v with
      | true => rw [e] at h; cases h
      | false =>
        rw [e] at h
        have h : some [(pc + 1, ls, tt, N)] = some As := h
        cases h
        have c := sx_c2_ok hv
        rw [e] at c
        exact ⟨_, if_pos c, sx_an1 (r := r) ⟨rfl, h1, h4, h3⟩⟩
    · cases h
  · split at h
    · rename_i v w tt
      obtain ⟨v', u, rfl, hv, h4⟩ := sx_os_c h2
      obtain ⟨w', u2, rfl, hw, h5⟩ := sx_os_c h4
      cases e : sx_c2 v || sx_c2 w with
      | true => rw [e] at h; cases h
      | false =>
        rw [e] at h
        have h : some [(pc + 1, ls, v :: w :: v :: w :: tt, N)] = some As := h
        cases h
        have c := sx_c2_ok hv
        have c2 := sx_c2_ok hw
        rw [Bool.or_eq_false_iff] at e
        rw [e.1] at c
        rw [e.2] at c2
        exact ⟨_, if_pos ⟨c, c2⟩, sx_an1 (r := r) ⟨rfl, h1, ⟨hv, hw, hv, hw, h5⟩, h3⟩⟩
    · cases h
  · obtain ⟨b, L, t1, x, cr, rfl, ⟨hx, hx0⟩, h4, h⟩ := sx_g1_ok h h2
    cases h
    refine ⟨_, rfl, sx_br_ok h1 h4 h3 (fun k => sx_eq_ok ?_) (fun k => sx_ne_ok h3 ?_)⟩
    · rw [sx_eq32, sx_z32] at k; omega
    · rw [sx_eq32, sx_z32] at k; omega
  · obtain ⟨b, L, t1, x, cr, rfl, ⟨hx, hx0⟩, h4, h⟩ := sx_g1_ok h h2
    cases h
    refine ⟨_, rfl, sx_br_ok h1 h4 h3 (fun k => sx_eq_ok ?_) (fun k => sx_ne_ok h3 ?_)⟩
    · rw [sx_eq32, sx_z32] at k; omega
    · rw [sx_eq32, sx_z32] at k; omega
  · obtain ⟨b, L, t1, x, cr, rfl, ⟨hx, hx0⟩, h4, h⟩ := sx_g1_ok h h2
    cases h
    refine ⟨_, rfl, sx_br_ok h1 h4 h3 (fun k => sx_lt_ok ?_) (fun k => sx_ge_ok ?_)⟩
    · rw [sx_lt32, sx_z32] at k; omega
    · rw [sx_lt32, sx_z32] at k; omega
  · obtain ⟨b, L, t1, x, cr, rfl, ⟨hx, hx0⟩, h4, h⟩ := sx_g1_ok h h2
    cases h
    refine ⟨_, rfl, sx_br_ok h1 h4 h3 (fun k => sx_ge_ok ?_) (fun k => sx_lt_ok ?_)⟩
    · rw [sx_le32, sx_z32] at k; omega
    · rw [sx_le32, sx_z32] at k; omega
  · obtain ⟨b, L, t1, x, cr, rfl, ⟨hx, hx0⟩, h4, h⟩ := sx_g1_ok h h2
    cases h
    refine ⟨_, rfl, sx_br_ok h1 h4 h3 (fun k => sx_gt_ok ?_) (fun k => sx_le_ok ?_)⟩
    · rw [sx_lt32, sx_z32] at k; omega
    · rw [sx_lt32, sx_z32] at k; omega
  · obtain ⟨b, L, t1, x, cr, rfl, ⟨hx, hx0⟩, h4, h⟩ := sx_g1_ok h h2
    cases h
    refine ⟨_, rfl, sx_br_ok h1 h4 h3 (fun k => sx_le_ok ?_) (fun k => sx_gt_ok ?_)⟩
    · rw [sx_le32, sx_z32] at k; omega
    · rw [sx_le32, sx_z32] at k; omega
  · obtain ⟨Y, t1, y, cr1, rfl, hy, h4, h⟩ := sx_i1_ok h h2
    obtain ⟨X', t2, x, cr, rfl, hx, h5, h⟩ := sx_i1_ok h h4
    cases h
    refine ⟨_, rfl, sx_br_ok h1 h5 h3 (fun k => sx_eq_ok ?_) (fun k => sx_ne_ok h3 ?_)⟩
    · rw [sx_eq32] at k; rw [sx_sub_e]; omega
    · rw [sx_eq32] at k; rw [sx_sub_e]; omega
  · obtain ⟨Y, t1, y, cr1, rfl, hy, h4, h⟩ := sx_i1_ok h h2
    obtain ⟨X', t2, x, cr, rfl, hx, h5, h⟩ := sx_i1_ok h h4
    cases h
    refine ⟨_, rfl, sx_br_ok h1 h5 h3 (fun k => sx_eq_ok ?_) (fun k => sx_ne_ok h3 ?_)⟩
    · rw [sx_eq32] at k; rw [sx_sub_e]; omega
    · rw [sx_eq32] at k; rw [sx_sub_e]; omega
  · obtain ⟨Y, t1, y, cr1, rfl, hy, h4, h⟩ := sx_i1_ok h h2
    obtain ⟨X', t2, x, cr, rfl, hx, h5, h⟩ := sx_i1_ok h h4
    cases h
    refine ⟨_, rfl, sx_br_ok h1 h5 h3 (fun k => sx_lt_ok ?_) (fun k => sx_ge_ok ?_)⟩
    · rw [sx_lt32] at k; rw [sx_sub_e]; omega
    · rw [sx_lt32] at k; rw [sx_sub_e]; omega
  · obtain ⟨Y, t1, y, cr1, rfl, hy, h4, h⟩ := sx_i1_ok h h2
    obtain ⟨X', t2, x, cr, rfl, hx, h5, h⟩ := sx_i1_ok h h4
    cases h
    refine ⟨_, rfl, sx_br_ok h1 h5 h3 (fun k => sx_ge_ok ?_) (fun k => sx_lt_ok ?_)⟩
    · rw [sx_le32] at k; rw [sx_sub_e]; omega
    · rw [sx_le32] at k; rw [sx_sub_e]; omega
  · obtain ⟨Y, t1, y, cr1, rfl, hy, h4, h⟩ := sx_i1_ok h h2
    obtain ⟨X', t2, x, cr, rfl, hx, h5, h⟩ := sx_i1_ok h h4
    cases h
    refine ⟨_, rfl, sx_br_ok h1 h5 h3 (fun k => sx_gt_ok ?_) (fun k => sx_le_ok ?_)⟩
    · rw [sx_lt32] at k; rw [sx_sub_e]; omega
    · rw [sx_lt32] at k; rw [sx_sub_e]; omega
  · obtain ⟨Y, t1, y, cr1, rfl, hy, h4, h⟩ := sx_i1_ok h h2
    obtain ⟨X', t2, x, cr, rfl, hx, h5, h⟩ := sx_i1_ok h h4
    cases h
    refine ⟨_, rfl, sx_br_ok h1 h5 h3 (fun k => sx_le_ok ?_) (fun k => sx_gt_ok ?_)⟩
    · rw [sx_le32] at k; rw [sx_sub_e]; omega
    · rw [sx_le32] at k; rw [sx_sub_e]; omega
  · split at h
    · cases h
      obtain ⟨w, u, rfl, rfl, h4⟩ := sx_os_c h2
      exact ⟨_, rfl, sx_an1 (r := r) ⟨rfl, h1, h4, h3⟩⟩
    · cases h
      obtain ⟨w, u, rfl, rfl, h4⟩ := sx_os_c h2
      exact ⟨_, rfl, sx_an1 (r := r) ⟨rfl, h1, h4, h3⟩⟩
    · cases h
      obtain ⟨w, u, rfl, rfl, h4⟩ := sx_os_c h2
      exact ⟨_, rfl, sx_an1 (r := r) ⟨rfl, h1, h4, h3⟩⟩
    · cases h
  · split at h
    · cases h
      obtain ⟨w, u, rfl, rfl, h4⟩ := sx_os_c h2
      exact ⟨_, rfl, sx_an1 (r := r) ⟨rfl, h1, h4, h3⟩⟩
    · cases h
      obtain ⟨w, u, rfl, rfl, h4⟩ := sx_os_c h2
      exact ⟨_, rfl, sx_an1 (r := r) ⟨rfl, h1, h4, h3⟩⟩
    · cases h
      obtain ⟨w, u, rfl, rfl, h4⟩ := sx_os_c h2
      exact ⟨_, rfl, sx_an1 (r := r) ⟨rfl, h1, h4, h3⟩⟩
    · cases h
  · cases h
    exact ⟨_, rfl, sx_an1 (r := r) ⟨rfl, h1, h2, h3⟩⟩
  · rename_i dflt lo hi offs
    obtain ⟨L, t1, x, cr, rfl, hx, h4, h⟩ := sx_i1_ok h h2
    split at h
    · rename_i ws d e1 e2
      cases h
      show ∃ c', (if x.toInt < lo ∨ hi < x.toInt then nt_jp pc dflt fun q => some (q, cl, cr, M) else (match offs[(x.toInt - lo).toNat]? with | some off => nt_jp pc off fun q => some (q, cl, cr, M) | none => none)) = some c' ∧ _
      by_cases k : x.toInt < lo ∨ hi < x.toInt
      · rw [if_pos k, sx_sw_ok e2]
        refine ⟨_, rfl, ?_⟩
        rcases k with k | k
        · refine sx_mw_ok (w := (d, [sx_sub (lo - 1, []) L])) h1 h4 h3 (List.mem_cons_self ..) fun C hC => ?_
          rw [List.mem_singleton.mp hC, sx_sub_e, sx_c_e]; omega
        · refine sx_mw_ok (w := (d, [sx_sub L (hi + 1, [])])) h1 h4 h3 (List.mem_cons_of_mem _ (List.mem_cons_self ..)) fun C hC => ?_
          rw [List.mem_singleton.mp hC, sx_sub_e, sx_c_e]; omega
      · rw [if_neg k]
        obtain ⟨off, q, a1, a2, a3⟩ := sx_tsw_ok (k := (x.toInt - lo).toNat) _ ws e1 (by omega)
        rw [a1]
        dsimp only
        rw [sx_sw_ok a2]
        refine ⟨_, rfl, ?_⟩
        exact sx_mw_ok (w := (q, sx_is L (lo + ((x.toInt - lo).toNat : Int)))) h1 h4 h3 (List.mem_cons_of_mem _ (List.mem_cons_of_mem _ a3)) (sx_is_ok (by omega))
    · cases h
  · rename_i dflt ps
    obtain ⟨L, t1, x, cr, rfl, hx, h4, h⟩ := sx_i1_ok h h2
    obtain ⟨hc, h⟩ := sx_bif h
    split at h
    · rename_i ws d e1 e2
      cases h
      show ∃ c', (if (ps.toList.zip (ps.toList.drop 1)).all (fun (a, b) => a.1 < b.1) = true then nt_jp pc (Op.lookupswitch.offset ps.toList dflt x.toInt) fun q => some (q, cl, cr, M) else none) = some c' ∧ _
      rw [if_pos hc]
      rcases sx_lsw_ok (d := dflt) (x := x.toInt) _ _ e1 with k | ⟨q, k1, k2⟩
      · rw [k, sx_sw_ok e2]
        exact ⟨_, rfl, sx_mw_ok (w := (d, [])) h1 h4 h3 (List.mem_cons_self ..) (fun C hC => by cases hC)⟩
      · rw [sx_sw_ok k1]
        exact ⟨_, rfl, sx_mw_ok (w := (q, sx_is L x.toInt)) h1 h4 h3 (List.mem_cons_of_mem _ k2) (sx_is_ok hx.symm)⟩
    · cases h
  · exact sx_gfl_ok h h1 h2 h3
  · exact sx_pfl_ok h h1 h2 h3
  · exact sx_ald_ok (op := 0) h h1 h2 h3
  · exact sx_ald_ok (op := 1) h h1 h2 h3
  · exact sx_ald_ok (op := 2) h h1 h2 h3
  · exact sx_ald_ok (op := 3) h h1 h2 h3
  · exact sx_ast_ok (op := 0) h h1 h2 h3
  · exact sx_ast_ok (op := 1) h h1 h2 h3
  · exact sx_ast_ok (op := 2) h h1 h2 h3
  · exact sx_len_ok h h1 h2 h3
  · cases h
