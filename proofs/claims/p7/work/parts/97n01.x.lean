/-! memories with other longs; reading back with any index -/
def lw (M : nt_M) (L : Nat → Nat → Int64) : nt_M := (M.1, M.2.1, M.2.2.1, M.2.2.2.1, L, M.2.2.2.2.2)
def xs_T : List (Nat × Nat × Nat) := [(0, 0, 1), (1, 5, 2), (1, 6, 3), (1, 7, 4), (1, 8, 5), (1, 9, 6), (1, 10, 7), (1, 11, 8), (1, 12, 9), (0, 7, 10), (0, 8, 11), (0, 9, 12), (0, 10, 13), (0, 11, 14), (0, 12, 15), (0, 13, 16)]
def xs_U : List (Nat × Nat × Nat) := [(0, 3, 1), (0, 5, 2), (0, 6, 3), (0, 27, 4), (0, 24, 5), (0, 26, 6), (0, 28, 7), (0, 0, 8), (0, 4, 10), (0, 12, 11), (0, 13, 12), (0, 14, 13), (0, 29, 14), (0, 30, 15), (16, 0, 17), (16, 3, 23), (16, 5, 24), (16, 6, 28), (16, 7, 31), (16, 8, 48), (16, 9, 65), (24, 0, 25), (25, 0, 26), (25, 1, 27), (28, 2, 29), (28, 3, 30)]
def xs_Q (M : nt_M) (q : Nat → Nat) : Prop := (∀ t ∈ xs_T, nt_R M (q t.1) t.2.1 = some (q t.2.2)) ∧ (∀ i j, i < 17 → j < 17 → i ≠ j → q i ≠ q j) ∧ (∀ i, i < 17 → q i ≠ nt_sp) ∧ nt_k M (q 15) = 15
def xs_P (M : nt_M) (p : Nat → Nat) : Prop := (∀ t ∈ xs_U, nt_R M (p t.1) t.2.1 = some (p t.2.2)) ∧ (∀ i j, i < 66 → j < 66 → i ≠ j → p i ≠ p j) ∧ (∀ i, i < 66 → p i ≠ nt_sp) ∧ nt_l M (p 27) = 60
def xs_X (p q : Nat → Nat) : Prop := ∀ i j, i < 17 → j < 31 → q i ≠ p j
def xs_S (M : nt_M) (p : Nat → Nat) (ru sp ln : Nat) : Prop := nt_R M ru 0 = some sp ∧ (∀ i, i < 66 → sp ≠ p i) ∧ sp ≠ nt_sp ∧ nt_l M sp = ln
theorem xs_lq {M : nt_M} {q : Nat → Nat} {L : Nat → Nat → Int64} (h : xs_Q M q) : xs_Q (lw M L) q := h
theorem xs_ls {M : nt_M} {p : Nat → Nat} {ru sp ln : Nat} {L : Nat → Nat → Int64} (h : xs_S M p ru sp ln) : xs_S (lw M L) p ru sp ln := h
theorem xs_lp {M : nt_M} {p : Nat → Nat} {L : Nat → Nat → Int64} (h : xs_P M p) : xs_P (lw M L) p := h
theorem mx_iald {X : nt_X} {d mi pc a g t : Nat} {ls : nt_V} {st : List Value} {M : nt_M} {J : Nat → Nat → Int32} {o : Option Value × nt_M} {i v : Int32} (hat : nt_at mi pc = some (pc, .iaload, g, t)) (ha : a ≠ nt_sp) (hv : J a i.toNatClampNeg = v) (k : nt_rn X d mi (pc, ls, .int i :: .ref a :: st, me_w M J) o) : nt_rn X d mi (pc + 1, ls, .int v :: st, me_w M J) o := by
  have k := lz_iald hat ha k
  have k : nt_rn X d mi (pc + 1, ls, .int (J a i.toNatClampNeg) :: st, me_w M J) o := k
  rw [hv] at k
  exact k
theorem mx_bald {X : nt_X} {d mi pc a g t : Nat} {ls : nt_V} {st : List Value} {M : nt_M} {J : Nat → Nat → Int32} {o : Option Value × nt_M} {i v : Int32} (hat : nt_at mi pc = some (pc, .baload, g, t)) (hv : J a i.toNatClampNeg = v) (k : nt_rn X d mi (pc, ls, .int i :: .ref a :: st, me_w M J) o) : nt_rn X d mi (pc + 1, ls, .int v :: st, me_w M J) o := by
  have k := lz_bald hat k
  have k : nt_rn X d mi (pc + 1, ls, .int (J a i.toNatClampNeg) :: st, me_w M J) o := k
  rw [hv] at k
  exact k
theorem mx_lald {X : nt_X} {d mi pc a g t : Nat} {ls : nt_V} {st : List Value} {M : nt_M} {J : Nat → Nat → Int32} {L : Nat → Nat → Int64} {o : Option Value × nt_M} {i : Int32} {v : Int64} (hat : nt_at mi pc = some (pc, .laload, g, t)) (hv : L a i.toNatClampNeg = v) (k : nt_rn X d mi (pc, ls, .int i :: .ref a :: st, me_w (lw M L) J) o) : nt_rn X d mi (pc + 1, ls, .long v :: st, me_w (lw M L) J) o := by
  obtain ⟨c', hs, k⟩ := lz_s hat rfl k
  have hs : nt_in (me_w (lw M L) J) a 14 i (some (pc + 1, ls, Value.long (L a i.toNatClampNeg) :: st, me_w (lw M L) J)) = some c' := hs
  have e := lz_in (y := none) hs
  cases e
  rw [hv] at k
  exact k
theorem mx_iast {X : nt_X} {d mi pc a g t q : Nat} {ls : nt_V} {st : List Value} {M : nt_M} {J : Nat → Nat → Int32} {o : Option Value × nt_M} {i x : Int32} (hat : nt_at mi pc = some (pc, .iastore, g, t)) (hi : i.toNatClampNeg = q) (k : nt_rn X d mi (pc, ls, .int x :: .int i :: .ref a :: st, me_w M J) o) : nt_rn X d mi (pc + 1, ls, st, me_w M (nt_u J a q x)) o := by
  have k := lz_iast hat k
  rw [hi] at k
  exact k
theorem mx_last {X : nt_X} {d mi pc a g t q : Nat} {ls : nt_V} {st : List Value} {M : nt_M} {J : Nat → Nat → Int32} {L : Nat → Nat → Int64} {o : Option Value × nt_M} {i : Int32} {x : Int64} (hat : nt_at mi pc = some (pc, .lastore, g, t)) (hi : i.toNatClampNeg = q) (k : nt_rn X d mi (pc, ls, .long x :: .int i :: .ref a :: st, me_w (lw M L) J) o) : nt_rn X d mi (pc + 1, ls, st, me_w (lw M (nt_u L a q x)) J) o := by
  obtain ⟨c', hs, k⟩ := lz_s hat rfl k
  have hs : nt_in (me_w (lw M L) J) a 14 i (some (pc + 1, ls, st, nt_sJ (me_w (lw M L) J) a i.toNatClampNeg x)) = some c' := hs
  have e := lz_in (y := none) hs
  cases e
  rw [hi] at k
  exact k
theorem mx_bast {X : nt_X} {d mi pc a g t q : Nat} {ls : nt_V} {st : List Value} {M : nt_M} {J : Nat → Nat → Int32} {o : Option Value × nt_M} {i x : Int32} (hat : nt_at mi pc = some (pc, .bastore, g, t)) (hk : nt_k M a = 15) (hi : i.toNatClampNeg = q) (k : nt_rn X d mi (pc, ls, .int x :: .int i :: .ref a :: st, me_w M J) o) : nt_rn X d mi (pc + 1, ls, st, me_w M (nt_u J a q (vp_nar .boolean x))) o := by
  obtain ⟨c', hs, k⟩ := lz_s hat rfl k
  have hs : (if nt_k M a = 15 then nt_in (me_w M J) a 15 i (some (pc + 1, ls, st, nt_sI (me_w M J) a i.toNatClampNeg (vp_nar .boolean x))) else nt_in (me_w M J) a 12 i (some (pc + 1, ls, st, nt_sI (me_w M J) a i.toNatClampNeg (vp_nar .byte x)))) = some c' := hs
  rw [if_pos hk] at hs
  have e := lz_in (y := none) hs
  cases e
  rw [hi] at k
  exact k
theorem mx_putl {X : nt_X} {d mi pc a g t i : Nat} {ls : nt_V} {st : List Value} {M : nt_M} {J : Nat → Nat → Int32} {L : Nat → Nat → Int64} {o : Option Value × nt_M} {x : Int64} (hat : nt_at mi pc = some (pc, .putfield i, g, t)) (ht : nt_tg (g / 100) (g % 100) = 1) (k : nt_rn X d mi (pc, ls, .long x :: .ref a :: st, me_w (lw M L) J) o) : nt_rn X d mi (pc + 3, ls, st, me_w (lw M (nt_u L a (g % 100) x)) J) o := by
  obtain ⟨c', hs, k⟩ := lz_s hat rfl k
  have hs : (if a < nt_n M ∧ nt_k M a = g / 100 ∧ g / 100 < 12 ∧ g % 100 < nt_N (g / 100) ∧ ((nt_T (g / 100) (g % 100)).2.2.2 = false ∨ (nt_m mi).2.2.2.2.2.2.1 = 2 ∧ (nt_m mi).2.2.2.2.1 = g / 100) then nt_pf (me_w (lw M L) J) a (g / 100) (g % 100) (.long x) (fun M' => some (pc + 3, ls, st, M')) else none) = some c' := hs
  obtain ⟨_, e⟩ := nt_if_some hs
  unfold nt_pf at e
  rw [ht] at e
  have e : some (pc + 3, ls, st, nt_sJ (me_w (lw M L) J) a (g % 100) x) = some c' := e
  cases e
  exact k
theorem mx_idiv {X : nt_X} {d mi pc g t : Nat} {ls : nt_V} {st : List Value} {M : nt_M} {o : Option Value × nt_M} {x y : Int32} (hat : nt_at mi pc = some (pc, .idiv, g, t)) (k : nt_rn X d mi (pc, ls, .int y :: .int x :: st, M) o) : y ≠ 0 ∧ nt_rn X d mi (pc + 1, ls, .int (x / y) :: st, M) o := by
  obtain ⟨c', hs, k⟩ := lz_s hat rfl k
  have hs : (if y = 0 then none else some (pc + 1, ls, Value.int (x / y) :: st, M)) = some c' := hs
  by_cases h : y = 0
  · rw [if_pos h] at hs
    cases hs
  · rw [if_neg h] at hs
    cases hs
    exact ⟨h, k⟩
theorem mx_irem {X : nt_X} {d mi pc g t : Nat} {ls : nt_V} {st : List Value} {M : nt_M} {o : Option Value × nt_M} {x y : Int32} (hat : nt_at mi pc = some (pc, .irem, g, t)) (k : nt_rn X d mi (pc, ls, .int y :: .int x :: st, M) o) : y ≠ 0 ∧ nt_rn X d mi (pc + 1, ls, .int (x - x / y * y) :: st, M) o := by
  obtain ⟨c', hs, k⟩ := lz_s hat rfl k
  have hs : (if y = 0 then none else some (pc + 1, ls, Value.int (x - x / y * y) :: st, M)) = some c' := hs
  by_cases h : y = 0
  · rw [if_pos h] at hs
    cases hs
  · rw [if_neg h] at hs
    cases hs
    exact ⟨h, k⟩
theorem mx_ldiv {X : nt_X} {d mi pc g t : Nat} {ls : nt_V} {st : List Value} {M : nt_M} {o : Option Value × nt_M} {x y : Int64} (hat : nt_at mi pc = some (pc, .ldiv, g, t)) (k : nt_rn X d mi (pc, ls, .long y :: .long x :: st, M) o) : y ≠ 0 ∧ nt_rn X d mi (pc + 1, ls, .long (x / y) :: st, M) o := by
  obtain ⟨c', hs, k⟩ := lz_s hat rfl k
  have hs : (if y = 0 then none else some (pc + 1, ls, Value.long (x / y) :: st, M)) = some c' := hs
  by_cases h : y = 0
  · rw [if_pos h] at hs
    cases hs
  · rw [if_neg h] at hs
    cases hs
    exact ⟨h, k⟩
theorem mx_lrem {X : nt_X} {d mi pc g t : Nat} {ls : nt_V} {st : List Value} {M : nt_M} {o : Option Value × nt_M} {x y : Int64} (hat : nt_at mi pc = some (pc, .lrem, g, t)) (k : nt_rn X d mi (pc, ls, .long y :: .long x :: st, M) o) : y ≠ 0 ∧ nt_rn X d mi (pc + 1, ls, .long (x - x / y * y) :: st, M) o := by
  obtain ⟨c', hs, k⟩ := lz_s hat rfl k
  have hs : (if y = 0 then none else some (pc + 1, ls, Value.long (x - x / y * y) :: st, M)) = some c' := hs
  by_cases h : y = 0
  · rw [if_pos h] at hs
    cases hs
  · rw [if_neg h] at hs
    cases hs
    exact ⟨h, k⟩
theorem mx_rl {X : nt_X} {d mi pc g t : Nat} {ls : nt_V} {x : Int64} {M : nt_M} {o : Option Value × nt_M} (hat : nt_at mi pc = some (pc, .lreturn, g, t)) (hm : (nt_m mi).2.2.2.1 = some .long) (k : nt_rn X d mi (pc, ls, [.long x], M) o) : o = (some (.long x), M) := by
  have h := lz_ret hat (Or.inr (Or.inl rfl)) k
  unfold nt_re at h
  rw [hm] at h
  have h : some (some (Value.long x), M) = some o := h
  cases h
  rfl
theorem mx_max {X : nt_X} {d mi pc i t : Nat} {ls : nt_V} {st : List Value} {M : nt_M} {o : Option Value × nt_M} {x y : Int32} (hat : nt_at mi pc = some (pc, .invokestatic i, 1002, t)) (k : nt_rn X d mi (pc, ls, .int y :: .int x :: st, M) o) : nt_rn X d mi (pc + 3, ls, .int (if x < y then y else x) :: st, M) o := by
  obtain ⟨c', hs, k⟩ := lz_n (g := 1002) hat rfl (by decide) (Or.inl ⟨_, rfl, rfl⟩) k
  have hs : (if 1 ≤ d ∧ nt_ct st ≤ 8 then some (pc + 3, ls, Value.int (if x < y then y else x) :: st, M) else none) = some c' := hs
  obtain ⟨_, e⟩ := nt_if_some hs
  cases e
  exact k
theorem mx_min {X : nt_X} {d mi pc i t : Nat} {ls : nt_V} {st : List Value} {M : nt_M} {o : Option Value × nt_M} {x y : Int32} (hat : nt_at mi pc = some (pc, .invokestatic i, 1003, t)) (k : nt_rn X d mi (pc, ls, .int y :: .int x :: st, M) o) : nt_rn X d mi (pc + 3, ls, .int (if y < x then y else x) :: st, M) o := by
  obtain ⟨c', hs, k⟩ := lz_n (g := 1003) hat rfl (by decide) (Or.inl ⟨_, rfl, rfl⟩) k
  have hs : (if 1 ≤ d ∧ nt_ct st ≤ 8 then some (pc + 3, ls, Value.int (if y < x then y else x) :: st, M) else none) = some c' := hs
  obtain ⟨_, e⟩ := nt_if_some hs
  cases e
  exact k
theorem mx_tsd {X : nt_X} {d mi pc g t q : Nat} {df lo hi : Int} {offs : Array Int} {ls : nt_V} {st : List Value} {M : nt_M} {o : Option Value × nt_M} {x : Int32} (hat : nt_at mi pc = some (pc, .tableswitch df lo hi offs, g, t)) (h : x.toInt < lo ∨ hi < x.toInt) (hq : ((pc : Int) + df) = q) (k : nt_rn X d mi (pc, ls, .int x :: st, M) o) : nt_rn X d mi (q, ls, st, M) o := by
  obtain ⟨c', hs, k⟩ := lz_s hat rfl k
  have hs : (if x.toInt < lo ∨ hi < x.toInt then nt_jp pc df fun q => some (q, ls, st, M) else (match offs[(x.toInt - lo).toNat]? with | some off => nt_jp pc off fun q => some (q, ls, st, M) | none => none)) = some c' := hs
  rw [if_pos h] at hs
  unfold nt_jp at hs
  rw [hq] at hs
  obtain ⟨_, e⟩ := nt_if_some hs
  cases e
  exact k
theorem mx_tsc {X : nt_X} {d mi pc g t q : Nat} {df lo hi off : Int} {offs : Array Int} {ls : nt_V} {st : List Value} {M : nt_M} {o : Option Value × nt_M} {x : Int32} (hat : nt_at mi pc = some (pc, .tableswitch df lo hi offs, g, t)) (h : ¬ (x.toInt < lo ∨ hi < x.toInt)) (ho : offs[(x.toInt - lo).toNat]? = some off) (hq : ((pc : Int) + off) = q) (k : nt_rn X d mi (pc, ls, .int x :: st, M) o) : nt_rn X d mi (q, ls, st, M) o := by
  obtain ⟨c', hs, k⟩ := lz_s hat rfl k
  have hs : (if x.toInt < lo ∨ hi < x.toInt then nt_jp pc df fun q => some (q, ls, st, M) else (match offs[(x.toInt - lo).toNat]? with | some off => nt_jp pc off fun q => some (q, ls, st, M) | none => none)) = some c' := hs
  rw [if_neg h, ho] at hs
  have hs : (nt_jp pc off fun q => some (q, ls, st, M)) = some c' := hs
  unfold nt_jp at hs
  rw [hq] at hs
  obtain ⟨_, e⟩ := nt_if_some hs
  cases e
  exact k
theorem mu_s {α : Type} {J : Nat → Nat → α} {a k : Nat} {v : α} : nt_u J a k v a k = v := by
  show (if a = a then (if k = k then v else J a k) else J a k) = v
  rw [if_pos rfl, if_pos rfl]
theorem mu_k {α : Type} {J : Nat → Nat → α} {a k j : Nat} {v : α} (h : j ≠ k) : nt_u J a k v a j = J a j := by
  show (if a = a then (if j = k then v else J a j) else J a j) = _
  rw [if_pos rfl, if_neg h]
theorem mu_o {α : Type} {J : Nat → Nat → α} {a b k : Nat} {v : α} (h : b ≠ a) : nt_u J a k v b = J b := by
  funext j
  show (if b = a then (if j = k then v else J b j) else J b j) = _
  rw [if_neg h]
theorem mu_j {α : Type} {J : Nat → Nat → α} {a b k j : Nat} {v : α} (h : b ≠ a) : nt_u J a k v b j = J b j := by rw [mu_o h]
theorem lx_bg2 {b i : Int32} : b.toInt - i.toInt ≤ ((b.toInt - i.toInt).toNat : Nat) := by omega
theorem lx_end {b i : Int32} (h : b.toInt - i.toInt ≤ (0 : Nat)) : b ≤ i := Int32.le_iff_toInt_le.mpr (by omega)
theorem lx_inc {b i : Int32} (h : ¬ b ≤ i) : (i + Int32.ofInt 1).toInt = i.toInt + 1 := by
  have h : ¬ b.toInt ≤ i.toInt := fun c => h (Int32.le_iff_toInt_le.mpr c)
  have l1 := i.le_toInt
  have l2 := b.toInt_lt
  rw [Int32.toInt_add, show (Int32.ofInt 1).toInt = 1 from by decide, Int.bmod_eq_of_le (by omega) (by omega)]
theorem lx_dec {b i : Int32} {c : Nat} (h : ¬ b ≤ i) (hc : b.toInt - i.toInt ≤ (c + 1 : Nat)) : b.toInt - (i + Int32.ofInt 1).toInt ≤ c := by
  rw [lx_inc h]
  omega
theorem lx_beg {b i : Int32} (h : 0 ≤ i) : b.toInt - i.toInt ≤ b.toNatClampNeg := by
  have h : (0 : Int32).toInt ≤ i.toInt := Int32.le_iff_toInt_le.mp h
  rw [show (0 : Int32).toInt = 0 from by decide] at h
  have : (b.toNatClampNeg : Int) = max b.toInt 0 := by
    rw [Int32.toNatClampNeg]
    exact Int.toNat_eq_max _
  omega
/-! $State.hasShip -/
def x65 (q : Nat → Nat) (v1 : Int32) (J : Nat → Nat → Int32) : Int32 := if v1 < 0 then (Int32.ofInt 0)
  else if (J (q 1) 1) ≤ v1 then (Int32.ofInt 0)
    else (Int32.ofInt 1)
theorem xt65 {X : nt_X} {d : Nat} {M : nt_M} {o : Option Value × nt_M} {q : Nat → Nat} {v1 : Int32} {J : Nat → Nat → Int32} (hq : xs_Q M q) (k : nt_ev X d 65 [.ref (q 0), .int v1] (me_w M J) o) : o = (some (.int (x65 q v1 J)), me_w M J) := by
  have k : nt_rn X d 65 (0, [(0, .ref (q 0)), (1, .int v1)], [], me_w M J) o := k
  have k := ly_revb 2 (c' := (if v1 < 0 then 19 else 4, [(0, .ref (q 0)), (1, .int v1)], [], me_w M J)) rfl k
  by_cases h1 : v1 < 0
  · rw [if_pos h1] at k
    have k := ly_revb 1 (c' := (20, [(0, .ref (q 0)), (1, .int v1)], [.int (Int32.ofInt 0)], me_w M J)) rfl k
    have k := lz_ri rfl (by decide) k
    rw [k, x65, if_pos h1]
  · rw [if_neg h1] at k
    have k := ly_revb 2 (c' := (6, [(0, .ref (q 0)), (1, .int v1)], [.ref (q 0), .int v1], me_w M J)) rfl k
    have k := lz_get (a := (q 0)) (g := 600) (M := me_w M J) (v := .ref (q 1)) rfl (nt_gfR rfl (hq.1 (0, 0, 1) (by decide))) k
    have k := lz_get (a := (q 1)) (g := 801) (M := me_w M J) (v := .int (J (q 1) 1)) rfl (congrArg Value.int (rfl)) k
    have k := ly_revb 1 (c' := (if (J (q 1) 1) ≤ v1 then 19 else 15, [(0, .ref (q 0)), (1, .int v1)], [], me_w M J)) rfl k
    by_cases h12 : (J (q 1) 1) ≤ v1
    · rw [if_pos h12] at k
      have k := ly_revb 1 (c' := (20, [(0, .ref (q 0)), (1, .int v1)], [.int (Int32.ofInt 0)], me_w M J)) rfl k
      have k := lz_ri rfl (by decide) k
      rw [k, x65, if_neg h1, if_pos h12]
    · rw [if_neg h12] at k
      have k := ly_revb 2 (c' := (20, [(0, .ref (q 0)), (1, .int v1)], [.int (Int32.ofInt 1)], me_w M J)) rfl k
      have k := lz_ri rfl (by decide) k
      rw [k, x65, if_neg h1, if_neg h12]
/-! $State.hasKind -/
def x69 (q : Nat → Nat) (v1 : Int32) (J : Nat → Nat → Int32) : Int32 := if v1 < 0 then (Int32.ofInt 0)
  else if (J (q 1) 0) ≤ v1 then (Int32.ofInt 0)
    else (Int32.ofInt 1)
theorem xt69 {X : nt_X} {d : Nat} {M : nt_M} {o : Option Value × nt_M} {q : Nat → Nat} {v1 : Int32} {J : Nat → Nat → Int32} (hq : xs_Q M q) (k : nt_ev X d 69 [.ref (q 0), .int v1] (me_w M J) o) : o = (some (.int (x69 q v1 J)), me_w M J) := by
  have k : nt_rn X d 69 (0, [(0, .ref (q 0)), (1, .int v1)], [], me_w M J) o := k
  have k := ly_revb 2 (c' := (if v1 < 0 then 19 else 4, [(0, .ref (q 0)), (1, .int v1)], [], me_w M J)) rfl k
  by_cases h1 : v1 < 0
  · rw [if_pos h1] at k
    have k := ly_revb 1 (c' := (20, [(0, .ref (q 0)), (1, .int v1)], [.int (Int32.ofInt 0)], me_w M J)) rfl k
    have k := lz_ri rfl (by decide) k
    rw [k, x69, if_pos h1]
  · rw [if_neg h1] at k
    have k := ly_revb 2 (c' := (6, [(0, .ref (q 0)), (1, .int v1)], [.ref (q 0), .int v1], me_w M J)) rfl k
    have k := lz_get (a := (q 0)) (g := 600) (M := me_w M J) (v := .ref (q 1)) rfl (nt_gfR rfl (hq.1 (0, 0, 1) (by decide))) k
    have k := lz_get (a := (q 1)) (g := 800) (M := me_w M J) (v := .int (J (q 1) 0)) rfl (congrArg Value.int (rfl)) k
    have k := ly_revb 1 (c' := (if (J (q 1) 0) ≤ v1 then 19 else 15, [(0, .ref (q 0)), (1, .int v1)], [], me_w M J)) rfl k
    by_cases h12 : (J (q 1) 0) ≤ v1
    · rw [if_pos h12] at k
      have k := ly_revb 1 (c' := (20, [(0, .ref (q 0)), (1, .int v1)], [.int (Int32.ofInt 0)], me_w M J)) rfl k
      have k := lz_ri rfl (by decide) k
      rw [k, x69, if_neg h1, if_pos h12]
    · rw [if_neg h12] at k
      have k := ly_revb 2 (c' := (20, [(0, .ref (q 0)), (1, .int v1)], [.int (Int32.ofInt 1)], me_w M J)) rfl k
      have k := lz_ri rfl (by decide) k
      rw [k, x69, if_neg h1, if_neg h12]
/-! $State.hasPlank -/
def x70 (q : Nat → Nat) (v1 : Int32) (J : Nat → Nat → Int32) : Int32 := if v1 < 0 then (Int32.ofInt 0)
  else if (J (q 1) 2) ≤ v1 then (Int32.ofInt 0)
    else (Int32.ofInt 1)
theorem xt70 {X : nt_X} {d : Nat} {M : nt_M} {o : Option Value × nt_M} {q : Nat → Nat} {v1 : Int32} {J : Nat → Nat → Int32} (hq : xs_Q M q) (k : nt_ev X d 70 [.ref (q 0), .int v1] (me_w M J) o) : o = (some (.int (x70 q v1 J)), me_w M J) := by
  have k : nt_rn X d 70 (0, [(0, .ref (q 0)), (1, .int v1)], [], me_w M J) o := k
  have k := ly_revb 2 (c' := (if v1 < 0 then 19 else 4, [(0, .ref (q 0)), (1, .int v1)], [], me_w M J)) rfl k
  by_cases h1 : v1 < 0
  · rw [if_pos h1] at k
    have k := ly_revb 1 (c' := (20, [(0, .ref (q 0)), (1, .int v1)], [.int (Int32.ofInt 0)], me_w M J)) rfl k
    have k := lz_ri rfl (by decide) k
    rw [k, x70, if_pos h1]
  · rw [if_neg h1] at k
    have k := ly_revb 2 (c' := (6, [(0, .ref (q 0)), (1, .int v1)], [.ref (q 0), .int v1], me_w M J)) rfl k
    have k := lz_get (a := (q 0)) (g := 600) (M := me_w M J) (v := .ref (q 1)) rfl (nt_gfR rfl (hq.1 (0, 0, 1) (by decide))) k
    have k := lz_get (a := (q 1)) (g := 802) (M := me_w M J) (v := .int (J (q 1) 2)) rfl (congrArg Value.int (rfl)) k
    have k := ly_revb 1 (c' := (if (J (q 1) 2) ≤ v1 then 19 else 15, [(0, .ref (q 0)), (1, .int v1)], [], me_w M J)) rfl k
    by_cases h12 : (J (q 1) 2) ≤ v1
    · rw [if_pos h12] at k
      have k := ly_revb 1 (c' := (20, [(0, .ref (q 0)), (1, .int v1)], [.int (Int32.ofInt 0)], me_w M J)) rfl k
      have k := lz_ri rfl (by decide) k
      rw [k, x70, if_neg h1, if_pos h12]
    · rw [if_neg h12] at k
      have k := ly_revb 2 (c' := (20, [(0, .ref (q 0)), (1, .int v1)], [.int (Int32.ofInt 1)], me_w M J)) rfl k
      have k := lz_ri rfl (by decide) k
      rw [k, x70, if_neg h1, if_neg h12]
/-! $State.hasVoyage -/
def x71 (q : Nat → Nat) (v1 : Int32) (J : Nat → Nat → Int32) : Int32 := if v1 < 0 then (Int32.ofInt 0)
  else if (J (q 1) 3) ≤ v1 then (Int32.ofInt 0)
    else (Int32.ofInt 1)
theorem xt71 {X : nt_X} {d : Nat} {M : nt_M} {o : Option Value × nt_M} {q : Nat → Nat} {v1 : Int32} {J : Nat → Nat → Int32} (hq : xs_Q M q) (k : nt_ev X d 71 [.ref (q 0), .int v1] (me_w M J) o) : o = (some (.int (x71 q v1 J)), me_w M J) := by
  have k : nt_rn X d 71 (0, [(0, .ref (q 0)), (1, .int v1)], [], me_w M J) o := k
  have k := ly_revb 2 (c' := (if v1 < 0 then 19 else 4, [(0, .ref (q 0)), (1, .int v1)], [], me_w M J)) rfl k
  by_cases h1 : v1 < 0
  · rw [if_pos h1] at k
    have k := ly_revb 1 (c' := (20, [(0, .ref (q 0)), (1, .int v1)], [.int (Int32.ofInt 0)], me_w M J)) rfl k
    have k := lz_ri rfl (by decide) k
    rw [k, x71, if_pos h1]
  · rw [if_neg h1] at k
    have k := ly_revb 2 (c' := (6, [(0, .ref (q 0)), (1, .int v1)], [.ref (q 0), .int v1], me_w M J)) rfl k
    have k := lz_get (a := (q 0)) (g := 600) (M := me_w M J) (v := .ref (q 1)) rfl (nt_gfR rfl (hq.1 (0, 0, 1) (by decide))) k
    have k := lz_get (a := (q 1)) (g := 803) (M := me_w M J) (v := .int (J (q 1) 3)) rfl (congrArg Value.int (rfl)) k
    have k := ly_revb 1 (c' := (if (J (q 1) 3) ≤ v1 then 19 else 15, [(0, .ref (q 0)), (1, .int v1)], [], me_w M J)) rfl k
    by_cases h12 : (J (q 1) 3) ≤ v1
    · rw [if_pos h12] at k
      have k := ly_revb 1 (c' := (20, [(0, .ref (q 0)), (1, .int v1)], [.int (Int32.ofInt 0)], me_w M J)) rfl k
      have k := lz_ri rfl (by decide) k
      rw [k, x71, if_neg h1, if_pos h12]
    · rw [if_neg h12] at k
      have k := ly_revb 2 (c' := (20, [(0, .ref (q 0)), (1, .int v1)], [.int (Int32.ofInt 1)], me_w M J)) rfl k
      have k := lz_ri rfl (by decide) k
      rw [k, x71, if_neg h1, if_neg h12]
/-! $State.handsLeft -/
def x72 (q : Nat → Nat) (J : Nat → Nat → Int32) : Int32 := if (J (q 0) 1) = 0 then (Int32.ofInt 0)
  else ((J (q 1) 4) - (J (q 0) 3))
theorem xt72 {X : nt_X} {d : Nat} {M : nt_M} {o : Option Value × nt_M} {q : Nat → Nat} {J : Nat → Nat → Int32} (hq : xs_Q M q) (k : nt_ev X d 72 [.ref (q 0)] (me_w M J) o) : o = (some (.int (x72 q J)), me_w M J) := by
  have k : nt_rn X d 72 (0, [(0, .ref (q 0))], [], me_w M J) o := k
  have k := ly_revb 1 (c' := (1, [(0, .ref (q 0))], [.ref (q 0)], me_w M J)) rfl k
  have k := lz_get (a := (q 0)) (g := 601) (M := me_w M J) (v := .int (J (q 0) 1)) rfl (congrArg Value.int (rfl)) k
  have k := ly_revb 1 (c' := (if (J (q 0) 1) = 0 then 22 else 7, [(0, .ref (q 0))], [], me_w M J)) rfl k
  by_cases h4 : (J (q 0) 1) = 0
  · rw [if_pos h4] at k
    have k := ly_revb 1 (c' := (23, [(0, .ref (q 0))], [.int (Int32.ofInt 0)], me_w M J)) rfl k
    have k := lz_ri rfl (by decide) k
    rw [k, x72, if_pos h4]
  · rw [if_neg h4] at k
    have k := ly_revb 1 (c' := (8, [(0, .ref (q 0))], [.ref (q 0)], me_w M J)) rfl k
    have k := lz_get (a := (q 0)) (g := 600) (M := me_w M J) (v := .ref (q 1)) rfl (nt_gfR rfl (hq.1 (0, 0, 1) (by decide))) k
    have k := lz_get (a := (q 1)) (g := 804) (M := me_w M J) (v := .int (J (q 1) 4)) rfl (congrArg Value.int (rfl)) k
    have k := ly_revb 1 (c' := (15, [(0, .ref (q 0))], [.ref (q 0), .int (J (q 1) 4)], me_w M J)) rfl k
    have k := lz_get (a := (q 0)) (g := 603) (M := me_w M J) (v := .int (J (q 0) 3)) rfl (congrArg Value.int (rfl)) k
    have k := ly_revb 2 (c' := (23, [(0, .ref (q 0))], [.int ((J (q 1) 4) - (J (q 0) 3))], me_w M J)) rfl k
    have k := lz_ri rfl (by decide) k
    rw [k, x72, if_neg h4]
/-! $State.soundIn -/
def x66_4 (q : Nat → Nat) (v1 : Int32) (J : Nat → Nat → Int32) : Nat → Int32 → Int32 → Int32
  | 0, v2, v3 => v2
  | c + 1, v2, v3 => if (J (q 1) 2) ≤ v3 then v2
    else if (J (q 14) v3.toNatClampNeg) = v1 then if (J (q 13) v3.toNatClampNeg) ≤ 0 then (x66_4 q v1 J c v2 (v3 + (Int32.ofInt 1)))
        else (x66_4 q v1 J c (v2 + (Int32.ofInt 1)) (v3 + (Int32.ofInt 1)))
      else (x66_4 q v1 J c v2 (v3 + (Int32.ofInt 1)))
theorem xt66_4 {X : nt_X} {d : Nat} {M : nt_M} {o : Option Value × nt_M} {q : Nat → Nat} {v1 : Int32} {J : Nat → Nat → Int32} (hq : xs_Q M q) : ∀ (c : Nat) (v2 : Int32) (v3 : Int32), (J (q 1) 2).toInt - v3.toInt ≤ c → nt_rn X d 66 (4, [(0, .ref (q 0)), (1, .int v1), (2, .int v2), (3, .int v3)], [], me_w M J) o → o = (some (.int (x66_4 q v1 J c v2 v3)), me_w M J) := by
  intro c
  induction c with
  | zero =>
    intro v2 v3 hc k
    have k := ly_revb 2 (c' := (6, [(0, .ref (q 0)), (1, .int v1), (2, .int v2), (3, .int v3)], [.ref (q 0), .int v3], me_w M J)) rfl k
    have k := lz_get (a := (q 0)) (g := 600) (M := me_w M J) (v := .ref (q 1)) rfl (nt_gfR rfl (hq.1 (0, 0, 1) (by decide))) k
    have k := lz_get (a := (q 1)) (g := 802) (M := me_w M J) (v := .int (J (q 1) 2)) rfl (congrArg Value.int (rfl)) k
    have k := ly_revb 1 (c' := (if (J (q 1) 2) ≤ v3 then 43 else 15, [(0, .ref (q 0)), (1, .int v1), (2, .int v2), (3, .int v3)], [], me_w M J)) rfl k
    have h12 : (J (q 1) 2) ≤ v3 := lx_end hc
    rw [if_pos h12] at k
    have k := ly_revb 1 (c' := (44, [(0, .ref (q 0)), (1, .int v1), (2, .int v2), (3, .int v3)], [.int v2], me_w M J)) rfl k
    have k := lz_ri rfl (by decide) k
    rw [k, x66_4]
  | succ c ih =>
    intro v2 v3 hc k
    have k := ly_revb 2 (c' := (6, [(0, .ref (q 0)), (1, .int v1), (2, .int v2), (3, .int v3)], [.ref (q 0), .int v3], me_w M J)) rfl k
    have k := lz_get (a := (q 0)) (g := 600) (M := me_w M J) (v := .ref (q 1)) rfl (nt_gfR rfl (hq.1 (0, 0, 1) (by decide))) k
    have k := lz_get (a := (q 1)) (g := 802) (M := me_w M J) (v := .int (J (q 1) 2)) rfl (congrArg Value.int (rfl)) k
    have k := ly_revb 1 (c' := (if (J (q 1) 2) ≤ v3 then 43 else 15, [(0, .ref (q 0)), (1, .int v1), (2, .int v2), (3, .int v3)], [], me_w M J)) rfl k
    by_cases h12 : (J (q 1) 2) ≤ v3
    · rw [if_pos h12] at k
      have k := ly_revb 1 (c' := (44, [(0, .ref (q 0)), (1, .int v1), (2, .int v2), (3, .int v3)], [.int v2], me_w M J)) rfl k
      have k := lz_ri rfl (by decide) k
      rw [k, x66_4, if_pos h12]
    · rw [if_neg h12] at k
      have k := ly_revb 1 (c' := (16, [(0, .ref (q 0)), (1, .int v1), (2, .int v2), (3, .int v3)], [.ref (q 0)], me_w M J)) rfl k
      have k := lz_get (a := (q 0)) (g := 611) (M := me_w M J) (v := .ref (q 14)) rfl (nt_gfR rfl (hq.1 (0, 11, 14) (by decide))) k
      have k := ly_revb 1 (c' := (20, [(0, .ref (q 0)), (1, .int v1), (2, .int v2), (3, .int v3)], [.int v3, .ref (q 14)], me_w M J)) rfl k
      have k := mx_iald (v := J (q 14) v3.toNatClampNeg) rfl (hq.2.2.1 14 (by omega)) (rfl) k
      have k := ly_revb 2 (c' := (if (J (q 14) v3.toNatClampNeg) = v1 then 25 else 37, [(0, .ref (q 0)), (1, .int v1), (2, .int v2), (3, .int v3)], [], me_w M J)) rfl k
      by_cases h22 : (J (q 14) v3.toNatClampNeg) = v1
      · rw [if_pos h22] at k
        have k := ly_revb 1 (c' := (26, [(0, .ref (q 0)), (1, .int v1), (2, .int v2), (3, .int v3)], [.ref (q 0)], me_w M J)) rfl k
        have k := lz_get (a := (q 0)) (g := 610) (M := me_w M J) (v := .ref (q 13)) rfl (nt_gfR rfl (hq.1 (0, 10, 13) (by decide))) k
        have k := ly_revb 1 (c' := (30, [(0, .ref (q 0)), (1, .int v1), (2, .int v2), (3, .int v3)], [.int v3, .ref (q 13)], me_w M J)) rfl k
        have k := mx_iald (v := J (q 13) v3.toNatClampNeg) rfl (hq.2.2.1 13 (by omega)) (rfl) k
        have k := ly_revb 1 (c' := (if (J (q 13) v3.toNatClampNeg) ≤ 0 then 37 else 34, [(0, .ref (q 0)), (1, .int v1), (2, .int v2), (3, .int v3)], [], me_w M J)) rfl k
        by_cases h31 : (J (q 13) v3.toNatClampNeg) ≤ 0
        · rw [if_pos h31] at k
          have k := ly_revb 2 (c' := (4, [(3, .int (v3 + (Int32.ofInt 1))), (0, .ref (q 0)), (1, .int v1), (2, .int v2)], [], me_w M J)) rfl k
          have k := nt_rn_w (a := [(3, .int (v3 + (Int32.ofInt 1))), (0, .ref (q 0)), (1, .int v1), (2, .int v2)]) (b := [(0, .ref (q 0)), (1, .int v1), (2, .int v2), (3, .int (v3 + (Int32.ofInt 1)))]) ⟨rfl, rfl, rfl, rfl, trivial⟩ rfl k
          have k := ih v2 (v3 + (Int32.ofInt 1)) (lx_dec h12 hc) k
          rw [k, x66_4, if_neg h12, if_pos h22, if_pos h31]
        · rw [if_neg h31] at k
          have k := ly_revb 3 (c' := (4, [(3, .int (v3 + (Int32.ofInt 1))), (2, .int (v2 + (Int32.ofInt 1))), (0, .ref (q 0)), (1, .int v1)], [], me_w M J)) rfl k
          have k := nt_rn_w (a := [(3, .int (v3 + (Int32.ofInt 1))), (2, .int (v2 + (Int32.ofInt 1))), (0, .ref (q 0)), (1, .int v1)]) (b := [(0, .ref (q 0)), (1, .int v1), (2, .int (v2 + (Int32.ofInt 1))), (3, .int (v3 + (Int32.ofInt 1)))]) ⟨rfl, rfl, rfl, rfl, trivial⟩ rfl k
          have k := ih (v2 + (Int32.ofInt 1)) (v3 + (Int32.ofInt 1)) (lx_dec h12 hc) k
          rw [k, x66_4, if_neg h12, if_pos h22, if_neg h31]
      · rw [if_neg h22] at k
        have k := ly_revb 2 (c' := (4, [(3, .int (v3 + (Int32.ofInt 1))), (0, .ref (q 0)), (1, .int v1), (2, .int v2)], [], me_w M J)) rfl k
        have k := nt_rn_w (a := [(3, .int (v3 + (Int32.ofInt 1))), (0, .ref (q 0)), (1, .int v1), (2, .int v2)]) (b := [(0, .ref (q 0)), (1, .int v1), (2, .int v2), (3, .int (v3 + (Int32.ofInt 1)))]) ⟨rfl, rfl, rfl, rfl, trivial⟩ rfl k
        have k := ih v2 (v3 + (Int32.ofInt 1)) (lx_dec h12 hc) k
        rw [k, x66_4, if_neg h12, if_neg h22]
theorem x66_4_rule {q : Nat → Nat} {v1 : Int32} {J : Nat → Nat → Int32} {I : Nat → Int32 → Int32 → Prop} {Q : Int32 → Prop} (h0 : ∀ (v2 : Int32) (v3 : Int32), I 0 v2 v3 → Q v2) (h1 : ∀ (c : Nat) (v2 : Int32) (v3 : Int32), I (c + 1) v2 v3 →
    if (J (q 1) 2) ≤ v3 then (Q v2)
    else if (J (q 14) v3.toNatClampNeg) = v1 then if (J (q 13) v3.toNatClampNeg) ≤ 0 then (I c v2 (v3 + (Int32.ofInt 1)))
        else (I c (v2 + (Int32.ofInt 1)) (v3 + (Int32.ofInt 1)))
      else (I c v2 (v3 + (Int32.ofInt 1)))) : ∀ (c : Nat) (v2 : Int32) (v3 : Int32), I c v2 v3 → Q (x66_4 q v1 J c v2 v3) := by
  intro c
  induction c with
  | zero =>
    intro v2 v3 hi
    rw [x66_4]
    exact h0 v2 v3 hi
  | succ c ih =>
    intro v2 v3 hi
    have hi := h1 c v2 v3 hi
    rw [x66_4]
    by_cases h : (J (q 1) 2) ≤ v3
    · rw [if_pos h] at hi ⊢
      exact hi
    · rw [if_neg h] at hi ⊢
      by_cases h : (J (q 14) v3.toNatClampNeg) = v1
      · rw [if_pos h] at hi ⊢
        by_cases h : (J (q 13) v3.toNatClampNeg) ≤ 0
        · rw [if_pos h] at hi ⊢
          exact ih _ _ hi
        · rw [if_neg h] at hi ⊢
          exact ih _ _ hi
      · rw [if_neg h] at hi ⊢
        exact ih _ _ hi
def x66 (q : Nat → Nat) (v1 : Int32) (J : Nat → Nat → Int32) : Int32 := (x66_4 q v1 J ((J (q 1) 2).toNatClampNeg) (Int32.ofInt 0) (Int32.ofInt 0))
theorem xt66 {X : nt_X} {d : Nat} {M : nt_M} {o : Option Value × nt_M} {q : Nat → Nat} {v1 : Int32} {J : Nat → Nat → Int32} (hq : xs_Q M q) (k : nt_ev X d 66 [.ref (q 0), .int v1] (me_w M J) o) : o = (some (.int (x66 q v1 J)), me_w M J) := by
  have k : nt_rn X d 66 (0, [(0, .ref (q 0)), (1, .int v1)], [], me_w M J) o := k
  have k := ly_revb 4 (c' := (4, [(3, .int (Int32.ofInt 0)), (2, .int (Int32.ofInt 0)), (0, .ref (q 0)), (1, .int v1)], [], me_w M J)) rfl k
  have k := nt_rn_w (a := [(3, .int (Int32.ofInt 0)), (2, .int (Int32.ofInt 0)), (0, .ref (q 0)), (1, .int v1)]) (b := [(0, .ref (q 0)), (1, .int v1), (2, .int (Int32.ofInt 0)), (3, .int (Int32.ofInt 0))]) ⟨rfl, rfl, rfl, rfl, trivial⟩ rfl k
  have k := xt66_4 hq  ((J (q 1) 2).toNatClampNeg) (Int32.ofInt 0) (Int32.ofInt 0) (lx_beg (by decide)) k
  rw [k, x66]
/-! $State.soundOwnedIn -/
def x75_5 (q : Nat → Nat) (v1 : Int32) (v2 : Int32) (J : Nat → Nat → Int32) : Nat → Int32 → Int32 → Int32
  | 0, v3, v4 => v3
  | c + 1, v3, v4 => if (J (q 1) 2) ≤ v4 then v3
    else if (J (q 14) v4.toNatClampNeg) = v1 then if (J (q 13) v4.toNatClampNeg) ≤ 0 then (x75_5 q v1 v2 J c v3 (v4 + (Int32.ofInt 1)))
        else if (J (q 5) v4.toNatClampNeg) = v2 then (x75_5 q v1 v2 J c (v3 + (Int32.ofInt 1)) (v4 + (Int32.ofInt 1)))
          else (x75_5 q v1 v2 J c v3 (v4 + (Int32.ofInt 1)))
      else (x75_5 q v1 v2 J c v3 (v4 + (Int32.ofInt 1)))
theorem xt75_5 {X : nt_X} {d : Nat} {M : nt_M} {o : Option Value × nt_M} {q : Nat → Nat} {v1 : Int32} {v2 : Int32} {J : Nat → Nat → Int32} (hq : xs_Q M q) : ∀ (c : Nat) (v3 : Int32) (v4 : Int32), (J (q 1) 2).toInt - v4.toInt ≤ c → nt_rn X d 75 (5, [(0, .ref (q 0)), (1, .int v1), (2, .int v2), (3, .int v3), (4, .int v4)], [], me_w M J) o → o = (some (.int (x75_5 q v1 v2 J c v3 v4)), me_w M J) := by
  intro c
  induction c with
  | zero =>
    intro v3 v4 hc k
    have k := ly_revb 2 (c' := (8, [(0, .ref (q 0)), (1, .int v1), (2, .int v2), (3, .int v3), (4, .int v4)], [.ref (q 0), .int v4], me_w M J)) rfl k
    have k := lz_get (a := (q 0)) (g := 600) (M := me_w M J) (v := .ref (q 1)) rfl (nt_gfR rfl (hq.1 (0, 0, 1) (by decide))) k
    have k := lz_get (a := (q 1)) (g := 802) (M := me_w M J) (v := .int (J (q 1) 2)) rfl (congrArg Value.int (rfl)) k
    have k := ly_revb 1 (c' := (if (J (q 1) 2) ≤ v4 then 61 else 17, [(0, .ref (q 0)), (1, .int v1), (2, .int v2), (3, .int v3), (4, .int v4)], [], me_w M J)) rfl k
    have h14 : (J (q 1) 2) ≤ v4 := lx_end hc
    rw [if_pos h14] at k
    have k := ly_revb 1 (c' := (62, [(0, .ref (q 0)), (1, .int v1), (2, .int v2), (3, .int v3), (4, .int v4)], [.int v3], me_w M J)) rfl k
    have k := lz_ri rfl (by decide) k
    rw [k, x75_5]
  | succ c ih =>
    intro v3 v4 hc k
    have k := ly_revb 2 (c' := (8, [(0, .ref (q 0)), (1, .int v1), (2, .int v2), (3, .int v3), (4, .int v4)], [.ref (q 0), .int v4], me_w M J)) rfl k
    have k := lz_get (a := (q 0)) (g := 600) (M := me_w M J) (v := .ref (q 1)) rfl (nt_gfR rfl (hq.1 (0, 0, 1) (by decide))) k
    have k := lz_get (a := (q 1)) (g := 802) (M := me_w M J) (v := .int (J (q 1) 2)) rfl (congrArg Value.int (rfl)) k
    have k := ly_revb 1 (c' := (if (J (q 1) 2) ≤ v4 then 61 else 17, [(0, .ref (q 0)), (1, .int v1), (2, .int v2), (3, .int v3), (4, .int v4)], [], me_w M J)) rfl k
    by_cases h14 : (J (q 1) 2) ≤ v4
    · rw [if_pos h14] at k
      have k := ly_revb 1 (c' := (62, [(0, .ref (q 0)), (1, .int v1), (2, .int v2), (3, .int v3), (4, .int v4)], [.int v3], me_w M J)) rfl k
      have k := lz_ri rfl (by decide) k
      rw [k, x75_5, if_pos h14]
    · rw [if_neg h14] at k
      have k := ly_revb 1 (c' := (18, [(0, .ref (q 0)), (1, .int v1), (2, .int v2), (3, .int v3), (4, .int v4)], [.ref (q 0)], me_w M J)) rfl k
      have k := lz_get (a := (q 0)) (g := 611) (M := me_w M J) (v := .ref (q 14)) rfl (nt_gfR rfl (hq.1 (0, 11, 14) (by decide))) k
      have k := ly_revb 1 (c' := (23, [(0, .ref (q 0)), (1, .int v1), (2, .int v2), (3, .int v3), (4, .int v4)], [.int v4, .ref (q 14)], me_w M J)) rfl k
      have k := mx_iald (v := J (q 14) v4.toNatClampNeg) rfl (hq.2.2.1 14 (by omega)) (rfl) k
      have k := ly_revb 2 (c' := (if (J (q 14) v4.toNatClampNeg) = v1 then 28 else 55, [(0, .ref (q 0)), (1, .int v1), (2, .int v2), (3, .int v3), (4, .int v4)], [], me_w M J)) rfl k
      by_cases h25 : (J (q 14) v4.toNatClampNeg) = v1
      · rw [if_pos h25] at k
        have k := ly_revb 1 (c' := (29, [(0, .ref (q 0)), (1, .int v1), (2, .int v2), (3, .int v3), (4, .int v4)], [.ref (q 0)], me_w M J)) rfl k
        have k := lz_get (a := (q 0)) (g := 610) (M := me_w M J) (v := .ref (q 13)) rfl (nt_gfR rfl (hq.1 (0, 10, 13) (by decide))) k
        have k := ly_revb 1 (c' := (34, [(0, .ref (q 0)), (1, .int v1), (2, .int v2), (3, .int v3), (4, .int v4)], [.int v4, .ref (q 13)], me_w M J)) rfl k
        have k := mx_iald (v := J (q 13) v4.toNatClampNeg) rfl (hq.2.2.1 13 (by omega)) (rfl) k
        have k := ly_revb 1 (c' := (if (J (q 13) v4.toNatClampNeg) ≤ 0 then 55 else 38, [(0, .ref (q 0)), (1, .int v1), (2, .int v2), (3, .int v3), (4, .int v4)], [], me_w M J)) rfl k
        by_cases h35 : (J (q 13) v4.toNatClampNeg) ≤ 0
        · rw [if_pos h35] at k
          have k := ly_revb 2 (c' := (5, [(4, .int (v4 + (Int32.ofInt 1))), (0, .ref (q 0)), (1, .int v1), (2, .int v2), (3, .int v3)], [], me_w M J)) rfl k
          have k := nt_rn_w (a := [(4, .int (v4 + (Int32.ofInt 1))), (0, .ref (q 0)), (1, .int v1), (2, .int v2), (3, .int v3)]) (b := [(0, .ref (q 0)), (1, .int v1), (2, .int v2), (3, .int v3), (4, .int (v4 + (Int32.ofInt 1)))]) ⟨rfl, rfl, rfl, rfl, rfl, trivial⟩ rfl k
          have k := ih v3 (v4 + (Int32.ofInt 1)) (lx_dec h14 hc) k
          rw [k, x75_5, if_neg h14, if_pos h25, if_pos h35]
        · rw [if_neg h35] at k
          have k := ly_revb 1 (c' := (39, [(0, .ref (q 0)), (1, .int v1), (2, .int v2), (3, .int v3), (4, .int v4)], [.ref (q 0)], me_w M J)) rfl k
          have k := lz_get (a := (q 0)) (g := 600) (M := me_w M J) (v := .ref (q 1)) rfl (nt_gfR rfl (hq.1 (0, 0, 1) (by decide))) k
          have k := lz_get (a := (q 1)) (g := 808) (M := me_w M J) (v := .ref (q 5)) rfl (nt_gfR rfl (hq.1 (1, 8, 5) (by decide))) k
          have k := ly_revb 1 (c' := (47, [(0, .ref (q 0)), (1, .int v1), (2, .int v2), (3, .int v3), (4, .int v4)], [.int v4, .ref (q 5)], me_w M J)) rfl k
          have k := mx_iald (v := J (q 5) v4.toNatClampNeg) rfl (hq.2.2.1 5 (by omega)) (rfl) k
          have k := ly_revb 2 (c' := (if (J (q 5) v4.toNatClampNeg) = v2 then 52 else 55, [(0, .ref (q 0)), (1, .int v1), (2, .int v2), (3, .int v3), (4, .int v4)], [], me_w M J)) rfl k
          by_cases h49 : (J (q 5) v4.toNatClampNeg) = v2
          · rw [if_pos h49] at k
            have k := ly_revb 3 (c' := (5, [(4, .int (v4 + (Int32.ofInt 1))), (3, .int (v3 + (Int32.ofInt 1))), (0, .ref (q 0)), (1, .int v1), (2, .int v2)], [], me_w M J)) rfl k
            have k := nt_rn_w (a := [(4, .int (v4 + (Int32.ofInt 1))), (3, .int (v3 + (Int32.ofInt 1))), (0, .ref (q 0)), (1, .int v1), (2, .int v2)]) (b := [(0, .ref (q 0)), (1, .int v1), (2, .int v2), (3, .int (v3 + (Int32.ofInt 1))), (4, .int (v4 + (Int32.ofInt 1)))]) ⟨rfl, rfl, rfl, rfl, rfl, trivial⟩ rfl k
            have k := ih (v3 + (Int32.ofInt 1)) (v4 + (Int32.ofInt 1)) (lx_dec h14 hc) k
            rw [k, x75_5, if_neg h14, if_pos h25, if_neg h35, if_pos h49]
          · rw [if_neg h49] at k
            have k := ly_revb 2 (c' := (5, [(4, .int (v4 + (Int32.ofInt 1))), (0, .ref (q 0)), (1, .int v1), (2, .int v2), (3, .int v3)], [], me_w M J)) rfl k
            have k := nt_rn_w (a := [(4, .int (v4 + (Int32.ofInt 1))), (0, .ref (q 0)), (1, .int v1), (2, .int v2), (3, .int v3)]) (b := [(0, .ref (q 0)), (1, .int v1), (2, .int v2), (3, .int v3), (4, .int (v4 + (Int32.ofInt 1)))]) ⟨rfl, rfl, rfl, rfl, rfl, trivial⟩ rfl k
            have k := ih v3 (v4 + (Int32.ofInt 1)) (lx_dec h14 hc) k
            rw [k, x75_5, if_neg h14, if_pos h25, if_neg h35, if_neg h49]
      · rw [if_neg h25] at k
        have k := ly_revb 2 (c' := (5, [(4, .int (v4 + (Int32.ofInt 1))), (0, .ref (q 0)), (1, .int v1), (2, .int v2), (3, .int v3)], [], me_w M J)) rfl k
        have k := nt_rn_w (a := [(4, .int (v4 + (Int32.ofInt 1))), (0, .ref (q 0)), (1, .int v1), (2, .int v2), (3, .int v3)]) (b := [(0, .ref (q 0)), (1, .int v1), (2, .int v2), (3, .int v3), (4, .int (v4 + (Int32.ofInt 1)))]) ⟨rfl, rfl, rfl, rfl, rfl, trivial⟩ rfl k
        have k := ih v3 (v4 + (Int32.ofInt 1)) (lx_dec h14 hc) k
        rw [k, x75_5, if_neg h14, if_neg h25]
theorem x75_5_rule {q : Nat → Nat} {v1 : Int32} {v2 : Int32} {J : Nat → Nat → Int32} {I : Nat → Int32 → Int32 → Prop} {Q : Int32 → Prop} (h0 : ∀ (v3 : Int32) (v4 : Int32), I 0 v3 v4 → Q v3) (h1 : ∀ (c : Nat) (v3 : Int32) (v4 : Int32), I (c + 1) v3 v4 →
    if (J (q 1) 2) ≤ v4 then (Q v3)
    else if (J (q 14) v4.toNatClampNeg) = v1 then if (J (q 13) v4.toNatClampNeg) ≤ 0 then (I c v3 (v4 + (Int32.ofInt 1)))
        else if (J (q 5) v4.toNatClampNeg) = v2 then (I c (v3 + (Int32.ofInt 1)) (v4 + (Int32.ofInt 1)))
          else (I c v3 (v4 + (Int32.ofInt 1)))
      else (I c v3 (v4 + (Int32.ofInt 1)))) : ∀ (c : Nat) (v3 : Int32) (v4 : Int32), I c v3 v4 → Q (x75_5 q v1 v2 J c v3 v4) := by
  intro c
  induction c with
  | zero =>
    intro v3 v4 hi
    rw [x75_5]
    exact h0 v3 v4 hi
  | succ c ih =>
    intro v3 v4 hi
    have hi := h1 c v3 v4 hi
    rw [x75_5]
    by_cases h : (J (q 1) 2) ≤ v4
    · rw [if_pos h] at hi ⊢
      exact hi
    · rw [if_neg h] at hi ⊢
      by_cases h : (J (q 14) v4.toNatClampNeg) = v1
      · rw [if_pos h] at hi ⊢
        by_cases h : (J (q 13) v4.toNatClampNeg) ≤ 0
        · rw [if_pos h] at hi ⊢
          exact ih _ _ hi
        · rw [if_neg h] at hi ⊢
          by_cases h : (J (q 5) v4.toNatClampNeg) = v2
          · rw [if_pos h] at hi ⊢
            exact ih _ _ hi
          · rw [if_neg h] at hi ⊢
            exact ih _ _ hi
      · rw [if_neg h] at hi ⊢
        exact ih _ _ hi
def x75 (q : Nat → Nat) (v1 : Int32) (v2 : Int32) (J : Nat → Nat → Int32) : Int32 := (x75_5 q v1 v2 J ((J (q 1) 2).toNatClampNeg) (Int32.ofInt 0) (Int32.ofInt 0))
theorem xt75 {X : nt_X} {d : Nat} {M : nt_M} {o : Option Value × nt_M} {q : Nat → Nat} {v1 : Int32} {v2 : Int32} {J : Nat → Nat → Int32} (hq : xs_Q M q) (k : nt_ev X d 75 [.ref (q 0), .int v1, .int v2] (me_w M J) o) : o = (some (.int (x75 q v1 v2 J)), me_w M J) := by
  have k : nt_rn X d 75 (0, [(0, .ref (q 0)), (1, .int v1), (2, .int v2)], [], me_w M J) o := k
  have k := ly_revb 4 (c' := (5, [(4, .int (Int32.ofInt 0)), (3, .int (Int32.ofInt 0)), (0, .ref (q 0)), (1, .int v1), (2, .int v2)], [], me_w M J)) rfl k
  have k := nt_rn_w (a := [(4, .int (Int32.ofInt 0)), (3, .int (Int32.ofInt 0)), (0, .ref (q 0)), (1, .int v1), (2, .int v2)]) (b := [(0, .ref (q 0)), (1, .int v1), (2, .int v2), (3, .int (Int32.ofInt 0)), (4, .int (Int32.ofInt 0))]) ⟨rfl, rfl, rfl, rfl, rfl, trivial⟩ rfl k
  have k := xt75_5 hq  ((J (q 1) 2).toNatClampNeg) (Int32.ofInt 0) (Int32.ofInt 0) (lx_beg (by decide)) k
  rw [k, x75]
/-! $Yard.mustHave -/
def x87 (q : Nat → Nat) (v1 : Int32) (v2 : Int32) (J : Nat → Nat → Int32) : Int32 := (J (q 2) (((v1 * (Int32.ofInt 4)) + v2).toNatClampNeg))
theorem xt87 {X : nt_X} {d : Nat} {M : nt_M} {o : Option Value × nt_M} {q : Nat → Nat} {v1 : Int32} {v2 : Int32} {J : Nat → Nat → Int32} (hq : xs_Q M q) (k : nt_ev X d 87 [.ref (q 1), .int v1, .int v2] (me_w M J) o) : o = (some (.int (x87 q v1 v2 J)), me_w M J) := by
  have k : nt_rn X d 87 (0, [(0, .ref (q 1)), (1, .int v1), (2, .int v2)], [], me_w M J) o := k
  have k := ly_revb 1 (c' := (1, [(0, .ref (q 1)), (1, .int v1), (2, .int v2)], [.ref (q 1)], me_w M J)) rfl k
  have k := lz_get (a := (q 1)) (g := 805) (M := me_w M J) (v := .ref (q 2)) rfl (nt_gfR rfl (hq.1 (1, 5, 2) (by decide))) k
  have k := ly_revb 5 (c' := (9, [(0, .ref (q 1)), (1, .int v1), (2, .int v2)], [.int ((v1 * (Int32.ofInt 4)) + v2), .ref (q 2)], me_w M J)) rfl k
  have k := mx_iald (v := J (q 2) (((v1 * (Int32.ofInt 4)) + v2).toNatClampNeg)) rfl (hq.2.2.1 2 (by omega)) (rfl) k
  have k := lz_ri rfl (by decide) k
  rw [k, x87]
/-! $Yard.lengthOf -/
def x89 (q : Nat → Nat) (v1 : Int32) (J : Nat → Nat → Int32) : Int32 := ((J (q 8) v1.toNatClampNeg) - (J (q 7) v1.toNatClampNeg))
theorem xt89 {X : nt_X} {d : Nat} {M : nt_M} {o : Option Value × nt_M} {q : Nat → Nat} {v1 : Int32} {J : Nat → Nat → Int32} (hq : xs_Q M q) (k : nt_ev X d 89 [.ref (q 1), .int v1] (me_w M J) o) : o = (some (.int (x89 q v1 J)), me_w M J) := by
  have k : nt_rn X d 89 (0, [(0, .ref (q 1)), (1, .int v1)], [], me_w M J) o := k
  have k := ly_revb 1 (c' := (1, [(0, .ref (q 1)), (1, .int v1)], [.ref (q 1)], me_w M J)) rfl k
  have k := lz_get (a := (q 1)) (g := 811) (M := me_w M J) (v := .ref (q 8)) rfl (nt_gfR rfl (hq.1 (1, 11, 8) (by decide))) k
  have k := ly_revb 1 (c' := (5, [(0, .ref (q 1)), (1, .int v1)], [.int v1, .ref (q 8)], me_w M J)) rfl k
  have k := mx_iald (v := J (q 8) v1.toNatClampNeg) rfl (hq.2.2.1 8 (by omega)) (rfl) k
  have k := ly_revb 1 (c' := (7, [(0, .ref (q 1)), (1, .int v1)], [.ref (q 1), .int (J (q 8) v1.toNatClampNeg)], me_w M J)) rfl k
  have k := lz_get (a := (q 1)) (g := 810) (M := me_w M J) (v := .ref (q 7)) rfl (nt_gfR rfl (hq.1 (1, 10, 7) (by decide))) k
  have k := ly_revb 1 (c' := (11, [(0, .ref (q 1)), (1, .int v1)], [.int v1, .ref (q 7), .int (J (q 8) v1.toNatClampNeg)], me_w M J)) rfl k
  have k := mx_iald (v := J (q 7) v1.toNatClampNeg) rfl (hq.2.2.1 7 (by omega)) (rfl) k
  have k := ly_revb 1 (c' := (13, [(0, .ref (q 1)), (1, .int v1)], [.int ((J (q 8) v1.toNatClampNeg) - (J (q 7) v1.toNatClampNeg))], me_w M J)) rfl k
  have k := lz_ri rfl (by decide) k
  rw [k, x89]
/-! $Yard.begins -/
def x88_2 (q : Nat → Nat) (v1 : Int32) (v2 : Int32) (J : Nat → Nat → Int32) : Nat → Int32 → Int32
  | 0, v3 => (Int32.ofInt 0)
  | c + 1, v3 => if (J (q 1) 3) ≤ v3 then (Int32.ofInt 0)
    else if (J (q 6) v3.toNatClampNeg) = v1 then if (J (q 7) v3.toNatClampNeg) = v2 then (Int32.ofInt 1)
        else (x88_2 q v1 v2 J c (v3 + (Int32.ofInt 1)))
      else (x88_2 q v1 v2 J c (v3 + (Int32.ofInt 1)))
theorem xt88_2 {X : nt_X} {d : Nat} {M : nt_M} {o : Option Value × nt_M} {q : Nat → Nat} {v1 : Int32} {v2 : Int32} {J : Nat → Nat → Int32} (hq : xs_Q M q) : ∀ (c : Nat) (v3 : Int32), (J (q 1) 3).toInt - v3.toInt ≤ c → nt_rn X d 88 (2, [(0, .ref (q 1)), (1, .int v1), (2, .int v2), (3, .int v3)], [], me_w M J) o → o = (some (.int (x88_2 q v1 v2 J c v3)), me_w M J) := by
  intro c
  induction c with
  | zero =>
    intro v3 hc k
    have k := ly_revb 2 (c' := (4, [(0, .ref (q 1)), (1, .int v1), (2, .int v2), (3, .int v3)], [.ref (q 1), .int v3], me_w M J)) rfl k
    have k := lz_get (a := (q 1)) (g := 803) (M := me_w M J) (v := .int (J (q 1) 3)) rfl (congrArg Value.int (rfl)) k
    have k := ly_revb 1 (c' := (if (J (q 1) 3) ≤ v3 then 38 else 10, [(0, .ref (q 1)), (1, .int v1), (2, .int v2), (3, .int v3)], [], me_w M J)) rfl k
    have h7 : (J (q 1) 3) ≤ v3 := lx_end hc
    rw [if_pos h7] at k
    have k := ly_revb 1 (c' := (39, [(0, .ref (q 1)), (1, .int v1), (2, .int v2), (3, .int v3)], [.int (Int32.ofInt 0)], me_w M J)) rfl k
    have k := lz_ri rfl (by decide) k
    rw [k, x88_2]
  | succ c ih =>
    intro v3 hc k
    have k := ly_revb 2 (c' := (4, [(0, .ref (q 1)), (1, .int v1), (2, .int v2), (3, .int v3)], [.ref (q 1), .int v3], me_w M J)) rfl k
    have k := lz_get (a := (q 1)) (g := 803) (M := me_w M J) (v := .int (J (q 1) 3)) rfl (congrArg Value.int (rfl)) k
    have k := ly_revb 1 (c' := (if (J (q 1) 3) ≤ v3 then 38 else 10, [(0, .ref (q 1)), (1, .int v1), (2, .int v2), (3, .int v3)], [], me_w M J)) rfl k
    by_cases h7 : (J (q 1) 3) ≤ v3
    · rw [if_pos h7] at k
      have k := ly_revb 1 (c' := (39, [(0, .ref (q 1)), (1, .int v1), (2, .int v2), (3, .int v3)], [.int (Int32.ofInt 0)], me_w M J)) rfl k
      have k := lz_ri rfl (by decide) k
      rw [k, x88_2, if_pos h7]
    · rw [if_neg h7] at k
      have k := ly_revb 1 (c' := (11, [(0, .ref (q 1)), (1, .int v1), (2, .int v2), (3, .int v3)], [.ref (q 1)], me_w M J)) rfl k
      have k := lz_get (a := (q 1)) (g := 809) (M := me_w M J) (v := .ref (q 6)) rfl (nt_gfR rfl (hq.1 (1, 9, 6) (by decide))) k
      have k := ly_revb 1 (c' := (15, [(0, .ref (q 1)), (1, .int v1), (2, .int v2), (3, .int v3)], [.int v3, .ref (q 6)], me_w M J)) rfl k
      have k := mx_iald (v := J (q 6) v3.toNatClampNeg) rfl (hq.2.2.1 6 (by omega)) (rfl) k
      have k := ly_revb 2 (c' := (if (J (q 6) v3.toNatClampNeg) = v1 then 20 else 32, [(0, .ref (q 1)), (1, .int v1), (2, .int v2), (3, .int v3)], [], me_w M J)) rfl k
      by_cases h17 : (J (q 6) v3.toNatClampNeg) = v1
      · rw [if_pos h17] at k
        have k := ly_revb 1 (c' := (21, [(0, .ref (q 1)), (1, .int v1), (2, .int v2), (3, .int v3)], [.ref (q 1)], me_w M J)) rfl k
        have k := lz_get (a := (q 1)) (g := 810) (M := me_w M J) (v := .ref (q 7)) rfl (nt_gfR rfl (hq.1 (1, 10, 7) (by decide))) k
        have k := ly_revb 1 (c' := (25, [(0, .ref (q 1)), (1, .int v1), (2, .int v2), (3, .int v3)], [.int v3, .ref (q 7)], me_w M J)) rfl k
        have k := mx_iald (v := J (q 7) v3.toNatClampNeg) rfl (hq.2.2.1 7 (by omega)) (rfl) k
        have k := ly_revb 2 (c' := (if (J (q 7) v3.toNatClampNeg) = v2 then 30 else 32, [(0, .ref (q 1)), (1, .int v1), (2, .int v2), (3, .int v3)], [], me_w M J)) rfl k
        by_cases h27 : (J (q 7) v3.toNatClampNeg) = v2
        · rw [if_pos h27] at k
          have k := ly_revb 1 (c' := (31, [(0, .ref (q 1)), (1, .int v1), (2, .int v2), (3, .int v3)], [.int (Int32.ofInt 1)], me_w M J)) rfl k
          have k := lz_ri rfl (by decide) k
          rw [k, x88_2, if_neg h7, if_pos h17, if_pos h27]
        · rw [if_neg h27] at k
          have k := ly_revb 2 (c' := (2, [(3, .int (v3 + (Int32.ofInt 1))), (0, .ref (q 1)), (1, .int v1), (2, .int v2)], [], me_w M J)) rfl k
          have k := nt_rn_w (a := [(3, .int (v3 + (Int32.ofInt 1))), (0, .ref (q 1)), (1, .int v1), (2, .int v2)]) (b := [(0, .ref (q 1)), (1, .int v1), (2, .int v2), (3, .int (v3 + (Int32.ofInt 1)))]) ⟨rfl, rfl, rfl, rfl, trivial⟩ rfl k
          have k := ih (v3 + (Int32.ofInt 1)) (lx_dec h7 hc) k
          rw [k, x88_2, if_neg h7, if_pos h17, if_neg h27]
      · rw [if_neg h17] at k
        have k := ly_revb 2 (c' := (2, [(3, .int (v3 + (Int32.ofInt 1))), (0, .ref (q 1)), (1, .int v1), (2, .int v2)], [], me_w M J)) rfl k
        have k := nt_rn_w (a := [(3, .int (v3 + (Int32.ofInt 1))), (0, .ref (q 1)), (1, .int v1), (2, .int v2)]) (b := [(0, .ref (q 1)), (1, .int v1), (2, .int v2), (3, .int (v3 + (Int32.ofInt 1)))]) ⟨rfl, rfl, rfl, rfl, trivial⟩ rfl k
        have k := ih (v3 + (Int32.ofInt 1)) (lx_dec h7 hc) k
        rw [k, x88_2, if_neg h7, if_neg h17]
theorem x88_2_rule {q : Nat → Nat} {v1 : Int32} {v2 : Int32} {J : Nat → Nat → Int32} {I : Nat → Int32 → Prop} {Q : Int32 → Prop} (h0 : ∀ (v3 : Int32), I 0 v3 → Q (Int32.ofInt 0)) (h1 : ∀ (c : Nat) (v3 : Int32), I (c + 1) v3 →
    if (J (q 1) 3) ≤ v3 then (Q (Int32.ofInt 0))
    else if (J (q 6) v3.toNatClampNeg) = v1 then if (J (q 7) v3.toNatClampNeg) = v2 then (Q (Int32.ofInt 1))
        else (I c (v3 + (Int32.ofInt 1)))
      else (I c (v3 + (Int32.ofInt 1)))) : ∀ (c : Nat) (v3 : Int32), I c v3 → Q (x88_2 q v1 v2 J c v3) := by
  intro c
  induction c with
  | zero =>
    intro v3 hi
    rw [x88_2]
    exact h0 v3 hi
  | succ c ih =>
    intro v3 hi
    have hi := h1 c v3 hi
    rw [x88_2]
    by_cases h : (J (q 1) 3) ≤ v3
    · rw [if_pos h] at hi ⊢
      exact hi
    · rw [if_neg h] at hi ⊢
      by_cases h : (J (q 6) v3.toNatClampNeg) = v1
      · rw [if_pos h] at hi ⊢
        by_cases h : (J (q 7) v3.toNatClampNeg) = v2
        · rw [if_pos h] at hi ⊢
          exact hi
        · rw [if_neg h] at hi ⊢
          exact ih _ hi
      · rw [if_neg h] at hi ⊢
        exact ih _ hi
def x88 (q : Nat → Nat) (v1 : Int32) (v2 : Int32) (J : Nat → Nat → Int32) : Int32 := (x88_2 q v1 v2 J ((J (q 1) 3).toNatClampNeg) (Int32.ofInt 0))
theorem xt88 {X : nt_X} {d : Nat} {M : nt_M} {o : Option Value × nt_M} {q : Nat → Nat} {v1 : Int32} {v2 : Int32} {J : Nat → Nat → Int32} (hq : xs_Q M q) (k : nt_ev X d 88 [.ref (q 1), .int v1, .int v2] (me_w M J) o) : o = (some (.int (x88 q v1 v2 J)), me_w M J) := by
  have k : nt_rn X d 88 (0, [(0, .ref (q 1)), (1, .int v1), (2, .int v2)], [], me_w M J) o := k
  have k := ly_revb 2 (c' := (2, [(3, .int (Int32.ofInt 0)), (0, .ref (q 1)), (1, .int v1), (2, .int v2)], [], me_w M J)) rfl k
  have k := nt_rn_w (a := [(3, .int (Int32.ofInt 0)), (0, .ref (q 1)), (1, .int v1), (2, .int v2)]) (b := [(0, .ref (q 1)), (1, .int v1), (2, .int v2), (3, .int (Int32.ofInt 0))]) ⟨rfl, rfl, rfl, rfl, trivial⟩ rfl k
  have k := xt88_2 hq  ((J (q 1) 3).toNatClampNeg) (Int32.ofInt 0) (lx_beg (by decide)) k
  rw [k, x88]
/-! $State.tooFew -/
def x68_13 (q : Nat → Nat) (v1 : Int32) (v2 : Int32) (J : Nat → Nat → Int32) : Nat → Int32 → Int32 → Int32
  | 0, v3, v4 => (if v3 < (Int32.ofInt 0) then (Int32.ofInt 0) else v3)
  | c + 1, v3, v4 => if (J (q 1) 2) ≤ v4 then (if v3 < (Int32.ofInt 0) then (Int32.ofInt 0) else v3)
    else if (J (q 14) v4.toNatClampNeg) = v1 then if (J (q 13) v4.toNatClampNeg) ≤ 0 then (x68_13 q v1 v2 J c v3 (v4 + (Int32.ofInt 1)))
        else if (J (q 3) v4.toNatClampNeg) = v2 then (x68_13 q v1 v2 J c (v3 + (Int32.ofInt (-1))) (v4 + (Int32.ofInt 1)))
          else (x68_13 q v1 v2 J c v3 (v4 + (Int32.ofInt 1)))
      else (x68_13 q v1 v2 J c v3 (v4 + (Int32.ofInt 1)))
theorem xt68_13 {X : nt_X} {d : Nat} {M : nt_M} {o : Option Value × nt_M} {q : Nat → Nat} {v1 : Int32} {v2 : Int32} {J : Nat → Nat → Int32} (hq : xs_Q M q) : ∀ (c : Nat) (v3 : Int32) (v4 : Int32), (J (q 1) 2).toInt - v4.toInt ≤ c → nt_rn X d 68 (13, [(0, .ref (q 0)), (1, .int v1), (2, .int v2), (3, .int v3), (4, .int v4)], [], me_w M J) o → o = (some (.int (x68_13 q v1 v2 J c v3 v4)), me_w M J) := by
  intro c
  induction c with
  | zero =>
    intro v3 v4 hc k
    have k := ly_revb 2 (c' := (16, [(0, .ref (q 0)), (1, .int v1), (2, .int v2), (3, .int v3), (4, .int v4)], [.ref (q 0), .int v4], me_w M J)) rfl k
    have k := lz_get (a := (q 0)) (g := 600) (M := me_w M J) (v := .ref (q 1)) rfl (nt_gfR rfl (hq.1 (0, 0, 1) (by decide))) k
    have k := lz_get (a := (q 1)) (g := 802) (M := me_w M J) (v := .int (J (q 1) 2)) rfl (congrArg Value.int (rfl)) k
    have k := ly_revb 1 (c' := (if (J (q 1) 2) ≤ v4 then 69 else 25, [(0, .ref (q 0)), (1, .int v1), (2, .int v2), (3, .int v3), (4, .int v4)], [], me_w M J)) rfl k
    have h22 : (J (q 1) 2) ≤ v4 := lx_end hc
    rw [if_pos h22] at k
    have k := ly_revb 2 (c' := (71, [(0, .ref (q 0)), (1, .int v1), (2, .int v2), (3, .int v3), (4, .int v4)], [.int (Int32.ofInt 0), .int v3], me_w M J)) rfl k
    have k := mx_max rfl k
    have k := lz_ri rfl (by decide) k
    rw [k, x68_13]
  | succ c ih =>
    intro v3 v4 hc k
    have k := ly_revb 2 (c' := (16, [(0, .ref (q 0)), (1, .int v1), (2, .int v2), (3, .int v3), (4, .int v4)], [.ref (q 0), .int v4], me_w M J)) rfl k
    have k := lz_get (a := (q 0)) (g := 600) (M := me_w M J) (v := .ref (q 1)) rfl (nt_gfR rfl (hq.1 (0, 0, 1) (by decide))) k
    have k := lz_get (a := (q 1)) (g := 802) (M := me_w M J) (v := .int (J (q 1) 2)) rfl (congrArg Value.int (rfl)) k
    have k := ly_revb 1 (c' := (if (J (q 1) 2) ≤ v4 then 69 else 25, [(0, .ref (q 0)), (1, .int v1), (2, .int v2), (3, .int v3), (4, .int v4)], [], me_w M J)) rfl k
    by_cases h22 : (J (q 1) 2) ≤ v4
    · rw [if_pos h22] at k
      have k := ly_revb 2 (c' := (71, [(0, .ref (q 0)), (1, .int v1), (2, .int v2), (3, .int v3), (4, .int v4)], [.int (Int32.ofInt 0), .int v3], me_w M J)) rfl k
      have k := mx_max rfl k
      have k := lz_ri rfl (by decide) k
      rw [k, x68_13, if_pos h22]
    · rw [if_neg h22] at k
      have k := ly_revb 1 (c' := (26, [(0, .ref (q 0)), (1, .int v1), (2, .int v2), (3, .int v3), (4, .int v4)], [.ref (q 0)], me_w M J)) rfl k
      have k := lz_get (a := (q 0)) (g := 611) (M := me_w M J) (v := .ref (q 14)) rfl (nt_gfR rfl (hq.1 (0, 11, 14) (by decide))) k
      have k := ly_revb 1 (c' := (31, [(0, .ref (q 0)), (1, .int v1), (2, .int v2), (3, .int v3), (4, .int v4)], [.int v4, .ref (q 14)], me_w M J)) rfl k
      have k := mx_iald (v := J (q 14) v4.toNatClampNeg) rfl (hq.2.2.1 14 (by omega)) (rfl) k
      have k := ly_revb 2 (c' := (if (J (q 14) v4.toNatClampNeg) = v1 then 36 else 63, [(0, .ref (q 0)), (1, .int v1), (2, .int v2), (3, .int v3), (4, .int v4)], [], me_w M J)) rfl k
      by_cases h33 : (J (q 14) v4.toNatClampNeg) = v1
      · rw [if_pos h33] at k
        have k := ly_revb 1 (c' := (37, [(0, .ref (q 0)), (1, .int v1), (2, .int v2), (3, .int v3), (4, .int v4)], [.ref (q 0)], me_w M J)) rfl k
        have k := lz_get (a := (q 0)) (g := 610) (M := me_w M J) (v := .ref (q 13)) rfl (nt_gfR rfl (hq.1 (0, 10, 13) (by decide))) k
        have k := ly_revb 1 (c' := (42, [(0, .ref (q 0)), (1, .int v1), (2, .int v2), (3, .int v3), (4, .int v4)], [.int v4, .ref (q 13)], me_w M J)) rfl k
        have k := mx_iald (v := J (q 13) v4.toNatClampNeg) rfl (hq.2.2.1 13 (by omega)) (rfl) k
        have k := ly_revb 1 (c' := (if (J (q 13) v4.toNatClampNeg) ≤ 0 then 63 else 46, [(0, .ref (q 0)), (1, .int v1), (2, .int v2), (3, .int v3), (4, .int v4)], [], me_w M J)) rfl k
        by_cases h43 : (J (q 13) v4.toNatClampNeg) ≤ 0
        · rw [if_pos h43] at k
          have k := ly_revb 2 (c' := (13, [(4, .int (v4 + (Int32.ofInt 1))), (0, .ref (q 0)), (1, .int v1), (2, .int v2), (3, .int v3)], [], me_w M J)) rfl k
          have k := nt_rn_w (a := [(4, .int (v4 + (Int32.ofInt 1))), (0, .ref (q 0)), (1, .int v1), (2, .int v2), (3, .int v3)]) (b := [(0, .ref (q 0)), (1, .int v1), (2, .int v2), (3, .int v3), (4, .int (v4 + (Int32.ofInt 1)))]) ⟨rfl, rfl, rfl, rfl, rfl, trivial⟩ rfl k
          have k := ih v3 (v4 + (Int32.ofInt 1)) (lx_dec h22 hc) k
          rw [k, x68_13, if_neg h22, if_pos h33, if_pos h43]
        · rw [if_neg h43] at k
          have k := ly_revb 1 (c' := (47, [(0, .ref (q 0)), (1, .int v1), (2, .int v2), (3, .int v3), (4, .int v4)], [.ref (q 0)], me_w M J)) rfl k
          have k := lz_get (a := (q 0)) (g := 600) (M := me_w M J) (v := .ref (q 1)) rfl (nt_gfR rfl (hq.1 (0, 0, 1) (by decide))) k
          have k := lz_get (a := (q 1)) (g := 806) (M := me_w M J) (v := .ref (q 3)) rfl (nt_gfR rfl (hq.1 (1, 6, 3) (by decide))) k
          have k := ly_revb 1 (c' := (55, [(0, .ref (q 0)), (1, .int v1), (2, .int v2), (3, .int v3), (4, .int v4)], [.int v4, .ref (q 3)], me_w M J)) rfl k
          have k := mx_iald (v := J (q 3) v4.toNatClampNeg) rfl (hq.2.2.1 3 (by omega)) (rfl) k
          have k := ly_revb 2 (c' := (if (J (q 3) v4.toNatClampNeg) = v2 then 60 else 63, [(0, .ref (q 0)), (1, .int v1), (2, .int v2), (3, .int v3), (4, .int v4)], [], me_w M J)) rfl k
          by_cases h57 : (J (q 3) v4.toNatClampNeg) = v2
          · rw [if_pos h57] at k
            have k := ly_revb 3 (c' := (13, [(4, .int (v4 + (Int32.ofInt 1))), (3, .int (v3 + (Int32.ofInt (-1)))), (0, .ref (q 0)), (1, .int v1), (2, .int v2)], [], me_w M J)) rfl k
            have k := nt_rn_w (a := [(4, .int (v4 + (Int32.ofInt 1))), (3, .int (v3 + (Int32.ofInt (-1)))), (0, .ref (q 0)), (1, .int v1), (2, .int v2)]) (b := [(0, .ref (q 0)), (1, .int v1), (2, .int v2), (3, .int (v3 + (Int32.ofInt (-1)))), (4, .int (v4 + (Int32.ofInt 1)))]) ⟨rfl, rfl, rfl, rfl, rfl, trivial⟩ rfl k
            have k := ih (v3 + (Int32.ofInt (-1))) (v4 + (Int32.ofInt 1)) (lx_dec h22 hc) k
            rw [k, x68_13, if_neg h22, if_pos h33, if_neg h43, if_pos h57]
          · rw [if_neg h57] at k
            have k := ly_revb 2 (c' := (13, [(4, .int (v4 + (Int32.ofInt 1))), (0, .ref (q 0)), (1, .int v1), (2, .int v2), (3, .int v3)], [], me_w M J)) rfl k
            have k := nt_rn_w (a := [(4, .int (v4 + (Int32.ofInt 1))), (0, .ref (q 0)), (1, .int v1), (2, .int v2), (3, .int v3)]) (b := [(0, .ref (q 0)), (1, .int v1), (2, .int v2), (3, .int v3), (4, .int (v4 + (Int32.ofInt 1)))]) ⟨rfl, rfl, rfl, rfl, rfl, trivial⟩ rfl k
            have k := ih v3 (v4 + (Int32.ofInt 1)) (lx_dec h22 hc) k
            rw [k, x68_13, if_neg h22, if_pos h33, if_neg h43, if_neg h57]
      · rw [if_neg h33] at k
        have k := ly_revb 2 (c' := (13, [(4, .int (v4 + (Int32.ofInt 1))), (0, .ref (q 0)), (1, .int v1), (2, .int v2), (3, .int v3)], [], me_w M J)) rfl k
        have k := nt_rn_w (a := [(4, .int (v4 + (Int32.ofInt 1))), (0, .ref (q 0)), (1, .int v1), (2, .int v2), (3, .int v3)]) (b := [(0, .ref (q 0)), (1, .int v1), (2, .int v2), (3, .int v3), (4, .int (v4 + (Int32.ofInt 1)))]) ⟨rfl, rfl, rfl, rfl, rfl, trivial⟩ rfl k
        have k := ih v3 (v4 + (Int32.ofInt 1)) (lx_dec h22 hc) k
        rw [k, x68_13, if_neg h22, if_neg h33]
theorem x68_13_rule {q : Nat → Nat} {v1 : Int32} {v2 : Int32} {J : Nat → Nat → Int32} {I : Nat → Int32 → Int32 → Prop} {Q : Int32 → Prop} (h0 : ∀ (v3 : Int32) (v4 : Int32), I 0 v3 v4 → Q (if v3 < (Int32.ofInt 0) then (Int32.ofInt 0) else v3)) (h1 : ∀ (c : Nat) (v3 : Int32) (v4 : Int32), I (c + 1) v3 v4 →
    if (J (q 1) 2) ≤ v4 then (Q (if v3 < (Int32.ofInt 0) then (Int32.ofInt 0) else v3))
    else if (J (q 14) v4.toNatClampNeg) = v1 then if (J (q 13) v4.toNatClampNeg) ≤ 0 then (I c v3 (v4 + (Int32.ofInt 1)))
        else if (J (q 3) v4.toNatClampNeg) = v2 then (I c (v3 + (Int32.ofInt (-1))) (v4 + (Int32.ofInt 1)))
          else (I c v3 (v4 + (Int32.ofInt 1)))
      else (I c v3 (v4 + (Int32.ofInt 1)))) : ∀ (c : Nat) (v3 : Int32) (v4 : Int32), I c v3 v4 → Q (x68_13 q v1 v2 J c v3 v4) := by
  intro c
  induction c with
  | zero =>
    intro v3 v4 hi
    rw [x68_13]
    exact h0 v3 v4 hi
  | succ c ih =>
    intro v3 v4 hi
    have hi := h1 c v3 v4 hi
    rw [x68_13]
    by_cases h : (J (q 1) 2) ≤ v4
    · rw [if_pos h] at hi ⊢
      exact hi
    · rw [if_neg h] at hi ⊢
      by_cases h : (J (q 14) v4.toNatClampNeg) = v1
      · rw [if_pos h] at hi ⊢
        by_cases h : (J (q 13) v4.toNatClampNeg) ≤ 0
        · rw [if_pos h] at hi ⊢
          exact ih _ _ hi
        · rw [if_neg h] at hi ⊢
          by_cases h : (J (q 3) v4.toNatClampNeg) = v2
          · rw [if_pos h] at hi ⊢
            exact ih _ _ hi
          · rw [if_neg h] at hi ⊢
            exact ih _ _ hi
      · rw [if_neg h] at hi ⊢
        exact ih _ _ hi
def x68 (q : Nat → Nat) (v1 : Int32) (v2 : Int32) (J : Nat → Nat → Int32) : Int32 := (x68_13 q v1 v2 J ((J (q 1) 2).toNatClampNeg) (x87 q v1 v2 J) (Int32.ofInt 0))
theorem xt68 {X : nt_X} {d : Nat} {M : nt_M} {o : Option Value × nt_M} {q : Nat → Nat} {v1 : Int32} {v2 : Int32} {J : Nat → Nat → Int32} (hq : xs_Q M q) (k : nt_ev X d 68 [.ref (q 0), .int v1, .int v2] (me_w M J) o) : o = (some (.int (x68 q v1 v2 J)), me_w M J) := by
  have k : nt_rn X d 68 (0, [(0, .ref (q 0)), (1, .int v1), (2, .int v2)], [], me_w M J) o := k
  have k := ly_revb 1 (c' := (1, [(0, .ref (q 0)), (1, .int v1), (2, .int v2)], [.ref (q 0)], me_w M J)) rfl k
  have k := lz_get (a := (q 0)) (g := 600) (M := me_w M J) (v := .ref (q 1)) rfl (nt_gfR rfl (hq.1 (0, 0, 1) (by decide))) k
  have k := ly_revb 2 (c' := (6, [(0, .ref (q 0)), (1, .int v1), (2, .int v2)], [.int v2, .int v1, .ref (q 1)], me_w M J)) rfl k
  obtain ⟨d1, o1, ed, kc, k⟩ := lz_c (g := 87) (q := 1) (vs := [.ref (q 1), .int v1, .int v2]) (rest := []) rfl rfl (by decide) (Or.inr (Or.inl ⟨_, rfl, rfl⟩)) rfl k
  have e1 := xt87 hq kc
  subst e1
  have k : nt_rn X _ 68 (9, [(0, .ref (q 0)), (1, .int v1), (2, .int v2)], [.int (x87 q v1 v2 J)], me_w M J) _ := k
  have k := ly_revb 3 (c' := (13, [(4, .int (Int32.ofInt 0)), (3, .int (x87 q v1 v2 J)), (0, .ref (q 0)), (1, .int v1), (2, .int v2)], [], me_w M J)) rfl k
  have k := nt_rn_w (a := [(4, .int (Int32.ofInt 0)), (3, .int (x87 q v1 v2 J)), (0, .ref (q 0)), (1, .int v1), (2, .int v2)]) (b := [(0, .ref (q 0)), (1, .int v1), (2, .int v2), (3, .int (x87 q v1 v2 J)), (4, .int (Int32.ofInt 0))]) ⟨rfl, rfl, rfl, rfl, rfl, trivial⟩ rfl k
  have k := xt68_13 hq  ((J (q 1) 2).toNatClampNeg) (x87 q v1 v2 J) (Int32.ofInt 0) (lx_beg (by decide)) k
  rw [k, x68]
/-! $State.isWhole -/
def x67_2 (q : Nat → Nat) (v1 : Int32) (J : Nat → Nat → Int32) : Nat → Int32 → Int32
  | 0, v2 => (Int32.ofInt 1)
  | c + 1, v2 => if (J (q 1) 0) ≤ v2 then (Int32.ofInt 1)
    else if (x68 q v1 v2 J) ≤ 0 then (x67_2 q v1 J c (v2 + (Int32.ofInt 1)))
      else (Int32.ofInt 0)
theorem xt67_2 {X : nt_X} {d : Nat} {M : nt_M} {o : Option Value × nt_M} {q : Nat → Nat} {v1 : Int32} {J : Nat → Nat → Int32} (hq : xs_Q M q) : ∀ (c : Nat) (v2 : Int32), (J (q 1) 0).toInt - v2.toInt ≤ c → nt_rn X d 67 (2, [(0, .ref (q 0)), (1, .int v1), (2, .int v2)], [], me_w M J) o → o = (some (.int (x67_2 q v1 J c v2)), me_w M J) := by
  intro c
  induction c with
  | zero =>
    intro v2 hc k
    have k := ly_revb 2 (c' := (4, [(0, .ref (q 0)), (1, .int v1), (2, .int v2)], [.ref (q 0), .int v2], me_w M J)) rfl k
    have k := lz_get (a := (q 0)) (g := 600) (M := me_w M J) (v := .ref (q 1)) rfl (nt_gfR rfl (hq.1 (0, 0, 1) (by decide))) k
    have k := lz_get (a := (q 1)) (g := 800) (M := me_w M J) (v := .int (J (q 1) 0)) rfl (congrArg Value.int (rfl)) k
    have k := ly_revb 1 (c' := (if (J (q 1) 0) ≤ v2 then 30 else 13, [(0, .ref (q 0)), (1, .int v1), (2, .int v2)], [], me_w M J)) rfl k
    have h10 : (J (q 1) 0) ≤ v2 := lx_end hc
    rw [if_pos h10] at k
    have k := ly_revb 1 (c' := (31, [(0, .ref (q 0)), (1, .int v1), (2, .int v2)], [.int (Int32.ofInt 1)], me_w M J)) rfl k
    have k := lz_ri rfl (by decide) k
    rw [k, x67_2]
  | succ c ih =>
    intro v2 hc k
    have k := ly_revb 2 (c' := (4, [(0, .ref (q 0)), (1, .int v1), (2, .int v2)], [.ref (q 0), .int v2], me_w M J)) rfl k
    have k := lz_get (a := (q 0)) (g := 600) (M := me_w M J) (v := .ref (q 1)) rfl (nt_gfR rfl (hq.1 (0, 0, 1) (by decide))) k
    have k := lz_get (a := (q 1)) (g := 800) (M := me_w M J) (v := .int (J (q 1) 0)) rfl (congrArg Value.int (rfl)) k
    have k := ly_revb 1 (c' := (if (J (q 1) 0) ≤ v2 then 30 else 13, [(0, .ref (q 0)), (1, .int v1), (2, .int v2)], [], me_w M J)) rfl k
    by_cases h10 : (J (q 1) 0) ≤ v2
    · rw [if_pos h10] at k
      have k := ly_revb 1 (c' := (31, [(0, .ref (q 0)), (1, .int v1), (2, .int v2)], [.int (Int32.ofInt 1)], me_w M J)) rfl k
      have k := lz_ri rfl (by decide) k
      rw [k, x67_2, if_pos h10]
    · rw [if_neg h10] at k
      have k := ly_revb 3 (c' := (16, [(0, .ref (q 0)), (1, .int v1), (2, .int v2)], [.int v2, .int v1, .ref (q 0)], me_w M J)) rfl k
      obtain ⟨d1, o1, ed, kc, k⟩ := lz_c (g := 68) (q := 1) (vs := [.ref (q 0), .int v1, .int v2]) (rest := []) rfl rfl (by decide) (Or.inr (Or.inl ⟨_, rfl, rfl⟩)) rfl k
      have e1 := xt68 hq kc
      subst e1
      have k : nt_rn X _ 67 (19, [(0, .ref (q 0)), (1, .int v1), (2, .int v2)], [.int (x68 q v1 v2 J)], me_w M J) _ := k
      have k := ly_revb 1 (c' := (if (x68 q v1 v2 J) ≤ 0 then 24 else 22, [(0, .ref (q 0)), (1, .int v1), (2, .int v2)], [], me_w M J)) rfl k
      by_cases h19 : (x68 q v1 v2 J) ≤ 0
      · rw [if_pos h19] at k
        have k := ly_revb 2 (c' := (2, [(2, .int (v2 + (Int32.ofInt 1))), (0, .ref (q 0)), (1, .int v1)], [], me_w M J)) rfl k
        have k := nt_rn_w (a := [(2, .int (v2 + (Int32.ofInt 1))), (0, .ref (q 0)), (1, .int v1)]) (b := [(0, .ref (q 0)), (1, .int v1), (2, .int (v2 + (Int32.ofInt 1)))]) ⟨rfl, rfl, rfl, trivial⟩ rfl k
        have k := ih (v2 + (Int32.ofInt 1)) (lx_dec h10 hc) k
        rw [k, x67_2, if_neg h10, if_pos h19]
      · rw [if_neg h19] at k
        have k := ly_revb 1 (c' := (23, [(0, .ref (q 0)), (1, .int v1), (2, .int v2)], [.int (Int32.ofInt 0)], me_w M J)) rfl k
        have k := lz_ri rfl (by decide) k
        rw [k, x67_2, if_neg h10, if_neg h19]
theorem x67_2_rule {q : Nat → Nat} {v1 : Int32} {J : Nat → Nat → Int32} {I : Nat → Int32 → Prop} {Q : Int32 → Prop} (h0 : ∀ (v2 : Int32), I 0 v2 → Q (Int32.ofInt 1)) (h1 : ∀ (c : Nat) (v2 : Int32), I (c + 1) v2 →
    if (J (q 1) 0) ≤ v2 then (Q (Int32.ofInt 1))
    else if (x68 q v1 v2 J) ≤ 0 then (I c (v2 + (Int32.ofInt 1)))
      else (Q (Int32.ofInt 0))) : ∀ (c : Nat) (v2 : Int32), I c v2 → Q (x67_2 q v1 J c v2) := by
  intro c
  induction c with
  | zero =>
    intro v2 hi
    rw [x67_2]
    exact h0 v2 hi
  | succ c ih =>
    intro v2 hi
    have hi := h1 c v2 hi
    rw [x67_2]
    by_cases h : (J (q 1) 0) ≤ v2
    · rw [if_pos h] at hi ⊢
      exact hi
    · rw [if_neg h] at hi ⊢
      by_cases h : (x68 q v1 v2 J) ≤ 0
      · rw [if_pos h] at hi ⊢
        exact ih _ hi
      · rw [if_neg h] at hi ⊢
        exact hi
def x67 (q : Nat → Nat) (v1 : Int32) (J : Nat → Nat → Int32) : Int32 := (x67_2 q v1 J ((J (q 1) 0).toNatClampNeg) (Int32.ofInt 0))
theorem xt67 {X : nt_X} {d : Nat} {M : nt_M} {o : Option Value × nt_M} {q : Nat → Nat} {v1 : Int32} {J : Nat → Nat → Int32} (hq : xs_Q M q) (k : nt_ev X d 67 [.ref (q 0), .int v1] (me_w M J) o) : o = (some (.int (x67 q v1 J)), me_w M J) := by
  have k : nt_rn X d 67 (0, [(0, .ref (q 0)), (1, .int v1)], [], me_w M J) o := k
  have k := ly_revb 2 (c' := (2, [(2, .int (Int32.ofInt 0)), (0, .ref (q 0)), (1, .int v1)], [], me_w M J)) rfl k
  have k := nt_rn_w (a := [(2, .int (Int32.ofInt 0)), (0, .ref (q 0)), (1, .int v1)]) (b := [(0, .ref (q 0)), (1, .int v1), (2, .int (Int32.ofInt 0))]) ⟨rfl, rfl, rfl, trivial⟩ rfl k
  have k := xt67_2 hq  ((J (q 1) 0).toNatClampNeg) (Int32.ofInt 0) (lx_beg (by decide)) k
  rw [k, x67]
/-! $State.isFree -/
def x73 (q : Nat → Nat) (v1 : Int32) (J : Nat → Nat → Int32) : Int32 := if (x65 q (J (q 14) v1.toNatClampNeg) J) = 0 then if (J (q 13) v1.toNatClampNeg) ≤ 0 then (Int32.ofInt 0)
    else if (J (q 15) v1.toNatClampNeg) = 0 then (Int32.ofInt 1)
      else (Int32.ofInt 0)
  else if (J (q 10) ((J (q 14) v1.toNatClampNeg).toNatClampNeg)) = (Int32.ofInt 1) then if (J (q 13) v1.toNatClampNeg) ≤ 0 then (Int32.ofInt 0)
      else if (J (q 15) v1.toNatClampNeg) = 0 then (Int32.ofInt 0)
        else (Int32.ofInt 0)
    else if (J (q 13) v1.toNatClampNeg) ≤ 0 then (Int32.ofInt 0)
      else if (J (q 15) v1.toNatClampNeg) = 0 then (Int32.ofInt 1)
        else (Int32.ofInt 0)
theorem xt73 {X : nt_X} {d : Nat} {M : nt_M} {o : Option Value × nt_M} {q : Nat → Nat} {v1 : Int32} {J : Nat → Nat → Int32} (hq : xs_Q M q) (k : nt_ev X d 73 [.ref (q 0), .int v1] (me_w M J) o) : o = (some (.int (x73 q v1 J)), me_w M J) := by
  have k : nt_rn X d 73 (0, [(0, .ref (q 0)), (1, .int v1)], [], me_w M J) o := k
  have k := ly_revb 2 (c' := (2, [(0, .ref (q 0)), (1, .int v1)], [.ref (q 0), .ref (q 0)], me_w M J)) rfl k
  have k := lz_get (a := (q 0)) (g := 611) (M := me_w M J) (v := .ref (q 14)) rfl (nt_gfR rfl (hq.1 (0, 11, 14) (by decide))) k
  have k := ly_revb 1 (c' := (6, [(0, .ref (q 0)), (1, .int v1)], [.int v1, .ref (q 14), .ref (q 0)], me_w M J)) rfl k
  have k := mx_iald (v := J (q 14) v1.toNatClampNeg) rfl (hq.2.2.1 14 (by omega)) (rfl) k
  obtain ⟨d1, o1, ed, kc, k⟩ := lz_c (g := 65) (q := 1) (vs := [.ref (q 0), .int (J (q 14) v1.toNatClampNeg)]) (rest := []) rfl rfl (by decide) (Or.inr (Or.inl ⟨_, rfl, rfl⟩)) rfl k
  have e1 := xt65 hq kc
  subst e1
  have k : nt_rn X _ 73 (10, [(0, .ref (q 0)), (1, .int v1)], [.int (x65 q (J (q 14) v1.toNatClampNeg) J)], me_w M J) _ := k
  have k := ly_revb 1 (c' := (if (x65 q (J (q 14) v1.toNatClampNeg) J) = 0 then 32 else 13, [(0, .ref (q 0)), (1, .int v1)], [], me_w M J)) rfl k
  by_cases h10 : (x65 q (J (q 14) v1.toNatClampNeg) J) = 0
  · rw [if_pos h10] at k
    have k := ly_revb 3 (c' := (35, [(2, .int (Int32.ofInt 0)), (0, .ref (q 0)), (1, .int v1)], [.ref (q 0)], me_w M J)) rfl k
    have k := lz_get (a := (q 0)) (g := 610) (M := me_w M J) (v := .ref (q 13)) rfl (nt_gfR rfl (hq.1 (0, 10, 13) (by decide))) k
    have k := ly_revb 1 (c' := (39, [(2, .int (Int32.ofInt 0)), (0, .ref (q 0)), (1, .int v1)], [.int v1, .ref (q 13)], me_w M J)) rfl k
    have k := mx_iald (v := J (q 13) v1.toNatClampNeg) rfl (hq.2.2.1 13 (by omega)) (rfl) k
    have k := ly_revb 1 (c' := (if (J (q 13) v1.toNatClampNeg) ≤ 0 then 60 else 43, [(2, .int (Int32.ofInt 0)), (0, .ref (q 0)), (1, .int v1)], [], me_w M J)) rfl k
    by_cases h40 : (J (q 13) v1.toNatClampNeg) ≤ 0
    · rw [if_pos h40] at k
      have k := ly_revb 1 (c' := (61, [(2, .int (Int32.ofInt 0)), (0, .ref (q 0)), (1, .int v1)], [.int (Int32.ofInt 0)], me_w M J)) rfl k
      have k := lz_ri rfl (by decide) k
      rw [k, x73, if_pos h10, if_pos h40]
    · rw [if_neg h40] at k
      have k := ly_revb 1 (c' := (44, [(2, .int (Int32.ofInt 0)), (0, .ref (q 0)), (1, .int v1)], [.ref (q 0)], me_w M J)) rfl k
      have k := lz_get (a := (q 0)) (g := 612) (M := me_w M J) (v := .ref (q 15)) rfl (nt_gfR rfl (hq.1 (0, 12, 15) (by decide))) k
      have k := ly_revb 1 (c' := (48, [(2, .int (Int32.ofInt 0)), (0, .ref (q 0)), (1, .int v1)], [.int v1, .ref (q 15)], me_w M J)) rfl k
      have k := mx_bald (v := J (q 15) v1.toNatClampNeg) rfl (rfl) k
      have k := ly_revb 1 (c' := (if (J (q 15) v1.toNatClampNeg) = 0 then 52 else 60, [(2, .int (Int32.ofInt 0)), (0, .ref (q 0)), (1, .int v1)], [], me_w M J)) rfl k
      by_cases h49 : (J (q 15) v1.toNatClampNeg) = 0
      · rw [if_pos h49] at k
        have k := ly_revb 2 (c' := (if (Int32.ofInt 0) = 0 then 56 else 60, [(2, .int (Int32.ofInt 0)), (0, .ref (q 0)), (1, .int v1)], [], me_w M J)) rfl k
        rw [if_pos (show (Int32.ofInt 0) = 0 from by decide)] at k
        have k := ly_revb 2 (c' := (61, [(2, .int (Int32.ofInt 0)), (0, .ref (q 0)), (1, .int v1)], [.int (Int32.ofInt 1)], me_w M J)) rfl k
        have k := lz_ri rfl (by decide) k
        rw [k, x73, if_pos h10, if_neg h40, if_pos h49]
      · rw [if_neg h49] at k
        have k := ly_revb 1 (c' := (61, [(2, .int (Int32.ofInt 0)), (0, .ref (q 0)), (1, .int v1)], [.int (Int32.ofInt 0)], me_w M J)) rfl k
        have k := lz_ri rfl (by decide) k
        rw [k, x73, if_pos h10, if_neg h40, if_neg h49]
  · rw [if_neg h10] at k
    have k := ly_revb 1 (c' := (14, [(0, .ref (q 0)), (1, .int v1)], [.ref (q 0)], me_w M J)) rfl k
    have k := lz_get (a := (q 0)) (g := 607) (M := me_w M J) (v := .ref (q 10)) rfl (nt_gfR rfl (hq.1 (0, 7, 10) (by decide))) k
    have k := ly_revb 1 (c' := (18, [(0, .ref (q 0)), (1, .int v1)], [.ref (q 0), .ref (q 10)], me_w M J)) rfl k
    have k := lz_get (a := (q 0)) (g := 611) (M := me_w M J) (v := .ref (q 14)) rfl (nt_gfR rfl (hq.1 (0, 11, 14) (by decide))) k
    have k := ly_revb 1 (c' := (22, [(0, .ref (q 0)), (1, .int v1)], [.int v1, .ref (q 14), .ref (q 10)], me_w M J)) rfl k
    have k := mx_iald (v := J (q 14) v1.toNatClampNeg) rfl (hq.2.2.1 14 (by omega)) (rfl) k
    have k := mx_iald (v := J (q 10) ((J (q 14) v1.toNatClampNeg).toNatClampNeg)) rfl (hq.2.2.1 10 (by omega)) (rfl) k
    have k := ly_revb 2 (c' := (if (J (q 10) ((J (q 14) v1.toNatClampNeg).toNatClampNeg)) = (Int32.ofInt 1) then 28 else 32, [(0, .ref (q 0)), (1, .int v1)], [], me_w M J)) rfl k
    by_cases h25 : (J (q 10) ((J (q 14) v1.toNatClampNeg).toNatClampNeg)) = (Int32.ofInt 1)
    · rw [if_pos h25] at k
      have k := ly_revb 4 (c' := (35, [(2, .int (Int32.ofInt 1)), (0, .ref (q 0)), (1, .int v1)], [.ref (q 0)], me_w M J)) rfl k
      have k := lz_get (a := (q 0)) (g := 610) (M := me_w M J) (v := .ref (q 13)) rfl (nt_gfR rfl (hq.1 (0, 10, 13) (by decide))) k
      have k := ly_revb 1 (c' := (39, [(2, .int (Int32.ofInt 1)), (0, .ref (q 0)), (1, .int v1)], [.int v1, .ref (q 13)], me_w M J)) rfl k
      have k := mx_iald (v := J (q 13) v1.toNatClampNeg) rfl (hq.2.2.1 13 (by omega)) (rfl) k
      have k := ly_revb 1 (c' := (if (J (q 13) v1.toNatClampNeg) ≤ 0 then 60 else 43, [(2, .int (Int32.ofInt 1)), (0, .ref (q 0)), (1, .int v1)], [], me_w M J)) rfl k
      by_cases h40 : (J (q 13) v1.toNatClampNeg) ≤ 0
      · rw [if_pos h40] at k
        have k := ly_revb 1 (c' := (61, [(2, .int (Int32.ofInt 1)), (0, .ref (q 0)), (1, .int v1)], [.int (Int32.ofInt 0)], me_w M J)) rfl k
        have k := lz_ri rfl (by decide) k
        rw [k, x73, if_neg h10, if_pos h25, if_pos h40]
      · rw [if_neg h40] at k
        have k := ly_revb 1 (c' := (44, [(2, .int (Int32.ofInt 1)), (0, .ref (q 0)), (1, .int v1)], [.ref (q 0)], me_w M J)) rfl k
        have k := lz_get (a := (q 0)) (g := 612) (M := me_w M J) (v := .ref (q 15)) rfl (nt_gfR rfl (hq.1 (0, 12, 15) (by decide))) k
        have k := ly_revb 1 (c' := (48, [(2, .int (Int32.ofInt 1)), (0, .ref (q 0)), (1, .int v1)], [.int v1, .ref (q 15)], me_w M J)) rfl k
        have k := mx_bald (v := J (q 15) v1.toNatClampNeg) rfl (rfl) k
        have k := ly_revb 1 (c' := (if (J (q 15) v1.toNatClampNeg) = 0 then 52 else 60, [(2, .int (Int32.ofInt 1)), (0, .ref (q 0)), (1, .int v1)], [], me_w M J)) rfl k
        by_cases h49 : (J (q 15) v1.toNatClampNeg) = 0
        · rw [if_pos h49] at k
          have k := ly_revb 2 (c' := (if (Int32.ofInt 1) = 0 then 56 else 60, [(2, .int (Int32.ofInt 1)), (0, .ref (q 0)), (1, .int v1)], [], me_w M J)) rfl k
          rw [if_neg (show ¬ ((Int32.ofInt 1) = 0) from by decide)] at k
          have k := ly_revb 1 (c' := (61, [(2, .int (Int32.ofInt 1)), (0, .ref (q 0)), (1, .int v1)], [.int (Int32.ofInt 0)], me_w M J)) rfl k
          have k := lz_ri rfl (by decide) k
          rw [k, x73, if_neg h10, if_pos h25, if_neg h40, if_pos h49]
        · rw [if_neg h49] at k
          have k := ly_revb 1 (c' := (61, [(2, .int (Int32.ofInt 1)), (0, .ref (q 0)), (1, .int v1)], [.int (Int32.ofInt 0)], me_w M J)) rfl k
          have k := lz_ri rfl (by decide) k
          rw [k, x73, if_neg h10, if_pos h25, if_neg h40, if_neg h49]
    · rw [if_neg h25] at k
      have k := ly_revb 3 (c' := (35, [(2, .int (Int32.ofInt 0)), (0, .ref (q 0)), (1, .int v1)], [.ref (q 0)], me_w M J)) rfl k
      have k := lz_get (a := (q 0)) (g := 610) (M := me_w M J) (v := .ref (q 13)) rfl (nt_gfR rfl (hq.1 (0, 10, 13) (by decide))) k
      have k := ly_revb 1 (c' := (39, [(2, .int (Int32.ofInt 0)), (0, .ref (q 0)), (1, .int v1)], [.int v1, .ref (q 13)], me_w M J)) rfl k
      have k := mx_iald (v := J (q 13) v1.toNatClampNeg) rfl (hq.2.2.1 13 (by omega)) (rfl) k
      have k := ly_revb 1 (c' := (if (J (q 13) v1.toNatClampNeg) ≤ 0 then 60 else 43, [(2, .int (Int32.ofInt 0)), (0, .ref (q 0)), (1, .int v1)], [], me_w M J)) rfl k
      by_cases h40 : (J (q 13) v1.toNatClampNeg) ≤ 0
      · rw [if_pos h40] at k
        have k := ly_revb 1 (c' := (61, [(2, .int (Int32.ofInt 0)), (0, .ref (q 0)), (1, .int v1)], [.int (Int32.ofInt 0)], me_w M J)) rfl k
        have k := lz_ri rfl (by decide) k
        rw [k, x73, if_neg h10, if_neg h25, if_pos h40]
      · rw [if_neg h40] at k
        have k := ly_revb 1 (c' := (44, [(2, .int (Int32.ofInt 0)), (0, .ref (q 0)), (1, .int v1)], [.ref (q 0)], me_w M J)) rfl k
        have k := lz_get (a := (q 0)) (g := 612) (M := me_w M J) (v := .ref (q 15)) rfl (nt_gfR rfl (hq.1 (0, 12, 15) (by decide))) k
        have k := ly_revb 1 (c' := (48, [(2, .int (Int32.ofInt 0)), (0, .ref (q 0)), (1, .int v1)], [.int v1, .ref (q 15)], me_w M J)) rfl k
        have k := mx_bald (v := J (q 15) v1.toNatClampNeg) rfl (rfl) k
        have k := ly_revb 1 (c' := (if (J (q 15) v1.toNatClampNeg) = 0 then 52 else 60, [(2, .int (Int32.ofInt 0)), (0, .ref (q 0)), (1, .int v1)], [], me_w M J)) rfl k
        by_cases h49 : (J (q 15) v1.toNatClampNeg) = 0
        · rw [if_pos h49] at k
          have k := ly_revb 2 (c' := (if (Int32.ofInt 0) = 0 then 56 else 60, [(2, .int (Int32.ofInt 0)), (0, .ref (q 0)), (1, .int v1)], [], me_w M J)) rfl k
          rw [if_pos (show (Int32.ofInt 0) = 0 from by decide)] at k
          have k := ly_revb 2 (c' := (61, [(2, .int (Int32.ofInt 0)), (0, .ref (q 0)), (1, .int v1)], [.int (Int32.ofInt 1)], me_w M J)) rfl k
          have k := lz_ri rfl (by decide) k
          rw [k, x73, if_neg h10, if_neg h25, if_neg h40, if_pos h49]
        · rw [if_neg h49] at k
          have k := ly_revb 1 (c' := (61, [(2, .int (Int32.ofInt 0)), (0, .ref (q 0)), (1, .int v1)], [.int (Int32.ofInt 0)], me_w M J)) rfl k
          have k := lz_ri rfl (by decide) k
          rw [k, x73, if_neg h10, if_neg h25, if_neg h40, if_neg h49]
/-! $State.put -/
def x74 (q : Nat → Nat) (v1 : Int32) (v2 : Int32) (J : Nat → Nat → Int32) : (Nat → Nat → Int32) := (nt_u (nt_u (nt_u J (q 14) v1.toNatClampNeg v2) (q 0) 3 ((J (q 0) 3) + (Int32.ofInt 1))) (q 0) 4 ((J (q 0) 4) + (Int32.ofInt 1)))
theorem xt74 {X : nt_X} {d : Nat} {M : nt_M} {o : Option Value × nt_M} {q : Nat → Nat} {v1 : Int32} {v2 : Int32} {J : Nat → Nat → Int32} (hq : xs_Q M q) (k : nt_ev X d 74 [.ref (q 0), .int v1, .int v2] (me_w M J) o) : o = (none, me_w M (x74 q v1 v2 J)) := by
  have k : nt_rn X d 74 (0, [(0, .ref (q 0)), (1, .int v1), (2, .int v2)], [], me_w M J) o := k
  have k := ly_revb 1 (c' := (1, [(0, .ref (q 0)), (1, .int v1), (2, .int v2)], [.ref (q 0)], me_w M J)) rfl k
  have k := lz_get (a := (q 0)) (g := 611) (M := me_w M J) (v := .ref (q 14)) rfl (nt_gfR rfl (hq.1 (0, 11, 14) (by decide))) k
  have k := ly_revb 2 (c' := (6, [(0, .ref (q 0)), (1, .int v1), (2, .int v2)], [.int v2, .int v1, .ref (q 14)], me_w M J)) rfl k
  have k := mx_iast (q := v1.toNatClampNeg) rfl rfl k
  have k : nt_rn X _ 74 (7, [(0, .ref (q 0)), (1, .int v1), (2, .int v2)], [], me_w M (nt_u J (q 14) v1.toNatClampNeg v2)) _ := k
  have k := ly_revb 2 (c' := (9, [(0, .ref (q 0)), (1, .int v1), (2, .int v2)], [.ref (q 0), .ref (q 0)], me_w M (nt_u J (q 14) v1.toNatClampNeg v2))) rfl k
  have k := lz_get (a := (q 0)) (g := 603) (M := me_w M (nt_u J (q 14) v1.toNatClampNeg v2)) (v := .int (J (q 0) 3)) rfl (congrArg Value.int (mu_j (hq.2.1 0 14 (by omega) (by omega) (by decide)))) k
  have k := ly_revb 2 (c' := (14, [(0, .ref (q 0)), (1, .int v1), (2, .int v2)], [.int ((J (q 0) 3) + (Int32.ofInt 1)), .ref (q 0)], me_w M (nt_u J (q 14) v1.toNatClampNeg v2))) rfl k
  have k := me_put rfl (by decide) k
  have k : nt_rn X _ 74 (17, [(0, .ref (q 0)), (1, .int v1), (2, .int v2)], [], me_w M (nt_u (nt_u J (q 14) v1.toNatClampNeg v2) (q 0) 3 ((J (q 0) 3) + (Int32.ofInt 1)))) _ := k
  have k := ly_revb 2 (c' := (19, [(0, .ref (q 0)), (1, .int v1), (2, .int v2)], [.ref (q 0), .ref (q 0)], me_w M (nt_u (nt_u J (q 14) v1.toNatClampNeg v2) (q 0) 3 ((J (q 0) 3) + (Int32.ofInt 1))))) rfl k
  have k := lz_get (a := (q 0)) (g := 604) (M := me_w M (nt_u (nt_u J (q 14) v1.toNatClampNeg v2) (q 0) 3 ((J (q 0) 3) + (Int32.ofInt 1)))) (v := .int (J (q 0) 4)) rfl (congrArg Value.int ((mu_k (by decide)).trans (mu_j (hq.2.1 0 14 (by omega) (by omega) (by decide))))) k
  have k := ly_revb 2 (c' := (24, [(0, .ref (q 0)), (1, .int v1), (2, .int v2)], [.int ((J (q 0) 4) + (Int32.ofInt 1)), .ref (q 0)], me_w M (nt_u (nt_u J (q 14) v1.toNatClampNeg v2) (q 0) 3 ((J (q 0) 3) + (Int32.ofInt 1))))) rfl k
  have k := me_put rfl (by decide) k
  have k : nt_rn X _ 74 (27, [(0, .ref (q 0)), (1, .int v1), (2, .int v2)], [], me_w M (nt_u (nt_u (nt_u J (q 14) v1.toNatClampNeg v2) (q 0) 3 ((J (q 0) 3) + (Int32.ofInt 1))) (q 0) 4 ((J (q 0) 4) + (Int32.ofInt 1)))) _ := k
  have k := lz_rv rfl rfl k
  rw [k, x74]
theorem x74_frJ {q : Nat → Nat} {v1 : Int32} {v2 : Int32} {J : Nat → Nat → Int32} {b : Nat} (n0 : b ≠ q 0) (n1 : b ≠ q 14) : x74 q v1 v2 J b = J b := by
  unfold x74
  all_goals first | (dsimp only; exact (show (nt_u (nt_u (nt_u J (q 14) v1.toNatClampNeg v2) (q 0) 3 ((J (q 0) 3) + (Int32.ofInt 1))) (q 0) 4 ((J (q 0) 4) + (Int32.ofInt 1))) b = J b from (mu_o n0).trans ((mu_o n0).trans (mu_o n1)))) | exact (show (nt_u (nt_u (nt_u J (q 14) v1.toNatClampNeg v2) (q 0) 3 ((J (q 0) 3) + (Int32.ofInt 1))) (q 0) 4 ((J (q 0) 4) + (Int32.ofInt 1))) b = J b from (mu_o n0).trans ((mu_o n0).trans (mu_o n1)))
