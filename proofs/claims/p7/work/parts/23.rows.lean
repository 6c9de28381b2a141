/-! rows for the instructions that look into the memory -/
theorem nt_x_get {X : nt_X} {mi g t i pc a c : Nat} {ls : nt_V} {st : List Value} {M : nt_M} {v : Value} (ha : a < nt_n M) (hk : nt_k M a = c) (hs : (Nat.beq (g / 100) c && (Nat.blt c 12 && Nat.blt (g % 100) (nt_N c))) = true) (hv : nt_gf M a c (g % 100) = v) : nt_sx X mi g t (.getfield i) pc ls (.ref a :: st) M = some (pc + 3, ls, v :: st, M) := by
  rw [Bool.and_eq_true, Bool.and_eq_true] at hs
  obtain ⟨h1, h2, h3⟩ := hs
  have h1 : g / 100 = c := Nat.eq_of_beq_eq_true h1
  have h2 : c < 12 := Nat.le_of_ble_eq_true h2
  have h3 : g % 100 < nt_N c := Nat.le_of_ble_eq_true h3
  show (if a < nt_n M ∧ nt_k M a = g / 100 ∧ g / 100 < 12 ∧ g % 100 < nt_N (g / 100) then some (pc + 3, ls, nt_gf M a (g / 100) (g % 100) :: st, M) else none) = _
  rw [h1, if_pos ⟨ha, hk, h2, h3⟩, hv]
theorem nt_gfR {M : nt_M} {a c j b : Nat} (ht : nt_tg c j = 2) (h : nt_R M a j = some b) : nt_gf M a c j = .ref b := by
  unfold nt_gf
  rw [ht, h]
  rfl
theorem nt_x_put {X : nt_X} {mi g t i pc a c : Nat} {ls : nt_V} {st : List Value} {M M' : nt_M} {v : Value} (ha : a < nt_n M) (hk : nt_k M a = c) (hs : (Nat.beq (g / 100) c && (Nat.blt c 12 && (Nat.blt (g % 100) (nt_N c) && (!(nt_T c (g % 100)).2.2.2 || (Nat.beq (nt_m mi).2.2.2.2.2.2.1 2 && Nat.beq (nt_m mi).2.2.2.2.1 c))))) = true) (hp : nt_pf M a c (g % 100) v (fun M2 => some (pc + 3, ls, st, M2)) = some (pc + 3, ls, st, M')) : nt_sx X mi g t (.putfield i) pc ls (v :: .ref a :: st) M = some (pc + 3, ls, st, M') := by
  rw [Bool.and_eq_true, Bool.and_eq_true, Bool.and_eq_true, Bool.or_eq_true, Bool.and_eq_true] at hs
  obtain ⟨h1, h2, h3, h4⟩ := hs
  have h1 : g / 100 = c := Nat.eq_of_beq_eq_true h1
  have h2 : c < 12 := Nat.le_of_ble_eq_true h2
  have h3 : g % 100 < nt_N c := Nat.le_of_ble_eq_true h3
  have h4 : (nt_T c (g % 100)).2.2.2 = false ∨ (nt_m mi).2.2.2.2.2.2.1 = 2 ∧ (nt_m mi).2.2.2.2.1 = c := by
    rcases h4 with q | ⟨q1, q2⟩
    · exact Or.inl (by cases hz : (nt_T c (g % 100)).2.2.2 with
        | false => rfl
        | true => rw [hz] at q; cases q)
    · exact Or.inr ⟨Nat.eq_of_beq_eq_true q1, Nat.eq_of_beq_eq_true q2⟩
  show (if a < nt_n M ∧ nt_k M a = g / 100 ∧ g / 100 < 12 ∧ g % 100 < nt_N (g / 100) ∧ ((nt_T (g / 100) (g % 100)).2.2.2 = false ∨ (nt_m mi).2.2.2.2.2.2.1 = 2 ∧ (nt_m mi).2.2.2.2.1 = g / 100) then nt_pf M a (g / 100) (g % 100) v (fun M2 => some (pc + 3, ls, st, M2)) else none) = _
  rw [h1, if_pos ⟨ha, hk, h2, h3, h4⟩]
  exact hp
theorem nt_inI {α : Type} {M : nt_M} {a kd i : Nat} {x : Int32} {z : Option α} (ha : a < nt_n M) (hk : nt_k M a = kd) (hx : x = nI i) (hi : i < nt_l M a) (hl : nt_l M a < 2147483648) : nt_in M a kd x z = z := by
  unfold nt_in
  rw [if_pos]
  refine ⟨ha, hk, ?_⟩
  rw [hx]
  exact nI_in hi hl
theorem nt_x_iald {X : nt_X} {mi g t pc a i : Nat} {x : Int32} {ls : nt_V} {st : List Value} {M : nt_M} (ha : a < nt_n M) (hk : nt_k M a = 13) (hn : nt_n M ≤ nt_sp) (hx : x = nI i) (hi : i < nt_l M a) (hl : nt_l M a < 2147483648) : nt_sx X mi g t .iaload pc ls (.int x :: .ref a :: st) M = some (pc + 1, ls, .int (nt_I M a i) :: st, M) := by
  show (if a = nt_sp then _ else nt_in M a 13 x (some (pc + 1, ls, .int (nt_I M a x.toNatClampNeg) :: st, M))) = _
  rw [if_neg (by omega), nt_inI ha hk hx hi hl, hx, nI_clamp (by omega)]
theorem nt_x_iast {X : nt_X} {mi g t pc a i : Nat} {x v : Int32} {ls : nt_V} {st : List Value} {M : nt_M} (ha : a < nt_n M) (hk : nt_k M a = 13) (hx : x = nI i) (hi : i < nt_l M a) (hl : nt_l M a < 2147483648) : nt_sx X mi g t .iastore pc ls (.int v :: .int x :: .ref a :: st) M = some (pc + 1, ls, st, nt_sI M a i v) := by
  show nt_in M a 13 x (some (pc + 1, ls, st, nt_sI M a x.toNatClampNeg v)) = _
  rw [nt_inI ha hk hx hi hl, hx, nI_clamp (by omega)]
theorem nt_x_bald {X : nt_X} {mi g t pc a i : Nat} {x : Int32} {ls : nt_V} {st : List Value} {M : nt_M} (ha : a < nt_n M) (hk : nt_k M a = 12 ∨ nt_k M a = 15) (hx : x = nI i) (hi : i < nt_l M a) (hl : nt_l M a < 2147483648) : nt_sx X mi g t .baload pc ls (.int x :: .ref a :: st) M = some (pc + 1, ls, .int (nt_I M a i) :: st, M) := by
  show (if nt_k M a = 15 then nt_in M a 15 x (some (pc + 1, ls, .int (nt_I M a x.toNatClampNeg) :: st, M)) else nt_in M a 12 x (some (pc + 1, ls, .int (nt_I M a x.toNatClampNeg) :: st, M))) = _
  rcases hk with h | h
  · rw [if_neg (by omega), nt_inI ha h hx hi hl, hx, nI_clamp (by omega)]
  · rw [if_pos h, nt_inI ha h hx hi hl, hx, nI_clamp (by omega)]
theorem nt_x_bast {X : nt_X} {mi g t pc a i : Nat} {x v : Int32} {ls : nt_V} {st : List Value} {M : nt_M} (ha : a < nt_n M) (hk : nt_k M a = 12) (hx : x = nI i) (hi : i < nt_l M a) (hl : nt_l M a < 2147483648) : nt_sx X mi g t .bastore pc ls (.int v :: .int x :: .ref a :: st) M = some (pc + 1, ls, st, nt_sI M a i (vp_nar .byte v)) := by
  show (if nt_k M a = 15 then _ else nt_in M a 12 x (some (pc + 1, ls, st, nt_sI M a x.toNatClampNeg (vp_nar .byte v)))) = _
  rw [if_neg (by omega), nt_inI ha hk hx hi hl, hx, nI_clamp (by omega)]
theorem nt_x_zast {X : nt_X} {mi g t pc a i : Nat} {x v : Int32} {ls : nt_V} {st : List Value} {M : nt_M} (ha : a < nt_n M) (hk : nt_k M a = 15) (hx : x = nI i) (hi : i < nt_l M a) (hl : nt_l M a < 2147483648) : nt_sx X mi g t .bastore pc ls (.int v :: .int x :: .ref a :: st) M = some (pc + 1, ls, st, nt_sI M a i (vp_nar .boolean v)) := by
  show (if nt_k M a = 15 then nt_in M a 15 x (some (pc + 1, ls, st, nt_sI M a x.toNatClampNeg (vp_nar .boolean v))) else _) = _
  rw [if_pos hk, nt_inI ha hk hx hi hl, hx, nI_clamp (by omega)]
theorem nt_x_jald {X : nt_X} {mi g t pc a i : Nat} {x : Int32} {ls : nt_V} {st : List Value} {M : nt_M} (ha : a < nt_n M) (hk : nt_k M a = 14) (hx : x = nI i) (hi : i < nt_l M a) (hl : nt_l M a < 2147483648) : nt_sx X mi g t .laload pc ls (.int x :: .ref a :: st) M = some (pc + 1, ls, .long (nt_J M a i) :: st, M) := by
  show nt_in M a 14 x (some (pc + 1, ls, .long (nt_J M a x.toNatClampNeg) :: st, M)) = _
  rw [nt_inI ha hk hx hi hl, hx, nI_clamp (by omega)]
theorem nt_x_jast {X : nt_X} {mi g t pc a i : Nat} {x : Int32} {v : Int64} {ls : nt_V} {st : List Value} {M : nt_M} (ha : a < nt_n M) (hk : nt_k M a = 14) (hx : x = nI i) (hi : i < nt_l M a) (hl : nt_l M a < 2147483648) : nt_sx X mi g t .lastore pc ls (.long v :: .int x :: .ref a :: st) M = some (pc + 1, ls, st, nt_sJ M a i v) := by
  show nt_in M a 14 x (some (pc + 1, ls, st, nt_sJ M a x.toNatClampNeg v)) = _
  rw [nt_inI ha hk hx hi hl, hx, nI_clamp (by omega)]
theorem nt_x_len {X : nt_X} {mi g t pc a : Nat} {ls : nt_V} {st : List Value} {M : nt_M} (ha : a < nt_n M) (hn : nt_n M ≤ nt_sp) (hk : 12 ≤ nt_k M a) (hk2 : nt_k M a < 18) : nt_sx X mi g t .arraylength pc ls (.ref a :: st) M = some (pc + 1, ls, .int (nI (nt_l M a)) :: st, M) := by
  show (if a = nt_sp then _ else if a < nt_n M ∧ 12 ≤ nt_k M a ∧ nt_k M a < 18 then some (pc + 1, ls, .int (Int32.ofNat (nt_l M a)) :: st, M) else none) = _
  rw [if_neg (by omega), if_pos ⟨ha, hk, hk2⟩]
  rfl
theorem nt_rn_ri {X : nt_X} {d mi pc : Nat} {ls : nt_V} {v r : Int32} {M M' : nt_M} {e : Nat × Instr × Nat × Nat} (hat : nt_at mi pc = some e) (hp : e.2.1 = .ireturn) (ht : (nt_m mi).2.2.2.1 = some .int) (hv : v = r) (hm : M = M') : nt_rn X d mi (pc, ls, [.int v], M) (some (.int r), M') := by
  subst hv; subst hm
  refine nt_rn_r hat (Or.inl hp) ?_
  rw [hp]
  unfold nt_re
  rw [ht]
theorem nt_rn_rz {X : nt_X} {d mi pc : Nat} {ls : nt_V} {v r : Int32} {M M' : nt_M} {e : Nat × Instr × Nat × Nat} (hat : nt_at mi pc = some e) (hp : e.2.1 = .ireturn) (ht : (nt_m mi).2.2.2.1 = some .boolean) (hz : v = 0 ∨ v = 1) (hv : v = r) (hm : M = M') : nt_rn X d mi (pc, ls, [.int v], M) (some (.int r), M') := by
  subst hv; subst hm
  refine nt_rn_r hat (Or.inl hp) ?_
  rw [hp]
  unfold nt_re
  rw [ht]
  exact if_pos hz
theorem nt_rn_rj {X : nt_X} {d mi pc : Nat} {ls : nt_V} {v r : Int64} {M M' : nt_M} {e : Nat × Instr × Nat × Nat} (hat : nt_at mi pc = some e) (hp : e.2.1 = .lreturn) (ht : (nt_m mi).2.2.2.1 = some .long) (hv : v = r) (hm : M = M') : nt_rn X d mi (pc, ls, [.long v], M) (some (.long r), M') := by
  subst hv; subst hm
  refine nt_rn_r hat (Or.inr (Or.inl hp)) ?_
  rw [hp]
  unfold nt_re
  rw [ht]
theorem nt_rn_rv {X : nt_X} {d mi pc : Nat} {ls : nt_V} {M M' : nt_M} {e : Nat × Instr × Nat × Nat} (hat : nt_at mi pc = some e) (hp : e.2.1 = .return_) (ht : (nt_m mi).2.2.2.1 = none) (hm : M = M') : nt_rn X d mi (pc, ls, [], M) (none, M') := by
  subst hm
  refine nt_rn_r hat (Or.inr (Or.inr (Or.inr hp))) ?_
  rw [hp]
  unfold nt_re
  rw [ht]
theorem nt_rcI {M : nt_M} {own b : Nat} {vs : List Value} (h1 : b < nt_n M) (h2 : nt_k M b = own) : nt_rc M own (.ref b :: vs) = true := by
  unfold nt_rc
  rw [Bool.and_eq_true, decide_eq_true_eq, decide_eq_true_eq]
  exact ⟨h1, h2⟩
