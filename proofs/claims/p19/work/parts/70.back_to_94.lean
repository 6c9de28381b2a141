section
/-! runs read backwards: a run that comes to an answer says what its steps were -/
theorem lz_s {X : nt_X} {d mi : Nat} {c : nt_C} {o : Option Value × nt_M} {e : Nat × Instr × Nat × Nat} (hat : nt_at mi c.1 = some e) (hp : nt_pl e.2.1 = true) (k : nt_rn X d mi c o) : ∃ c', nt_sx X mi e.2.2.1 e.2.2.2 e.2.1 c.1 c.2.1 c.2.2.1 c.2.2.2 = some c' ∧ nt_rn X d mi c' o := by
  obtain ⟨f, hf⟩ := k
  cases f with
  | zero => cases hf
  | succ f =>
    unfold nt_ex at hf
    rw [hat] at hf
    have hf : nt_ei (nt_ex X f) X d mi e c = some o := hf
    cases hs : nt_sx X mi e.2.2.1 e.2.2.2 e.2.1 c.1 c.2.1 c.2.2.1 c.2.2.2 with
    | none =>
      exfalso
      unfold nt_ei at hf
      split at hf
      · rename_i q; rw [q] at hp; cases hp
      · rename_i q; rw [q] at hp; cases hp
      · rename_i q; rw [q] at hp; cases hp
      · rename_i q; rw [q] at hp; cases hp
      · rename_i q; rw [q] at hp; cases hp
      · rename_i q; rw [q] at hp; cases hp
      · rename_i q; rw [q] at hp; cases hp
      · rw [hs] at hf
        cases hf
    | some c' =>
      rw [nt_ei_pl hp hs] at hf
      exact ⟨c', rfl, f, hf⟩
theorem lz_get {X : nt_X} {d mi pc a g t i : Nat} {ls : nt_V} {st : List Value} {M : nt_M} {o : Option Value × nt_M} {v : Value} (hat : nt_at mi pc = some (pc, .getfield i, g, t)) (hv : nt_gf M a (g / 100) (g % 100) = v) (k : nt_rn X d mi (pc, ls, .ref a :: st, M) o) : nt_rn X d mi (pc + 3, ls, v :: st, M) o := by
  obtain ⟨c', hs, k⟩ := lz_s hat rfl k
  have hs : (if a < nt_n M ∧ nt_k M a = g / 100 ∧ g / 100 < 12 ∧ g % 100 < nt_N (g / 100) then some (pc + 3, ls, nt_gf M a (g / 100) (g % 100) :: st, M) else none) = some c' := hs
  obtain ⟨_, e⟩ := nt_if_some hs
  rw [hv] at e
  cases e
  exact k
theorem lz_put {X : nt_X} {d mi pc a g t i : Nat} {ls : nt_V} {st : List Value} {M : nt_M} {o : Option Value × nt_M} {x : Int32} (hat : nt_at mi pc = some (pc, .putfield i, g, t)) (ht : nt_tg (g / 100) (g % 100) = 0 ∨ nt_tg (g / 100) (g % 100) = 3) (k : nt_rn X d mi (pc, ls, .int x :: .ref a :: st, M) o) : nt_rn X d mi (pc + 3, ls, st, nt_sI M a (g % 100) x) o := by
  obtain ⟨c', hs, k⟩ := lz_s hat rfl k
  have hs : (if a < nt_n M ∧ nt_k M a = g / 100 ∧ g / 100 < 12 ∧ g % 100 < nt_N (g / 100) ∧ ((nt_T (g / 100) (g % 100)).2.2.2 = false ∨ (nt_m mi).2.2.2.2.2.2.1 = 2 ∧ (nt_m mi).2.2.2.2.1 = g / 100) then nt_pf M a (g / 100) (g % 100) (.int x) (fun M' => some (pc + 3, ls, st, M')) else none) = some c' := hs
  obtain ⟨_, e⟩ := nt_if_some hs
  unfold nt_pf at e
  rcases ht with ht | ht
  · rw [ht] at e
    have e : some (pc + 3, ls, st, nt_sI M a (g % 100) x) = some c' := e
    cases e
    exact k
  · rw [ht] at e
    have e : (if x = 0 ∨ x = 1 then some (pc + 3, ls, st, nt_sI M a (g % 100) x) else none) = some c' := e
    obtain ⟨_, e⟩ := nt_if_some e
    cases e
    exact k
theorem lz_in {α : Type} {M : nt_M} {a kd : Nat} {i : Int32} {x y : Option α} {z : α} (h : nt_in M a kd i x = some z) : x = some z := by
  unfold nt_in at h
  exact (nt_if_some h).2
theorem lz_iald {X : nt_X} {d mi pc a g t : Nat} {ls : nt_V} {st : List Value} {M : nt_M} {o : Option Value × nt_M} {i : Int32} (hat : nt_at mi pc = some (pc, .iaload, g, t)) (ha : a ≠ nt_sp) (k : nt_rn X d mi (pc, ls, .int i :: .ref a :: st, M) o) : nt_rn X d mi (pc + 1, ls, .int (nt_I M a i.toNatClampNeg) :: st, M) o := by
  obtain ⟨c', hs, k⟩ := lz_s hat rfl k
  have hs : (if a = nt_sp then (if i < 0 ∨ X.1 ≤ i.toNatClampNeg then none else some (pc + 1, ls, Value.int (X.2 i.toNatClampNeg) :: st, M)) else nt_in M a 13 i (some (pc + 1, ls, Value.int (nt_I M a i.toNatClampNeg) :: st, M))) = some c' := hs
  rw [if_neg ha] at hs
  have e := lz_in (y := none) hs
  cases e
  exact k
theorem lz_bald {X : nt_X} {d mi pc a g t : Nat} {ls : nt_V} {st : List Value} {M : nt_M} {o : Option Value × nt_M} {i : Int32} (hat : nt_at mi pc = some (pc, .baload, g, t)) (k : nt_rn X d mi (pc, ls, .int i :: .ref a :: st, M) o) : nt_rn X d mi (pc + 1, ls, .int (nt_I M a i.toNatClampNeg) :: st, M) o := by
  obtain ⟨c', hs, k⟩ := lz_s hat rfl k
  have hs : (if nt_k M a = 15 then nt_in M a 15 i (some (pc + 1, ls, Value.int (nt_I M a i.toNatClampNeg) :: st, M)) else nt_in M a 12 i (some (pc + 1, ls, Value.int (nt_I M a i.toNatClampNeg) :: st, M))) = some c' := hs
  by_cases c : nt_k M a = 15
  · rw [if_pos c] at hs
    have e := lz_in (y := none) hs
    cases e
    exact k
  · rw [if_neg c] at hs
    have e := lz_in (y := none) hs
    cases e
    exact k
theorem lz_iast {X : nt_X} {d mi pc a g t : Nat} {ls : nt_V} {st : List Value} {M : nt_M} {o : Option Value × nt_M} {i x : Int32} (hat : nt_at mi pc = some (pc, .iastore, g, t)) (k : nt_rn X d mi (pc, ls, .int x :: .int i :: .ref a :: st, M) o) : nt_rn X d mi (pc + 1, ls, st, nt_sI M a i.toNatClampNeg x) o := by
  obtain ⟨c', hs, k⟩ := lz_s hat rfl k
  have hs : nt_in M a 13 i (some (pc + 1, ls, st, nt_sI M a i.toNatClampNeg x)) = some c' := hs
  have e := lz_in (y := none) hs
  cases e
  exact k
theorem lz_len {X : nt_X} {d mi pc a g t : Nat} {ls : nt_V} {st : List Value} {M : nt_M} {o : Option Value × nt_M} (hat : nt_at mi pc = some (pc, .arraylength, g, t)) (ha : a ≠ nt_sp) (k : nt_rn X d mi (pc, ls, .ref a :: st, M) o) : nt_rn X d mi (pc + 1, ls, .int (Int32.ofNat (nt_l M a)) :: st, M) o := by
  obtain ⟨c', hs, k⟩ := lz_s hat rfl k
  have hs : (if a = nt_sp then some (pc + 1, ls, Value.int (Int32.ofNat X.1) :: st, M) else if a < nt_n M ∧ 12 ≤ nt_k M a ∧ nt_k M a < 18 then some (pc + 1, ls, Value.int (Int32.ofNat (nt_l M a)) :: st, M) else none) = some c' := hs
  rw [if_neg ha] at hs
  obtain ⟨_, e⟩ := nt_if_some hs
  cases e
  exact k
theorem lz_c {X : nt_X} {d mi g q : Nat} {c : nt_C} {o : Option Value × nt_M} {vs rest : List Value} {e : Nat × Instr × Nat × Nat} (hat : nt_at mi c.1 = some e) (hg : e.2.2.1 = g) (hg2 : g < 1000) (hq : (∃ i, e.2.1 = .invokestatic i ∧ q = 0) ∨ (∃ i, e.2.1 = .invokevirtual i ∧ q = 1) ∨ (∃ i, e.2.1 = .invokespecial i ∧ q = 2)) (hc : nt_cq g q c.2.2.1 = some (vs, rest)) (k : nt_rn X d mi c o) : ∃ d' o1, d = d' + 1 ∧ nt_ev X d' g vs c.2.2.2 o1 ∧ nt_rn X d mi (c.1 + 3, c.2.1, o1.1.toList ++ rest, o1.2) o := by
  obtain ⟨f, hf⟩ := k
  unfold nt_cq at hc
  obtain ⟨hcc, hc⟩ := nt_if_some hc
  cases hc
  cases f with
  | zero => cases hf
  | succ f =>
    unfold nt_ex at hf
    rw [hat] at hf
    have hf : nt_ei (nt_ex X f) X d mi e c = some o := hf
    have key : nt_ca (nt_ex X f) d mi g q c = some o := by
      unfold nt_ei at hf
      rcases hq with ⟨i, hi, rfl⟩ | ⟨i, hi, rfl⟩ | ⟨i, hi, rfl⟩ <;> rw [hi, hg] at hf <;> exact hf
    unfold nt_ca at key
    rw [if_neg (by omega)] at key
    cases d with
    | zero => cases key
    | succ d' =>
      dsimp only at key
      obtain ⟨_, key⟩ := nt_if_some key
      split at key
      · rename_i o1 h1
        exact ⟨d', o1, rfl, ⟨f, h1⟩, ⟨f, key⟩⟩
      · cases key
theorem lz_n {X : nt_X} {d mi g q : Nat} {c : nt_C} {o : Option Value × nt_M} {e : Nat × Instr × Nat × Nat} (hat : nt_at mi c.1 = some e) (hg : e.2.2.1 = g) (hg2 : 1000 ≤ g) (hq : (∃ i, e.2.1 = .invokestatic i ∧ q = 0) ∨ (∃ i, e.2.1 = .invokevirtual i ∧ q = 1) ∨ (∃ i, e.2.1 = .invokespecial i ∧ q = 2)) (k : nt_rn X d mi c o) : ∃ c', nt_nx d g q c.1 c.2.1 c.2.2.1 c.2.2.2 = some c' ∧ nt_rn X d mi c' o := by
  obtain ⟨f, hf⟩ := k
  cases f with
  | zero => cases hf
  | succ f =>
    unfold nt_ex at hf
    rw [hat] at hf
    have hf : nt_ei (nt_ex X f) X d mi e c = some o := hf
    have key : nt_ca (nt_ex X f) d mi g q c = some o := by
      unfold nt_ei at hf
      rcases hq with ⟨i, hi, rfl⟩ | ⟨i, hi, rfl⟩ | ⟨i, hi, rfl⟩ <;> rw [hi, hg] at hf <;> exact hf
    unfold nt_ca at key
    rw [if_pos hg2] at key
    split at key
    · rename_i c' h
      exact ⟨c', h, f, key⟩
    · cases key
theorem lz_ret {X : nt_X} {d mi : Nat} {c : nt_C} {o : Option Value × nt_M} {e : Nat × Instr × Nat × Nat} (hat : nt_at mi c.1 = some e) (hp : e.2.1 = .ireturn ∨ e.2.1 = .lreturn ∨ e.2.1 = .areturn ∨ e.2.1 = .return_) (k : nt_rn X d mi c o) : nt_re mi e.2.1 c.2.2.1 c.2.2.2 = some o := by
  obtain ⟨f, hf⟩ := k
  cases f with
  | zero => cases hf
  | succ f =>
    unfold nt_ex at hf
    rw [hat] at hf
    have hf : nt_ei (nt_ex X f) X d mi e c = some o := hf
    unfold nt_ei at hf
    rcases hp with h | h | h | h <;> rw [h] at hf ⊢ <;> exact hf
theorem lz_ri {X : nt_X} {d mi pc g t : Nat} {ls : nt_V} {x : Int32} {M : nt_M} {o : Option Value × nt_M} (hat : nt_at mi pc = some (pc, .ireturn, g, t)) (hm : (nt_m mi).2.2.2.1 = some .int ∨ (nt_m mi).2.2.2.1 = some .boolean) (k : nt_rn X d mi (pc, ls, [.int x], M) o) : o = (some (.int x), M) := by
  have h := lz_ret hat (Or.inl rfl) k
  unfold nt_re at h
  rcases hm with hm | hm
  · rw [hm] at h
    have h : some (some (Value.int x), M) = some o := h
    cases h
    rfl
  · rw [hm] at h
    have h : (if x = 0 ∨ x = 1 then some (some (Value.int x), M) else none) = some o := h
    obtain ⟨_, h⟩ := nt_if_some h
    cases h
    rfl
theorem lz_rv {X : nt_X} {d mi pc g t : Nat} {ls : nt_V} {M : nt_M} {o : Option Value × nt_M} (hat : nt_at mi pc = some (pc, .return_, g, t)) (hm : (nt_m mi).2.2.2.1 = none) (k : nt_rn X d mi (pc, ls, [], M) o) : o = (none, M) := by
  have h := lz_ret hat (Or.inr (Or.inr (Or.inr rfl))) k
  unfold nt_re at h
  rw [hm] at h
  have h : some (none, M) = some o := h
  cases h
  rfl
theorem lz_det {X : nt_X} {d mi : Nat} {c : nt_C} {o o' : Option Value × nt_M} (k : nt_rn X d mi c o) (k' : nt_rn X d mi c o') : o = o' := by
  obtain ⟨f1, h1⟩ := k
  obtain ⟨f2, h2⟩ := k'
  have h1 := nt_ex_up X h1 f2
  have h2 := nt_ex_up X h2 f1
  rw [Nat.add_comm f2 f1, h1] at h2
  cases h2
  rfl
/-! memories that differ in ints alone -/
def me_w (M : nt_M) (J : Nat → Nat → Int32) : nt_M := (M.1, M.2.1, M.2.2.1, J, M.2.2.2.2)
theorem me_us {J : Nat → Nat → Int32} {a k : Nat} {v : Int32} : nt_u J a k v a k = v := by
  show (if a = a then (if k = k then v else J a k) else J a k) = v
  rw [if_pos rfl, if_pos rfl]
theorem me_uk {J : Nat → Nat → Int32} {a k j : Nat} {v : Int32} (h : j ≠ k) : nt_u J a k v a j = J a j := by
  show (if a = a then (if j = k then v else J a j) else J a j) = _
  rw [if_pos rfl, if_neg h]
theorem me_uo {J : Nat → Nat → Int32} {a b k : Nat} {v : Int32} (h : b ≠ a) : nt_u J a k v b = J b := by
  funext j
  show (if b = a then (if j = k then v else J b j) else J b j) = _
  rw [if_neg h]
theorem me_uj {J : Nat → Nat → Int32} {a b k j : Nat} {v : Int32} (h : b ≠ a) : nt_u J a k v b j = J b j := by rw [me_uo h]
theorem me_uu {J : Nat → Nat → Int32} {a k : Nat} {u v : Int32} : nt_u (nt_u J a k u) a k v = nt_u J a k v := by
  funext b j
  show (if b = a then (if j = k then v else nt_u J a k u b j) else nt_u J a k u b j) = (if b = a then (if j = k then v else J b j) else J b j)
  by_cases h1 : b = a
  · rw [if_pos h1, if_pos h1]
    by_cases h2 : j = k
    · rw [if_pos h2, if_pos h2]
    · rw [if_neg h2, if_neg h2, h1, me_uk h2]
  · rw [if_neg h1, if_neg h1, me_uo h1]
theorem me_ui {J : Nat → Nat → Int32} {a k : Nat} {v : Int32} (h : J a k = v) : nt_u J a k v = J := by
  funext b j
  show (if b = a then (if j = k then v else J b j) else J b j) = _
  by_cases h1 : b = a
  · rw [if_pos h1]
    by_cases h2 : j = k
    · rw [if_pos h2, h1, h2, h]
    · rw [if_neg h2]
  · rw [if_neg h1]
theorem me_put {X : nt_X} {d mi pc a g t i : Nat} {ls : nt_V} {st : List Value} {M : nt_M} {J : Nat → Nat → Int32} {o : Option Value × nt_M} {x : Int32} (hat : nt_at mi pc = some (pc, .putfield i, g, t)) (ht : nt_tg (g / 100) (g % 100) = 0 ∨ nt_tg (g / 100) (g % 100) = 3) (k : nt_rn X d mi (pc, ls, .int x :: .ref a :: st, me_w M J) o) : nt_rn X d mi (pc + 3, ls, st, me_w M (nt_u J a (g % 100) x)) o := lz_put hat ht k
theorem me_bald {X : nt_X} {d mi pc a g t q : Nat} {ls : nt_V} {st : List Value} {M : nt_M} {J : Nat → Nat → Int32} {o : Option Value × nt_M} {i v : Int32} (hat : nt_at mi pc = some (pc, .baload, g, t)) (hi : i = nI q) (hq : q < 2 ^ 31) (hv : J a q = v) (k : nt_rn X d mi (pc, ls, .int i :: .ref a :: st, me_w M J) o) : nt_rn X d mi (pc + 1, ls, .int v :: st, me_w M J) o := by
  have k := lz_bald hat k
  have k : nt_rn X d mi (pc + 1, ls, .int (J a i.toNatClampNeg) :: st, me_w M J) o := k
  rw [hi, nI_clamp hq, hv] at k
  exact k
theorem me_iald {X : nt_X} {d mi pc a g t q : Nat} {ls : nt_V} {st : List Value} {M : nt_M} {J : Nat → Nat → Int32} {o : Option Value × nt_M} {i v : Int32} (hat : nt_at mi pc = some (pc, .iaload, g, t)) (ha : a ≠ nt_sp) (hi : i = nI q) (hq : q < 2 ^ 31) (hv : J a q = v) (k : nt_rn X d mi (pc, ls, .int i :: .ref a :: st, me_w M J) o) : nt_rn X d mi (pc + 1, ls, .int v :: st, me_w M J) o := by
  have k := lz_iald hat ha k
  have k : nt_rn X d mi (pc + 1, ls, .int (J a i.toNatClampNeg) :: st, me_w M J) o := k
  rw [hi, nI_clamp hq, hv] at k
  exact k
theorem me_iast {X : nt_X} {d mi pc a g t q : Nat} {ls : nt_V} {st : List Value} {M : nt_M} {J : Nat → Nat → Int32} {o : Option Value × nt_M} {i x : Int32} (hat : nt_at mi pc = some (pc, .iastore, g, t)) (hi : i = nI q) (hq : q < 2 ^ 31) (k : nt_rn X d mi (pc, ls, .int x :: .int i :: .ref a :: st, me_w M J) o) : nt_rn X d mi (pc + 1, ls, st, me_w M (nt_u J a q x)) o := by
  have k := lz_iast hat k
  rw [hi, nI_clamp hq] at k
  exact k
end
section
/-! the text's rows, told purely: f the bytes, t how many -/
theorem me_addn {a b : Nat} : nI a + nI b = nI (a + b) := (Int32.ofNat_add a b).symm
theorem me_add {a k : Nat} : nI a + Int32.ofInt (k : Int) = nI (a + k) := by
  rw [me_addn.symm]
  rfl
theorem me_subn {a b : Nat} (h : b ≤ a) : nI a - nI b = nI (a - b) := by
  have e : nI a = nI (a - b) + nI b := by rw [me_addn, Nat.sub_add_cancel h]
  rw [e, Int32.add_sub_cancel]
theorem me_ne {a b : Nat} (h : ¬ a = b) (ha : a < 2 ^ 31) (hb : b < 2 ^ 31) : ¬ nI a = nI b := by
  intro e
  have e := congrArg Int32.toInt e
  rw [nI_toInt ha, nI_toInt hb] at e
  omega
theorem me_min {X : nt_X} {d mi pc a b t : Nat} {i : Nat} {ls : nt_V} {st : List Value} {M : nt_M} {o : Option Value × nt_M} (ha : a < 2 ^ 31) (hb : b < 2 ^ 31) (hat : nt_at mi pc = some (pc, .invokestatic i, 1003, t)) (k : nt_rn X d mi (pc, ls, .int (nI b) :: .int (nI a) :: st, M) o) : nt_rn X d mi (pc + 3, ls, .int (nI (min a b)) :: st, M) o := by
  obtain ⟨c', hs, k⟩ := lz_n (g := 1003) (q := 0) hat rfl (by decide) (Or.inl ⟨_, rfl, rfl⟩) k
  have hs : (if 1 ≤ d ∧ nt_ct st ≤ 8 then some (pc + 3, ls, Value.int (if nI b < nI a then nI b else nI a) :: st, M) else none) = some c' := hs
  obtain ⟨_, e⟩ := nt_if_some hs
  cases e
  by_cases c : b < a
  · rw [if_pos (nI_lt c ha)] at k
    rw [Nat.min_eq_right (by omega)]
    exact k
  · rw [if_neg (nI_nlt (by omega) hb)] at k
    rw [Nat.min_eq_left (by omega)]
    exact k
/-- a word's letters -/
def lb_W (a : Nat) : List Int32 := nt_SB.getD (nt_si a) []
theorem me_slen {X : nt_X} {d mi pc a t : Nat} {i : Nat} {ls : nt_V} {st : List Value} {M : nt_M} {o : Option Value × nt_M} (hat : nt_at mi pc = some (pc, .invokevirtual i, 1004, t)) (k : nt_rn X d mi (pc, ls, .ref a :: st, M) o) : (nt_sp < a ∧ a < nt_sp + 19) ∧ nt_rn X d mi (pc + 3, ls, .int (nI (lb_W a).length) :: st, M) o := by
  obtain ⟨c', hs, k⟩ := lz_n (g := 1004) (q := 1) hat rfl (by decide) (Or.inr (Or.inl ⟨_, rfl, rfl⟩)) k
  have hs : (if 4 ≤ d ∧ nt_ct st ≤ 8 ∧ nt_sp < a ∧ a < nt_sp + 19 then some (pc + 3, ls, Value.int (Int32.ofNat (nt_SB.getD (nt_si a) []).length) :: st, M) else none) = some c' := hs
  obtain ⟨q, e⟩ := nt_if_some hs
  cases e
  exact ⟨q.2.2, k⟩
theorem me_char {X : nt_X} {d mi pc a t q : Nat} {i : Nat} {ls : nt_V} {st : List Value} {M : nt_M} {o : Option Value × nt_M} (hat : nt_at mi pc = some (pc, .invokevirtual i, 1005, t)) (hq : q < 2 ^ 31) (k : nt_rn X d mi (pc, ls, .int (nI q) :: .ref a :: st, M) o) : nt_rn X d mi (pc + 3, ls, .int ((lb_W a).getD q 0) :: st, M) o := by
  obtain ⟨c', hs, k⟩ := lz_n (g := 1005) (q := 1) hat rfl (by decide) (Or.inr (Or.inl ⟨_, rfl, rfl⟩)) k
  have hs : (if 4 ≤ d ∧ nt_ct st ≤ 8 ∧ nt_sp < a ∧ a < nt_sp + 19 ∧ ¬ (nI q < 0 ∨ (nt_SB.getD (nt_si a) []).length ≤ (nI q).toNatClampNeg) then some (pc + 3, ls, Value.int ((nt_SB.getD (nt_si a) []).getD (nI q).toNatClampNeg 0) :: st, M) else none) = some c' := hs
  obtain ⟨_, e⟩ := nt_if_some hs
  rw [nI_clamp hq] at e
  cases e
  exact k
theorem me_nle {a b : Int32} (h : a < b) : ¬ b ≤ a := by
  intro c
  have h := Int32.lt_iff_toInt_lt.mp h
  have c := Int32.le_iff_toInt_le.mp c
  omega
theorem me_le {a b : Int32} (h : ¬ a < b) : b ≤ a := by
  apply Int32.le_iff_toInt_le.mpr
  have h : ¬ a.toInt < b.toInt := fun c => h (Int32.lt_iff_toInt_lt.mpr c)
  omega
def lb_sk (f : Nat → Int32) (t : Nat) : Nat → Nat → Nat
  | 0, p => p
  | n + 1, p => @ite _ (p < t ∧ f p = Int32.ofInt 32) instDecidableAnd (lb_sk f t n (p + 1)) p
/-- behind blanks -/
def lb_s (f : Nat → Int32) (t p : Nat) : Nat := lb_sk f t (t - p) p
theorem lb_s0 {f : Nat → Int32} {t p : Nat} (h : ¬ (p < t ∧ f p = Int32.ofInt 32)) : lb_s f t p = p := by
  unfold lb_s
  cases hn : t - p with
  | zero => rfl
  | succ n =>
    unfold lb_sk
    rw [if_neg h]
theorem lb_s1 {f : Nat → Int32} {t p : Nat} (h : p < t ∧ f p = Int32.ofInt 32) : lb_s f t p = lb_s f t (p + 1) := by
  unfold lb_s
  rw [show t - p = t - (p + 1) + 1 from by omega]
  show (if p < t ∧ f p = Int32.ofInt 32 then lb_sk f t (t - (p + 1)) (p + 1) else p) = _
  rw [if_pos h]
theorem lb_s_le {f : Nat → Int32} {t : Nat} : ∀ (n p : Nat), p + n = t → p ≤ lb_s f t p ∧ lb_s f t p ≤ t := by
  intro n
  induction n with
  | zero =>
    intro p h
    rw [lb_s0 (by omega)]
    omega
  | succ n ih =>
    intro p h
    by_cases c : p < t ∧ f p = Int32.ofInt 32
    · rw [lb_s1 c]
      have := ih (p + 1) (by omega)
      omega
    · rw [lb_s0 c]
      omega
theorem lb_s_nb {f : Nat → Int32} {t : Nat} : ∀ (n p : Nat), p + n = t → ¬ (lb_s f t p < t ∧ f (lb_s f t p) = Int32.ofInt 32) := by
  intro n
  induction n with
  | zero =>
    intro p h
    rw [lb_s0 (by omega)]
    omega
  | succ n ih =>
    intro p h
    by_cases c : p < t ∧ f p = Int32.ofInt 32
    · rw [lb_s1 c]
      exact ih (p + 1) (by omega)
    · rw [lb_s0 c]
      exact c
theorem lb_ss {f : Nat → Int32} {t p : Nat} (h : p ≤ t) : lb_s f t (lb_s f t p) = lb_s f t p := lb_s0 (lb_s_nb (t - p) p (by omega))
/-- digits from p on -/
def lb_dn (f : Nat → Int32) (t : Nat) : Nat → Nat → Nat
  | 0, _ => 0
  | n + 1, p => @ite _ (p < t ∧ Int32.ofInt 48 ≤ f p ∧ f p ≤ Int32.ofInt 57) instDecidableAnd (lb_dn f t n (p + 1) + 1) 0
def lb_d (f : Nat → Int32) (t p : Nat) : Nat := lb_dn f t (t - p) p
theorem lb_d0 {f : Nat → Int32} {t p : Nat} (h : ¬ (p < t ∧ Int32.ofInt 48 ≤ f p ∧ f p ≤ Int32.ofInt 57)) : lb_d f t p = 0 := by
  unfold lb_d
  cases hn : t - p with
  | zero => rfl
  | succ n =>
    unfold lb_dn
    rw [if_neg h]
theorem lb_d1 {f : Nat → Int32} {t p : Nat} (h : p < t ∧ Int32.ofInt 48 ≤ f p ∧ f p ≤ Int32.ofInt 57) : lb_d f t p = lb_d f t (p + 1) + 1 := by
  unfold lb_d
  rw [show t - p = t - (p + 1) + 1 from by omega]
  show (if p < t ∧ Int32.ofInt 48 ≤ f p ∧ f p ≤ Int32.ofInt 57 then lb_dn f t (t - (p + 1)) (p + 1) + 1 else 0) = _
  rw [if_pos h]
theorem lb_d_le {f : Nat → Int32} {t : Nat} : ∀ (n p : Nat), p + n = t → p + lb_d f t p ≤ t := by
  intro n
  induction n with
  | zero =>
    intro p h
    rw [lb_d0 (by omega)]
    omega
  | succ n ih =>
    intro p h
    by_cases c : p < t ∧ Int32.ofInt 48 ≤ f p ∧ f p ≤ Int32.ofInt 57
    · rw [lb_d1 c]
      have := ih (p + 1) (by omega)
      omega
    · rw [lb_d0 c]
      omega
/-- the sign at p -/
def lb_g (f : Nat → Int32) (t p : Nat) : Int32 := if p < t then f p &&& Int32.ofInt 255 else Int32.ofInt (-1)
/-- a word stands at p -/
def lb_at (f : Nat → Int32) (t : Nat) (L : List Int32) (p : Nat) : Prop := p + L.length ≤ t ∧ (∀ i, i < L.length → f (p + i) = L.getD i 0) ∧ ¬ (p + L.length < t ∧ Int32.ofInt 97 ≤ f (p + L.length) ∧ f (p + L.length) ≤ Int32.ofInt 122)
/-- the rule reader: where things lie -/
def lc_P (M : nt_M) (J0 : Nat → Nat → Int32) (f : Nat → Int32) (t Rd Tp By RR Sp : Nat) : Prop := (nt_R M Rd 0 = some Tp ∧ nt_R M Tp 0 = some By ∧ nt_R M RR 0 = some Rd ∧ nt_R M RR 1 = some Sp) ∧ (Tp ≠ Rd ∧ Tp ≠ RR ∧ Tp ≠ Sp ∧ By ≠ Rd ∧ By ≠ RR ∧ By ≠ Sp ∧ Rd ≠ RR ∧ Rd ≠ Sp ∧ RR ≠ Sp) ∧ J0 Tp 1 = nI t ∧ (∀ j, J0 By j = f j) ∧ t ≤ 400 ∧ nt_l M Sp = 400 ∧ Sp ≠ nt_sp
/-- and what it holds -/
def lc_S (J0 : Nat → Nat → Int32) (Rd RR Sp p : Nat) (fa : Int32) (m : Nat) (s : Nat × (Nat → Int32)) (J : Nat → Nat → Int32) : Prop := J Rd 1 = nI p ∧ J Rd 2 = fa ∧ J RR 2 = nI s.1 ∧ J RR 3 = nI m ∧ (∀ j, j < s.1 → J Sp j = s.2 j) ∧ (∀ a, a ≠ Rd → a ≠ RR → a ≠ Sp → J a = J0 a) ∧ s.1 ≤ 400 ∧ m ≤ 60
theorem lc_t {M : nt_M} {J0 J : Nat → Nat → Int32} {f : Nat → Int32} {t Rd Tp By RR Sp p m : Nat} {fa : Int32} {s : Nat × (Nat → Int32)} (hP : lc_P M J0 f t Rd Tp By RR Sp) (hS : lc_S J0 Rd RR Sp p fa m s J) : J Tp 1 = nI t := by
  rw [hS.2.2.2.2.2.1 Tp hP.2.1.1 hP.2.1.2.1 hP.2.1.2.2.1]
  exact hP.2.2.1
theorem lc_f {M : nt_M} {J0 J : Nat → Nat → Int32} {f : Nat → Int32} {t Rd Tp By RR Sp p m : Nat} {fa : Int32} {s : Nat × (Nat → Int32)} (hP : lc_P M J0 f t Rd Tp By RR Sp) (hS : lc_S J0 Rd RR Sp p fa m s J) (j : Nat) : J By j = f j := by
  rw [hS.2.2.2.2.2.1 By hP.2.1.2.2.2.1 hP.2.1.2.2.2.2.1 hP.2.1.2.2.2.2.2.1]
  exact hP.2.2.2.1 j
theorem lc_Spp {M : nt_M} {J0 J : Nat → Nat → Int32} {f : Nat → Int32} {t Rd Tp By RR Sp p m q : Nat} {fa : Int32} {s : Nat × (Nat → Int32)} (hP : lc_P M J0 f t Rd Tp By RR Sp) (hS : lc_S J0 Rd RR Sp p fa m s J) : lc_S J0 Rd RR Sp q fa m s (nt_u J Rd 1 (nI q)) := by
  obtain ⟨a, b, c, e, g, h, l⟩ := hS
  have n1 := hP.2.1.2.2.2.2.2.2.1
  have n2 := hP.2.1.2.2.2.2.2.2.2.1
  have n3 := hP.2.1.2.2.2.2.2.2.2.2
  exact ⟨me_us, (me_uk (by decide)).trans b, (me_uj (Ne.symm n1)).trans c, (me_uj (Ne.symm n1)).trans e, fun j hj => (me_uj (Ne.symm n2)).trans (g j hj), fun x h1 h2 h3 => (me_uo h1).trans (h x h1 h2 h3), l⟩
theorem lc_Sf {M : nt_M} {J0 J : Nat → Nat → Int32} {f : Nat → Int32} {t Rd Tp By RR Sp p m : Nat} {fa fb : Int32} {s : Nat × (Nat → Int32)} (hP : lc_P M J0 f t Rd Tp By RR Sp) (hS : lc_S J0 Rd RR Sp p fa m s J) : lc_S J0 Rd RR Sp p fb m s (nt_u J Rd 2 fb) := by
  obtain ⟨a, b, c, e, g, h, l⟩ := hS
  have n1 := hP.2.1.2.2.2.2.2.2.1
  have n2 := hP.2.1.2.2.2.2.2.2.2.1
  have n3 := hP.2.1.2.2.2.2.2.2.2.2
  exact ⟨(me_uk (by decide)).trans a, me_us, (me_uj (Ne.symm n1)).trans c, (me_uj (Ne.symm n1)).trans e, fun j hj => (me_uj (Ne.symm n2)).trans (g j hj), fun x h1 h2 h3 => (me_uo h1).trans (h x h1 h2 h3), l⟩
theorem lc_Sm {M : nt_M} {J0 J : Nat → Nat → Int32} {f : Nat → Int32} {t Rd Tp By RR Sp p m q : Nat} {fa : Int32} {s : Nat × (Nat → Int32)} (hP : lc_P M J0 f t Rd Tp By RR Sp) (hS : lc_S J0 Rd RR Sp p fa m s J) (hq : q ≤ 60) : lc_S J0 Rd RR Sp p fa q s (nt_u J RR 3 (nI q)) := by
  obtain ⟨a, b, c, e, g, h, l⟩ := hS
  have n1 := hP.2.1.2.2.2.2.2.2.1
  have n2 := hP.2.1.2.2.2.2.2.2.2.1
  have n3 := hP.2.1.2.2.2.2.2.2.2.2
  exact ⟨(me_uj n1).trans a, (me_uj n1).trans b, (me_uk (by decide)).trans c, me_us, fun j hj => (me_uj (Ne.symm n3)).trans (g j hj), fun x h1 h2 h3 => (me_uo h2).trans (h x h1 h2 h3), l.1, hq⟩
/-- a step more, if there is room -/
def lb_e (s : Nat × (Nat → Int32)) (x : Int32) : Nat × (Nat → Int32) := if s.1 < 400 then (s.1 + 1, fun j => if j = s.1 then x else s.2 j) else s
theorem lc_Se {M : nt_M} {J0 J : Nat → Nat → Int32} {f : Nat → Int32} {t Rd Tp By RR Sp p m : Nat} {fa x : Int32} {s : Nat × (Nat → Int32)} (hP : lc_P M J0 f t Rd Tp By RR Sp) (hS : lc_S J0 Rd RR Sp p fa m s J) (hs : s.1 < 400) : lc_S J0 Rd RR Sp p fa m (lb_e s x) (nt_u (nt_u J Sp s.1 x) RR 2 (nI (s.1 + 1))) := by
  obtain ⟨a, b, c, e, g, h, l⟩ := hS
  have n1 := hP.2.1.2.2.2.2.2.2.1
  have n2 := hP.2.1.2.2.2.2.2.2.2.1
  have n3 := hP.2.1.2.2.2.2.2.2.2.2
  have e1 : lb_e s x = (s.1 + 1, fun j => if j = s.1 then x else s.2 j) := if_pos hs
  rw [e1]
  refine ⟨(me_uj n1).trans ((me_uj n2).trans a), (me_uj n1).trans ((me_uj n2).trans b), me_us, (me_uk (by decide)).trans ((me_uj n3).trans e), fun j hj => (me_uj (Ne.symm n3)).trans ?_, fun x h1 h2 h3 => (me_uo h2).trans ((me_uo h3).trans (h x h1 h2 h3)), by dsimp only; omega, l.2⟩
  dsimp only at hj ⊢
  by_cases c2 : j = s.1
  · rw [if_pos c2, c2, me_us]
  · rw [if_neg c2, me_uk c2]
    exact g j (by omega)
theorem lb_W_all : nt_SB.all (fun l => decide (l.length ≤ 10)) = true := by decide +kernel
theorem lb_W_len {a : Nat} : (lb_W a).length ≤ 10 := by
  unfold lb_W
  rw [List.getD_eq_getElem?_getD]
  cases h : nt_SB[nt_si a]? with
  | none => exact Nat.zero_le _
  | some l =>
    have q := List.all_eq_true.mp lb_W_all l (List.mem_of_getElem? h)
    exact of_decide_eq_true q
theorem lc_sign {X : nt_X} {d t Rd Tp By RR Sp : Nat} {f : Nat → Int32} {M : nt_M} {J0 J : Nat → Nat → Int32} {o : Option Value × nt_M} {p m : Nat} {fa : Int32} {s : Nat × (Nat → Int32)}  (hP : lc_P M J0 f t Rd Tp By RR Sp) (hS : lc_S J0 Rd RR Sp p fa m s J) (hp : p ≤ t) (k : nt_ev X d 37 [.ref Rd] (me_w M J) o) : o = (some (.int (lb_g f t p)), me_w M J) := by
  have k : nt_rn X d 37 (0, [(0, .ref Rd)], [], me_w M J) o := k
  have t4 : t ≤ 400 := hP.2.2.2.2.1
  have k := ly_revb 1 (c' := (1, [(0, .ref Rd)], [.ref Rd], me_w M J)) rfl k
  have k := lz_get (a := Rd) (g := 201) (M := me_w M J) (v := .int (nI p)) rfl (congrArg Value.int (hS.1)) k
  have k := ly_revb 1 (c' := (5, [(0, .ref Rd)], [.ref Rd, .int (nI p)], me_w M J)) rfl k
  have k := lz_get (a := Rd) (g := 200) (M := me_w M J) (v := .ref Tp) rfl (nt_gfR rfl hP.1.1) k
  have k := lz_get (a := Tp) (g := 701) (M := me_w M J) (v := .int (nI t)) rfl (congrArg Value.int (lc_t hP hS)) k
  have k := ly_revb 1 (c' := (if (nI t) ≤ (nI p) then 33 else 14, [(0, .ref Rd)], [], me_w M J)) rfl k
  by_cases h11 : t ≤ p
  · rw [if_pos (show (nI t) ≤ (nI p) from show nI t ≤ nI p from nI_le h11 (by omega))] at k
    have k := ly_revb 1 (c' := (34, [(0, .ref Rd)], [.int (Int32.ofInt (-1))], me_w M J)) rfl k
    have k := lz_ri rfl (by decide) k
    rw [k]
    unfold lb_g
    rw [if_neg (by omega)]
  · rw [if_neg (show ¬ ((nI t) ≤ (nI p)) from show ¬ nI t ≤ nI p from nI_ge (Nat.not_le.mp h11) (by omega))] at k
    have k := ly_revb 1 (c' := (15, [(0, .ref Rd)], [.ref Rd], me_w M J)) rfl k
    have k := lz_get (a := Rd) (g := 200) (M := me_w M J) (v := .ref Tp) rfl (nt_gfR rfl hP.1.1) k
    have k := lz_get (a := Tp) (g := 700) (M := me_w M J) (v := .ref By) rfl (nt_gfR rfl hP.1.2.1) k
    have k := ly_revb 1 (c' := (22, [(0, .ref Rd)], [.ref Rd, .ref By], me_w M J)) rfl k
    have k := lz_get (a := Rd) (g := 201) (M := me_w M J) (v := .int (nI p)) rfl (congrArg Value.int (hS.1)) k
    have k := me_bald (q := p) (v := f p) rfl (rfl) (by omega) (lc_f hP hS p) k
    have k := ly_revb 3 (c' := (34, [(0, .ref Rd)], [.int ((f p) &&& (Int32.ofInt 255))], me_w M J)) rfl k
    have k := lz_ri rfl (by decide) k
    rw [k]
    unfold lb_g
    rw [if_pos (by omega)]
theorem lc_isNext {X : nt_X} {d t Rd Tp By RR Sp : Nat} {f : Nat → Int32} {M : nt_M} {J0 J : Nat → Nat → Int32} {o : Option Value × nt_M} {p m : Nat} {fa : Int32} {s : Nat × (Nat → Int32)} {x : Int32} (hP : lc_P M J0 f t Rd Tp By RR Sp) (hS : lc_S J0 Rd RR Sp p fa m s J) (hp : p ≤ t) (k : nt_ev X d 39 [.ref Rd, .int (x)] (me_w M J) o) : ∃ r, o = (some (.int r), me_w M J) ∧ (r = Int32.ofInt 1 ∧ (p + 1 < t ∧ f (p + 1) = x) ∨ r = Int32.ofInt 0 ∧ ¬ (p + 1 < t ∧ f (p + 1) = x)) := by
  have k : nt_rn X d 39 (0, [(0, .ref Rd), (1, .int (x))], [], me_w M J) o := k
  have t4 : t ≤ 400 := hP.2.2.2.2.1
  have k := ly_revb 1 (c' := (1, [(0, .ref Rd), (1, .int (x))], [.ref Rd], me_w M J)) rfl k
  have k := lz_get (a := Rd) (g := 201) (M := me_w M J) (v := .int (nI p)) rfl (congrArg Value.int (hS.1)) k
  have k := ly_revb 2 (c' := (6, [(0, .ref Rd), (1, .int (x))], [.int ((nI p) + (Int32.ofInt 1))], me_w M J)) rfl k
  rw [show ((nI p) + (Int32.ofInt 1) : Int32) = nI (p + 1) from me_add (k := 1)] at k
  have k := ly_revb 1 (c' := (7, [(0, .ref Rd), (1, .int (x))], [.ref Rd, .int (nI (p + 1))], me_w M J)) rfl k
  have k := lz_get (a := Rd) (g := 200) (M := me_w M J) (v := .ref Tp) rfl (nt_gfR rfl hP.1.1) k
  have k := lz_get (a := Tp) (g := 701) (M := me_w M J) (v := .int (nI t)) rfl (congrArg Value.int (lc_t hP hS)) k
  have k := ly_revb 1 (c' := (if (nI t) ≤ (nI (p + 1)) then 38 else 16, [(0, .ref Rd), (1, .int (x))], [], me_w M J)) rfl k
  by_cases h13 : t ≤ (p + 1)
  · rw [if_pos (show (nI t) ≤ (nI (p + 1)) from show nI t ≤ nI ((p + 1)) from nI_le h13 (by omega))] at k
    have k := ly_revb 1 (c' := (39, [(0, .ref Rd), (1, .int (x))], [.int (Int32.ofInt 0)], me_w M J)) rfl k
    have k := lz_ri rfl (by decide) k
    exact ⟨_, k, Or.inr ⟨rfl, fun c => absurd c.1 (by omega)⟩⟩
  · rw [if_neg (show ¬ ((nI t) ≤ (nI (p + 1))) from show ¬ nI t ≤ nI ((p + 1)) from nI_ge (Nat.not_le.mp h13) (by omega))] at k
    have k := ly_revb 1 (c' := (17, [(0, .ref Rd), (1, .int (x))], [.ref Rd], me_w M J)) rfl k
    have k := lz_get (a := Rd) (g := 200) (M := me_w M J) (v := .ref Tp) rfl (nt_gfR rfl hP.1.1) k
    have k := lz_get (a := Tp) (g := 700) (M := me_w M J) (v := .ref By) rfl (nt_gfR rfl hP.1.2.1) k
    have k := ly_revb 1 (c' := (24, [(0, .ref Rd), (1, .int (x))], [.ref Rd, .ref By], me_w M J)) rfl k
    have k := lz_get (a := Rd) (g := 201) (M := me_w M J) (v := .int (nI p)) rfl (congrArg Value.int (hS.1)) k
    have k := ly_revb 2 (c' := (29, [(0, .ref Rd), (1, .int (x))], [.int ((nI p) + (Int32.ofInt 1)), .ref By], me_w M J)) rfl k
    rw [show ((nI p) + (Int32.ofInt 1) : Int32) = nI (p + 1) from me_add (k := 1)] at k
    have k := me_bald (q := (p + 1)) (v := f ((p + 1))) rfl (rfl) (by omega) (lc_f hP hS ((p + 1))) k
    have k := ly_revb 2 (c' := (if (f ((p + 1))) = x then 34 else 38, [(0, .ref Rd), (1, .int (x))], [], me_w M J)) rfl k
    by_cases h31 : (f ((p + 1))) = x
    · rw [if_pos (show (f ((p + 1))) = x from h31)] at k
      have k := ly_revb 2 (c' := (39, [(0, .ref Rd), (1, .int (x))], [.int (Int32.ofInt 1)], me_w M J)) rfl k
      have k := lz_ri rfl (by decide) k
      exact ⟨_, k, Or.inl ⟨rfl, by omega, h31⟩⟩
    · rw [if_neg (show ¬ ((f ((p + 1))) = x) from h31)] at k
      have k := ly_revb 1 (c' := (39, [(0, .ref Rd), (1, .int (x))], [.int (Int32.ofInt 0)], me_w M J)) rfl k
      have k := lz_ri rfl (by decide) k
      exact ⟨_, k, Or.inr ⟨rfl, fun c => h31 c.2⟩⟩
theorem lc_skl {X : nt_X} {d t Rd Tp By RR Sp : Nat} {f : Nat → Int32} {M : nt_M} {J0 : Nat → Nat → Int32} {o : Option Value × nt_M} {m : Nat} {fa x : Int32} {s : Nat × (Nat → Int32)} (hP : lc_P M J0 f t Rd Tp By RR Sp) : ∀ (c p : Nat) (J : Nat → Nat → Int32), p + c = t → lc_S J0 Rd RR Sp p fa m s J → nt_rn X d 29 (20, [(0, .ref Rd), (1, .int x)], [], me_w M J) o → o = (none, me_w M (nt_u J Rd 1 (nI (lb_s f t p)))) := by
  have t4 : t ≤ 400 := hP.2.2.2.2.1
  intro c
  induction c with
  | zero =>
    intro p J hc hS k
    have k := ly_revb 1 (c' := (21, [(0, .ref Rd), (1, .int (x))], [.ref Rd], me_w M J)) rfl k
    have k := lz_get (a := Rd) (g := 201) (M := me_w M J) (v := .int (nI p)) rfl (congrArg Value.int (hS.1)) k
    have k := ly_revb 1 (c' := (25, [(0, .ref Rd), (1, .int (x))], [.ref Rd, .int (nI p)], me_w M J)) rfl k
    have k := lz_get (a := Rd) (g := 200) (M := me_w M J) (v := .ref Tp) rfl (nt_gfR rfl hP.1.1) k
    have k := lz_get (a := Tp) (g := 701) (M := me_w M J) (v := .int (nI t)) rfl (congrArg Value.int (lc_t hP hS)) k
    have k := ly_revb 1 (c' := (if (nI t) ≤ (nI p) then 64 else 34, [(0, .ref Rd), (1, .int (x))], [], me_w M J)) rfl k
    rw [if_pos (show (nI t) ≤ (nI p) from nI_le (by omega) (by omega))] at k
    have k := lz_rv rfl rfl k
    rw [k, lb_s0 (by omega), me_ui hS.1]
  | succ c ih =>
    intro p J hc hS k
    have k := ly_revb 1 (c' := (21, [(0, .ref Rd), (1, .int (x))], [.ref Rd], me_w M J)) rfl k
    have k := lz_get (a := Rd) (g := 201) (M := me_w M J) (v := .int (nI p)) rfl (congrArg Value.int (hS.1)) k
    have k := ly_revb 1 (c' := (25, [(0, .ref Rd), (1, .int (x))], [.ref Rd, .int (nI p)], me_w M J)) rfl k
    have k := lz_get (a := Rd) (g := 200) (M := me_w M J) (v := .ref Tp) rfl (nt_gfR rfl hP.1.1) k
    have k := lz_get (a := Tp) (g := 701) (M := me_w M J) (v := .int (nI t)) rfl (congrArg Value.int (lc_t hP hS)) k
    have k := ly_revb 1 (c' := (if (nI t) ≤ (nI p) then 64 else 34, [(0, .ref Rd), (1, .int (x))], [], me_w M J)) rfl k
    rw [if_neg (show ¬ ((nI t) ≤ (nI p)) from nI_ge (by omega) (by omega))] at k
    have k := ly_revb 1 (c' := (35, [(0, .ref Rd), (1, .int (x))], [.ref Rd], me_w M J)) rfl k
    have k := lz_get (a := Rd) (g := 200) (M := me_w M J) (v := .ref Tp) rfl (nt_gfR rfl hP.1.1) k
    have k := lz_get (a := Tp) (g := 700) (M := me_w M J) (v := .ref By) rfl (nt_gfR rfl hP.1.2.1) k
    have k := ly_revb 1 (c' := (42, [(0, .ref Rd), (1, .int (x))], [.ref Rd, .ref By], me_w M J)) rfl k
    have k := lz_get (a := Rd) (g := 201) (M := me_w M J) (v := .int (nI p)) rfl (congrArg Value.int (hS.1)) k
    have k := me_bald (q := p) (v := f p) rfl (rfl) (by omega) (lc_f hP hS p) k
    have k := ly_revb 2 (c' := (if (f p) = (Int32.ofInt 32) then 51 else 64, [(0, .ref Rd), (1, .int (x))], [], me_w M J)) rfl k
    by_cases h48 : (f p) = (Int32.ofInt 32)
    · rw [if_pos (show (f p) = (Int32.ofInt 32) from h48)] at k
      have k := ly_revb 2 (c' := (53, [(0, .ref Rd), (1, .int (x))], [.ref Rd, .ref Rd], me_w M J)) rfl k
      have k := lz_get (a := Rd) (g := 201) (M := me_w M J) (v := .int (nI p)) rfl (congrArg Value.int (hS.1)) k
      have k := ly_revb 2 (c' := (58, [(0, .ref Rd), (1, .int (x))], [.int ((nI p) + (Int32.ofInt 1)), .ref Rd], me_w M J)) rfl k
      rw [show ((nI p) + (Int32.ofInt 1) : Int32) = nI (p + 1) from me_add (k := 1)] at k
      have k := me_put rfl (by decide) k
      have k : nt_rn X _ 29 (61, [(0, .ref Rd), (1, .int (x))], [], me_w M (nt_u J Rd 1 (nI (p + 1)))) _ := k
      have k := ly_revb 1 (c' := (20, [(0, .ref Rd), (1, .int (x))], [], me_w M (nt_u J Rd 1 (nI (p + 1))))) rfl k
      have k := ih (p + 1) _ (by omega) (lc_Spp hP hS) k
      rw [k, lb_s1 ⟨by omega, h48⟩, me_uu]
    · rw [if_neg (show ¬ ((f p) = (Int32.ofInt 32)) from h48)] at k
      have k := lz_rv rfl rfl k
      rw [k, lb_s0 (by intro c; exact h48 c.2), me_ui hS.1]
theorem lc_skip {X : nt_X} {d t Rd Tp By RR Sp : Nat} {f : Nat → Int32} {M : nt_M} {J0 J : Nat → Nat → Int32} {o : Option Value × nt_M} {p m : Nat} {fa : Int32} {s : Nat × (Nat → Int32)} {b : Nat} (hP : lc_P M J0 f t Rd Tp By RR Sp) (hS : lc_S J0 Rd RR Sp p fa m s J) (hp : p ≤ t) (hb : b ≤ 400) (k : nt_ev X d 29 [.ref Rd, .int (nI b)] (me_w M J) o) : o = (none, me_w M (nt_u J Rd 1 (nI (lb_s f t (min (p + b) t))))) := by
  have k : nt_rn X d 29 (0, [(0, .ref Rd), (1, .int (nI b))], [], me_w M J) o := k
  have t4 : t ≤ 400 := hP.2.2.2.2.1
  have k := ly_revb 2 (c' := (2, [(0, .ref Rd), (1, .int (nI b))], [.ref Rd, .ref Rd], me_w M J)) rfl k
  have k := lz_get (a := Rd) (g := 201) (M := me_w M J) (v := .int (nI p)) rfl (congrArg Value.int (hS.1)) k
  have k := ly_revb 2 (c' := (7, [(0, .ref Rd), (1, .int (nI b))], [.int ((nI p) + (nI b)), .ref Rd], me_w M J)) rfl k
  rw [show ((nI p) + (nI b) : Int32) = nI (p + b) from me_addn] at k
  have k := ly_revb 1 (c' := (8, [(0, .ref Rd), (1, .int (nI b))], [.ref Rd, .int (nI (p + b)), .ref Rd], me_w M J)) rfl k
  have k := lz_get (a := Rd) (g := 200) (M := me_w M J) (v := .ref Tp) rfl (nt_gfR rfl hP.1.1) k
  have k := lz_get (a := Tp) (g := 701) (M := me_w M J) (v := .int (nI t)) rfl (congrArg Value.int (lc_t hP hS)) k
  have k := me_min (a := (p + b)) (b := t) (by omega) (by omega) rfl k
  have k := me_put rfl (by decide) k
  have k : nt_rn X _ 29 (20, [(0, .ref Rd), (1, .int (nI b))], [], me_w M (nt_u J Rd 1 (nI (min ((p + b)) t)))) _ := k
  have k := lc_skl hP (t - min (p + b) t) (min (p + b) t) _ (by omega) (lc_Spp hP hS) k
  rw [k, me_uu]
theorem lc_dgl {X : nt_X} {d t Rd Tp By RR Sp : Nat} {f : Nat → Int32} {M : nt_M} {J0 J : Nat → Nat → Int32} {o : Option Value × nt_M} {p m : Nat} {fa : Int32} {s : Nat × (Nat → Int32)} (hP : lc_P M J0 f t Rd Tp By RR Sp) (hS : lc_S J0 Rd RR Sp p fa m s J) (hp : p ≤ t) : ∀ (c i : Nat), p ≤ i → i + c = t → nt_rn X d 33 (5, [(1, .int (nI i)), (0, .ref Rd)], [], me_w M J) o → o = (some (.int (nI (i + lb_d f t i - p))), me_w M J) := by
  have t4 : t ≤ 400 := hP.2.2.2.2.1
  intro c
  induction c with
  | zero =>
    intro i hi hc k
    have k := ly_revb 2 (c' := (7, [(1, .int (nI i)), (0, .ref Rd)], [.ref Rd, .int (nI i)], me_w M J)) rfl k
    have k := lz_get (a := Rd) (g := 200) (M := me_w M J) (v := .ref Tp) rfl (nt_gfR rfl hP.1.1) k
    have k := lz_get (a := Tp) (g := 701) (M := me_w M J) (v := .int (nI t)) rfl (congrArg Value.int (lc_t hP hS)) k
    have k := ly_revb 1 (c' := (if (nI t) ≤ (nI i) then 50 else 16, [(1, .int (nI i)), (0, .ref Rd)], [], me_w M J)) rfl k
    rw [if_pos (show (nI t) ≤ (nI i) from nI_le (by omega) (by omega))] at k
    have k := ly_revb 2 (c' := (52, [(1, .int (nI i)), (0, .ref Rd)], [.ref Rd, .int (nI i)], me_w M J)) rfl k
    have k := lz_get (a := Rd) (g := 201) (M := me_w M J) (v := .int (nI p)) rfl (congrArg Value.int (hS.1)) k
    have k := ly_revb 1 (c' := (56, [(1, .int (nI i)), (0, .ref Rd)], [.int ((nI i) - (nI p))], me_w M J)) rfl k
    rw [show ((nI i) - (nI p) : Int32) = nI (i - p) from me_subn (by omega)] at k
    have k := lz_ri rfl (by decide) k
    rw [k, lb_d0 (by omega)]
    rfl
  | succ c ih =>
    intro i hi hc k
    have k := ly_revb 2 (c' := (7, [(1, .int (nI i)), (0, .ref Rd)], [.ref Rd, .int (nI i)], me_w M J)) rfl k
    have k := lz_get (a := Rd) (g := 200) (M := me_w M J) (v := .ref Tp) rfl (nt_gfR rfl hP.1.1) k
    have k := lz_get (a := Tp) (g := 701) (M := me_w M J) (v := .int (nI t)) rfl (congrArg Value.int (lc_t hP hS)) k
    have k := ly_revb 1 (c' := (if (nI t) ≤ (nI i) then 50 else 16, [(1, .int (nI i)), (0, .ref Rd)], [], me_w M J)) rfl k
    rw [if_neg (show ¬ ((nI t) ≤ (nI i)) from nI_ge (by omega) (by omega))] at k
    have k := ly_revb 1 (c' := (17, [(1, .int (nI i)), (0, .ref Rd)], [.ref Rd], me_w M J)) rfl k
    have k := lz_get (a := Rd) (g := 200) (M := me_w M J) (v := .ref Tp) rfl (nt_gfR rfl hP.1.1) k
    have k := lz_get (a := Tp) (g := 700) (M := me_w M J) (v := .ref By) rfl (nt_gfR rfl hP.1.2.1) k
    have k := ly_revb 1 (c' := (24, [(1, .int (nI i)), (0, .ref Rd)], [.int (nI i), .ref By], me_w M J)) rfl k
    have k := me_bald (q := i) (v := f i) rfl (rfl) (by omega) (lc_f hP hS i) k
    have k := ly_revb 2 (c' := (if (f i) < (Int32.ofInt 48) then 50 else 30, [(1, .int (nI i)), (0, .ref Rd)], [], me_w M J)) rfl k
    by_cases h27 : (f i) < (Int32.ofInt 48)
    · rw [if_pos (show (f i) < (Int32.ofInt 48) from h27)] at k
      have k := ly_revb 2 (c' := (52, [(1, .int (nI i)), (0, .ref Rd)], [.ref Rd, .int (nI i)], me_w M J)) rfl k
      have k := lz_get (a := Rd) (g := 201) (M := me_w M J) (v := .int (nI p)) rfl (congrArg Value.int (hS.1)) k
      have k := ly_revb 1 (c' := (56, [(1, .int (nI i)), (0, .ref Rd)], [.int ((nI i) - (nI p))], me_w M J)) rfl k
      rw [show ((nI i) - (nI p) : Int32) = nI (i - p) from me_subn (by omega)] at k
      have k := lz_ri rfl (by decide) k
      rw [k, lb_d0 (fun c => absurd c.2.1 (me_nle h27))]
      rfl
    · rw [if_neg (show ¬ ((f i) < (Int32.ofInt 48)) from h27)] at k
      have k := ly_revb 1 (c' := (31, [(1, .int (nI i)), (0, .ref Rd)], [.ref Rd], me_w M J)) rfl k
      have k := lz_get (a := Rd) (g := 200) (M := me_w M J) (v := .ref Tp) rfl (nt_gfR rfl hP.1.1) k
      have k := lz_get (a := Tp) (g := 700) (M := me_w M J) (v := .ref By) rfl (nt_gfR rfl hP.1.2.1) k
      have k := ly_revb 1 (c' := (38, [(1, .int (nI i)), (0, .ref Rd)], [.int (nI i), .ref By], me_w M J)) rfl k
      have k := me_bald (q := i) (v := f i) rfl (rfl) (by omega) (lc_f hP hS i) k
      have k := ly_revb 2 (c' := (if (Int32.ofInt 57) < (f i) then 50 else 44, [(1, .int (nI i)), (0, .ref Rd)], [], me_w M J)) rfl k
      by_cases h41 : (Int32.ofInt 57) < (f i)
      · rw [if_pos (show (Int32.ofInt 57) < (f i) from h41)] at k
        have k := ly_revb 2 (c' := (52, [(1, .int (nI i)), (0, .ref Rd)], [.ref Rd, .int (nI i)], me_w M J)) rfl k
        have k := lz_get (a := Rd) (g := 201) (M := me_w M J) (v := .int (nI p)) rfl (congrArg Value.int (hS.1)) k
        have k := ly_revb 1 (c' := (56, [(1, .int (nI i)), (0, .ref Rd)], [.int ((nI i) - (nI p))], me_w M J)) rfl k
        rw [show ((nI i) - (nI p) : Int32) = nI (i - p) from me_subn (by omega)] at k
        have k := lz_ri rfl (by decide) k
        rw [k, lb_d0 (fun c => absurd c.2.2 (me_nle h41))]
        rfl
      · rw [if_neg (show ¬ ((Int32.ofInt 57) < (f i)) from h41)] at k
        have k := ly_revb 1 (c' := (47, [(1, .int ((nI i) + Int32.ofInt 1)), (0, .ref Rd)], [], me_w M J)) rfl k
        rw [show ((nI i) + Int32.ofInt 1 : Int32) = nI (i + 1) from me_add (k := 1)] at k
        have k := ly_revb 1 (c' := (5, [(1, .int (nI (i + 1))), (0, .ref Rd)], [], me_w M J)) rfl k
        have k := ih (i + 1) (by omega) (by omega) k
        rw [k, lb_d1 ⟨by omega, me_le h27, me_le h41⟩, show i + 1 + lb_d f t (i + 1) - p = i + (lb_d f t (i + 1) + 1) - p from by omega]
theorem lc_digits {X : nt_X} {d t Rd Tp By RR Sp : Nat} {f : Nat → Int32} {M : nt_M} {J0 J : Nat → Nat → Int32} {o : Option Value × nt_M} {p m : Nat} {fa : Int32} {s : Nat × (Nat → Int32)}  (hP : lc_P M J0 f t Rd Tp By RR Sp) (hS : lc_S J0 Rd RR Sp p fa m s J) (hp : p ≤ t) (k : nt_ev X d 33 [.ref Rd] (me_w M J) o) : o = (some (.int (nI (lb_d f t p))), me_w M J) := by
  have k : nt_rn X d 33 (0, [(0, .ref Rd)], [], me_w M J) o := k
  have t4 : t ≤ 400 := hP.2.2.2.2.1
  have k := ly_revb 1 (c' := (1, [(0, .ref Rd)], [.ref Rd], me_w M J)) rfl k
  have k := lz_get (a := Rd) (g := 201) (M := me_w M J) (v := .int (nI p)) rfl (congrArg Value.int (hS.1)) k
  have k := ly_revb 1 (c' := (5, [(1, .int (nI p)), (0, .ref Rd)], [], me_w M J)) rfl k
  have k := lc_dgl hP hS hp (t - p) p (Nat.le_refl _) (by omega) k
  rw [k, show p + lb_d f t p - p = lb_d f t p from by omega]
theorem lc_takes {X : nt_X} {d t Rd Tp By RR Sp : Nat} {f : Nat → Int32} {M : nt_M} {J0 J : Nat → Nat → Int32} {o : Option Value × nt_M} {p m : Nat} {fa : Int32} {s : Nat × (Nat → Int32)} {x : Int32} (hP : lc_P M J0 f t Rd Tp By RR Sp) (hS : lc_S J0 Rd RR Sp p fa m s J) (hp : p ≤ t) (k : nt_ev X d 36 [.ref Rd, .int (x)] (me_w M J) o) : lb_g f t p = x ∧ o = (some (.int (Int32.ofInt 1)), me_w M (nt_u J Rd 1 (nI (lb_s f t (min (p + 1) t))))) ∨ ¬ lb_g f t p = x ∧ o = (some (.int (Int32.ofInt 0)), me_w M J) := by
  have k : nt_rn X d 36 (0, [(0, .ref Rd), (1, .int (x))], [], me_w M J) o := k
  have t4 : t ≤ 400 := hP.2.2.2.2.1
  have k := ly_revb 1 (c' := (1, [(0, .ref Rd), (1, .int (x))], [.ref Rd], me_w M J)) rfl k
  obtain ⟨d1, o1, ed, kc, k⟩ := lz_c (g := 37) (q := 1) (vs := [.ref Rd]) (rest := []) rfl rfl (by decide) (Or.inr (Or.inl ⟨_, rfl, rfl⟩)) rfl k
  have e := lc_sign hP hS hp kc
  subst e
  have k : nt_rn X _ 36 (4, [(0, .ref Rd), (1, .int (x))], [.int (lb_g f t p)], me_w M J) _ := k
  have k := ly_revb 2 (c' := (if (lb_g f t p) = x then 10 else 8, [(0, .ref Rd), (1, .int (x))], [], me_w M J)) rfl k
  by_cases h5 : (lb_g f t p) = x
  · rw [if_pos (show (lb_g f t p) = x from h5)] at k
    have k := ly_revb 2 (c' := (12, [(0, .ref Rd), (1, .int (x))], [.int (Int32.ofInt 1), .ref Rd], me_w M J)) rfl k
    obtain ⟨d1, o1, ed, kc, k⟩ := lz_c (g := 29) (q := 1) (vs := [.ref Rd, .int (Int32.ofInt 1)]) (rest := []) rfl rfl (by decide) (Or.inr (Or.inl ⟨_, rfl, rfl⟩)) rfl k
    have e := lc_skip (b := 1) hP hS hp (by omega) kc
    subst e
    have k : nt_rn X _ 36 (15, [(0, .ref Rd), (1, .int (x))], [], me_w M (nt_u J Rd 1 (nI (lb_s f t (min (p + 1) t))))) _ := k
    have k := ly_revb 1 (c' := (16, [(0, .ref Rd), (1, .int (x))], [.int (Int32.ofInt 1)], me_w M (nt_u J Rd 1 (nI (lb_s f t (min (p + 1) t)))))) rfl k
    have k := lz_ri rfl (by decide) k
    exact Or.inl ⟨h5, k⟩
  · rw [if_neg (show ¬ ((lb_g f t p) = x) from h5)] at k
    have k := ly_revb 1 (c' := (9, [(0, .ref Rd), (1, .int (x))], [.int (Int32.ofInt 0)], me_w M J)) rfl k
    have k := lz_ri rfl (by decide) k
    exact Or.inr ⟨h5, k⟩
theorem lc_fail {X : nt_X} {d t Rd Tp By RR Sp : Nat} {f : Nat → Int32} {M : nt_M} {J0 J : Nat → Nat → Int32} {o : Option Value × nt_M} {p m : Nat} {fa : Int32} {s : Nat × (Nat → Int32)} {x : Int32} (hP : lc_P M J0 f t Rd Tp By RR Sp) (hS : lc_S J0 Rd RR Sp p fa m s J) (hp : p ≤ t) (k : nt_ev X d 31 [.ref Rd, .int (x)] (me_w M J) o) : fa = 0 ∧ o = (none, me_w M (nt_u (nt_u J Rd 2 (Int32.ofInt 1 + Int32.ofInt 8 * nI p + x)) Rd 1 (nI t))) ∨ ¬ fa = 0 ∧ o = (none, me_w M (nt_u J Rd 1 (nI t))) := by
  have k : nt_rn X d 31 (0, [(0, .ref Rd), (1, .int (x))], [], me_w M J) o := k
  have t4 : t ≤ 400 := hP.2.2.2.2.1
  have k := ly_revb 1 (c' := (1, [(0, .ref Rd), (1, .int (x))], [.ref Rd], me_w M J)) rfl k
  have k := lz_get (a := Rd) (g := 202) (M := me_w M J) (v := .int (fa)) rfl (congrArg Value.int (hS.2.1)) k
  have k := ly_revb 1 (c' := (if fa = 0 then 7 else 22, [(0, .ref Rd), (1, .int (x))], [], me_w M J)) rfl k
  by_cases h4 : fa = 0
  · rw [if_pos (show fa = 0 from h4)] at k
    have k := ly_revb 4 (c' := (12, [(0, .ref Rd), (1, .int (x))], [.ref Rd, .int (Int32.ofInt 8), .int (Int32.ofInt 1), .ref Rd], me_w M J)) rfl k
    have k := lz_get (a := Rd) (g := 201) (M := me_w M J) (v := .int (nI p)) rfl (congrArg Value.int (hS.1)) k
    have k := ly_revb 4 (c' := (19, [(0, .ref Rd), (1, .int (x))], [.int (((Int32.ofInt 1) + ((Int32.ofInt 8) * (nI p))) + x), .ref Rd], me_w M J)) rfl k
    have k := me_put rfl (by decide) k
    have k : nt_rn X _ 31 (22, [(0, .ref Rd), (1, .int (x))], [], me_w M (nt_u J Rd 2 (((Int32.ofInt 1) + ((Int32.ofInt 8) * (nI p))) + x))) _ := k
    have k := ly_revb 2 (c' := (24, [(0, .ref Rd), (1, .int (x))], [.ref Rd, .ref Rd], me_w M (nt_u J Rd 2 (((Int32.ofInt 1) + ((Int32.ofInt 8) * (nI p))) + x)))) rfl k
    have k := lz_get (a := Rd) (g := 200) (M := me_w M (nt_u J Rd 2 (((Int32.ofInt 1) + ((Int32.ofInt 8) * (nI p))) + x))) (v := .ref Tp) rfl (nt_gfR rfl hP.1.1) k
    have k := lz_get (a := Tp) (g := 701) (M := me_w M (nt_u J Rd 2 (((Int32.ofInt 1) + ((Int32.ofInt 8) * (nI p))) + x))) (v := .int (nI t)) rfl (congrArg Value.int ((me_uj (hP.2.1.1)).trans (lc_t hP hS))) k
    have k := me_put rfl (by decide) k
    have k : nt_rn X _ 31 (33, [(0, .ref Rd), (1, .int (x))], [], me_w M (nt_u (nt_u J Rd 2 (((Int32.ofInt 1) + ((Int32.ofInt 8) * (nI p))) + x)) Rd 1 (nI t))) _ := k
    have k := lz_rv rfl rfl k
    exact Or.inl ⟨h4, k⟩
  · rw [if_neg (show ¬ (fa = 0) from h4)] at k
    have k := ly_revb 2 (c' := (24, [(0, .ref Rd), (1, .int (x))], [.ref Rd, .ref Rd], me_w M J)) rfl k
    have k := lz_get (a := Rd) (g := 200) (M := me_w M J) (v := .ref Tp) rfl (nt_gfR rfl hP.1.1) k
    have k := lz_get (a := Tp) (g := 701) (M := me_w M J) (v := .int (nI t)) rfl (congrArg Value.int (lc_t hP hS)) k
    have k := me_put rfl (by decide) k
    have k : nt_rn X _ 31 (33, [(0, .ref Rd), (1, .int (x))], [], me_w M (nt_u J Rd 1 (nI t))) _ := k
    have k := lz_rv rfl rfl k
    exact Or.inr ⟨h4, k⟩
theorem lc_atl {X : nt_X} {d t Rd Tp By RR Sp a : Nat} {f : Nat → Int32} {M : nt_M} {J0 J : Nat → Nat → Int32} {o : Option Value × nt_M} {p m : Nat} {fa : Int32} {s : Nat × (Nat → Int32)} (hP : lc_P M J0 f t Rd Tp By RR Sp) (hS : lc_S J0 Rd RR Sp p fa m s J) (hl : p + (lb_W a).length ≤ t) : ∀ (c i : Nat), i + c = (lb_W a).length → (∀ j, j < i → f (p + j) = (lb_W a).getD j 0) → nt_rn X d 30 (28, [(3, .int (nI (p + i))), (2, .int (nI (p + (lb_W a).length))), (0, .ref Rd), (1, .ref a)], [], me_w M J) o → ∃ r, o = (some (.int r), me_w M J) ∧ (r = Int32.ofInt 1 ∧ lb_at f t (lb_W a) p ∨ r = Int32.ofInt 0 ∧ ¬ lb_at f t (lb_W a) p) := by
  have t4 : t ≤ 400 := hP.2.2.2.2.1
  intro c
  induction c with
  | zero =>
    intro i hc hj k
    have k := ly_revb 3 (c' := (if (nI (p + (lb_W a).length)) ≤ (nI (p + i)) then 63 else 33, [(3, .int (nI (p + i))), (2, .int (nI (p + (lb_W a).length))), (0, .ref Rd), (1, .ref a)], [], me_w M J)) rfl k
    rw [if_pos (show (nI (p + (lb_W a).length)) ≤ (nI (p + i)) from nI_le (by omega) (by omega))] at k
    have k := ly_revb 2 (c' := (65, [(3, .int (nI (p + i))), (2, .int (nI (p + (lb_W a).length))), (0, .ref Rd), (1, .ref a)], [.ref Rd, .int (nI (p + (lb_W a).length))], me_w M J)) rfl k
    have k := lz_get (a := Rd) (g := 200) (M := me_w M J) (v := .ref Tp) rfl (nt_gfR rfl hP.1.1) k
    have k := lz_get (a := Tp) (g := 701) (M := me_w M J) (v := .int (nI t)) rfl (congrArg Value.int (lc_t hP hS)) k
    have k := ly_revb 1 (c' := (if (nI (p + (lb_W a).length)) = (nI t) then 102 else 74, [(3, .int (nI (p + i))), (2, .int (nI (p + (lb_W a).length))), (0, .ref Rd), (1, .ref a)], [], me_w M J)) rfl k
    by_cases h71 : (p + (lb_W a).length) = t
    · rw [if_pos (show (nI (p + (lb_W a).length)) = (nI t) from show nI ((p + (lb_W a).length)) = nI t from congrArg nI h71)] at k
      have k := ly_revb 2 (c' := (107, [(3, .int (nI (p + i))), (2, .int (nI (p + (lb_W a).length))), (0, .ref Rd), (1, .ref a)], [.int (Int32.ofInt 1)], me_w M J)) rfl k
      have k := lz_ri rfl (by decide) k
      exact ⟨_, k, Or.inl ⟨rfl, hl, fun j h => hj j (by omega), fun c => absurd c.1 (by omega)⟩⟩
    · rw [if_neg (show ¬ ((nI (p + (lb_W a).length)) = (nI t)) from show ¬ nI ((p + (lb_W a).length)) = nI t from me_ne h71 (by omega) (by omega))] at k
      have k := ly_revb 1 (c' := (75, [(3, .int (nI (p + i))), (2, .int (nI (p + (lb_W a).length))), (0, .ref Rd), (1, .ref a)], [.ref Rd], me_w M J)) rfl k
      have k := lz_get (a := Rd) (g := 200) (M := me_w M J) (v := .ref Tp) rfl (nt_gfR rfl hP.1.1) k
      have k := lz_get (a := Tp) (g := 700) (M := me_w M J) (v := .ref By) rfl (nt_gfR rfl hP.1.2.1) k
      have k := ly_revb 1 (c' := (82, [(3, .int (nI (p + i))), (2, .int (nI (p + (lb_W a).length))), (0, .ref Rd), (1, .ref a)], [.int (nI (p + (lb_W a).length)), .ref By], me_w M J)) rfl k
      have k := me_bald (q := (p + (lb_W a).length)) (v := f ((p + (lb_W a).length))) rfl (rfl) (by omega) (lc_f hP hS ((p + (lb_W a).length))) k
      have k := ly_revb 2 (c' := (if (f ((p + (lb_W a).length))) < (Int32.ofInt 97) then 102 else 88, [(3, .int (nI (p + i))), (2, .int (nI (p + (lb_W a).length))), (0, .ref Rd), (1, .ref a)], [], me_w M J)) rfl k
      by_cases h85 : (f ((p + (lb_W a).length))) < (Int32.ofInt 97)
      · rw [if_pos (show (f ((p + (lb_W a).length))) < (Int32.ofInt 97) from h85)] at k
        have k := ly_revb 2 (c' := (107, [(3, .int (nI (p + i))), (2, .int (nI (p + (lb_W a).length))), (0, .ref Rd), (1, .ref a)], [.int (Int32.ofInt 1)], me_w M J)) rfl k
        have k := lz_ri rfl (by decide) k
        exact ⟨_, k, Or.inl ⟨rfl, hl, fun j h => hj j (by omega), fun c => absurd c.2.1 (me_nle h85)⟩⟩
      · rw [if_neg (show ¬ ((f ((p + (lb_W a).length))) < (Int32.ofInt 97)) from h85)] at k
        have k := ly_revb 1 (c' := (89, [(3, .int (nI (p + i))), (2, .int (nI (p + (lb_W a).length))), (0, .ref Rd), (1, .ref a)], [.ref Rd], me_w M J)) rfl k
        have k := lz_get (a := Rd) (g := 200) (M := me_w M J) (v := .ref Tp) rfl (nt_gfR rfl hP.1.1) k
        have k := lz_get (a := Tp) (g := 700) (M := me_w M J) (v := .ref By) rfl (nt_gfR rfl hP.1.2.1) k
        have k := ly_revb 1 (c' := (96, [(3, .int (nI (p + i))), (2, .int (nI (p + (lb_W a).length))), (0, .ref Rd), (1, .ref a)], [.int (nI (p + (lb_W a).length)), .ref By], me_w M J)) rfl k
        have k := me_bald (q := (p + (lb_W a).length)) (v := f ((p + (lb_W a).length))) rfl (rfl) (by omega) (lc_f hP hS ((p + (lb_W a).length))) k
        have k := ly_revb 2 (c' := (if (f ((p + (lb_W a).length))) ≤ (Int32.ofInt 122) then 106 else 102, [(3, .int (nI (p + i))), (2, .int (nI (p + (lb_W a).length))), (0, .ref Rd), (1, .ref a)], [], me_w M J)) rfl k
        by_cases h99 : (f ((p + (lb_W a).length))) ≤ (Int32.ofInt 122)
        · rw [if_pos (show (f ((p + (lb_W a).length))) ≤ (Int32.ofInt 122) from h99)] at k
          have k := ly_revb 1 (c' := (107, [(3, .int (nI (p + i))), (2, .int (nI (p + (lb_W a).length))), (0, .ref Rd), (1, .ref a)], [.int (Int32.ofInt 0)], me_w M J)) rfl k
          have k := lz_ri rfl (by decide) k
          exact ⟨_, k, Or.inr ⟨rfl, fun c => c.2.2 ⟨by omega, me_le h85, h99⟩⟩⟩
        · rw [if_neg (show ¬ ((f ((p + (lb_W a).length))) ≤ (Int32.ofInt 122)) from h99)] at k
          have k := ly_revb 2 (c' := (107, [(3, .int (nI (p + i))), (2, .int (nI (p + (lb_W a).length))), (0, .ref Rd), (1, .ref a)], [.int (Int32.ofInt 1)], me_w M J)) rfl k
          have k := lz_ri rfl (by decide) k
          exact ⟨_, k, Or.inl ⟨rfl, hl, fun j h => hj j (by omega), fun c => absurd c.2.2 h99⟩⟩
  | succ c ih =>
    intro i hc hj k
    have k := ly_revb 3 (c' := (if (nI (p + (lb_W a).length)) ≤ (nI (p + i)) then 63 else 33, [(3, .int (nI (p + i))), (2, .int (nI (p + (lb_W a).length))), (0, .ref Rd), (1, .ref a)], [], me_w M J)) rfl k
    rw [if_neg (show ¬ ((nI (p + (lb_W a).length)) ≤ (nI (p + i))) from nI_ge (by omega) (by omega))] at k
    have k := ly_revb 1 (c' := (34, [(3, .int (nI (p + i))), (2, .int (nI (p + (lb_W a).length))), (0, .ref Rd), (1, .ref a)], [.ref Rd], me_w M J)) rfl k
    have k := lz_get (a := Rd) (g := 200) (M := me_w M J) (v := .ref Tp) rfl (nt_gfR rfl hP.1.1) k
    have k := lz_get (a := Tp) (g := 700) (M := me_w M J) (v := .ref By) rfl (nt_gfR rfl hP.1.2.1) k
    have k := ly_revb 1 (c' := (41, [(3, .int (nI (p + i))), (2, .int (nI (p + (lb_W a).length))), (0, .ref Rd), (1, .ref a)], [.int (nI (p + i)), .ref By], me_w M J)) rfl k
    have k := me_bald (q := (p + i)) (v := f ((p + i))) rfl (rfl) (by omega) (lc_f hP hS ((p + i))) k
    have k := ly_revb 3 (c' := (45, [(3, .int (nI (p + i))), (2, .int (nI (p + (lb_W a).length))), (0, .ref Rd), (1, .ref a)], [.ref Rd, .int (nI (p + i)), .ref a, .int (f ((p + i)))], me_w M J)) rfl k
    have k := lz_get (a := Rd) (g := 201) (M := me_w M J) (v := .int (nI p)) rfl (congrArg Value.int (hS.1)) k
    have k := ly_revb 1 (c' := (49, [(3, .int (nI (p + i))), (2, .int (nI (p + (lb_W a).length))), (0, .ref Rd), (1, .ref a)], [.int ((nI (p + i)) - (nI p)), .ref a, .int (f ((p + i)))], me_w M J)) rfl k
    rw [show ((nI (p + i)) - (nI p) : Int32) = nI i from (me_subn (by omega)).trans (congrArg nI (by omega))] at k
    have k := me_char (q := i) rfl (by omega) k
    have k := ly_revb 1 (c' := (if (f ((p + i))) = ((lb_W a).getD i 0) then 57 else 55, [(3, .int (nI (p + i))), (2, .int (nI (p + (lb_W a).length))), (0, .ref Rd), (1, .ref a)], [], me_w M J)) rfl k
    by_cases h52 : f (p + i) = (lb_W a).getD i 0
    · rw [if_pos (show (f ((p + i))) = ((lb_W a).getD i 0) from h52)] at k
      have k := ly_revb 1 (c' := (60, [(3, .int ((nI (p + i)) + Int32.ofInt 1)), (2, .int (nI (p + (lb_W a).length))), (0, .ref Rd), (1, .ref a)], [], me_w M J)) rfl k
      rw [show ((nI (p + i)) + Int32.ofInt 1 : Int32) = nI (p + (i + 1)) from me_add (k := 1)] at k
      have k := ly_revb 1 (c' := (28, [(3, .int (nI (p + (i + 1)))), (2, .int (nI (p + (lb_W a).length))), (0, .ref Rd), (1, .ref a)], [], me_w M J)) rfl k
      refine ih (i + 1) (by omega) (fun j h => ?_) k
      by_cases c2 : j = i
      · rw [c2]; exact h52
      · exact hj j (by omega)
    · rw [if_neg (show ¬ ((f ((p + i))) = ((lb_W a).getD i 0)) from h52)] at k
      have k := ly_revb 1 (c' := (56, [(3, .int (nI (p + i))), (2, .int (nI (p + (lb_W a).length))), (0, .ref Rd), (1, .ref a)], [.int (Int32.ofInt 0)], me_w M J)) rfl k
      have k := lz_ri rfl (by decide) k
      exact ⟨_, k, Or.inr ⟨rfl, fun c => h52 (c.2.1 i (by omega))⟩⟩
theorem lc_isAt {X : nt_X} {d t Rd Tp By RR Sp : Nat} {f : Nat → Int32} {M : nt_M} {J0 J : Nat → Nat → Int32} {o : Option Value × nt_M} {p m : Nat} {fa : Int32} {s : Nat × (Nat → Int32)} {a : Nat} (hP : lc_P M J0 f t Rd Tp By RR Sp) (hS : lc_S J0 Rd RR Sp p fa m s J) (hp : p ≤ t) (k : nt_ev X d 30 [.ref Rd, .ref a] (me_w M J) o) : ∃ r, o = (some (.int r), me_w M J) ∧ (r = Int32.ofInt 1 ∧ lb_at f t (lb_W a) p ∨ r = Int32.ofInt 0 ∧ ¬ lb_at f t (lb_W a) p) := by
  have k : nt_rn X d 30 (0, [(0, .ref Rd), (1, .ref a)], [], me_w M J) o := k
  have t4 : t ≤ 400 := hP.2.2.2.2.1
  have k := ly_revb 1 (c' := (1, [(0, .ref Rd), (1, .ref a)], [.ref Rd], me_w M J)) rfl k
  have k := lz_get (a := Rd) (g := 201) (M := me_w M J) (v := .int (nI p)) rfl (congrArg Value.int (hS.1)) k
  have k := ly_revb 1 (c' := (5, [(0, .ref Rd), (1, .ref a)], [.ref a, .int (nI p)], me_w M J)) rfl k
  obtain ⟨hw4, k⟩ := me_slen rfl k
  have hw5 := lb_W_len (a := a)
  have k := ly_revb 1 (c' := (9, [(0, .ref Rd), (1, .ref a)], [.int ((nI p) + (nI (lb_W a).length))], me_w M J)) rfl k
  rw [show ((nI p) + (nI (lb_W a).length) : Int32) = nI (p + (lb_W a).length) from me_addn] at k
  have k := ly_revb 3 (c' := (12, [(2, .int (nI (p + (lb_W a).length))), (0, .ref Rd), (1, .ref a)], [.ref Rd, .int (nI (p + (lb_W a).length))], me_w M J)) rfl k
  have k := lz_get (a := Rd) (g := 200) (M := me_w M J) (v := .ref Tp) rfl (nt_gfR rfl hP.1.1) k
  have k := lz_get (a := Tp) (g := 701) (M := me_w M J) (v := .int (nI t)) rfl (congrArg Value.int (lc_t hP hS)) k
  have k := ly_revb 1 (c' := (if (nI (p + (lb_W a).length)) ≤ (nI t) then 23 else 21, [(2, .int (nI (p + (lb_W a).length))), (0, .ref Rd), (1, .ref a)], [], me_w M J)) rfl k
  by_cases h18 : (p + (lb_W a).length) ≤ t
  · rw [if_pos (show (nI (p + (lb_W a).length)) ≤ (nI t) from show nI ((p + (lb_W a).length)) ≤ nI t from nI_le h18 (by omega))] at k
    have k := ly_revb 1 (c' := (24, [(2, .int (nI (p + (lb_W a).length))), (0, .ref Rd), (1, .ref a)], [.ref Rd], me_w M J)) rfl k
    have k := lz_get (a := Rd) (g := 201) (M := me_w M J) (v := .int (nI p)) rfl (congrArg Value.int (hS.1)) k
    have k := ly_revb 1 (c' := (28, [(3, .int (nI p)), (2, .int (nI (p + (lb_W a).length))), (0, .ref Rd), (1, .ref a)], [], me_w M J)) rfl k
    exact lc_atl hP hS h18 (lb_W a).length 0 (by omega) (fun j h => absurd h (by omega)) k
  · rw [if_neg (show ¬ ((nI (p + (lb_W a).length)) ≤ (nI t)) from show ¬ nI ((p + (lb_W a).length)) ≤ nI t from nI_ge (Nat.not_le.mp h18) (by omega))] at k
    have k := ly_revb 1 (c' := (22, [(2, .int (nI (p + (lb_W a).length))), (0, .ref Rd), (1, .ref a)], [.int (Int32.ofInt 0)], me_w M J)) rfl k
    have k := lz_ri rfl (by decide) k
    exact ⟨_, k, Or.inr ⟨rfl, fun c => absurd c.1 h18⟩⟩
theorem lc_takesWord {X : nt_X} {d t Rd Tp By RR Sp : Nat} {f : Nat → Int32} {M : nt_M} {J0 J : Nat → Nat → Int32} {o : Option Value × nt_M} {p m : Nat} {fa : Int32} {s : Nat × (Nat → Int32)} {a : Nat} (hP : lc_P M J0 f t Rd Tp By RR Sp) (hS : lc_S J0 Rd RR Sp p fa m s J) (hp : p ≤ t) (k : nt_ev X d 32 [.ref Rd, .ref a] (me_w M J) o) : lb_at f t (lb_W a) p ∧ o = (some (.int (Int32.ofInt 1)), me_w M (nt_u J Rd 1 (nI (lb_s f t (p + (lb_W a).length))))) ∨ ¬ lb_at f t (lb_W a) p ∧ o = (some (.int (Int32.ofInt 0)), me_w M J) := by
  have k : nt_rn X d 32 (0, [(0, .ref Rd), (1, .ref a)], [], me_w M J) o := k
  have t4 : t ≤ 400 := hP.2.2.2.2.1
  have hw5 := lb_W_len (a := a)
  have k := ly_revb 2 (c' := (2, [(0, .ref Rd), (1, .ref a)], [.ref a, .ref Rd], me_w M J)) rfl k
  obtain ⟨d1, o1, ed, kc, k⟩ := lz_c (g := 30) (q := 1) (vs := [.ref Rd, .ref a]) (rest := []) rfl rfl (by decide) (Or.inr (Or.inl ⟨_, rfl, rfl⟩)) rfl k
  obtain ⟨r, e, hr⟩ := lc_isAt hP hS hp kc
  subst e
  have k : nt_rn X _ 32 (5, [(0, .ref Rd), (1, .ref a)], [.int (r)], me_w M J) _ := k
  have k := ly_revb 1 (c' := (if r = 0 then 8 else 10, [(0, .ref Rd), (1, .ref a)], [], me_w M J)) rfl k
  by_cases h5 : r = 0
  · rw [if_pos (show r = 0 from h5)] at k
    have k := ly_revb 1 (c' := (9, [(0, .ref Rd), (1, .ref a)], [.int (Int32.ofInt 0)], me_w M J)) rfl k
    have k := lz_ri rfl (by decide) k
    rcases hr with ⟨e, hr⟩ | ⟨e, hr⟩
    · exact absurd (e.symm.trans h5) (by decide)
    · exact Or.inr ⟨hr, k⟩
  · rw [if_neg (show ¬ (r = 0) from h5)] at k
    have k := ly_revb 2 (c' := (12, [(0, .ref Rd), (1, .ref a)], [.ref a, .ref Rd], me_w M J)) rfl k
    obtain ⟨hw4, k⟩ := me_slen rfl k
    obtain ⟨d1, o1, ed, kc, k⟩ := lz_c (g := 29) (q := 1) (vs := [.ref Rd, .int (nI (lb_W a).length)]) (rest := []) rfl rfl (by decide) (Or.inr (Or.inl ⟨_, rfl, rfl⟩)) rfl k
    have e := lc_skip (b := (lb_W a).length) hP hS hp (by omega) kc
    subst e
    have k : nt_rn X _ 32 (18, [(0, .ref Rd), (1, .ref a)], [], me_w M (nt_u J Rd 1 (nI (lb_s f t (min (p + (lb_W a).length) t))))) _ := k
    have k := ly_revb 1 (c' := (19, [(0, .ref Rd), (1, .ref a)], [.int (Int32.ofInt 1)], me_w M (nt_u J Rd 1 (nI (lb_s f t (min (p + (lb_W a).length) t)))))) rfl k
    have k := lz_ri rfl (by decide) k
    rcases hr with ⟨e, hr⟩ | ⟨e, hr⟩
    · rw [Nat.min_eq_left hr.1] at k
      exact Or.inl ⟨hr, k⟩
    · exact absurd e h5
theorem lc_nextClause {X : nt_X} {d t Rd Tp By RR Sp : Nat} {f : Nat → Int32} {M : nt_M} {J0 J : Nat → Nat → Int32} {o : Option Value × nt_M} {p m : Nat} {fa : Int32} {s : Nat × (Nat → Int32)}  (hP : lc_P M J0 f t Rd Tp By RR Sp) (hS : lc_S J0 Rd RR Sp p fa m s J) (hp : p ≤ t) (k : nt_ev X d 35 [.ref Rd] (me_w M J) o) : lb_g f t p = Int32.ofInt 59 ∧ o = (some (.int (Int32.ofInt 1)), me_w M (nt_u J Rd 1 (nI (lb_s f t (min (p + 1) t))))) ∨ lb_g f t p = Int32.ofInt (-1) ∧ o = (some (.int (Int32.ofInt 0)), me_w M J) ∨ ¬ lb_g f t p = Int32.ofInt 59 ∧ ¬ lb_g f t p = Int32.ofInt (-1) ∧ fa = 0 ∧ o = (some (.int (Int32.ofInt 0)), me_w M (nt_u (nt_u J Rd 2 (Int32.ofInt 1 + Int32.ofInt 8 * nI p + Int32.ofInt 0)) Rd 1 (nI t))) ∨ ¬ lb_g f t p = Int32.ofInt 59 ∧ ¬ lb_g f t p = Int32.ofInt (-1) ∧ ¬ fa = 0 ∧ o = (some (.int (Int32.ofInt 0)), me_w M (nt_u J Rd 1 (nI t))) := by
  have k : nt_rn X d 35 (0, [(0, .ref Rd)], [], me_w M J) o := k
  have t4 : t ≤ 400 := hP.2.2.2.2.1
  have k := ly_revb 2 (c' := (3, [(0, .ref Rd)], [.int (Int32.ofInt 59), .ref Rd], me_w M J)) rfl k
  obtain ⟨d1, o1, ed, kc, k⟩ := lz_c (g := 36) (q := 1) (vs := [.ref Rd, .int (Int32.ofInt 59)]) (rest := []) rfl rfl (by decide) (Or.inr (Or.inl ⟨_, rfl, rfl⟩)) rfl k
  rcases lc_takes hP hS hp kc with ⟨hg, e⟩ | ⟨hg, e⟩
  · subst e
    have k : nt_rn X _ 35 (6, [(0, .ref Rd)], [.int (Int32.ofInt 1)], me_w M (nt_u J Rd 1 (nI (lb_s f t (min (p + 1) t))))) _ := k
    have k := ly_revb 1 (c' := (if (Int32.ofInt 1) = 0 then 11 else 9, [(0, .ref Rd)], [], me_w M (nt_u J Rd 1 (nI (lb_s f t (min (p + 1) t)))))) rfl k
    rw [if_neg (show ¬ ((Int32.ofInt 1) = 0) from by decide)] at k
    have k := ly_revb 1 (c' := (10, [(0, .ref Rd)], [.int (Int32.ofInt 1)], me_w M (nt_u J Rd 1 (nI (lb_s f t (min (p + 1) t)))))) rfl k
    have k := lz_ri rfl (by decide) k
    exact Or.inl ⟨hg, k⟩
  · subst e
    have k : nt_rn X _ 35 (6, [(0, .ref Rd)], [.int (Int32.ofInt 0)], me_w M J) _ := k
    have k := ly_revb 1 (c' := (if (Int32.ofInt 0) = 0 then 11 else 9, [(0, .ref Rd)], [], me_w M J)) rfl k
    rw [if_pos (show (Int32.ofInt 0) = 0 from by decide)] at k
    have k := ly_revb 1 (c' := (12, [(0, .ref Rd)], [.ref Rd], me_w M J)) rfl k
    obtain ⟨d1, o1, ed, kc, k⟩ := lz_c (g := 37) (q := 1) (vs := [.ref Rd]) (rest := []) rfl rfl (by decide) (Or.inr (Or.inl ⟨_, rfl, rfl⟩)) rfl k
    have e := lc_sign hP hS hp kc
    subst e
    have k : nt_rn X _ 35 (15, [(0, .ref Rd)], [.int (lb_g f t p)], me_w M J) _ := k
    have k := ly_revb 2 (c' := (if (lb_g f t p) = (Int32.ofInt (-1)) then 24 else 19, [(0, .ref Rd)], [], me_w M J)) rfl k
    by_cases h16 : (lb_g f t p) = (Int32.ofInt (-1))
    · rw [if_pos (show (lb_g f t p) = (Int32.ofInt (-1)) from h16)] at k
      have k := ly_revb 1 (c' := (25, [(0, .ref Rd)], [.int (Int32.ofInt 0)], me_w M J)) rfl k
      have k := lz_ri rfl (by decide) k
      exact Or.inr (Or.inl ⟨h16, k⟩)
    · rw [if_neg (show ¬ ((lb_g f t p) = (Int32.ofInt (-1))) from h16)] at k
      have k := ly_revb 2 (c' := (21, [(0, .ref Rd)], [.int (Int32.ofInt 0), .ref Rd], me_w M J)) rfl k
      obtain ⟨d1, o1, ed, kc, k⟩ := lz_c (g := 31) (q := 1) (vs := [.ref Rd, .int (Int32.ofInt 0)]) (rest := []) rfl rfl (by decide) (Or.inr (Or.inl ⟨_, rfl, rfl⟩)) rfl k
      rcases lc_fail hP hS hp kc with ⟨hf, e⟩ | ⟨hf, e⟩
      · subst e
        have k : nt_rn X _ 35 (24, [(0, .ref Rd)], [], me_w M (nt_u (nt_u J Rd 2 (Int32.ofInt 1 + Int32.ofInt 8 * nI p + Int32.ofInt 0)) Rd 1 (nI t))) _ := k
        have k := ly_revb 1 (c' := (25, [(0, .ref Rd)], [.int (Int32.ofInt 0)], me_w M (nt_u (nt_u J Rd 2 (Int32.ofInt 1 + Int32.ofInt 8 * nI p + Int32.ofInt 0)) Rd 1 (nI t)))) rfl k
        have k := lz_ri rfl (by decide) k
        exact Or.inr (Or.inr (Or.inl ⟨hg, h16, hf, k⟩))
      · subst e
        have k : nt_rn X _ 35 (24, [(0, .ref Rd)], [], me_w M (nt_u J Rd 1 (nI t))) _ := k
        have k := ly_revb 1 (c' := (25, [(0, .ref Rd)], [.int (Int32.ofInt 0)], me_w M (nt_u J Rd 1 (nI t)))) rfl k
        have k := lz_ri rfl (by decide) k
        exact Or.inr (Or.inr (Or.inr ⟨hg, h16, hf, k⟩))
theorem lc_counts {X : nt_X} {d t Rd Tp By RR Sp : Nat} {f : Nat → Int32} {M : nt_M} {J0 J : Nat → Nat → Int32} {o : Option Value × nt_M} {p m : Nat} {fa : Int32} {s : Nat × (Nat → Int32)}  (hP : lc_P M J0 f t Rd Tp By RR Sp) (hS : lc_S J0 Rd RR Sp p fa m s J) (hp : p ≤ t) (k : nt_ev X d 53 [.ref RR] (me_w M J) o) : m < 60 ∧ o = (some (.int (Int32.ofInt 1)), me_w M (nt_u J RR 3 (nI (m + 1)))) ∨ m = 60 ∧ fa = 0 ∧ o = (some (.int (Int32.ofInt 0)), me_w M (nt_u (nt_u J Rd 2 (Int32.ofInt 1 + Int32.ofInt 8 * nI p + Int32.ofInt 3)) Rd 1 (nI t))) ∨ m = 60 ∧ ¬ fa = 0 ∧ o = (some (.int (Int32.ofInt 0)), me_w M (nt_u J Rd 1 (nI t))) := by
  have k : nt_rn X d 53 (0, [(0, .ref RR)], [], me_w M J) o := k
  have t4 : t ≤ 400 := hP.2.2.2.2.1
  have m6 : m ≤ 60 := hS.2.2.2.2.2.2.2
  have k := ly_revb 1 (c' := (1, [(0, .ref RR)], [.ref RR], me_w M J)) rfl k
  have k := lz_get (a := RR) (g := 503) (M := me_w M J) (v := .int (nI m)) rfl (congrArg Value.int (hS.2.2.2.1)) k
  have k := ly_revb 2 (c' := (if (nI m) < (Int32.ofInt 60) then 19 else 9, [(0, .ref RR)], [], me_w M J)) rfl k
  by_cases h6 : m < 60
  · rw [if_pos (show (nI m) < (Int32.ofInt 60) from show nI m < nI 60 from nI_lt h6 (by omega))] at k
    have k := ly_revb 2 (c' := (21, [(0, .ref RR)], [.ref RR, .ref RR], me_w M J)) rfl k
    have k := lz_get (a := RR) (g := 503) (M := me_w M J) (v := .int (nI m)) rfl (congrArg Value.int (hS.2.2.2.1)) k
    have k := ly_revb 2 (c' := (26, [(0, .ref RR)], [.int ((nI m) + (Int32.ofInt 1)), .ref RR], me_w M J)) rfl k
    rw [show ((nI m) + (Int32.ofInt 1) : Int32) = nI (m + 1) from me_add (k := 1)] at k
    have k := me_put rfl (by decide) k
    have k : nt_rn X _ 53 (29, [(0, .ref RR)], [], me_w M (nt_u J RR 3 (nI (m + 1)))) _ := k
    have k := ly_revb 1 (c' := (30, [(0, .ref RR)], [.int (Int32.ofInt 1)], me_w M (nt_u J RR 3 (nI (m + 1))))) rfl k
    have k := lz_ri rfl (by decide) k
    exact Or.inl ⟨h6, k⟩
  · rw [if_neg (show ¬ ((nI m) < (Int32.ofInt 60)) from show ¬ nI m < nI 60 from nI_nlt (Nat.not_lt.mp h6) (by omega))] at k
    have k := ly_revb 1 (c' := (10, [(0, .ref RR)], [.ref RR], me_w M J)) rfl k
    have k := lz_get (a := RR) (g := 500) (M := me_w M J) (v := .ref Rd) rfl (nt_gfR rfl hP.1.2.2.1) k
    have k := ly_revb 1 (c' := (14, [(0, .ref RR)], [.int (Int32.ofInt 3), .ref Rd], me_w M J)) rfl k
    obtain ⟨d1, o1, ed, kc, k⟩ := lz_c (g := 31) (q := 1) (vs := [.ref Rd, .int (Int32.ofInt 3)]) (rest := []) rfl rfl (by decide) (Or.inr (Or.inl ⟨_, rfl, rfl⟩)) rfl k
    rcases lc_fail hP hS hp kc with ⟨hf, e⟩ | ⟨hf, e⟩
    · subst e
      have k : nt_rn X _ 53 (17, [(0, .ref RR)], [], me_w M (nt_u (nt_u J Rd 2 (Int32.ofInt 1 + Int32.ofInt 8 * nI p + Int32.ofInt 3)) Rd 1 (nI t))) _ := k
      have k := ly_revb 1 (c' := (18, [(0, .ref RR)], [.int (Int32.ofInt 0)], me_w M (nt_u (nt_u J Rd 2 (Int32.ofInt 1 + Int32.ofInt 8 * nI p + Int32.ofInt 3)) Rd 1 (nI t)))) rfl k
      have k := lz_ri rfl (by decide) k
      exact Or.inr (Or.inl ⟨by omega, hf, k⟩)
    · subst e
      have k : nt_rn X _ 53 (17, [(0, .ref RR)], [], me_w M (nt_u J Rd 1 (nI t))) _ := k
      have k := ly_revb 1 (c' := (18, [(0, .ref RR)], [.int (Int32.ofInt 0)], me_w M (nt_u J Rd 1 (nI t)))) rfl k
      have k := lz_ri rfl (by decide) k
      exact Or.inr (Or.inr ⟨by omega, hf, k⟩)
theorem lc_add {X : nt_X} {d t Rd Tp By RR Sp : Nat} {f : Nat → Int32} {M : nt_M} {J0 J : Nat → Nat → Int32} {o : Option Value × nt_M} {p m : Nat} {fa : Int32} {s : Nat × (Nat → Int32)} {x : Int32} (hP : lc_P M J0 f t Rd Tp By RR Sp) (hS : lc_S J0 Rd RR Sp p fa m s J) (hp : p ≤ t) (k : nt_ev X d 54 [.ref RR, .int (x)] (me_w M J) o) : ∃ J', o = (none, me_w M J') ∧ lc_S J0 Rd RR Sp p fa m (lb_e s x) (J') := by
  have k : nt_rn X d 54 (0, [(0, .ref RR), (1, .int (x))], [], me_w M J) o := k
  have t4 : t ≤ 400 := hP.2.2.2.2.1
  have s4 : s.1 ≤ 400 := hS.2.2.2.2.2.2.1
  have k := ly_revb 1 (c' := (1, [(0, .ref RR), (1, .int (x))], [.ref RR], me_w M J)) rfl k
  have k := lz_get (a := RR) (g := 502) (M := me_w M J) (v := .int (nI s.1)) rfl (congrArg Value.int (hS.2.2.1)) k
  have k := ly_revb 1 (c' := (5, [(0, .ref RR), (1, .int (x))], [.ref RR, .int (nI s.1)], me_w M J)) rfl k
  have k := lz_get (a := RR) (g := 501) (M := me_w M J) (v := .ref Sp) rfl (nt_gfR rfl hP.1.2.2.2) k
  have k := lz_len rfl (hP.2.2.2.2.2.2) k
  rw [show nt_l (me_w M J) Sp = 400 from hP.2.2.2.2.2.1] at k
  have k : nt_rn X _ 54 (9, [(0, .ref RR), (1, .int (x))], [.int (nI 400), .int (nI s.1)], me_w M J) _ := k
  have k := ly_revb 1 (c' := (if (nI 400) ≤ (nI s.1) then 32 else 12, [(0, .ref RR), (1, .int (x))], [], me_w M J)) rfl k
  by_cases h9 : 400 ≤ s.1
  · rw [if_pos (show (nI 400) ≤ (nI s.1) from show nI 400 ≤ nI s.1 from nI_le h9 (by omega))] at k
    have k := lz_rv rfl rfl k
    exact ⟨J, k, by rw [show lb_e s x = s from if_neg (by omega)]; exact hS⟩
  · rw [if_neg (show ¬ ((nI 400) ≤ (nI s.1)) from show ¬ nI 400 ≤ nI s.1 from nI_ge (Nat.not_le.mp h9) (by omega))] at k
    have k := ly_revb 1 (c' := (13, [(0, .ref RR), (1, .int (x))], [.ref RR], me_w M J)) rfl k
    have k := lz_get (a := RR) (g := 501) (M := me_w M J) (v := .ref Sp) rfl (nt_gfR rfl hP.1.2.2.2) k
    have k := ly_revb 1 (c' := (17, [(0, .ref RR), (1, .int (x))], [.ref RR, .ref Sp], me_w M J)) rfl k
    have k := lz_get (a := RR) (g := 502) (M := me_w M J) (v := .int (nI s.1)) rfl (congrArg Value.int (hS.2.2.1)) k
    have k := ly_revb 1 (c' := (21, [(0, .ref RR), (1, .int (x))], [.int (x), .int (nI s.1), .ref Sp], me_w M J)) rfl k
    have k := me_iast (q := s.1) rfl (rfl) (by omega) k
    have k := ly_revb 2 (c' := (24, [(0, .ref RR), (1, .int (x))], [.ref RR, .ref RR], me_w M (nt_u J Sp s.1 (x)))) rfl k
    have k := lz_get (a := RR) (g := 502) (M := me_w M (nt_u J Sp s.1 (x))) (v := .int (nI s.1)) rfl (congrArg Value.int ((me_uj (hP.2.1.2.2.2.2.2.2.2.2)).trans (hS.2.2.1))) k
    have k := ly_revb 2 (c' := (29, [(0, .ref RR), (1, .int (x))], [.int ((nI s.1) + (Int32.ofInt 1)), .ref RR], me_w M (nt_u J Sp s.1 (x)))) rfl k
    rw [show ((nI s.1) + (Int32.ofInt 1) : Int32) = nI (s.1 + 1) from me_add (k := 1)] at k
    have k := me_put rfl (by decide) k
    have k : nt_rn X _ 54 (32, [(0, .ref RR), (1, .int (x))], [], me_w M (nt_u (nt_u J Sp s.1 (x)) RR 2 (nI (s.1 + 1)))) _ := k
    have k := lz_rv rfl rfl k
    exact ⟨_, k, lc_Se hP hS (by omega)⟩
/-- a step more, unless it is none -/
def lb_en (s : Nat × (Nat → Int32)) (x : Int32) : Nat × (Nat → Int32) := if x = Int32.ofInt (-1) then s else lb_e s x
theorem lc_addn {X : nt_X} {d t Rd Tp By RR Sp : Nat} {f : Nat → Int32} {M : nt_M} {J0 J : Nat → Nat → Int32} {o : Option Value × nt_M} {p m : Nat} {fa : Int32} {s : Nat × (Nat → Int32)} {x : Int32} (hP : lc_P M J0 f t Rd Tp By RR Sp) (hS : lc_S J0 Rd RR Sp p fa m s J) (hp : p ≤ t) (k : nt_ev X d 57 [.ref RR, .int (x)] (me_w M J) o) : ∃ J', o = (none, me_w M J') ∧ lc_S J0 Rd RR Sp p fa m (lb_en s x) (J') := by
  have k : nt_rn X d 57 (0, [(0, .ref RR), (1, .int (x))], [], me_w M J) o := k
  have t4 : t ≤ 400 := hP.2.2.2.2.1
  have k := ly_revb 3 (c' := (if x = (Int32.ofInt (-1)) then 10 else 5, [(0, .ref RR), (1, .int (x))], [], me_w M J)) rfl k
  by_cases h2 : x = (Int32.ofInt (-1))
  · rw [if_pos (show x = (Int32.ofInt (-1)) from h2)] at k
    have k := lz_rv rfl rfl k
    exact ⟨J, k, by rw [show lb_en s x = s from if_pos h2]; exact hS⟩
  · rw [if_neg (show ¬ (x = (Int32.ofInt (-1))) from h2)] at k
    have k := ly_revb 2 (c' := (7, [(0, .ref RR), (1, .int (x))], [.int (x), .ref RR], me_w M J)) rfl k
    obtain ⟨d1, o1, ed, kc, k⟩ := lz_c (g := 54) (q := 1) (vs := [.ref RR, .int (x)]) (rest := []) rfl rfl (by decide) (Or.inr (Or.inl ⟨_, rfl, rfl⟩)) rfl k
    obtain ⟨J', e, hS'⟩ := lc_add hP hS hp kc
    subst e
    have k : nt_rn X _ 57 (10, [(0, .ref RR), (1, .int (x))], [], me_w M (J')) _ := k
    have k := lz_rv rfl rfl k
    exact ⟨J', k, by rw [show lb_en s x = lb_e s x from if_neg h2]; exact hS'⟩
end
section
/-! the grammar, told purely: what a value, a sum .. at a place comes to -/
abbrev lb_E : Type := (Nat × (Nat → Int32)) × (Nat × (Nat → Int32))
/-- place, count of values, what was put -/
abbrev lb_Z : Type := Nat × Nat × lb_E
abbrev lb_Y : Type := Int32 ⊕ lb_Z
def lb_a (s : Nat × (Nat → Int32)) (x : Int32) : Nat × (Nat → Int32) := (s.1 + 1, fun j => if j = s.1 then x else s.2 j)
def lb_em (e : lb_E) (x y : Int32) : lb_E := (lb_e e.1 x, lb_a e.2 y)
/-- a fault's number -/
def lb_c (p : Nat) (x : Int32) : Int32 := Int32.ofInt 1 + Int32.ofInt 8 * nI p + x
/-- the number that k digits are -/
def lb_v (f : Nat → Int32) (p : Nat) : Nat → Int32
  | 0 => Int32.ofInt 0
  | k + 1 => lb_v f p k * Int32.ofInt 10 + f (p + k) - Int32.ofInt 48
def lb_wd (w : Nat) : Nat := nt_sp + 1 + [2, 6, 7, 8, 1, 9, 10, 11, 12, 13].getD w 13
def lb_ws (f : Nat → Int32) (t p w : Nat) : Prop := lb_at f t (lb_W (lb_wd w)) p
def lb_val (f : Nat → Int32) (t : Nat) (z : lb_Z) (r : lb_Y) : Prop :=
  (5 < lb_d f t z.1 ∧ r = .inl (lb_c z.1 (Int32.ofInt 1))) ∨
  (0 < lb_d f t z.1 ∧ lb_d f t z.1 ≤ 5 ∧ z.2.1 = 60 ∧ r = .inl (lb_c z.1 (Int32.ofInt 3))) ∨
  (0 < lb_d f t z.1 ∧ lb_d f t z.1 ≤ 5 ∧ z.2.1 < 60 ∧ r = .inr (lb_s f t (z.1 + lb_d f t z.1), z.2.1 + 1, lb_em z.2.2 (Int32.ofInt 100 + lb_v f z.1 (lb_d f t z.1)) (Int32.ofInt 0 + Int32.ofInt 16 * lb_v f z.1 (lb_d f t z.1)))) ∨
  (lb_d f t z.1 = 0 ∧ (∀ v, v < 10 → ¬ lb_ws f t z.1 v) ∧ r = .inl (lb_c z.1 (Int32.ofInt 0))) ∨
  (lb_d f t z.1 = 0 ∧ ∃ w, w < 10 ∧ lb_ws f t z.1 w ∧ (∀ v, v < w → ¬ lb_ws f t z.1 v) ∧ (z.2.1 = 60 ∧ r = .inl (lb_c z.1 (Int32.ofInt 3)) ∨ z.2.1 < 60 ∧ r = .inr (lb_s f t (z.1 + (lb_W (lb_wd w)).length), z.2.1 + 1, lb_em z.2.2 (nI w) (Int32.ofInt 1 + Int32.ofInt 16 * nI w))))
theorem lb_c_ne {p : Nat} {x : Int32} (hp : p ≤ 400) (h0 : 0 ≤ x.toInt) (h1 : x.toInt ≤ 7) : lb_c p x ≠ 0 := by
  intro e
  unfold lb_c at e
  have e2 : nI (1 + 8 * p + x.toInt.toNat) = 0 := by
    rw [← e, ← me_addn, ← me_addn]
    have e3 : nI (8 * p) = Int32.ofInt 8 * nI p := Int32.ofNat_mul 8 p
    rw [e3]
    have e4 : nI x.toInt.toNat = x := by
      apply Int32.toInt_inj.mp
      rw [nI_toInt (by omega)]
      omega
    rw [e4]
    rfl
  exact nI_ne0 (by omega) (by omega) e2
theorem me_nm1 {w : Nat} (h : w < 2 ^ 31) : ¬ nI w = Int32.ofInt (-1) := by
  intro e
  have e := congrArg Int32.toInt e
  rw [nI_toInt h] at e
  have e : (w : Int) = -1 := e
  omega
theorem lz_ra {X : nt_X} {d mi pc g t a : Nat} {ls : nt_V} {M : nt_M} {o : Option Value × nt_M} {q : String} (hat : nt_at mi pc = some (pc, .areturn, g, t)) (hm : (nt_m mi).2.2.2.1 = some (.object q)) (k : nt_rn X d mi (pc, ls, [.ref a], M) o) : o = (some (.ref a), M) := by
  have h := lz_ret hat (Or.inr (Or.inr (Or.inl rfl))) k
  unfold nt_re at h
  rw [hm] at h
  have h : some (some (Value.ref a), M) = some o := h
  cases h
  rfl
/-- what the reader holds behind a result -/
def lc_Q (J0 : Nat → Nat → Int32) (Rd RR Sp t : Nat) (r : lb_Y) (J : Nat → Nat → Int32) : Prop := match r with
  | .inl c => c ≠ 0 ∧ ∃ m s, lc_S J0 Rd RR Sp t c m s J
  | .inr z => lc_S J0 Rd RR Sp z.1 0 z.2.1 z.2.2.1 J ∧ z.1 ≤ t
theorem lc_name {X : nt_X} {d w : Nat} {M : nt_M} {o : Option Value × nt_M} (hw : w < 10) (k : nt_ev X d 52 [.int (nI w)] M o) : o = (some (.ref (lb_wd w)), M) := by
  have k : nt_rn X d 52 (0, [(0, .int (nI w))], [], M) o := k
  rcases (by omega : w = 0 ∨ w = 1 ∨ w = 2 ∨ w = 3 ∨ w = 4 ∨ w = 5 ∨ w = 6 ∨ w = 7 ∨ w = 8 ∨ w = 9) with rfl | rfl | rfl | rfl | rfl | rfl | rfl | rfl | rfl | rfl
  · have k := ly_revb 3 (c' := (54, [(0, .int (nI 0))], [.ref (nt_sp + 1 + 2)], M)) rfl k
    exact lz_ra rfl rfl k
  · have k := ly_revb 3 (c' := (57, [(0, .int (nI 1))], [.ref (nt_sp + 1 + 6)], M)) rfl k
    exact lz_ra rfl rfl k
  · have k := ly_revb 3 (c' := (60, [(0, .int (nI 2))], [.ref (nt_sp + 1 + 7)], M)) rfl k
    exact lz_ra rfl rfl k
  · have k := ly_revb 3 (c' := (63, [(0, .int (nI 3))], [.ref (nt_sp + 1 + 8)], M)) rfl k
    exact lz_ra rfl rfl k
  · have k := ly_revb 3 (c' := (66, [(0, .int (nI 4))], [.ref (nt_sp + 1 + 1)], M)) rfl k
    exact lz_ra rfl rfl k
  · have k := ly_revb 3 (c' := (69, [(0, .int (nI 5))], [.ref (nt_sp + 1 + 9)], M)) rfl k
    exact lz_ra rfl rfl k
  · have k := ly_revb 3 (c' := (72, [(0, .int (nI 6))], [.ref (nt_sp + 1 + 10)], M)) rfl k
    exact lz_ra rfl rfl k
  · have k := ly_revb 3 (c' := (75, [(0, .int (nI 7))], [.ref (nt_sp + 1 + 11)], M)) rfl k
    exact lz_ra rfl rfl k
  · have k := ly_revb 3 (c' := (78, [(0, .int (nI 8))], [.ref (nt_sp + 1 + 12)], M)) rfl k
    exact lz_ra rfl rfl k
  · have k := ly_revb 3 (c' := (81, [(0, .int (nI 9))], [.ref (nt_sp + 1 + 13)], M)) rfl k
    exact lz_ra rfl rfl k
theorem lc_len {X : nt_X} {d w : Nat} {M : nt_M} {J : Nat → Nat → Int32} {o : Option Value × nt_M} (hw : w < 10) (k : nt_ev X d 55 [.int (nI w)] (me_w M J) o) : o = (some (.int (nI (lb_W (lb_wd w)).length)), me_w M J) := by
  have k : nt_rn X d 55 (0, [(0, .int (nI w))], [], me_w M J) o := k
  have k := ly_revb 1 (c' := (1, [(0, .int (nI w))], [.int (nI w)], me_w M J)) rfl k
  obtain ⟨d1, o1, ed, kc, k⟩ := lz_c (g := 52) (q := 0) (vs := [.int (nI w)]) (rest := []) rfl rfl (by decide) (Or.inl ⟨_, rfl, rfl⟩) rfl k
  have e := lc_name hw kc
  subst e
  have k : nt_rn X _ 55 (4, [(0, .int (nI w))], [.ref (lb_wd w)], me_w M J) _ := k
  obtain ⟨hw4, k⟩ := me_slen rfl k
  have k := lz_ri rfl (by decide) k
  exact k
theorem lc_wal {X : nt_X} {d t Rd Tp By RR Sp : Nat} {f : Nat → Int32} {M : nt_M} {J0 J : Nat → Nat → Int32} {o : Option Value × nt_M} {p m : Nat} {fa : Int32} {s : Nat × (Nat → Int32)} (hP : lc_P M J0 f t Rd Tp By RR Sp) (hS : lc_S J0 Rd RR Sp p fa m s J) (hp : p ≤ t) : ∀ (c w : Nat), w + c = 10 → (∀ v, v < w → ¬ lb_ws f t p v) → nt_rn X d 51 (2, [(1, .int (nI w)), (0, .ref RR)], [], me_w M J) o → ∃ r, o = (some (.int r), me_w M J) ∧ ((∃ w, w < 10 ∧ r = nI w ∧ lb_ws f t p w ∧ ∀ v, v < w → ¬ lb_ws f t p v) ∨ r = Int32.ofInt (-1) ∧ ∀ v, v < 10 → ¬ lb_ws f t p v) := by
  have t4 : t ≤ 400 := hP.2.2.2.2.1
  intro c
  induction c with
  | zero =>
    intro w hc hv k
    have k := ly_revb 3 (c' := (if (Int32.ofInt 10) ≤ (nI w) then 30 else 8, [(1, .int (nI w)), (0, .ref RR)], [], me_w M J)) rfl k
    rw [if_pos (show (Int32.ofInt 10) ≤ (nI w) from show nI 10 ≤ nI w from nI_le (by omega) (by omega))] at k
    have k := ly_revb 1 (c' := (31, [(1, .int (nI w)), (0, .ref RR)], [.int (Int32.ofInt (-1))], me_w M J)) rfl k
    have k := lz_ri rfl (by decide) k
    exact ⟨_, k, Or.inr ⟨rfl, fun v h => hv v (by omega)⟩⟩
  | succ c ih =>
    intro w hc hv k
    have hw : w < 10 := by omega
    have k := ly_revb 3 (c' := (if (Int32.ofInt 10) ≤ (nI w) then 30 else 8, [(1, .int (nI w)), (0, .ref RR)], [], me_w M J)) rfl k
    rw [if_neg (show ¬ ((Int32.ofInt 10) ≤ (nI w)) from show ¬ nI 10 ≤ nI w from nI_ge (Nat.not_le.mp (by omega)) (by omega))] at k
    have k := ly_revb 1 (c' := (9, [(1, .int (nI w)), (0, .ref RR)], [.ref RR], me_w M J)) rfl k
    have k := lz_get (a := RR) (g := 500) (M := me_w M J) (v := .ref Rd) rfl (nt_gfR rfl hP.1.2.2.1) k
    have k := ly_revb 1 (c' := (13, [(1, .int (nI w)), (0, .ref RR)], [.int (nI w), .ref Rd], me_w M J)) rfl k
    obtain ⟨d1, o1, ed, kc, k⟩ := lz_c (g := 52) (q := 0) (vs := [.int (nI w)]) (rest := [.ref Rd]) rfl rfl (by decide) (Or.inl ⟨_, rfl, rfl⟩) rfl k
    have e := lc_name hw kc
    subst e
    have k : nt_rn X _ 51 (16, [(1, .int (nI w)), (0, .ref RR)], [.ref (lb_wd w), .ref Rd], me_w M J) _ := k
    obtain ⟨d1, o1, ed, kc, k⟩ := lz_c (g := 30) (q := 1) (vs := [.ref Rd, .ref (lb_wd w)]) (rest := []) rfl rfl (by decide) (Or.inr (Or.inl ⟨_, rfl, rfl⟩)) rfl k
    obtain ⟨r, e, hr⟩ := lc_isAt hP hS hp kc
    subst e
    have k : nt_rn X _ 51 (19, [(1, .int (nI w)), (0, .ref RR)], [.int (r)], me_w M J) _ := k
    have k := ly_revb 1 (c' := (if r = 0 then 24 else 22, [(1, .int (nI w)), (0, .ref RR)], [], me_w M J)) rfl k
    by_cases h19 : r = 0
    · rw [if_pos (show r = 0 from h19)] at k
      have k := ly_revb 1 (c' := (27, [(1, .int ((nI w) + Int32.ofInt 1)), (0, .ref RR)], [], me_w M J)) rfl k
      rw [show ((nI w) + Int32.ofInt 1 : Int32) = nI (w + 1) from me_add (k := 1)] at k
      have k := ly_revb 1 (c' := (2, [(1, .int (nI (w + 1))), (0, .ref RR)], [], me_w M J)) rfl k
      rcases hr with ⟨e, hr⟩ | ⟨e, hr⟩
      · exact absurd (e.symm.trans h19) (by decide)
      · refine ih (w + 1) (by omega) (fun v h => ?_) k
        by_cases c2 : v = w
        · rw [c2]; exact hr
        · exact hv v (by omega)
    · rw [if_neg (show ¬ (r = 0) from h19)] at k
      have k := ly_revb 1 (c' := (23, [(1, .int (nI w)), (0, .ref RR)], [.int (nI w)], me_w M J)) rfl k
      have k := lz_ri rfl (by decide) k
      rcases hr with ⟨e, hr⟩ | ⟨e, hr⟩
      · exact ⟨_, k, Or.inl ⟨w, hw, rfl, hr, hv⟩⟩
      · exact absurd e h19
theorem lc_wordAt {X : nt_X} {d t Rd Tp By RR Sp : Nat} {f : Nat → Int32} {M : nt_M} {J0 J : Nat → Nat → Int32} {o : Option Value × nt_M} {p m : Nat} {fa : Int32} {s : Nat × (Nat → Int32)}  (hP : lc_P M J0 f t Rd Tp By RR Sp) (hS : lc_S J0 Rd RR Sp p fa m s J) (hp : p ≤ t) (k : nt_ev X d 51 [.ref RR] (me_w M J) o) : ∃ r, o = (some (.int r), me_w M J) ∧ ((∃ w, w < 10 ∧ r = nI w ∧ lb_ws f t p w ∧ ∀ v, v < w → ¬ lb_ws f t p v) ∨ r = Int32.ofInt (-1) ∧ ∀ v, v < 10 → ¬ lb_ws f t p v) := by
  have k : nt_rn X d 51 (0, [(0, .ref RR)], [], me_w M J) o := k
  have t4 : t ≤ 400 := hP.2.2.2.2.1
  have k := ly_revb 2 (c' := (2, [(1, .int (Int32.ofInt 0)), (0, .ref RR)], [], me_w M J)) rfl k
  exact lc_wal hP hS hp 10 0 rfl (fun v h => absurd h (by omega)) k
theorem lc_vol {X : nt_X} {d t Rd Tp By RR Sp : Nat} {f : Nat → Int32} {M : nt_M} {J0 J : Nat → Nat → Int32} {o : Option Value × nt_M} {p m : Nat} {fa : Int32} {s : Nat × (Nat → Int32)} {g : Nat} (hP : lc_P M J0 f t Rd Tp By RR Sp) (hS : lc_S J0 Rd RR Sp p fa m s J) (hp : p + g ≤ t) : ∀ (c j : Nat), j + c = g → nt_rn X d 34 (7, [(3, .int (nI (p + j))), (2, .int (lb_v f p j)), (0, .ref Rd), (1, .int (nI g))], [], me_w M J) o → o = (some (.int (lb_v f p g)), me_w M J) := by
  have t4 : t ≤ 400 := hP.2.2.2.2.1
  intro c
  induction c with
  | zero =>
    intro j hc k
    have hj : j = g := by omega
    subst hj
    have k := ly_revb 2 (c' := (9, [(3, .int (nI (p + j))), (2, .int (lb_v f p j)), (0, .ref Rd), (1, .int (nI j))], [.ref Rd, .int (nI (p + j))], me_w M J)) rfl k
    have k := lz_get (a := Rd) (g := 201) (M := me_w M J) (v := .int (nI p)) rfl (congrArg Value.int (hS.1)) k
    have k := ly_revb 2 (c' := (14, [(3, .int (nI (p + j))), (2, .int (lb_v f p j)), (0, .ref Rd), (1, .int (nI j))], [.int ((nI p) + (nI j)), .int (nI (p + j))], me_w M J)) rfl k
    rw [show ((nI p) + (nI j) : Int32) = nI (p + j) from me_addn] at k
    have k := ly_revb 1 (c' := (if (nI (p + j)) ≤ (nI (p + j)) then 52 else 17, [(3, .int (nI (p + j))), (2, .int (lb_v f p j)), (0, .ref Rd), (1, .int (nI j))], [], me_w M J)) rfl k
    rw [if_pos (show (nI (p + j)) ≤ (nI (p + j)) from nI_le (by omega) (by omega))] at k
    have k := ly_revb 1 (c' := (53, [(3, .int (nI (p + j))), (2, .int (lb_v f p j)), (0, .ref Rd), (1, .int (nI j))], [.int (lb_v f p j)], me_w M J)) rfl k
    have k := lz_ri rfl (by decide) k
    exact k
  | succ c ih =>
    intro j hc k
    have k := ly_revb 2 (c' := (9, [(3, .int (nI (p + j))), (2, .int (lb_v f p j)), (0, .ref Rd), (1, .int (nI g))], [.ref Rd, .int (nI (p + j))], me_w M J)) rfl k
    have k := lz_get (a := Rd) (g := 201) (M := me_w M J) (v := .int (nI p)) rfl (congrArg Value.int (hS.1)) k
    have k := ly_revb 2 (c' := (14, [(3, .int (nI (p + j))), (2, .int (lb_v f p j)), (0, .ref Rd), (1, .int (nI g))], [.int ((nI p) + (nI g)), .int (nI (p + j))], me_w M J)) rfl k
    rw [show ((nI p) + (nI g) : Int32) = nI (p + g) from me_addn] at k
    have k := ly_revb 1 (c' := (if (nI (p + g)) ≤ (nI (p + j)) then 52 else 17, [(3, .int (nI (p + j))), (2, .int (lb_v f p j)), (0, .ref Rd), (1, .int (nI g))], [], me_w M J)) rfl k
    rw [if_neg (show ¬ ((nI (p + g)) ≤ (nI (p + j))) from nI_ge (by omega) (by omega))] at k
    have k := ly_revb 2 (c' := (19, [(3, .int (nI (p + j))), (2, .int (lb_v f p j)), (0, .ref Rd), (1, .int (nI g))], [.ref Rd, .int (nI (p + j))], me_w M J)) rfl k
    have k := lz_get (a := Rd) (g := 200) (M := me_w M J) (v := .ref Tp) rfl (nt_gfR rfl hP.1.1) k
    have k := lz_get (a := Tp) (g := 701) (M := me_w M J) (v := .int (nI t)) rfl (congrArg Value.int (lc_t hP hS)) k
    have k := ly_revb 1 (c' := (if (nI t) ≤ (nI (p + j)) then 52 else 28, [(3, .int (nI (p + j))), (2, .int (lb_v f p j)), (0, .ref Rd), (1, .int (nI g))], [], me_w M J)) rfl k
    rw [if_neg (show ¬ ((nI t) ≤ (nI (p + j))) from nI_ge (by omega) (by omega))] at k
    have k := ly_revb 4 (c' := (33, [(3, .int (nI (p + j))), (2, .int (lb_v f p j)), (0, .ref Rd), (1, .int (nI g))], [.ref Rd, .int ((lb_v f p j) * (Int32.ofInt 10))], me_w M J)) rfl k
    have k := lz_get (a := Rd) (g := 200) (M := me_w M J) (v := .ref Tp) rfl (nt_gfR rfl hP.1.1) k
    have k := lz_get (a := Tp) (g := 700) (M := me_w M J) (v := .ref By) rfl (nt_gfR rfl hP.1.2.1) k
    have k := ly_revb 1 (c' := (40, [(3, .int (nI (p + j))), (2, .int (lb_v f p j)), (0, .ref Rd), (1, .int (nI g))], [.int (nI (p + j)), .ref By, .int ((lb_v f p j) * (Int32.ofInt 10))], me_w M J)) rfl k
    have k := me_bald (q := (p + j)) (v := f ((p + j))) rfl (rfl) (by omega) (lc_f hP hS ((p + j))) k
    have k := ly_revb 3 (c' := (45, [(3, .int (nI (p + j))), (2, .int (lb_v f p j)), (0, .ref Rd), (1, .int (nI g))], [.int ((((lb_v f p j) * (Int32.ofInt 10)) + (f ((p + j)))) - (Int32.ofInt 48))], me_w M J)) rfl k
    rw [show ((((lb_v f p j) * (Int32.ofInt 10)) + (f ((p + j)))) - (Int32.ofInt 48) : Int32) = lb_v f p (j + 1) from rfl] at k
    have k := ly_revb 2 (c' := (49, [(3, .int ((nI (p + j)) + Int32.ofInt 1)), (2, .int (lb_v f p (j + 1))), (0, .ref Rd), (1, .int (nI g))], [], me_w M J)) rfl k
    rw [show ((nI (p + j)) + Int32.ofInt 1 : Int32) = nI (p + (j + 1)) from me_add (k := 1)] at k
    have k := ly_revb 1 (c' := (7, [(3, .int (nI (p + (j + 1)))), (2, .int (lb_v f p (j + 1))), (0, .ref Rd), (1, .int (nI g))], [], me_w M J)) rfl k
    exact ih (j + 1) (by omega) k
theorem lc_valueOf {X : nt_X} {d t Rd Tp By RR Sp : Nat} {f : Nat → Int32} {M : nt_M} {J0 J : Nat → Nat → Int32} {o : Option Value × nt_M} {p m : Nat} {fa : Int32} {s : Nat × (Nat → Int32)} {g : Nat} (hP : lc_P M J0 f t Rd Tp By RR Sp) (hS : lc_S J0 Rd RR Sp p fa m s J) (hp : p ≤ t) (hg : p + g ≤ t) (k : nt_ev X d 34 [.ref Rd, .int (nI g)] (me_w M J) o) : o = (some (.int (lb_v f p g)), me_w M J) := by
  have k : nt_rn X d 34 (0, [(0, .ref Rd), (1, .int (nI g))], [], me_w M J) o := k
  have t4 : t ≤ 400 := hP.2.2.2.2.1
  have k := ly_revb 3 (c' := (3, [(2, .int (Int32.ofInt 0)), (0, .ref Rd), (1, .int (nI g))], [.ref Rd], me_w M J)) rfl k
  have k := lz_get (a := Rd) (g := 201) (M := me_w M J) (v := .int (nI p)) rfl (congrArg Value.int (hS.1)) k
  have k := ly_revb 1 (c' := (7, [(3, .int (nI p)), (2, .int (Int32.ofInt 0)), (0, .ref Rd), (1, .int (nI g))], [], me_w M J)) rfl k
  exact lc_vol hP hS hg g 0 (by omega) k
theorem lb_W_pos {w : Nat} (h : w < 10) : 0 < (lb_W (lb_wd w)).length := by
  rcases (by omega : w = 0 ∨ w = 1 ∨ w = 2 ∨ w = 3 ∨ w = 4 ∨ w = 5 ∨ w = 6 ∨ w = 7 ∨ w = 8 ∨ w = 9) with rfl | rfl | rfl | rfl | rfl | rfl | rfl | rfl | rfl | rfl <;> decide +kernel
theorem lc_readValue {X : nt_X} {d t Rd Tp By RR Sp : Nat} {f : Nat → Int32} {M : nt_M} {J0 J : Nat → Nat → Int32} {o : Option Value × nt_M} {p m : Nat} {e : lb_E}  (hP : lc_P M J0 f t Rd Tp By RR Sp) (hS : lc_S J0 Rd RR Sp p 0 m e.1 J) (hp : p ≤ t) (k : nt_ev X d 50 [.ref RR] (me_w M J) o) : ∃ r J', o = (none, me_w M J') ∧ lb_val f t (p, m, e) r ∧ lc_Q J0 Rd RR Sp t r J' := by
  have k : nt_rn X d 50 (0, [(0, .ref RR)], [], me_w M J) o := k
  have t4 : t ≤ 400 := hP.2.2.2.2.1
  have m6 : m ≤ 60 := hS.2.2.2.2.2.2.2
  have hd := lb_d_le (f := f) (t := t) (t - p) p (by omega)
  have hW := fun w => lb_W_len (a := lb_wd w)
  have k := ly_revb 1 (c' := (1, [(0, .ref RR)], [.ref RR], me_w M J)) rfl k
  have k := lz_get (a := RR) (g := 500) (M := me_w M J) (v := .ref Rd) rfl (nt_gfR rfl hP.1.2.2.1) k
  obtain ⟨d1, o1, ed, kc, k⟩ := lz_c (g := 33) (q := 1) (vs := [.ref Rd]) (rest := []) rfl rfl (by decide) (Or.inr (Or.inl ⟨_, rfl, rfl⟩)) rfl k
  have e1 := lc_digits hP hS hp kc
  subst e1
  have k : nt_rn X _ 50 (7, [(0, .ref RR)], [.int (nI (lb_d f t p))], me_w M J) _ := k
  have k := ly_revb 3 (c' := (if (nI (lb_d f t p)) = 0 then 12 else 19, [(1, .int (nI (lb_d f t p))), (0, .ref RR)], [], me_w M J)) rfl k
  by_cases h9 : (lb_d f t p) = 0
  · rw [if_pos (show (nI (lb_d f t p)) = 0 from show nI (lb_d f t p) = nI 0 from congrArg nI h9)] at k
    have k := ly_revb 1 (c' := (13, [(1, .int (nI (lb_d f t p))), (0, .ref RR)], [.ref RR], me_w M J)) rfl k
    obtain ⟨d1, o1, ed, kc, k⟩ := lz_c (g := 51) (q := 1) (vs := [.ref RR]) (rest := []) rfl rfl (by decide) (Or.inr (Or.inl ⟨_, rfl, rfl⟩)) rfl k
    obtain ⟨r, e1, hw⟩ := lc_wordAt hP hS hp kc
    subst e1
    rcases hw with ⟨w, hw, e1, hat, hbe⟩ | ⟨e1, hno⟩
    · subst e1
      have k : nt_rn X _ 50 (16, [(1, .int (nI (lb_d f t p))), (0, .ref RR)], [.int (nI w)], me_w M J) _ := k
      have k := ly_revb 4 (c' := (if (nI (lb_d f t p)) = 0 then 25 else 41, [(2, .int (nI w)), (1, .int (nI (lb_d f t p))), (0, .ref RR)], [], me_w M J)) rfl k
      rw [if_pos (show (nI (lb_d f t p)) = 0 from show nI (lb_d f t p) = nI 0 from congrArg nI h9)] at k
      have k := ly_revb 3 (c' := (if (nI w) = (Int32.ofInt (-1)) then 30 else 41, [(2, .int (nI w)), (1, .int (nI (lb_d f t p))), (0, .ref RR)], [], me_w M J)) rfl k
      rw [if_neg (show ¬ ((nI w) = (Int32.ofInt (-1))) from me_nm1 (by omega))] at k
      have k := ly_revb 3 (c' := (if (nI (lb_d f t p)) ≤ (Int32.ofInt 5) then 57 else 46, [(2, .int (nI w)), (1, .int (nI (lb_d f t p))), (0, .ref RR)], [], me_w M J)) rfl k
      rw [if_pos (show (nI (lb_d f t p)) ≤ (Int32.ofInt 5) from show nI ((lb_d f t p)) ≤ nI 5 from nI_le (by omega) (by omega))] at k
      have k := ly_revb 1 (c' := (58, [(2, .int (nI w)), (1, .int (nI (lb_d f t p))), (0, .ref RR)], [.ref RR], me_w M J)) rfl k
      obtain ⟨d1, o1, ed, kc, k⟩ := lz_c (g := 53) (q := 1) (vs := [.ref RR]) (rest := []) rfl rfl (by decide) (Or.inr (Or.inl ⟨_, rfl, rfl⟩)) rfl k
      rcases lc_counts hP hS hp kc with ⟨hm, e1⟩ | ⟨hm, _, e1⟩ | ⟨_, hf, _⟩
      · subst e1
        have hS1 := lc_Sm (q := m + 1) hP hS (by omega)
        have k : nt_rn X _ 50 (61, [(2, .int (nI w)), (1, .int (nI (lb_d f t p))), (0, .ref RR)], [.int (Int32.ofInt 1)], me_w M (nt_u J RR 3 (nI (m + 1)))) _ := k
        have k := ly_revb 1 (c' := (if (Int32.ofInt 1) = 0 then 108 else 64, [(2, .int (nI w)), (1, .int (nI (lb_d f t p))), (0, .ref RR)], [], me_w M (nt_u J RR 3 (nI (m + 1))))) rfl k
        rw [if_neg (show ¬ ((Int32.ofInt 1) = 0) from by decide)] at k
        have k := ly_revb 4 (c' := (if (nI w) = (Int32.ofInt (-1)) then 70 else 84, [(2, .int (nI w)), (1, .int (nI (lb_d f t p))), (0, .ref RR)], [.ref RR], me_w M (nt_u J RR 3 (nI (m + 1))))) rfl k
        rw [if_neg (show ¬ ((nI w) = (Int32.ofInt (-1))) from me_nm1 (by omega))] at k
        have k := ly_revb 1 (c' := (85, [(2, .int (nI w)), (1, .int (nI (lb_d f t p))), (0, .ref RR)], [.int (nI w), .ref RR], me_w M (nt_u J RR 3 (nI (m + 1))))) rfl k
        obtain ⟨d1, o1, ed, kc, k⟩ := lz_c (g := 54) (q := 1) (vs := [.ref RR, .int (nI w)]) (rest := []) rfl rfl (by decide) (Or.inr (Or.inl ⟨_, rfl, rfl⟩)) rfl k
        obtain ⟨J2, e1, hS2⟩ := lc_add hP hS1 hp kc
        subst e1
        have k : nt_rn X _ 50 (88, [(2, .int (nI w)), (1, .int (nI (lb_d f t p))), (0, .ref RR)], [], me_w M J2) _ := k
        have k := ly_revb 1 (c' := (89, [(2, .int (nI w)), (1, .int (nI (lb_d f t p))), (0, .ref RR)], [.ref RR], me_w M J2)) rfl k
        have k := lz_get (a := RR) (g := 500) (M := me_w M J2) (v := .ref Rd) rfl (nt_gfR rfl hP.1.2.2.1) k
        have k := ly_revb 3 (c' := (if (nI w) = (Int32.ofInt (-1)) then 97 else 101, [(2, .int (nI w)), (1, .int (nI (lb_d f t p))), (0, .ref RR)], [.ref Rd], me_w M J2)) rfl k
        rw [if_neg (show ¬ ((nI w) = (Int32.ofInt (-1))) from me_nm1 (by omega))] at k
        have k := ly_revb 1 (c' := (102, [(2, .int (nI w)), (1, .int (nI (lb_d f t p))), (0, .ref RR)], [.int (nI w), .ref Rd], me_w M J2)) rfl k
        obtain ⟨d1, o1, ed, kc, k⟩ := lz_c (g := 55) (q := 0) (vs := [.int (nI w)]) (rest := [.ref Rd]) rfl rfl (by decide) (Or.inl ⟨_, rfl, rfl⟩) rfl k
        have e1 := lc_len hw kc
        subst e1
        have k : nt_rn X _ 50 (105, [(2, .int (nI w)), (1, .int (nI (lb_d f t p))), (0, .ref RR)], [.int (nI (lb_W (lb_wd w)).length), .ref Rd], me_w M J2) _ := k
        obtain ⟨d1, o1, ed, kc, k⟩ := lz_c (g := 29) (q := 1) (vs := [.ref Rd, .int (nI (lb_W (lb_wd w)).length)]) (rest := []) rfl rfl (by decide) (Or.inr (Or.inl ⟨_, rfl, rfl⟩)) rfl k
        have e1 := lc_skip (b := (lb_W (lb_wd w)).length) hP hS2 hp (by first | omega | decide | (have := lb_W_len (a := lb_wd w); omega)) kc
        rw [Nat.min_eq_left (hat.1)] at e1
        subst e1
        have hS3 := lc_Spp (q := lb_s f t (p + ((lb_W (lb_wd w)).length))) hP hS2
        have hp3 : lb_s f t (p + ((lb_W (lb_wd w)).length)) ≤ t := (lb_s_le (t - (p + ((lb_W (lb_wd w)).length))) (p + ((lb_W (lb_wd w)).length)) (by have := (hat.1); omega)).2
        have k : nt_rn X _ 50 (108, [(2, .int (nI w)), (1, .int (nI (lb_d f t p))), (0, .ref RR)], [], me_w M (nt_u J2 Rd 1 (nI (lb_s f t (p + ((lb_W (lb_wd w)).length)))))) _ := k
        have k := lz_rv rfl rfl k
        refine ⟨.inr (lb_s f t (p + ((lb_W (lb_wd w)).length)), m + 1, lb_em e (nI w) (Int32.ofInt 1 + Int32.ofInt 16 * nI w)), _, k, ?_, ?_⟩
        · unfold lb_val
          dsimp only
          exact Or.inr (Or.inr (Or.inr (Or.inr ⟨h9, w, hw, hat, hbe, Or.inr ⟨hm, rfl⟩⟩)))
        · unfold lc_Q lb_em
          dsimp only
          exact ⟨hS3, hp3⟩
      · subst e1
        have hS1 := lc_Spp (q := t) hP (lc_Sf (fb := lb_c p (Int32.ofInt 3)) hP hS)
        have k : nt_rn X _ 50 (61, [(2, .int (nI w)), (1, .int (nI (lb_d f t p))), (0, .ref RR)], [.int (Int32.ofInt 0)], me_w M (nt_u (nt_u J Rd 2 (lb_c p (Int32.ofInt 3))) Rd 1 (nI t))) _ := k
        have k := ly_revb 1 (c' := (if (Int32.ofInt 0) = 0 then 108 else 64, [(2, .int (nI w)), (1, .int (nI (lb_d f t p))), (0, .ref RR)], [], me_w M (nt_u (nt_u J Rd 2 (lb_c p (Int32.ofInt 3))) Rd 1 (nI t)))) rfl k
        rw [if_pos (show (Int32.ofInt 0) = 0 from by decide)] at k
        have k := lz_rv rfl rfl k
        refine ⟨.inl (lb_c p (Int32.ofInt 3)), _, k, ?_, (lb_c_ne (by omega) (by decide) (by decide)), _, _, hS1⟩
        unfold lb_val
        dsimp only
        exact Or.inr (Or.inr (Or.inr (Or.inr ⟨h9, w, hw, hat, hbe, Or.inl ⟨hm, rfl⟩⟩)))
      · exact absurd rfl hf
    · subst e1
      have k : nt_rn X _ 50 (16, [(1, .int (nI (lb_d f t p))), (0, .ref RR)], [.int (Int32.ofInt (-1))], me_w M J) _ := k
      have k := ly_revb 4 (c' := (if (nI (lb_d f t p)) = 0 then 25 else 41, [(2, .int (Int32.ofInt (-1))), (1, .int (nI (lb_d f t p))), (0, .ref RR)], [], me_w M J)) rfl k
      rw [if_pos (show (nI (lb_d f t p)) = 0 from show nI (lb_d f t p) = nI 0 from congrArg nI h9)] at k
      have k := ly_revb 3 (c' := (if (Int32.ofInt (-1)) = (Int32.ofInt (-1)) then 30 else 41, [(2, .int (Int32.ofInt (-1))), (1, .int (nI (lb_d f t p))), (0, .ref RR)], [], me_w M J)) rfl k
      rw [if_pos (show (Int32.ofInt (-1)) = (Int32.ofInt (-1)) from rfl)] at k
      have k := ly_revb 1 (c' := (31, [(2, .int (Int32.ofInt (-1))), (1, .int (nI (lb_d f t p))), (0, .ref RR)], [.ref RR], me_w M J)) rfl k
      have k := lz_get (a := RR) (g := 500) (M := me_w M J) (v := .ref Rd) rfl (nt_gfR rfl hP.1.2.2.1) k
      have k := ly_revb 1 (c' := (35, [(2, .int (Int32.ofInt (-1))), (1, .int (nI (lb_d f t p))), (0, .ref RR)], [.int (Int32.ofInt 0), .ref Rd], me_w M J)) rfl k
      obtain ⟨d1, o1, ed, kc, k⟩ := lz_c (g := 31) (q := 1) (vs := [.ref Rd, .int (Int32.ofInt 0)]) (rest := []) rfl rfl (by decide) (Or.inr (Or.inl ⟨_, rfl, rfl⟩)) rfl k
      obtain ⟨hf, e1⟩ := (lc_fail hP hS hp kc).resolve_right (fun c => c.1 rfl)
      subst e1
      have hS1 := lc_Spp (q := t) hP (lc_Sf (fb := lb_c p (Int32.ofInt 0)) hP hS)
      have k : nt_rn X _ 50 (38, [(2, .int (Int32.ofInt (-1))), (1, .int (nI (lb_d f t p))), (0, .ref RR)], [], me_w M (nt_u (nt_u J Rd 2 (lb_c p (Int32.ofInt 0))) Rd 1 (nI t))) _ := k
      have k := ly_revb 1 (c' := (108, [(2, .int (Int32.ofInt (-1))), (1, .int (nI (lb_d f t p))), (0, .ref RR)], [], me_w M (nt_u (nt_u J Rd 2 (lb_c p (Int32.ofInt 0))) Rd 1 (nI t)))) rfl k
      have k := lz_rv rfl rfl k
      refine ⟨.inl (lb_c p (Int32.ofInt 0)), _, k, ?_, (lb_c_ne (by omega) (by decide) (by decide)), _, _, hS1⟩
      unfold lb_val
      dsimp only
      exact Or.inr (Or.inr (Or.inr (Or.inl ⟨h9, hno, rfl⟩)))
  · rw [if_neg (show ¬ ((nI (lb_d f t p)) = 0) from nI_ne0 (Nat.pos_of_ne_zero h9) (by omega))] at k
    have k := ly_revb 4 (c' := (if (nI (lb_d f t p)) = 0 then 25 else 41, [(2, .int (Int32.ofInt (-1))), (1, .int (nI (lb_d f t p))), (0, .ref RR)], [], me_w M J)) rfl k
    rw [if_neg (show ¬ ((nI (lb_d f t p)) = 0) from nI_ne0 (Nat.pos_of_ne_zero h9) (by omega))] at k
    have k := ly_revb 3 (c' := (if (nI (lb_d f t p)) ≤ (Int32.ofInt 5) then 57 else 46, [(2, .int (Int32.ofInt (-1))), (1, .int (nI (lb_d f t p))), (0, .ref RR)], [], me_w M J)) rfl k
    by_cases h43 : (lb_d f t p) ≤ 5
    · rw [if_pos (show (nI (lb_d f t p)) ≤ (Int32.ofInt 5) from show nI ((lb_d f t p)) ≤ nI 5 from nI_le h43 (by omega))] at k
      have k := ly_revb 1 (c' := (58, [(2, .int (Int32.ofInt (-1))), (1, .int (nI (lb_d f t p))), (0, .ref RR)], [.ref RR], me_w M J)) rfl k
      obtain ⟨d1, o1, ed, kc, k⟩ := lz_c (g := 53) (q := 1) (vs := [.ref RR]) (rest := []) rfl rfl (by decide) (Or.inr (Or.inl ⟨_, rfl, rfl⟩)) rfl k
      rcases lc_counts hP hS hp kc with ⟨hm, e1⟩ | ⟨hm, _, e1⟩ | ⟨_, hf, _⟩
      · subst e1
        have hS1 := lc_Sm (q := m + 1) hP hS (by omega)
        have k : nt_rn X _ 50 (61, [(2, .int (Int32.ofInt (-1))), (1, .int (nI (lb_d f t p))), (0, .ref RR)], [.int (Int32.ofInt 1)], me_w M (nt_u J RR 3 (nI (m + 1)))) _ := k
        have k := ly_revb 1 (c' := (if (Int32.ofInt 1) = 0 then 108 else 64, [(2, .int (Int32.ofInt (-1))), (1, .int (nI (lb_d f t p))), (0, .ref RR)], [], me_w M (nt_u J RR 3 (nI (m + 1))))) rfl k
        rw [if_neg (show ¬ ((Int32.ofInt 1) = 0) from by decide)] at k
        have k := ly_revb 4 (c' := (if (Int32.ofInt (-1)) = (Int32.ofInt (-1)) then 70 else 84, [(2, .int (Int32.ofInt (-1))), (1, .int (nI (lb_d f t p))), (0, .ref RR)], [.ref RR], me_w M (nt_u J RR 3 (nI (m + 1))))) rfl k
        rw [if_pos (show (Int32.ofInt (-1)) = (Int32.ofInt (-1)) from rfl)] at k
        have k := ly_revb 2 (c' := (73, [(2, .int (Int32.ofInt (-1))), (1, .int (nI (lb_d f t p))), (0, .ref RR)], [.ref RR, .int (Int32.ofInt 100), .ref RR], me_w M (nt_u J RR 3 (nI (m + 1))))) rfl k
        have k := lz_get (a := RR) (g := 500) (M := me_w M (nt_u J RR 3 (nI (m + 1)))) (v := .ref Rd) rfl (nt_gfR rfl hP.1.2.2.1) k
        have k := ly_revb 1 (c' := (77, [(2, .int (Int32.ofInt (-1))), (1, .int (nI (lb_d f t p))), (0, .ref RR)], [.int (nI (lb_d f t p)), .ref Rd, .int (Int32.ofInt 100), .ref RR], me_w M (nt_u J RR 3 (nI (m + 1))))) rfl k
        obtain ⟨d1, o1, ed, kc, k⟩ := lz_c (g := 34) (q := 1) (vs := [.ref Rd, .int (nI (lb_d f t p))]) (rest := [.int (Int32.ofInt 100), .ref RR]) rfl rfl (by decide) (Or.inr (Or.inl ⟨_, rfl, rfl⟩)) rfl k
        have e1 := lc_valueOf hP hS1 hp hd kc
        subst e1
        have k : nt_rn X _ 50 (80, [(2, .int (Int32.ofInt (-1))), (1, .int (nI (lb_d f t p))), (0, .ref RR)], [.int (lb_v f p ((lb_d f t p))), .int (Int32.ofInt 100), .ref RR], me_w M (nt_u J RR 3 (nI (m + 1)))) _ := k
        have k := ly_revb 2 (c' := (85, [(2, .int (Int32.ofInt (-1))), (1, .int (nI (lb_d f t p))), (0, .ref RR)], [.int ((Int32.ofInt 100) + (lb_v f p ((lb_d f t p)))), .ref RR], me_w M (nt_u J RR 3 (nI (m + 1))))) rfl k
        obtain ⟨d1, o1, ed, kc, k⟩ := lz_c (g := 54) (q := 1) (vs := [.ref RR, .int ((Int32.ofInt 100) + (lb_v f p ((lb_d f t p))))]) (rest := []) rfl rfl (by decide) (Or.inr (Or.inl ⟨_, rfl, rfl⟩)) rfl k
        obtain ⟨J2, e1, hS2⟩ := lc_add hP hS1 hp kc
        subst e1
        have k : nt_rn X _ 50 (88, [(2, .int (Int32.ofInt (-1))), (1, .int (nI (lb_d f t p))), (0, .ref RR)], [], me_w M J2) _ := k
        have k := ly_revb 1 (c' := (89, [(2, .int (Int32.ofInt (-1))), (1, .int (nI (lb_d f t p))), (0, .ref RR)], [.ref RR], me_w M J2)) rfl k
        have k := lz_get (a := RR) (g := 500) (M := me_w M J2) (v := .ref Rd) rfl (nt_gfR rfl hP.1.2.2.1) k
        have k := ly_revb 3 (c' := (if (Int32.ofInt (-1)) = (Int32.ofInt (-1)) then 97 else 101, [(2, .int (Int32.ofInt (-1))), (1, .int (nI (lb_d f t p))), (0, .ref RR)], [.ref Rd], me_w M J2)) rfl k
        rw [if_pos (show (Int32.ofInt (-1)) = (Int32.ofInt (-1)) from rfl)] at k
        have k := ly_revb 2 (c' := (105, [(2, .int (Int32.ofInt (-1))), (1, .int (nI (lb_d f t p))), (0, .ref RR)], [.int (nI (lb_d f t p)), .ref Rd], me_w M J2)) rfl k
        obtain ⟨d1, o1, ed, kc, k⟩ := lz_c (g := 29) (q := 1) (vs := [.ref Rd, .int (nI (lb_d f t p))]) (rest := []) rfl rfl (by decide) (Or.inr (Or.inl ⟨_, rfl, rfl⟩)) rfl k
        have e1 := lc_skip (b := (lb_d f t p)) hP hS2 hp (by first | omega | decide | (have := lb_W_len (a := lb_wd w); omega)) kc
        rw [Nat.min_eq_left (hd)] at e1
        subst e1
        have hS3 := lc_Spp (q := lb_s f t (p + ((lb_d f t p)))) hP hS2
        have hp3 : lb_s f t (p + ((lb_d f t p))) ≤ t := (lb_s_le (t - (p + ((lb_d f t p)))) (p + ((lb_d f t p))) (by have := (hd); omega)).2
        have k : nt_rn X _ 50 (108, [(2, .int (Int32.ofInt (-1))), (1, .int (nI (lb_d f t p))), (0, .ref RR)], [], me_w M (nt_u J2 Rd 1 (nI (lb_s f t (p + ((lb_d f t p))))))) _ := k
        have k := lz_rv rfl rfl k
        refine ⟨.inr (lb_s f t (p + ((lb_d f t p))), m + 1, lb_em e (Int32.ofInt 100 + lb_v f p (lb_d f t p)) (Int32.ofInt 0 + Int32.ofInt 16 * lb_v f p (lb_d f t p))), _, k, ?_, ?_⟩
        · unfold lb_val
          dsimp only
          exact Or.inr (Or.inr (Or.inl ⟨by omega, h43, hm, rfl⟩))
        · unfold lc_Q lb_em
          dsimp only
          exact ⟨hS3, hp3⟩
      · subst e1
        have hS1 := lc_Spp (q := t) hP (lc_Sf (fb := lb_c p (Int32.ofInt 3)) hP hS)
        have k : nt_rn X _ 50 (61, [(2, .int (Int32.ofInt (-1))), (1, .int (nI (lb_d f t p))), (0, .ref RR)], [.int (Int32.ofInt 0)], me_w M (nt_u (nt_u J Rd 2 (lb_c p (Int32.ofInt 3))) Rd 1 (nI t))) _ := k
        have k := ly_revb 1 (c' := (if (Int32.ofInt 0) = 0 then 108 else 64, [(2, .int (Int32.ofInt (-1))), (1, .int (nI (lb_d f t p))), (0, .ref RR)], [], me_w M (nt_u (nt_u J Rd 2 (lb_c p (Int32.ofInt 3))) Rd 1 (nI t)))) rfl k
        rw [if_pos (show (Int32.ofInt 0) = 0 from by decide)] at k
        have k := lz_rv rfl rfl k
        refine ⟨.inl (lb_c p (Int32.ofInt 3)), _, k, ?_, (lb_c_ne (by omega) (by decide) (by decide)), _, _, hS1⟩
        unfold lb_val
        dsimp only
        exact Or.inr (Or.inl ⟨by omega, h43, hm, rfl⟩)
      · exact absurd rfl hf
    · rw [if_neg (show ¬ ((nI (lb_d f t p)) ≤ (Int32.ofInt 5)) from show ¬ nI ((lb_d f t p)) ≤ nI 5 from nI_ge (Nat.not_le.mp h43) (by omega))] at k
      have k := ly_revb 1 (c' := (47, [(2, .int (Int32.ofInt (-1))), (1, .int (nI (lb_d f t p))), (0, .ref RR)], [.ref RR], me_w M J)) rfl k
      have k := lz_get (a := RR) (g := 500) (M := me_w M J) (v := .ref Rd) rfl (nt_gfR rfl hP.1.2.2.1) k
      have k := ly_revb 1 (c' := (51, [(2, .int (Int32.ofInt (-1))), (1, .int (nI (lb_d f t p))), (0, .ref RR)], [.int (Int32.ofInt 1), .ref Rd], me_w M J)) rfl k
      obtain ⟨d1, o1, ed, kc, k⟩ := lz_c (g := 31) (q := 1) (vs := [.ref Rd, .int (Int32.ofInt 1)]) (rest := []) rfl rfl (by decide) (Or.inr (Or.inl ⟨_, rfl, rfl⟩)) rfl k
      obtain ⟨hf, e1⟩ := (lc_fail hP hS hp kc).resolve_right (fun c => c.1 rfl)
      subst e1
      have hS1 := lc_Spp (q := t) hP (lc_Sf (fb := lb_c p (Int32.ofInt 1)) hP hS)
      have k : nt_rn X _ 50 (54, [(2, .int (Int32.ofInt (-1))), (1, .int (nI (lb_d f t p))), (0, .ref RR)], [], me_w M (nt_u (nt_u J Rd 2 (lb_c p (Int32.ofInt 1))) Rd 1 (nI t))) _ := k
      have k := ly_revb 1 (c' := (108, [(2, .int (Int32.ofInt (-1))), (1, .int (nI (lb_d f t p))), (0, .ref RR)], [], me_w M (nt_u (nt_u J Rd 2 (lb_c p (Int32.ofInt 1))) Rd 1 (nI t)))) rfl k
      have k := lz_rv rfl rfl k
      refine ⟨.inl (lb_c p (Int32.ofInt 1)), _, k, ?_, (lb_c_ne (by omega) (by decide) (by decide)), _, _, hS1⟩
      unfold lb_val
      dsimp only
      exact Or.inl ⟨by omega, rfl⟩
theorem lc_readValueF {X : nt_X} {d t Rd Tp By RR Sp : Nat} {f : Nat → Int32} {M : nt_M} {J0 J : Nat → Nat → Int32} {o : Option Value × nt_M} { m : Nat} {fa : Int32} {s : Nat × (Nat → Int32)}  (hP : lc_P M J0 f t Rd Tp By RR Sp) (hS : lc_S J0 Rd RR Sp t fa m s J) (hfa : ¬ fa = 0) (k : nt_ev X d 50 [.ref RR] (me_w M J) o) : ∃ m' s' J', o = (none, me_w M J') ∧ lc_S J0 Rd RR Sp t fa m' s' J' := by
  have k : nt_rn X d 50 (0, [(0, .ref RR)], [], me_w M J) o := k
  have t4 : t ≤ 400 := hP.2.2.2.2.1
  have m6 : m ≤ 60 := hS.2.2.2.2.2.2.2
  have hd : lb_d f t t = 0 := lb_d0 (by omega)
  have k := ly_revb 1 (c' := (1, [(0, .ref RR)], [.ref RR], me_w M J)) rfl k
  have k := lz_get (a := RR) (g := 500) (M := me_w M J) (v := .ref Rd) rfl (nt_gfR rfl hP.1.2.2.1) k
  obtain ⟨d1, o1, ed, kc, k⟩ := lz_c (g := 33) (q := 1) (vs := [.ref Rd]) (rest := []) rfl rfl (by decide) (Or.inr (Or.inl ⟨_, rfl, rfl⟩)) rfl k
  have e1 := lc_digits hP hS (Nat.le_refl t) kc
  subst e1
  have k : nt_rn X _ 50 (7, [(0, .ref RR)], [.int (nI (lb_d f t t))], me_w M J) _ := k
  have k := ly_revb 3 (c' := (if (nI (lb_d f t t)) = 0 then 12 else 19, [(1, .int (nI (lb_d f t t))), (0, .ref RR)], [], me_w M J)) rfl k
  rw [if_pos (show (nI (lb_d f t t)) = 0 from show nI (lb_d f t t) = nI 0 from congrArg nI hd)] at k
  have k := ly_revb 1 (c' := (13, [(1, .int (nI (lb_d f t t))), (0, .ref RR)], [.ref RR], me_w M J)) rfl k
  obtain ⟨d1, o1, ed, kc, k⟩ := lz_c (g := 51) (q := 1) (vs := [.ref RR]) (rest := []) rfl rfl (by decide) (Or.inr (Or.inl ⟨_, rfl, rfl⟩)) rfl k
  obtain ⟨r, e1, hw⟩ := lc_wordAt hP hS (Nat.le_refl t) kc
  subst e1
  obtain ⟨e1, hno⟩ := hw.resolve_left (fun ⟨w, hw, _, hat, _⟩ => absurd hat.1 (by have := lb_W_pos hw; omega))
  subst e1
  have k : nt_rn X _ 50 (16, [(1, .int (nI (lb_d f t t))), (0, .ref RR)], [.int (Int32.ofInt (-1))], me_w M J) _ := k
  have k := ly_revb 4 (c' := (if (nI (lb_d f t t)) = 0 then 25 else 41, [(2, .int (Int32.ofInt (-1))), (1, .int (nI (lb_d f t t))), (0, .ref RR)], [], me_w M J)) rfl k
  rw [if_pos (show (nI (lb_d f t t)) = 0 from show nI (lb_d f t t) = nI 0 from congrArg nI hd)] at k
  have k := ly_revb 3 (c' := (if (Int32.ofInt (-1)) = (Int32.ofInt (-1)) then 30 else 41, [(2, .int (Int32.ofInt (-1))), (1, .int (nI (lb_d f t t))), (0, .ref RR)], [], me_w M J)) rfl k
  rw [if_pos (show (Int32.ofInt (-1)) = (Int32.ofInt (-1)) from rfl)] at k
  have k := ly_revb 1 (c' := (31, [(2, .int (Int32.ofInt (-1))), (1, .int (nI (lb_d f t t))), (0, .ref RR)], [.ref RR], me_w M J)) rfl k
  have k := lz_get (a := RR) (g := 500) (M := me_w M J) (v := .ref Rd) rfl (nt_gfR rfl hP.1.2.2.1) k
  have k := ly_revb 1 (c' := (35, [(2, .int (Int32.ofInt (-1))), (1, .int (nI (lb_d f t t))), (0, .ref RR)], [.int (Int32.ofInt 0), .ref Rd], me_w M J)) rfl k
  obtain ⟨d1, o1, ed, kc, k⟩ := lz_c (g := 31) (q := 1) (vs := [.ref Rd, .int (Int32.ofInt 0)]) (rest := []) rfl rfl (by decide) (Or.inr (Or.inl ⟨_, rfl, rfl⟩)) rfl k
  obtain ⟨hf, e1⟩ := (lc_fail hP hS (Nat.le_refl t) kc).resolve_left (fun c => hfa c.1)
  subst e1
  have hS1 := lc_Spp (q := t) hP hS
  have k : nt_rn X _ 50 (38, [(2, .int (Int32.ofInt (-1))), (1, .int (nI (lb_d f t t))), (0, .ref RR)], [], me_w M (nt_u J Rd 1 (nI t))) _ := k
  have k := ly_revb 1 (c' := (108, [(2, .int (Int32.ofInt (-1))), (1, .int (nI (lb_d f t t))), (0, .ref RR)], [], me_w M (nt_u J Rd 1 (nI t)))) rfl k
  have k := lz_rv rfl rfl k
  exact ⟨_, _, _, k, hS1⟩
end
section
/-! sums, told purely -/
theorem me_ts {X : nt_X} {d mi pc g0 t0 : Nat} {ls : nt_V} {r : List Value} {M : nt_M} {o : Option Value × nt_M} {x : Int32} {dflt lo hi : Int} {offs : Array Int} {c' : nt_C} (hat : nt_at mi pc = some (pc, .tableswitch dflt lo hi offs, g0, t0)) (hx : x.toInt < lo ∨ hi < x.toInt) (hj : nt_jp pc dflt (fun q => some (q, ls, r, M)) = some c') (k : nt_rn X d mi (pc, ls, .int x :: r, M) o) : nt_rn X d mi c' o := by
  obtain ⟨c2, hs, k⟩ := lz_s hat rfl k
  have hs : (if x.toInt < lo ∨ hi < x.toInt then nt_jp pc dflt (fun q => some (q, ls, r, M)) else (match offs[(x.toInt - lo).toNat]? with | some off => nt_jp pc off (fun q => some (q, ls, r, M)) | none => none)) = some c2 := hs
  rw [if_pos hx, hj] at hs
  cases hs
  exact k
theorem me_eqi {x : Int32} {v : Int} (hv : (Int32.ofInt v).toInt = v) (h : x.toInt = v) : x = Int32.ofInt v := Int32.toInt_inj.mp (h.trans hv.symm)
/-- the step of an operator's sign -/
def lb_op (g : Int32) : Int32 := if g = Int32.ofInt 43 then Int32.ofInt 10 else if g = Int32.ofInt 45 then Int32.ofInt 11 else if g = Int32.ofInt 42 then Int32.ofInt 12 else if g = Int32.ofInt 47 then Int32.ofInt 13 else Int32.ofInt (-1)
theorem lb_op_in (g : Int32) : lb_op g = Int32.ofInt 10 ∨ lb_op g = Int32.ofInt 11 ∨ lb_op g = Int32.ofInt 12 ∨ lb_op g = Int32.ofInt 13 ∨ lb_op g = Int32.ofInt (-1) := by
  unfold lb_op
  by_cases h1 : g = Int32.ofInt 43
  · rw [if_pos h1]; exact Or.inl rfl
  · rw [if_neg h1]
    by_cases h2 : g = Int32.ofInt 45
    · rw [if_pos h2]; exact Or.inr (Or.inl rfl)
    · rw [if_neg h2]
      by_cases h3 : g = Int32.ofInt 42
      · rw [if_pos h3]; exact Or.inr (Or.inr (Or.inl rfl))
      · rw [if_neg h3]
        by_cases h4 : g = Int32.ofInt 47
        · rw [if_pos h4]; exact Or.inr (Or.inr (Or.inr (Or.inl rfl)))
        · rw [if_neg h4]; exact Or.inr (Or.inr (Or.inr (Or.inr rfl)))
/-- there is a sign where an operator stands -/
theorem lb_op_lt {f : Nat → Int32} {t p : Nat} (h : ¬ lb_op (lb_g f t p) = Int32.ofInt (-1)) : p < t := by
  by_cases c : p < t
  · exact c
  · exfalso
    apply h
    unfold lb_g
    rw [if_neg c]
    decide
def lb_ew (e : lb_E) (w : Int32) : lb_E := if w = Int32.ofInt (-1) then e else lb_em e w (w - Int32.ofInt 8)
theorem lb_ew1 {e : lb_E} {w : Int32} : (lb_ew e w).1 = lb_en e.1 w := by
  unfold lb_ew lb_en
  by_cases h : w = Int32.ofInt (-1)
  · rw [if_pos h, if_pos h]
  · rw [if_neg h, if_neg h]
    rfl
/-- behind a value: operators and values, a step waiting -/
def lb_sr (f : Nat → Int32) (t : Nat) : Nat → Int32 → lb_Z → lb_Y → Prop
  | 0, _, _, _ => False
  | k + 1, w, z, r =>
    (lb_op (lb_g f t z.1) = Int32.ofInt (-1) ∧ r = .inr (z.1, z.2.1, lb_ew z.2.2 w)) ∨
    ((lb_op (lb_g f t z.1) = Int32.ofInt 12 ∨ lb_op (lb_g f t z.1) = Int32.ofInt 13) ∧ ∃ r1, lb_val f t (lb_s f t (z.1 + 1), z.2.1, z.2.2) r1 ∧ ((∃ c, r1 = .inl c ∧ r = .inl c) ∨ ∃ z1, r1 = .inr z1 ∧ lb_sr f t k w (z1.1, z1.2.1, lb_ew z1.2.2 (lb_op (lb_g f t z.1))) r)) ∨
    ((lb_op (lb_g f t z.1) = Int32.ofInt 10 ∨ lb_op (lb_g f t z.1) = Int32.ofInt 11) ∧ ∃ r1, lb_val f t (lb_s f t (z.1 + 1), z.2.1, lb_ew z.2.2 w) r1 ∧ ((∃ c, r1 = .inl c ∧ r = .inl c) ∨ ∃ z1, r1 = .inr z1 ∧ lb_sr f t k (lb_op (lb_g f t z.1)) z1 r))
def lb_sum (f : Nat → Int32) (t : Nat) (z : lb_Z) (r : lb_Y) : Prop := ∃ r1, lb_val f t z r1 ∧ ((∃ c, r1 = .inl c ∧ r = .inl c) ∨ ∃ z1 k, r1 = .inr z1 ∧ lb_sr f t k (Int32.ofInt (-1)) z1 r)
theorem lb_val_up {f : Nat → Int32} {t : Nat} {z z1 : lb_Z} (hz : z.1 ≤ t) (h : lb_val f t z (.inr z1)) : z.1 < z1.1 ∧ z1.1 ≤ t := by
  have hd := lb_d_le (f := f) (t := t) (t - z.1) z.1 (by omega)
  unfold lb_val at h
  rcases h with ⟨_, h⟩ | ⟨_, _, _, h⟩ | ⟨h0, h5, hm, h⟩ | ⟨_, _, h⟩ | ⟨_, w, hw, hat, _, h | h⟩
  · cases h
  · cases h
  · have e := Sum.inr.inj h
    subst e
    dsimp only
    have q := lb_s_le (f := f) (t := t) (t - (z.1 + lb_d f t z.1)) (z.1 + lb_d f t z.1) (by omega)
    omega
  · cases h
  · cases h.2
  · have e := Sum.inr.inj h.2
    subst e
    dsimp only
    have a := hat.1
    have b := lb_W_pos hw
    have q := lb_s_le (f := f) (t := t) (t - (z.1 + (lb_W (lb_wd w)).length)) (z.1 + (lb_W (lb_wd w)).length) (by omega)
    omega
theorem lc_opAt {X : nt_X} {d t Rd Tp By RR Sp : Nat} {f : Nat → Int32} {M : nt_M} {J0 J : Nat → Nat → Int32} {o : Option Value × nt_M} {p m : Nat} {fa : Int32} {s : Nat × (Nat → Int32)} (hP : lc_P M J0 f t Rd Tp By RR Sp) (hS : lc_S J0 Rd RR Sp p fa m s J) (hp : p ≤ t) (k : nt_ev X d 56 [.ref RR] (me_w M J) o) : o = (some (.int (lb_op (lb_g f t p))), me_w M J) := by
  have k : nt_rn X d 56 (0, [(0, .ref RR)], [], me_w M J) o := k
  have t4 : t ≤ 400 := hP.2.2.2.2.1
  have k := ly_revb 1 (c' := (1, [(0, .ref RR)], [.ref RR], me_w M J)) rfl k
  have k := lz_get (a := RR) (g := 500) (M := me_w M J) (v := .ref Rd) rfl (nt_gfR rfl hP.1.2.2.1) k
  obtain ⟨d1, o1, ed, kc, k⟩ := lz_c (g := 37) (q := 1) (vs := [.ref Rd]) (rest := []) rfl rfl (by decide) (Or.inr (Or.inl ⟨_, rfl, rfl⟩)) rfl k
  have e1 := lc_sign hP hS hp kc
  subst e1
  have k : nt_rn X _ 56 (7, [(0, .ref RR)], [.int (lb_g f t p)], me_w M J) _ := k
  revert k
  generalize lb_g f t p = g
  intro k
  by_cases h42 : g = Int32.ofInt 42
  · rw [h42] at k ⊢
    have k := ly_revb 2 (c' := (52, [(0, .ref RR)], [.int (Int32.ofInt 12)], me_w M J)) rfl k
    exact lz_ri rfl (by decide) k
  by_cases h43 : g = Int32.ofInt 43
  · rw [h43] at k ⊢
    have k := ly_revb 2 (c' := (46, [(0, .ref RR)], [.int (Int32.ofInt 10)], me_w M J)) rfl k
    exact lz_ri rfl (by decide) k
  by_cases h44 : g = Int32.ofInt 44
  · rw [h44] at k ⊢
    have k := ly_revb 2 (c' := (57, [(0, .ref RR)], [.int (Int32.ofInt (-1))], me_w M J)) rfl k
    exact lz_ri rfl (by decide) k
  by_cases h45 : g = Int32.ofInt 45
  · rw [h45] at k ⊢
    have k := ly_revb 2 (c' := (49, [(0, .ref RR)], [.int (Int32.ofInt 11)], me_w M J)) rfl k
    exact lz_ri rfl (by decide) k
  by_cases h46 : g = Int32.ofInt 46
  · rw [h46] at k ⊢
    have k := ly_revb 2 (c' := (57, [(0, .ref RR)], [.int (Int32.ofInt (-1))], me_w M J)) rfl k
    exact lz_ri rfl (by decide) k
  by_cases h47 : g = Int32.ofInt 47
  · rw [h47] at k ⊢
    have k := ly_revb 2 (c' := (55, [(0, .ref RR)], [.int (Int32.ofInt 13)], me_w M J)) rfl k
    exact lz_ri rfl (by decide) k
  have hx : g.toInt < 42 ∨ 47 < g.toInt := by
    by_cases c : g.toInt < 42 ∨ 47 < g.toInt
    · exact c
    · exfalso
      rcases (by omega : g.toInt = 42 ∨ g.toInt = 43 ∨ g.toInt = 44 ∨ g.toInt = 45 ∨ g.toInt = 46 ∨ g.toInt = 47) with h | h | h | h | h | h
      · exact h42 (me_eqi (by decide) h)
      · exact h43 (me_eqi (by decide) h)
      · exact h44 (me_eqi (by decide) h)
      · exact h45 (me_eqi (by decide) h)
      · exact h46 (me_eqi (by decide) h)
      · exact h47 (me_eqi (by decide) h)
  have k := me_ts (mi := 56) (pc := 7) (dflt := 49) (lo := 42) (hi := 47) (offs := #[43, 37, 49, 40, 49, 46]) (c' := (56, [(0, .ref RR)], [], me_w M J)) rfl hx rfl k
  have k := ly_revb 1 (c' := (57, [(0, .ref RR)], [.int (Int32.ofInt (-1))], me_w M J)) rfl k
  have k := lz_ri rfl (by decide) k
  rw [k]
  unfold lb_op
  rw [if_neg h43, if_neg h45, if_neg h42, if_neg h47]
theorem lc_readSumF {X : nt_X} {d t Rd Tp By RR Sp : Nat} {f : Nat → Int32} {M : nt_M} {J0 J : Nat → Nat → Int32} {o : Option Value × nt_M} { m : Nat} {fa : Int32} {s : Nat × (Nat → Int32)}  (hP : lc_P M J0 f t Rd Tp By RR Sp) (hS : lc_S J0 Rd RR Sp t fa m s J) (hfa : ¬ fa = 0) (k : nt_ev X d 49 [.ref RR] (me_w M J) o) : ∃ m' s' J', o = (none, me_w M J') ∧ lc_S J0 Rd RR Sp t fa m' s' J' := by
  have k : nt_rn X d 49 (0, [(0, .ref RR)], [], me_w M J) o := k
  have t4 : t ≤ 400 := hP.2.2.2.2.1
  have m6 : m ≤ 60 := hS.2.2.2.2.2.2.2
  have k := ly_revb 3 (c' := (3, [(1, .int (Int32.ofInt (-1))), (0, .ref RR)], [.ref RR], me_w M J)) rfl k
  obtain ⟨d1, o1, ed, kc, k⟩ := lz_c (g := 50) (q := 1) (vs := [.ref RR]) (rest := []) rfl rfl (by decide) (Or.inr (Or.inl ⟨_, rfl, rfl⟩)) rfl k
  obtain ⟨m8, s8, J8, e1, hS8⟩ := lc_readValueF hP hS hfa kc
  subst e1
  have k : nt_rn X _ 49 (6, [(1, .int (Int32.ofInt (-1))), (0, .ref RR)], [], me_w M J8) _ := k
  have k := ly_revb 5 (c' := (if (Int32.ofInt 400) ≤ (Int32.ofInt 1) then 91 else 15, [(2, .int (Int32.ofInt 1)), (1, .int (Int32.ofInt (-1))), (0, .ref RR)], [], me_w M J8)) rfl k
  rw [if_neg (show ¬ ((Int32.ofInt 400) ≤ (Int32.ofInt 1)) from show ¬ nI 400 ≤ nI 1 from nI_ge (by omega) (by omega))] at k
  have k := ly_revb 1 (c' := (16, [(2, .int (Int32.ofInt 1)), (1, .int (Int32.ofInt (-1))), (0, .ref RR)], [.ref RR], me_w M J8)) rfl k
  obtain ⟨d1, o1, ed, kc, k⟩ := lz_c (g := 56) (q := 1) (vs := [.ref RR]) (rest := []) rfl rfl (by decide) (Or.inr (Or.inl ⟨_, rfl, rfl⟩)) rfl k
  have e1 := lc_opAt hP hS8 (Nat.le_refl t) kc
  subst e1
  have hop := lb_op_in (lb_g f t t)
  have k : nt_rn X _ 49 (19, [(2, .int (Int32.ofInt 1)), (1, .int (Int32.ofInt (-1))), (0, .ref RR)], [.int (lb_op (lb_g f t t))], me_w M J8) _ := k
  have he : lb_op (lb_g f t t) = Int32.ofInt (-1) := by
    unfold lb_g
    rw [if_neg (by omega)]
    decide
  have k := ly_revb 4 (c' := (if (lb_op (lb_g f t t)) = (Int32.ofInt (-1)) then 25 else 28, [(3, .int (lb_op (lb_g f t t))), (2, .int (Int32.ofInt 1)), (1, .int (Int32.ofInt (-1))), (0, .ref RR)], [], me_w M J8)) rfl k
  rw [if_pos (show (lb_op (lb_g f t t)) = (Int32.ofInt (-1)) from he)] at k
  have k := ly_revb 3 (c' := (93, [(3, .int (lb_op (lb_g f t t))), (2, .int (Int32.ofInt 1)), (1, .int (Int32.ofInt (-1))), (0, .ref RR)], [.int (Int32.ofInt (-1)), .ref RR], me_w M J8)) rfl k
  obtain ⟨d1, o1, ed, kc, k⟩ := lz_c (g := 57) (q := 1) (vs := [.ref RR, .int (Int32.ofInt (-1))]) (rest := []) rfl rfl (by decide) (Or.inr (Or.inl ⟨_, rfl, rfl⟩)) rfl k
  obtain ⟨J1, e1, hS1⟩ := lc_addn hP hS8 (Nat.le_refl t) kc
  subst e1
  have k : nt_rn X _ 49 (96, [(3, .int (lb_op (lb_g f t t))), (2, .int (Int32.ofInt 1)), (1, .int (Int32.ofInt (-1))), (0, .ref RR)], [], me_w M J1) _ := k
  have k := lz_rv rfl rfl k
  exact ⟨_, _, _, k, hS1⟩
theorem lc_sml {X : nt_X} {d t Rd Tp By RR Sp : Nat} {f : Nat → Int32} {M : nt_M} {J0 : Nat → Nat → Int32} {o : Option Value × nt_M} (hP : lc_P M J0 f t Rd Tp By RR Sp) : ∀ (c j : Nat) (w : Int32) (z : lb_Z) (ls : nt_V) (J : Nat → Nat → Int32), t - z.1 = c → z.1 ≤ t → j ≤ z.1 → (ls = [(2, .int (nI j)), (1, .int w), (0, .ref RR)] ∨ (∃ a b, ls = [(2, .int (nI j)), (1, .int w), (4, .int b), (3, .int a), (0, .ref RR)]) ∨ ∃ a b, ls = [(2, .int (nI j)), (4, .int b), (3, .int a), (1, .int w), (0, .ref RR)]) → lc_S J0 Rd RR Sp z.1 0 z.2.1 z.2.2.1 J → nt_rn X d 49 (8, ls, [], me_w M J) o → ∃ k r J', o = (none, me_w M J') ∧ lb_sr f t k w z r ∧ lc_Q J0 Rd RR Sp t r J' := by
  have t4 : t ≤ 400 := hP.2.2.2.2.1
  intro c
  induction c using Nat.strongRecOn with
  | ind c ih =>
    intro j w z ls J hc hp hj hl hS k
    rcases hl with rfl | ⟨a, b, rfl⟩ | ⟨a, b, rfl⟩
    · have k := ly_revb 3 (c' := (if (Int32.ofInt 400) ≤ (nI j) then 91 else 15, [(2, .int (nI j)), (1, .int (w)), (0, .ref RR)], [], me_w M J)) rfl k
      by_cases h12 : 400 ≤ j
      · rw [if_pos (show (Int32.ofInt 400) ≤ (nI j) from show nI 400 ≤ nI j from nI_le h12 (by omega))] at k
        have k := ly_revb 2 (c' := (93, [(2, .int (nI j)), (1, .int (w)), (0, .ref RR)], [.int (w), .ref RR], me_w M J)) rfl k
        obtain ⟨d1, o1, ed, kc, k⟩ := lz_c (g := 57) (q := 1) (vs := [.ref RR, .int (w)]) (rest := []) rfl rfl (by decide) (Or.inr (Or.inl ⟨_, rfl, rfl⟩)) rfl k
        obtain ⟨J1, e1, hS1⟩ := lc_addn hP hS hp kc
        subst e1
        have k : nt_rn X _ 49 (96, [(2, .int (nI j)), (1, .int (w)), (0, .ref RR)], [], me_w M J1) _ := k
        have k := lz_rv rfl rfl k
        refine ⟨1, .inr (z.1, z.2.1, lb_ew z.2.2 w), _, k, Or.inl ⟨Classical.byContradiction (fun hh => absurd (lb_op_lt hh) (by omega)), rfl⟩, ?_, hp⟩
        dsimp only
        rw [lb_ew1]
        exact hS1
      · rw [if_neg (show ¬ ((Int32.ofInt 400) ≤ (nI j)) from show ¬ nI 400 ≤ nI j from nI_ge (Nat.not_le.mp h12) (by omega))] at k
        have k := ly_revb 1 (c' := (16, [(2, .int (nI j)), (1, .int (w)), (0, .ref RR)], [.ref RR], me_w M J)) rfl k
        obtain ⟨d1, o1, ed, kc, k⟩ := lz_c (g := 56) (q := 1) (vs := [.ref RR]) (rest := []) rfl rfl (by decide) (Or.inr (Or.inl ⟨_, rfl, rfl⟩)) rfl k
        have e1 := lc_opAt hP hS hp kc
        subst e1
        have hop := lb_op_in (lb_g f t z.1)
        have k : nt_rn X _ 49 (19, [(2, .int (nI j)), (1, .int (w)), (0, .ref RR)], [.int (lb_op (lb_g f t z.1))], me_w M J) _ := k
        have k := ly_revb 4 (c' := (if (lb_op (lb_g f t z.1)) = (Int32.ofInt (-1)) then 25 else 28, [(3, .int (lb_op (lb_g f t z.1))), (2, .int (nI j)), (1, .int (w)), (0, .ref RR)], [], me_w M J)) rfl k
        by_cases h22 : lb_op (lb_g f t z.1) = Int32.ofInt (-1)
        · rw [if_pos (show (lb_op (lb_g f t z.1)) = (Int32.ofInt (-1)) from h22)] at k
          have k := ly_revb 3 (c' := (93, [(3, .int (lb_op (lb_g f t z.1))), (2, .int (nI j)), (1, .int (w)), (0, .ref RR)], [.int (w), .ref RR], me_w M J)) rfl k
          obtain ⟨d1, o1, ed, kc, k⟩ := lz_c (g := 57) (q := 1) (vs := [.ref RR, .int (w)]) (rest := []) rfl rfl (by decide) (Or.inr (Or.inl ⟨_, rfl, rfl⟩)) rfl k
          obtain ⟨J1, e1, hS1⟩ := lc_addn hP hS hp kc
          subst e1
          have k : nt_rn X _ 49 (96, [(3, .int (lb_op (lb_g f t z.1))), (2, .int (nI j)), (1, .int (w)), (0, .ref RR)], [], me_w M J1) _ := k
          have k := lz_rv rfl rfl k
          refine ⟨1, .inr (z.1, z.2.1, lb_ew z.2.2 w), _, k, Or.inl ⟨h22, rfl⟩, ?_, hp⟩
          dsimp only
          rw [lb_ew1]
          exact hS1
        · rw [if_neg (show ¬ ((lb_op (lb_g f t z.1)) = (Int32.ofInt (-1))) from h22)] at k
          have k := ly_revb 3 (c' := (if (lb_op (lb_g f t z.1)) = (Int32.ofInt 12) then 40 else 34, [(3, .int (lb_op (lb_g f t z.1))), (2, .int (nI j)), (1, .int (w)), (0, .ref RR)], [], me_w M J)) rfl k
          by_cases h31 : (lb_op (lb_g f t z.1)) = (Int32.ofInt 12)
          · rw [if_pos (show (lb_op (lb_g f t z.1)) = (Int32.ofInt 12) from h31)] at k
            have k := ly_revb 5 (c' := (if (Int32.ofInt 1) = 0 then 52 else 59, [(4, .int (Int32.ofInt 1)), (3, .int (lb_op (lb_g f t z.1))), (2, .int (nI j)), (1, .int (w)), (0, .ref RR)], [], me_w M J)) rfl k
            rw [if_neg (show ¬ ((Int32.ofInt 1) = 0) from by decide)] at k
            have k := ly_revb 1 (c' := (60, [(4, .int (Int32.ofInt 1)), (3, .int (lb_op (lb_g f t z.1))), (2, .int (nI j)), (1, .int (w)), (0, .ref RR)], [.ref RR], me_w M J)) rfl k
            have k := lz_get (a := RR) (g := 500) (M := me_w M J) (v := .ref Rd) rfl (nt_gfR rfl hP.1.2.2.1) k
            have k := ly_revb 1 (c' := (64, [(4, .int (Int32.ofInt 1)), (3, .int (lb_op (lb_g f t z.1))), (2, .int (nI j)), (1, .int (w)), (0, .ref RR)], [.int (Int32.ofInt 1), .ref Rd], me_w M J)) rfl k
            obtain ⟨d1, o1, ed, kc, k⟩ := lz_c (g := 29) (q := 1) (vs := [.ref Rd, .int (Int32.ofInt 1)]) (rest := []) rfl rfl (by decide) (Or.inr (Or.inl ⟨_, rfl, rfl⟩)) rfl k
            have hlt := lb_op_lt h22
            have e1 := lc_skip (b := 1) hP hS hp (by first | omega | decide | (have := lb_W_len (a := lb_wd w); omega)) kc
            rw [Nat.min_eq_left (hlt)] at e1
            subst e1
            have hS1 := lc_Spp (q := lb_s f t (z.1 + 1)) hP hS
            have hp1 : lb_s f t (z.1 + 1) ≤ t := (lb_s_le (t - (z.1 + 1)) (z.1 + 1) (by have := (hlt); omega)).2
            have k : nt_rn X _ 49 (67, [(4, .int (Int32.ofInt 1)), (3, .int (lb_op (lb_g f t z.1))), (2, .int (nI j)), (1, .int (w)), (0, .ref RR)], [], me_w M (nt_u J Rd 1 (nI (lb_s f t (z.1 + 1))))) _ := k
            have k := ly_revb 1 (c' := (68, [(4, .int (Int32.ofInt 1)), (3, .int (lb_op (lb_g f t z.1))), (2, .int (nI j)), (1, .int (w)), (0, .ref RR)], [.ref RR], me_w M (nt_u J Rd 1 (nI (lb_s f t (z.1 + 1)))))) rfl k
            obtain ⟨d1, o1, ed, kc, k⟩ := lz_c (g := 50) (q := 1) (vs := [.ref RR]) (rest := []) rfl rfl (by decide) (Or.inr (Or.inl ⟨_, rfl, rfl⟩)) rfl k
            obtain ⟨r1, J8, e1, hv, hq⟩ := lc_readValue (e := z.2.2) hP hS1 hp1 kc
            subst e1
            cases r1 with
            | inl c =>
              obtain ⟨hfa, m8, s8, hS8⟩ := hq
              have k : nt_rn X _ 49 (71, [(4, .int (Int32.ofInt 1)), (3, .int (lb_op (lb_g f t z.1))), (2, .int (nI j)), (1, .int (w)), (0, .ref RR)], [], me_w M J8) _ := k
              have k := ly_revb 3 (c' := (if (Int32.ofInt 1) = 0 then 81 else 77, [(4, .int (Int32.ofInt 1)), (3, .int (lb_op (lb_g f t z.1))), (2, .int (nI j)), (1, .int (w)), (0, .ref RR)], [.ref RR], me_w M J8)) rfl k
              rw [if_neg (show ¬ ((Int32.ofInt 1) = 0) from by decide)] at k
              have k := ly_revb 2 (c' := (82, [(4, .int (Int32.ofInt 1)), (3, .int (lb_op (lb_g f t z.1))), (2, .int (nI j)), (1, .int (w)), (0, .ref RR)], [.int (lb_op (lb_g f t z.1)), .ref RR], me_w M J8)) rfl k
              obtain ⟨d1, o1, ed, kc, k⟩ := lz_c (g := 57) (q := 1) (vs := [.ref RR, .int (lb_op (lb_g f t z.1))]) (rest := []) rfl rfl (by decide) (Or.inr (Or.inl ⟨_, rfl, rfl⟩)) rfl k
              obtain ⟨J2, e1, hS2⟩ := lc_addn hP hS8 (Nat.le_refl t) kc
              subst e1
              have k : nt_rn X _ 49 (85, [(4, .int (Int32.ofInt 1)), (3, .int (lb_op (lb_g f t z.1))), (2, .int (nI j)), (1, .int (w)), (0, .ref RR)], [], me_w M J2) _ := k
              have k := ly_revb 1 (c' := (88, [(2, .int ((nI j) + Int32.ofInt 1)), (4, .int (Int32.ofInt 1)), (3, .int (lb_op (lb_g f t z.1))), (1, .int (w)), (0, .ref RR)], [], me_w M J2)) rfl k
              rw [show ((nI j) + Int32.ofInt 1 : Int32) = nI (j + 1) from me_add (k := 1)] at k
              have k := ly_revb 1 (c' := (8, [(2, .int (nI (j + 1))), (4, .int (Int32.ofInt 1)), (3, .int (lb_op (lb_g f t z.1))), (1, .int (w)), (0, .ref RR)], [], me_w M J2)) rfl k
              have k := ly_revb 3 (c' := (if (Int32.ofInt 400) ≤ (nI (j + 1)) then 91 else 15, [(2, .int (nI (j + 1))), (4, .int (Int32.ofInt 1)), (3, .int (lb_op (lb_g f t z.1))), (1, .int (w)), (0, .ref RR)], [], me_w M J2)) rfl k
              by_cases h12' : 400 ≤ (j + 1)
              · rw [if_pos (show (Int32.ofInt 400) ≤ (nI (j + 1)) from show nI 400 ≤ nI ((j + 1)) from nI_le h12' (by omega))] at k
                have k := ly_revb 2 (c' := (93, [(2, .int (nI (j + 1))), (4, .int (Int32.ofInt 1)), (3, .int (lb_op (lb_g f t z.1))), (1, .int (w)), (0, .ref RR)], [.int (w), .ref RR], me_w M J2)) rfl k
                obtain ⟨d1, o1, ed, kc, k⟩ := lz_c (g := 57) (q := 1) (vs := [.ref RR, .int (w)]) (rest := []) rfl rfl (by decide) (Or.inr (Or.inl ⟨_, rfl, rfl⟩)) rfl k
                obtain ⟨J3, e1, hS3⟩ := lc_addn hP hS2 (Nat.le_refl t) kc
                subst e1
                have k : nt_rn X _ 49 (96, [(2, .int (nI (j + 1))), (4, .int (Int32.ofInt 1)), (3, .int (lb_op (lb_g f t z.1))), (1, .int (w)), (0, .ref RR)], [], me_w M J3) _ := k
                have k := lz_rv rfl rfl k
                exact ⟨1, .inl c, _, k, Or.inr (Or.inl ⟨Or.inl h31, _, hv, Or.inl ⟨c, rfl, rfl⟩⟩), hfa, _, _, hS3⟩
              · rw [if_neg (show ¬ ((Int32.ofInt 400) ≤ (nI (j + 1))) from show ¬ nI 400 ≤ nI ((j + 1)) from nI_ge (Nat.not_le.mp h12') (by omega))] at k
                have k := ly_revb 1 (c' := (16, [(2, .int (nI (j + 1))), (4, .int (Int32.ofInt 1)), (3, .int (lb_op (lb_g f t z.1))), (1, .int (w)), (0, .ref RR)], [.ref RR], me_w M J2)) rfl k
                obtain ⟨d1, o1, ed, kc, k⟩ := lz_c (g := 56) (q := 1) (vs := [.ref RR]) (rest := []) rfl rfl (by decide) (Or.inr (Or.inl ⟨_, rfl, rfl⟩)) rfl k
                have e1 := lc_opAt hP hS2 (Nat.le_refl t) kc
                subst e1
                have hop := lb_op_in (lb_g f t t)
                have k : nt_rn X _ 49 (19, [(2, .int (nI (j + 1))), (4, .int (Int32.ofInt 1)), (3, .int (lb_op (lb_g f t z.1))), (1, .int (w)), (0, .ref RR)], [.int (lb_op (lb_g f t t))], me_w M J2) _ := k
                have he : lb_op (lb_g f t t) = Int32.ofInt (-1) := by
                  unfold lb_g
                  rw [if_neg (by omega)]
                  decide
                have k := ly_revb 4 (c' := (if (lb_op (lb_g f t t)) = (Int32.ofInt (-1)) then 25 else 28, [(3, .int (lb_op (lb_g f t t))), (2, .int (nI (j + 1))), (4, .int (Int32.ofInt 1)), (1, .int (w)), (0, .ref RR)], [], me_w M J2)) rfl k
                rw [if_pos (show (lb_op (lb_g f t t)) = (Int32.ofInt (-1)) from he)] at k
                have k := ly_revb 3 (c' := (93, [(3, .int (lb_op (lb_g f t t))), (2, .int (nI (j + 1))), (4, .int (Int32.ofInt 1)), (1, .int (w)), (0, .ref RR)], [.int (w), .ref RR], me_w M J2)) rfl k
                obtain ⟨d1, o1, ed, kc, k⟩ := lz_c (g := 57) (q := 1) (vs := [.ref RR, .int (w)]) (rest := []) rfl rfl (by decide) (Or.inr (Or.inl ⟨_, rfl, rfl⟩)) rfl k
                obtain ⟨J3, e1, hS3⟩ := lc_addn hP hS2 (Nat.le_refl t) kc
                subst e1
                have k : nt_rn X _ 49 (96, [(3, .int (lb_op (lb_g f t t))), (2, .int (nI (j + 1))), (4, .int (Int32.ofInt 1)), (1, .int (w)), (0, .ref RR)], [], me_w M J3) _ := k
                have k := lz_rv rfl rfl k
                exact ⟨1, .inl c, _, k, Or.inr (Or.inl ⟨Or.inl h31, _, hv, Or.inl ⟨c, rfl, rfl⟩⟩), hfa, _, _, hS3⟩
            | inr z1 =>
              obtain ⟨hS9, hp9⟩ := hq
              have hup := lb_val_up hp1 hv
              have k : nt_rn X _ 49 (71, [(4, .int (Int32.ofInt 1)), (3, .int (lb_op (lb_g f t z.1))), (2, .int (nI j)), (1, .int (w)), (0, .ref RR)], [], me_w M J8) _ := k
              have k := ly_revb 3 (c' := (if (Int32.ofInt 1) = 0 then 81 else 77, [(4, .int (Int32.ofInt 1)), (3, .int (lb_op (lb_g f t z.1))), (2, .int (nI j)), (1, .int (w)), (0, .ref RR)], [.ref RR], me_w M J8)) rfl k
              rw [if_neg (show ¬ ((Int32.ofInt 1) = 0) from by decide)] at k
              have k := ly_revb 2 (c' := (82, [(4, .int (Int32.ofInt 1)), (3, .int (lb_op (lb_g f t z.1))), (2, .int (nI j)), (1, .int (w)), (0, .ref RR)], [.int (lb_op (lb_g f t z.1)), .ref RR], me_w M J8)) rfl k
              obtain ⟨d1, o1, ed, kc, k⟩ := lz_c (g := 57) (q := 1) (vs := [.ref RR, .int (lb_op (lb_g f t z.1))]) (rest := []) rfl rfl (by decide) (Or.inr (Or.inl ⟨_, rfl, rfl⟩)) rfl k
              obtain ⟨J2, e1, hS2⟩ := lc_addn hP hS9 hp9 kc
              subst e1
              have k : nt_rn X _ 49 (85, [(4, .int (Int32.ofInt 1)), (3, .int (lb_op (lb_g f t z.1))), (2, .int (nI j)), (1, .int (w)), (0, .ref RR)], [], me_w M J2) _ := k
              have k := ly_revb 1 (c' := (88, [(2, .int ((nI j) + Int32.ofInt 1)), (4, .int (Int32.ofInt 1)), (3, .int (lb_op (lb_g f t z.1))), (1, .int (w)), (0, .ref RR)], [], me_w M J2)) rfl k
              rw [show ((nI j) + Int32.ofInt 1 : Int32) = nI (j + 1) from me_add (k := 1)] at k
              have k := ly_revb 1 (c' := (8, [(2, .int (nI (j + 1))), (4, .int (Int32.ofInt 1)), (3, .int (lb_op (lb_g f t z.1))), (1, .int (w)), (0, .ref RR)], [], me_w M J2)) rfl k
              have hsl := lb_s_le (f := f) (t := t) (t - (z.1 + 1)) (z.1 + 1) (by omega)
              dsimp only at hup
              obtain ⟨k1, r1, J7, e2, hsr, hq⟩ := ih (t - z1.1) (by omega) (j + 1) w (z1.1, z1.2.1, lb_ew z1.2.2 (lb_op (lb_g f t z.1))) _ _ rfl hp9 (by dsimp only; omega) (Or.inr (Or.inr ⟨_, _, rfl⟩)) (by dsimp only; rw [lb_ew1]; exact hS2) k
              exact ⟨k1 + 1, r1, J7, e2, Or.inr (Or.inl ⟨Or.inl h31, _, hv, Or.inr ⟨z1, rfl, hsr⟩⟩), hq⟩
          · rw [if_neg (show ¬ ((lb_op (lb_g f t z.1)) = (Int32.ofInt 12)) from h31)] at k
            have k := ly_revb 3 (c' := (if (lb_op (lb_g f t z.1)) = (Int32.ofInt 13) then 40 else 44, [(3, .int (lb_op (lb_g f t z.1))), (2, .int (nI j)), (1, .int (w)), (0, .ref RR)], [], me_w M J)) rfl k
            by_cases h37 : (lb_op (lb_g f t z.1)) = (Int32.ofInt 13)
            · rw [if_pos (show (lb_op (lb_g f t z.1)) = (Int32.ofInt 13) from h37)] at k
              have k := ly_revb 5 (c' := (if (Int32.ofInt 1) = 0 then 52 else 59, [(4, .int (Int32.ofInt 1)), (3, .int (lb_op (lb_g f t z.1))), (2, .int (nI j)), (1, .int (w)), (0, .ref RR)], [], me_w M J)) rfl k
              rw [if_neg (show ¬ ((Int32.ofInt 1) = 0) from by decide)] at k
              have k := ly_revb 1 (c' := (60, [(4, .int (Int32.ofInt 1)), (3, .int (lb_op (lb_g f t z.1))), (2, .int (nI j)), (1, .int (w)), (0, .ref RR)], [.ref RR], me_w M J)) rfl k
              have k := lz_get (a := RR) (g := 500) (M := me_w M J) (v := .ref Rd) rfl (nt_gfR rfl hP.1.2.2.1) k
              have k := ly_revb 1 (c' := (64, [(4, .int (Int32.ofInt 1)), (3, .int (lb_op (lb_g f t z.1))), (2, .int (nI j)), (1, .int (w)), (0, .ref RR)], [.int (Int32.ofInt 1), .ref Rd], me_w M J)) rfl k
              obtain ⟨d1, o1, ed, kc, k⟩ := lz_c (g := 29) (q := 1) (vs := [.ref Rd, .int (Int32.ofInt 1)]) (rest := []) rfl rfl (by decide) (Or.inr (Or.inl ⟨_, rfl, rfl⟩)) rfl k
              have hlt := lb_op_lt h22
              have e1 := lc_skip (b := 1) hP hS hp (by first | omega | decide | (have := lb_W_len (a := lb_wd w); omega)) kc
              rw [Nat.min_eq_left (hlt)] at e1
              subst e1
              have hS1 := lc_Spp (q := lb_s f t (z.1 + 1)) hP hS
              have hp1 : lb_s f t (z.1 + 1) ≤ t := (lb_s_le (t - (z.1 + 1)) (z.1 + 1) (by have := (hlt); omega)).2
              have k : nt_rn X _ 49 (67, [(4, .int (Int32.ofInt 1)), (3, .int (lb_op (lb_g f t z.1))), (2, .int (nI j)), (1, .int (w)), (0, .ref RR)], [], me_w M (nt_u J Rd 1 (nI (lb_s f t (z.1 + 1))))) _ := k
              have k := ly_revb 1 (c' := (68, [(4, .int (Int32.ofInt 1)), (3, .int (lb_op (lb_g f t z.1))), (2, .int (nI j)), (1, .int (w)), (0, .ref RR)], [.ref RR], me_w M (nt_u J Rd 1 (nI (lb_s f t (z.1 + 1)))))) rfl k
              obtain ⟨d1, o1, ed, kc, k⟩ := lz_c (g := 50) (q := 1) (vs := [.ref RR]) (rest := []) rfl rfl (by decide) (Or.inr (Or.inl ⟨_, rfl, rfl⟩)) rfl k
              obtain ⟨r1, J8, e1, hv, hq⟩ := lc_readValue (e := z.2.2) hP hS1 hp1 kc
              subst e1
              cases r1 with
              | inl c =>
                obtain ⟨hfa, m8, s8, hS8⟩ := hq
                have k : nt_rn X _ 49 (71, [(4, .int (Int32.ofInt 1)), (3, .int (lb_op (lb_g f t z.1))), (2, .int (nI j)), (1, .int (w)), (0, .ref RR)], [], me_w M J8) _ := k
                have k := ly_revb 3 (c' := (if (Int32.ofInt 1) = 0 then 81 else 77, [(4, .int (Int32.ofInt 1)), (3, .int (lb_op (lb_g f t z.1))), (2, .int (nI j)), (1, .int (w)), (0, .ref RR)], [.ref RR], me_w M J8)) rfl k
                rw [if_neg (show ¬ ((Int32.ofInt 1) = 0) from by decide)] at k
                have k := ly_revb 2 (c' := (82, [(4, .int (Int32.ofInt 1)), (3, .int (lb_op (lb_g f t z.1))), (2, .int (nI j)), (1, .int (w)), (0, .ref RR)], [.int (lb_op (lb_g f t z.1)), .ref RR], me_w M J8)) rfl k
                obtain ⟨d1, o1, ed, kc, k⟩ := lz_c (g := 57) (q := 1) (vs := [.ref RR, .int (lb_op (lb_g f t z.1))]) (rest := []) rfl rfl (by decide) (Or.inr (Or.inl ⟨_, rfl, rfl⟩)) rfl k
                obtain ⟨J2, e1, hS2⟩ := lc_addn hP hS8 (Nat.le_refl t) kc
                subst e1
                have k : nt_rn X _ 49 (85, [(4, .int (Int32.ofInt 1)), (3, .int (lb_op (lb_g f t z.1))), (2, .int (nI j)), (1, .int (w)), (0, .ref RR)], [], me_w M J2) _ := k
                have k := ly_revb 1 (c' := (88, [(2, .int ((nI j) + Int32.ofInt 1)), (4, .int (Int32.ofInt 1)), (3, .int (lb_op (lb_g f t z.1))), (1, .int (w)), (0, .ref RR)], [], me_w M J2)) rfl k
                rw [show ((nI j) + Int32.ofInt 1 : Int32) = nI (j + 1) from me_add (k := 1)] at k
                have k := ly_revb 1 (c' := (8, [(2, .int (nI (j + 1))), (4, .int (Int32.ofInt 1)), (3, .int (lb_op (lb_g f t z.1))), (1, .int (w)), (0, .ref RR)], [], me_w M J2)) rfl k
                have k := ly_revb 3 (c' := (if (Int32.ofInt 400) ≤ (nI (j + 1)) then 91 else 15, [(2, .int (nI (j + 1))), (4, .int (Int32.ofInt 1)), (3, .int (lb_op (lb_g f t z.1))), (1, .int (w)), (0, .ref RR)], [], me_w M J2)) rfl k
                by_cases h12' : 400 ≤ (j + 1)
                · rw [if_pos (show (Int32.ofInt 400) ≤ (nI (j + 1)) from show nI 400 ≤ nI ((j + 1)) from nI_le h12' (by omega))] at k
                  have k := ly_revb 2 (c' := (93, [(2, .int (nI (j + 1))), (4, .int (Int32.ofInt 1)), (3, .int (lb_op (lb_g f t z.1))), (1, .int (w)), (0, .ref RR)], [.int (w), .ref RR], me_w M J2)) rfl k
                  obtain ⟨d1, o1, ed, kc, k⟩ := lz_c (g := 57) (q := 1) (vs := [.ref RR, .int (w)]) (rest := []) rfl rfl (by decide) (Or.inr (Or.inl ⟨_, rfl, rfl⟩)) rfl k
                  obtain ⟨J3, e1, hS3⟩ := lc_addn hP hS2 (Nat.le_refl t) kc
                  subst e1
                  have k : nt_rn X _ 49 (96, [(2, .int (nI (j + 1))), (4, .int (Int32.ofInt 1)), (3, .int (lb_op (lb_g f t z.1))), (1, .int (w)), (0, .ref RR)], [], me_w M J3) _ := k
                  have k := lz_rv rfl rfl k
                  exact ⟨1, .inl c, _, k, Or.inr (Or.inl ⟨Or.inr h37, _, hv, Or.inl ⟨c, rfl, rfl⟩⟩), hfa, _, _, hS3⟩
                · rw [if_neg (show ¬ ((Int32.ofInt 400) ≤ (nI (j + 1))) from show ¬ nI 400 ≤ nI ((j + 1)) from nI_ge (Nat.not_le.mp h12') (by omega))] at k
                  have k := ly_revb 1 (c' := (16, [(2, .int (nI (j + 1))), (4, .int (Int32.ofInt 1)), (3, .int (lb_op (lb_g f t z.1))), (1, .int (w)), (0, .ref RR)], [.ref RR], me_w M J2)) rfl k
                  obtain ⟨d1, o1, ed, kc, k⟩ := lz_c (g := 56) (q := 1) (vs := [.ref RR]) (rest := []) rfl rfl (by decide) (Or.inr (Or.inl ⟨_, rfl, rfl⟩)) rfl k
                  have e1 := lc_opAt hP hS2 (Nat.le_refl t) kc
                  subst e1
                  have hop := lb_op_in (lb_g f t t)
                  have k : nt_rn X _ 49 (19, [(2, .int (nI (j + 1))), (4, .int (Int32.ofInt 1)), (3, .int (lb_op (lb_g f t z.1))), (1, .int (w)), (0, .ref RR)], [.int (lb_op (lb_g f t t))], me_w M J2) _ := k
                  have he : lb_op (lb_g f t t) = Int32.ofInt (-1) := by
                    unfold lb_g
                    rw [if_neg (by omega)]
                    decide
                  have k := ly_revb 4 (c' := (if (lb_op (lb_g f t t)) = (Int32.ofInt (-1)) then 25 else 28, [(3, .int (lb_op (lb_g f t t))), (2, .int (nI (j + 1))), (4, .int (Int32.ofInt 1)), (1, .int (w)), (0, .ref RR)], [], me_w M J2)) rfl k
                  rw [if_pos (show (lb_op (lb_g f t t)) = (Int32.ofInt (-1)) from he)] at k
                  have k := ly_revb 3 (c' := (93, [(3, .int (lb_op (lb_g f t t))), (2, .int (nI (j + 1))), (4, .int (Int32.ofInt 1)), (1, .int (w)), (0, .ref RR)], [.int (w), .ref RR], me_w M J2)) rfl k
                  obtain ⟨d1, o1, ed, kc, k⟩ := lz_c (g := 57) (q := 1) (vs := [.ref RR, .int (w)]) (rest := []) rfl rfl (by decide) (Or.inr (Or.inl ⟨_, rfl, rfl⟩)) rfl k
                  obtain ⟨J3, e1, hS3⟩ := lc_addn hP hS2 (Nat.le_refl t) kc
                  subst e1
                  have k : nt_rn X _ 49 (96, [(3, .int (lb_op (lb_g f t t))), (2, .int (nI (j + 1))), (4, .int (Int32.ofInt 1)), (1, .int (w)), (0, .ref RR)], [], me_w M J3) _ := k
                  have k := lz_rv rfl rfl k
                  exact ⟨1, .inl c, _, k, Or.inr (Or.inl ⟨Or.inr h37, _, hv, Or.inl ⟨c, rfl, rfl⟩⟩), hfa, _, _, hS3⟩
              | inr z1 =>
                obtain ⟨hS9, hp9⟩ := hq
                have hup := lb_val_up hp1 hv
                have k : nt_rn X _ 49 (71, [(4, .int (Int32.ofInt 1)), (3, .int (lb_op (lb_g f t z.1))), (2, .int (nI j)), (1, .int (w)), (0, .ref RR)], [], me_w M J8) _ := k
                have k := ly_revb 3 (c' := (if (Int32.ofInt 1) = 0 then 81 else 77, [(4, .int (Int32.ofInt 1)), (3, .int (lb_op (lb_g f t z.1))), (2, .int (nI j)), (1, .int (w)), (0, .ref RR)], [.ref RR], me_w M J8)) rfl k
                rw [if_neg (show ¬ ((Int32.ofInt 1) = 0) from by decide)] at k
                have k := ly_revb 2 (c' := (82, [(4, .int (Int32.ofInt 1)), (3, .int (lb_op (lb_g f t z.1))), (2, .int (nI j)), (1, .int (w)), (0, .ref RR)], [.int (lb_op (lb_g f t z.1)), .ref RR], me_w M J8)) rfl k
                obtain ⟨d1, o1, ed, kc, k⟩ := lz_c (g := 57) (q := 1) (vs := [.ref RR, .int (lb_op (lb_g f t z.1))]) (rest := []) rfl rfl (by decide) (Or.inr (Or.inl ⟨_, rfl, rfl⟩)) rfl k
                obtain ⟨J2, e1, hS2⟩ := lc_addn hP hS9 hp9 kc
                subst e1
                have k : nt_rn X _ 49 (85, [(4, .int (Int32.ofInt 1)), (3, .int (lb_op (lb_g f t z.1))), (2, .int (nI j)), (1, .int (w)), (0, .ref RR)], [], me_w M J2) _ := k
                have k := ly_revb 1 (c' := (88, [(2, .int ((nI j) + Int32.ofInt 1)), (4, .int (Int32.ofInt 1)), (3, .int (lb_op (lb_g f t z.1))), (1, .int (w)), (0, .ref RR)], [], me_w M J2)) rfl k
                rw [show ((nI j) + Int32.ofInt 1 : Int32) = nI (j + 1) from me_add (k := 1)] at k
                have k := ly_revb 1 (c' := (8, [(2, .int (nI (j + 1))), (4, .int (Int32.ofInt 1)), (3, .int (lb_op (lb_g f t z.1))), (1, .int (w)), (0, .ref RR)], [], me_w M J2)) rfl k
                have hsl := lb_s_le (f := f) (t := t) (t - (z.1 + 1)) (z.1 + 1) (by omega)
                dsimp only at hup
                obtain ⟨k1, r1, J7, e2, hsr, hq⟩ := ih (t - z1.1) (by omega) (j + 1) w (z1.1, z1.2.1, lb_ew z1.2.2 (lb_op (lb_g f t z.1))) _ _ rfl hp9 (by dsimp only; omega) (Or.inr (Or.inr ⟨_, _, rfl⟩)) (by dsimp only; rw [lb_ew1]; exact hS2) k
                exact ⟨k1 + 1, r1, J7, e2, Or.inr (Or.inl ⟨Or.inr h37, _, hv, Or.inr ⟨z1, rfl, hsr⟩⟩), hq⟩
            · rw [if_neg (show ¬ ((lb_op (lb_g f t z.1)) = (Int32.ofInt 13)) from h37)] at k
              have hadd : lb_op (lb_g f t z.1) = Int32.ofInt 10 ∨ lb_op (lb_g f t z.1) = Int32.ofInt 11 := by
                rcases hop with h | h | h | h | h
                · exact Or.inl h
                · exact Or.inr h
                · exact absurd h h31
                · exact absurd h h37
                · exact absurd h h22
              have k := ly_revb 4 (c' := (if (Int32.ofInt 0) = 0 then 52 else 59, [(4, .int (Int32.ofInt 0)), (3, .int (lb_op (lb_g f t z.1))), (2, .int (nI j)), (1, .int (w)), (0, .ref RR)], [], me_w M J)) rfl k
              rw [if_pos (show (Int32.ofInt 0) = 0 from by decide)] at k
              have k := ly_revb 2 (c' := (54, [(4, .int (Int32.ofInt 0)), (3, .int (lb_op (lb_g f t z.1))), (2, .int (nI j)), (1, .int (w)), (0, .ref RR)], [.int (w), .ref RR], me_w M J)) rfl k
              obtain ⟨d1, o1, ed, kc, k⟩ := lz_c (g := 57) (q := 1) (vs := [.ref RR, .int (w)]) (rest := []) rfl rfl (by decide) (Or.inr (Or.inl ⟨_, rfl, rfl⟩)) rfl k
              obtain ⟨J1, e1, hS1⟩ := lc_addn hP hS hp kc
              subst e1
              have k : nt_rn X _ 49 (57, [(4, .int (Int32.ofInt 0)), (3, .int (lb_op (lb_g f t z.1))), (2, .int (nI j)), (1, .int (w)), (0, .ref RR)], [], me_w M J1) _ := k
              have k := ly_revb 3 (c' := (60, [(1, .int (lb_op (lb_g f t z.1))), (4, .int (Int32.ofInt 0)), (3, .int (lb_op (lb_g f t z.1))), (2, .int (nI j)), (0, .ref RR)], [.ref RR], me_w M J1)) rfl k
              have k := lz_get (a := RR) (g := 500) (M := me_w M J1) (v := .ref Rd) rfl (nt_gfR rfl hP.1.2.2.1) k
              have k := ly_revb 1 (c' := (64, [(1, .int (lb_op (lb_g f t z.1))), (4, .int (Int32.ofInt 0)), (3, .int (lb_op (lb_g f t z.1))), (2, .int (nI j)), (0, .ref RR)], [.int (Int32.ofInt 1), .ref Rd], me_w M J1)) rfl k
              obtain ⟨d1, o1, ed, kc, k⟩ := lz_c (g := 29) (q := 1) (vs := [.ref Rd, .int (Int32.ofInt 1)]) (rest := []) rfl rfl (by decide) (Or.inr (Or.inl ⟨_, rfl, rfl⟩)) rfl k
              have hlt := lb_op_lt h22
              have e1 := lc_skip (b := 1) hP hS1 hp (by first | omega | decide | (have := lb_W_len (a := lb_wd w); omega)) kc
              rw [Nat.min_eq_left (hlt)] at e1
              subst e1
              have hS2 := lc_Spp (q := lb_s f t (z.1 + 1)) hP hS1
              have hp2 : lb_s f t (z.1 + 1) ≤ t := (lb_s_le (t - (z.1 + 1)) (z.1 + 1) (by have := (hlt); omega)).2
              have k : nt_rn X _ 49 (67, [(1, .int (lb_op (lb_g f t z.1))), (4, .int (Int32.ofInt 0)), (3, .int (lb_op (lb_g f t z.1))), (2, .int (nI j)), (0, .ref RR)], [], me_w M (nt_u J1 Rd 1 (nI (lb_s f t (z.1 + 1))))) _ := k
              have k := ly_revb 1 (c' := (68, [(1, .int (lb_op (lb_g f t z.1))), (4, .int (Int32.ofInt 0)), (3, .int (lb_op (lb_g f t z.1))), (2, .int (nI j)), (0, .ref RR)], [.ref RR], me_w M (nt_u J1 Rd 1 (nI (lb_s f t (z.1 + 1)))))) rfl k
              obtain ⟨d1, o1, ed, kc, k⟩ := lz_c (g := 50) (q := 1) (vs := [.ref RR]) (rest := []) rfl rfl (by decide) (Or.inr (Or.inl ⟨_, rfl, rfl⟩)) rfl k
              obtain ⟨r1, J8, e1, hv, hq⟩ := lc_readValue (e := lb_ew z.2.2 w) hP (by rw [lb_ew1]; exact hS2) hp2 kc
              subst e1
              cases r1 with
              | inl c =>
                obtain ⟨hfa, m8, s8, hS8⟩ := hq
                have k : nt_rn X _ 49 (71, [(1, .int (lb_op (lb_g f t z.1))), (4, .int (Int32.ofInt 0)), (3, .int (lb_op (lb_g f t z.1))), (2, .int (nI j)), (0, .ref RR)], [], me_w M J8) _ := k
                have k := ly_revb 3 (c' := (if (Int32.ofInt 0) = 0 then 81 else 77, [(1, .int (lb_op (lb_g f t z.1))), (4, .int (Int32.ofInt 0)), (3, .int (lb_op (lb_g f t z.1))), (2, .int (nI j)), (0, .ref RR)], [.ref RR], me_w M J8)) rfl k
                rw [if_pos (show (Int32.ofInt 0) = 0 from by decide)] at k
                have k := ly_revb 1 (c' := (82, [(1, .int (lb_op (lb_g f t z.1))), (4, .int (Int32.ofInt 0)), (3, .int (lb_op (lb_g f t z.1))), (2, .int (nI j)), (0, .ref RR)], [.int (Int32.ofInt (-1)), .ref RR], me_w M J8)) rfl k
                obtain ⟨d1, o1, ed, kc, k⟩ := lz_c (g := 57) (q := 1) (vs := [.ref RR, .int (Int32.ofInt (-1))]) (rest := []) rfl rfl (by decide) (Or.inr (Or.inl ⟨_, rfl, rfl⟩)) rfl k
                obtain ⟨J3, e1, hS3⟩ := lc_addn hP hS8 (Nat.le_refl t) kc
                subst e1
                have k : nt_rn X _ 49 (85, [(1, .int (lb_op (lb_g f t z.1))), (4, .int (Int32.ofInt 0)), (3, .int (lb_op (lb_g f t z.1))), (2, .int (nI j)), (0, .ref RR)], [], me_w M J3) _ := k
                have k := ly_revb 1 (c' := (88, [(2, .int ((nI j) + Int32.ofInt 1)), (1, .int (lb_op (lb_g f t z.1))), (4, .int (Int32.ofInt 0)), (3, .int (lb_op (lb_g f t z.1))), (0, .ref RR)], [], me_w M J3)) rfl k
                rw [show ((nI j) + Int32.ofInt 1 : Int32) = nI (j + 1) from me_add (k := 1)] at k
                have k := ly_revb 1 (c' := (8, [(2, .int (nI (j + 1))), (1, .int (lb_op (lb_g f t z.1))), (4, .int (Int32.ofInt 0)), (3, .int (lb_op (lb_g f t z.1))), (0, .ref RR)], [], me_w M J3)) rfl k
                have k := ly_revb 3 (c' := (if (Int32.ofInt 400) ≤ (nI (j + 1)) then 91 else 15, [(2, .int (nI (j + 1))), (1, .int (lb_op (lb_g f t z.1))), (4, .int (Int32.ofInt 0)), (3, .int (lb_op (lb_g f t z.1))), (0, .ref RR)], [], me_w M J3)) rfl k
                by_cases h12' : 400 ≤ (j + 1)
                · rw [if_pos (show (Int32.ofInt 400) ≤ (nI (j + 1)) from show nI 400 ≤ nI ((j + 1)) from nI_le h12' (by omega))] at k
                  have k := ly_revb 2 (c' := (93, [(2, .int (nI (j + 1))), (1, .int (lb_op (lb_g f t z.1))), (4, .int (Int32.ofInt 0)), (3, .int (lb_op (lb_g f t z.1))), (0, .ref RR)], [.int (lb_op (lb_g f t z.1)), .ref RR], me_w M J3)) rfl k
                  obtain ⟨d1, o1, ed, kc, k⟩ := lz_c (g := 57) (q := 1) (vs := [.ref RR, .int (lb_op (lb_g f t z.1))]) (rest := []) rfl rfl (by decide) (Or.inr (Or.inl ⟨_, rfl, rfl⟩)) rfl k
                  obtain ⟨J4, e1, hS4⟩ := lc_addn hP hS3 (Nat.le_refl t) kc
                  subst e1
                  have k : nt_rn X _ 49 (96, [(2, .int (nI (j + 1))), (1, .int (lb_op (lb_g f t z.1))), (4, .int (Int32.ofInt 0)), (3, .int (lb_op (lb_g f t z.1))), (0, .ref RR)], [], me_w M J4) _ := k
                  have k := lz_rv rfl rfl k
                  exact ⟨1, .inl c, _, k, Or.inr (Or.inr ⟨hadd, _, hv, Or.inl ⟨c, rfl, rfl⟩⟩), hfa, _, _, hS4⟩
                · rw [if_neg (show ¬ ((Int32.ofInt 400) ≤ (nI (j + 1))) from show ¬ nI 400 ≤ nI ((j + 1)) from nI_ge (Nat.not_le.mp h12') (by omega))] at k
                  have k := ly_revb 1 (c' := (16, [(2, .int (nI (j + 1))), (1, .int (lb_op (lb_g f t z.1))), (4, .int (Int32.ofInt 0)), (3, .int (lb_op (lb_g f t z.1))), (0, .ref RR)], [.ref RR], me_w M J3)) rfl k
                  obtain ⟨d1, o1, ed, kc, k⟩ := lz_c (g := 56) (q := 1) (vs := [.ref RR]) (rest := []) rfl rfl (by decide) (Or.inr (Or.inl ⟨_, rfl, rfl⟩)) rfl k
                  have e1 := lc_opAt hP hS3 (Nat.le_refl t) kc
                  subst e1
                  have hop := lb_op_in (lb_g f t t)
                  have k : nt_rn X _ 49 (19, [(2, .int (nI (j + 1))), (1, .int (lb_op (lb_g f t z.1))), (4, .int (Int32.ofInt 0)), (3, .int (lb_op (lb_g f t z.1))), (0, .ref RR)], [.int (lb_op (lb_g f t t))], me_w M J3) _ := k
                  have he : lb_op (lb_g f t t) = Int32.ofInt (-1) := by
                    unfold lb_g
                    rw [if_neg (by omega)]
                    decide
                  have k := ly_revb 4 (c' := (if (lb_op (lb_g f t t)) = (Int32.ofInt (-1)) then 25 else 28, [(3, .int (lb_op (lb_g f t t))), (2, .int (nI (j + 1))), (1, .int (lb_op (lb_g f t z.1))), (4, .int (Int32.ofInt 0)), (0, .ref RR)], [], me_w M J3)) rfl k
                  rw [if_pos (show (lb_op (lb_g f t t)) = (Int32.ofInt (-1)) from he)] at k
                  have k := ly_revb 3 (c' := (93, [(3, .int (lb_op (lb_g f t t))), (2, .int (nI (j + 1))), (1, .int (lb_op (lb_g f t z.1))), (4, .int (Int32.ofInt 0)), (0, .ref RR)], [.int (lb_op (lb_g f t z.1)), .ref RR], me_w M J3)) rfl k
                  obtain ⟨d1, o1, ed, kc, k⟩ := lz_c (g := 57) (q := 1) (vs := [.ref RR, .int (lb_op (lb_g f t z.1))]) (rest := []) rfl rfl (by decide) (Or.inr (Or.inl ⟨_, rfl, rfl⟩)) rfl k
                  obtain ⟨J4, e1, hS4⟩ := lc_addn hP hS3 (Nat.le_refl t) kc
                  subst e1
                  have k : nt_rn X _ 49 (96, [(3, .int (lb_op (lb_g f t t))), (2, .int (nI (j + 1))), (1, .int (lb_op (lb_g f t z.1))), (4, .int (Int32.ofInt 0)), (0, .ref RR)], [], me_w M J4) _ := k
                  have k := lz_rv rfl rfl k
                  exact ⟨1, .inl c, _, k, Or.inr (Or.inr ⟨hadd, _, hv, Or.inl ⟨c, rfl, rfl⟩⟩), hfa, _, _, hS4⟩
              | inr z1 =>
                obtain ⟨hS9, hp9⟩ := hq
                have hup := lb_val_up hp2 hv
                have k : nt_rn X _ 49 (71, [(1, .int (lb_op (lb_g f t z.1))), (4, .int (Int32.ofInt 0)), (3, .int (lb_op (lb_g f t z.1))), (2, .int (nI j)), (0, .ref RR)], [], me_w M J8) _ := k
                have k := ly_revb 3 (c' := (if (Int32.ofInt 0) = 0 then 81 else 77, [(1, .int (lb_op (lb_g f t z.1))), (4, .int (Int32.ofInt 0)), (3, .int (lb_op (lb_g f t z.1))), (2, .int (nI j)), (0, .ref RR)], [.ref RR], me_w M J8)) rfl k
                rw [if_pos (show (Int32.ofInt 0) = 0 from by decide)] at k
                have k := ly_revb 1 (c' := (82, [(1, .int (lb_op (lb_g f t z.1))), (4, .int (Int32.ofInt 0)), (3, .int (lb_op (lb_g f t z.1))), (2, .int (nI j)), (0, .ref RR)], [.int (Int32.ofInt (-1)), .ref RR], me_w M J8)) rfl k
                obtain ⟨d1, o1, ed, kc, k⟩ := lz_c (g := 57) (q := 1) (vs := [.ref RR, .int (Int32.ofInt (-1))]) (rest := []) rfl rfl (by decide) (Or.inr (Or.inl ⟨_, rfl, rfl⟩)) rfl k
                obtain ⟨J3, e1, hS3⟩ := lc_addn hP hS9 hp9 kc
                subst e1
                have k : nt_rn X _ 49 (85, [(1, .int (lb_op (lb_g f t z.1))), (4, .int (Int32.ofInt 0)), (3, .int (lb_op (lb_g f t z.1))), (2, .int (nI j)), (0, .ref RR)], [], me_w M J3) _ := k
                have k := ly_revb 1 (c' := (88, [(2, .int ((nI j) + Int32.ofInt 1)), (1, .int (lb_op (lb_g f t z.1))), (4, .int (Int32.ofInt 0)), (3, .int (lb_op (lb_g f t z.1))), (0, .ref RR)], [], me_w M J3)) rfl k
                rw [show ((nI j) + Int32.ofInt 1 : Int32) = nI (j + 1) from me_add (k := 1)] at k
                have k := ly_revb 1 (c' := (8, [(2, .int (nI (j + 1))), (1, .int (lb_op (lb_g f t z.1))), (4, .int (Int32.ofInt 0)), (3, .int (lb_op (lb_g f t z.1))), (0, .ref RR)], [], me_w M J3)) rfl k
                have hsl := lb_s_le (f := f) (t := t) (t - (z.1 + 1)) (z.1 + 1) (by omega)
                dsimp only at hup
                obtain ⟨k1, r1, J7, e2, hsr, hq⟩ := ih (t - z1.1) (by omega) (j + 1) (lb_op (lb_g f t z.1)) z1 _ _ rfl hp9 (by omega) (Or.inr (Or.inl ⟨_, _, rfl⟩)) hS3 k
                exact ⟨k1 + 1, r1, J7, e2, Or.inr (Or.inr ⟨hadd, _, hv, Or.inr ⟨z1, rfl, hsr⟩⟩), hq⟩
    · have k := ly_revb 3 (c' := (if (Int32.ofInt 400) ≤ (nI j) then 91 else 15, [(2, .int (nI j)), (1, .int (w)), (4, .int (b)), (3, .int (a)), (0, .ref RR)], [], me_w M J)) rfl k
      by_cases h12 : 400 ≤ j
      · rw [if_pos (show (Int32.ofInt 400) ≤ (nI j) from show nI 400 ≤ nI j from nI_le h12 (by omega))] at k
        have k := ly_revb 2 (c' := (93, [(2, .int (nI j)), (1, .int (w)), (4, .int (b)), (3, .int (a)), (0, .ref RR)], [.int (w), .ref RR], me_w M J)) rfl k
        obtain ⟨d1, o1, ed, kc, k⟩ := lz_c (g := 57) (q := 1) (vs := [.ref RR, .int (w)]) (rest := []) rfl rfl (by decide) (Or.inr (Or.inl ⟨_, rfl, rfl⟩)) rfl k
        obtain ⟨J1, e1, hS1⟩ := lc_addn hP hS hp kc
        subst e1
        have k : nt_rn X _ 49 (96, [(2, .int (nI j)), (1, .int (w)), (4, .int (b)), (3, .int (a)), (0, .ref RR)], [], me_w M J1) _ := k
        have k := lz_rv rfl rfl k
        refine ⟨1, .inr (z.1, z.2.1, lb_ew z.2.2 w), _, k, Or.inl ⟨Classical.byContradiction (fun hh => absurd (lb_op_lt hh) (by omega)), rfl⟩, ?_, hp⟩
        dsimp only
        rw [lb_ew1]
        exact hS1
      · rw [if_neg (show ¬ ((Int32.ofInt 400) ≤ (nI j)) from show ¬ nI 400 ≤ nI j from nI_ge (Nat.not_le.mp h12) (by omega))] at k
        have k := ly_revb 1 (c' := (16, [(2, .int (nI j)), (1, .int (w)), (4, .int (b)), (3, .int (a)), (0, .ref RR)], [.ref RR], me_w M J)) rfl k
        obtain ⟨d1, o1, ed, kc, k⟩ := lz_c (g := 56) (q := 1) (vs := [.ref RR]) (rest := []) rfl rfl (by decide) (Or.inr (Or.inl ⟨_, rfl, rfl⟩)) rfl k
        have e1 := lc_opAt hP hS hp kc
        subst e1
        have hop := lb_op_in (lb_g f t z.1)
        have k : nt_rn X _ 49 (19, [(2, .int (nI j)), (1, .int (w)), (4, .int (b)), (3, .int (a)), (0, .ref RR)], [.int (lb_op (lb_g f t z.1))], me_w M J) _ := k
        have k := ly_revb 4 (c' := (if (lb_op (lb_g f t z.1)) = (Int32.ofInt (-1)) then 25 else 28, [(3, .int (lb_op (lb_g f t z.1))), (2, .int (nI j)), (1, .int (w)), (4, .int (b)), (0, .ref RR)], [], me_w M J)) rfl k
        by_cases h22 : lb_op (lb_g f t z.1) = Int32.ofInt (-1)
        · rw [if_pos (show (lb_op (lb_g f t z.1)) = (Int32.ofInt (-1)) from h22)] at k
          have k := ly_revb 3 (c' := (93, [(3, .int (lb_op (lb_g f t z.1))), (2, .int (nI j)), (1, .int (w)), (4, .int (b)), (0, .ref RR)], [.int (w), .ref RR], me_w M J)) rfl k
          obtain ⟨d1, o1, ed, kc, k⟩ := lz_c (g := 57) (q := 1) (vs := [.ref RR, .int (w)]) (rest := []) rfl rfl (by decide) (Or.inr (Or.inl ⟨_, rfl, rfl⟩)) rfl k
          obtain ⟨J1, e1, hS1⟩ := lc_addn hP hS hp kc
          subst e1
          have k : nt_rn X _ 49 (96, [(3, .int (lb_op (lb_g f t z.1))), (2, .int (nI j)), (1, .int (w)), (4, .int (b)), (0, .ref RR)], [], me_w M J1) _ := k
          have k := lz_rv rfl rfl k
          refine ⟨1, .inr (z.1, z.2.1, lb_ew z.2.2 w), _, k, Or.inl ⟨h22, rfl⟩, ?_, hp⟩
          dsimp only
          rw [lb_ew1]
          exact hS1
        · rw [if_neg (show ¬ ((lb_op (lb_g f t z.1)) = (Int32.ofInt (-1))) from h22)] at k
          have k := ly_revb 3 (c' := (if (lb_op (lb_g f t z.1)) = (Int32.ofInt 12) then 40 else 34, [(3, .int (lb_op (lb_g f t z.1))), (2, .int (nI j)), (1, .int (w)), (4, .int (b)), (0, .ref RR)], [], me_w M J)) rfl k
          by_cases h31 : (lb_op (lb_g f t z.1)) = (Int32.ofInt 12)
          · rw [if_pos (show (lb_op (lb_g f t z.1)) = (Int32.ofInt 12) from h31)] at k
            have k := ly_revb 5 (c' := (if (Int32.ofInt 1) = 0 then 52 else 59, [(4, .int (Int32.ofInt 1)), (3, .int (lb_op (lb_g f t z.1))), (2, .int (nI j)), (1, .int (w)), (0, .ref RR)], [], me_w M J)) rfl k
            rw [if_neg (show ¬ ((Int32.ofInt 1) = 0) from by decide)] at k
            have k := ly_revb 1 (c' := (60, [(4, .int (Int32.ofInt 1)), (3, .int (lb_op (lb_g f t z.1))), (2, .int (nI j)), (1, .int (w)), (0, .ref RR)], [.ref RR], me_w M J)) rfl k
            have k := lz_get (a := RR) (g := 500) (M := me_w M J) (v := .ref Rd) rfl (nt_gfR rfl hP.1.2.2.1) k
            have k := ly_revb 1 (c' := (64, [(4, .int (Int32.ofInt 1)), (3, .int (lb_op (lb_g f t z.1))), (2, .int (nI j)), (1, .int (w)), (0, .ref RR)], [.int (Int32.ofInt 1), .ref Rd], me_w M J)) rfl k
            obtain ⟨d1, o1, ed, kc, k⟩ := lz_c (g := 29) (q := 1) (vs := [.ref Rd, .int (Int32.ofInt 1)]) (rest := []) rfl rfl (by decide) (Or.inr (Or.inl ⟨_, rfl, rfl⟩)) rfl k
            have hlt := lb_op_lt h22
            have e1 := lc_skip (b := 1) hP hS hp (by first | omega | decide | (have := lb_W_len (a := lb_wd w); omega)) kc
            rw [Nat.min_eq_left (hlt)] at e1
            subst e1
            have hS1 := lc_Spp (q := lb_s f t (z.1 + 1)) hP hS
            have hp1 : lb_s f t (z.1 + 1) ≤ t := (lb_s_le (t - (z.1 + 1)) (z.1 + 1) (by have := (hlt); omega)).2
            have k : nt_rn X _ 49 (67, [(4, .int (Int32.ofInt 1)), (3, .int (lb_op (lb_g f t z.1))), (2, .int (nI j)), (1, .int (w)), (0, .ref RR)], [], me_w M (nt_u J Rd 1 (nI (lb_s f t (z.1 + 1))))) _ := k
            have k := ly_revb 1 (c' := (68, [(4, .int (Int32.ofInt 1)), (3, .int (lb_op (lb_g f t z.1))), (2, .int (nI j)), (1, .int (w)), (0, .ref RR)], [.ref RR], me_w M (nt_u J Rd 1 (nI (lb_s f t (z.1 + 1)))))) rfl k
            obtain ⟨d1, o1, ed, kc, k⟩ := lz_c (g := 50) (q := 1) (vs := [.ref RR]) (rest := []) rfl rfl (by decide) (Or.inr (Or.inl ⟨_, rfl, rfl⟩)) rfl k
            obtain ⟨r1, J8, e1, hv, hq⟩ := lc_readValue (e := z.2.2) hP hS1 hp1 kc
            subst e1
            cases r1 with
            | inl c =>
              obtain ⟨hfa, m8, s8, hS8⟩ := hq
              have k : nt_rn X _ 49 (71, [(4, .int (Int32.ofInt 1)), (3, .int (lb_op (lb_g f t z.1))), (2, .int (nI j)), (1, .int (w)), (0, .ref RR)], [], me_w M J8) _ := k
              have k := ly_revb 3 (c' := (if (Int32.ofInt 1) = 0 then 81 else 77, [(4, .int (Int32.ofInt 1)), (3, .int (lb_op (lb_g f t z.1))), (2, .int (nI j)), (1, .int (w)), (0, .ref RR)], [.ref RR], me_w M J8)) rfl k
              rw [if_neg (show ¬ ((Int32.ofInt 1) = 0) from by decide)] at k
              have k := ly_revb 2 (c' := (82, [(4, .int (Int32.ofInt 1)), (3, .int (lb_op (lb_g f t z.1))), (2, .int (nI j)), (1, .int (w)), (0, .ref RR)], [.int (lb_op (lb_g f t z.1)), .ref RR], me_w M J8)) rfl k
              obtain ⟨d1, o1, ed, kc, k⟩ := lz_c (g := 57) (q := 1) (vs := [.ref RR, .int (lb_op (lb_g f t z.1))]) (rest := []) rfl rfl (by decide) (Or.inr (Or.inl ⟨_, rfl, rfl⟩)) rfl k
              obtain ⟨J2, e1, hS2⟩ := lc_addn hP hS8 (Nat.le_refl t) kc
              subst e1
              have k : nt_rn X _ 49 (85, [(4, .int (Int32.ofInt 1)), (3, .int (lb_op (lb_g f t z.1))), (2, .int (nI j)), (1, .int (w)), (0, .ref RR)], [], me_w M J2) _ := k
              have k := ly_revb 1 (c' := (88, [(2, .int ((nI j) + Int32.ofInt 1)), (4, .int (Int32.ofInt 1)), (3, .int (lb_op (lb_g f t z.1))), (1, .int (w)), (0, .ref RR)], [], me_w M J2)) rfl k
              rw [show ((nI j) + Int32.ofInt 1 : Int32) = nI (j + 1) from me_add (k := 1)] at k
              have k := ly_revb 1 (c' := (8, [(2, .int (nI (j + 1))), (4, .int (Int32.ofInt 1)), (3, .int (lb_op (lb_g f t z.1))), (1, .int (w)), (0, .ref RR)], [], me_w M J2)) rfl k
              have k := ly_revb 3 (c' := (if (Int32.ofInt 400) ≤ (nI (j + 1)) then 91 else 15, [(2, .int (nI (j + 1))), (4, .int (Int32.ofInt 1)), (3, .int (lb_op (lb_g f t z.1))), (1, .int (w)), (0, .ref RR)], [], me_w M J2)) rfl k
              by_cases h12' : 400 ≤ (j + 1)
              · rw [if_pos (show (Int32.ofInt 400) ≤ (nI (j + 1)) from show nI 400 ≤ nI ((j + 1)) from nI_le h12' (by omega))] at k
                have k := ly_revb 2 (c' := (93, [(2, .int (nI (j + 1))), (4, .int (Int32.ofInt 1)), (3, .int (lb_op (lb_g f t z.1))), (1, .int (w)), (0, .ref RR)], [.int (w), .ref RR], me_w M J2)) rfl k
                obtain ⟨d1, o1, ed, kc, k⟩ := lz_c (g := 57) (q := 1) (vs := [.ref RR, .int (w)]) (rest := []) rfl rfl (by decide) (Or.inr (Or.inl ⟨_, rfl, rfl⟩)) rfl k
                obtain ⟨J3, e1, hS3⟩ := lc_addn hP hS2 (Nat.le_refl t) kc
                subst e1
                have k : nt_rn X _ 49 (96, [(2, .int (nI (j + 1))), (4, .int (Int32.ofInt 1)), (3, .int (lb_op (lb_g f t z.1))), (1, .int (w)), (0, .ref RR)], [], me_w M J3) _ := k
                have k := lz_rv rfl rfl k
                exact ⟨1, .inl c, _, k, Or.inr (Or.inl ⟨Or.inl h31, _, hv, Or.inl ⟨c, rfl, rfl⟩⟩), hfa, _, _, hS3⟩
              · rw [if_neg (show ¬ ((Int32.ofInt 400) ≤ (nI (j + 1))) from show ¬ nI 400 ≤ nI ((j + 1)) from nI_ge (Nat.not_le.mp h12') (by omega))] at k
                have k := ly_revb 1 (c' := (16, [(2, .int (nI (j + 1))), (4, .int (Int32.ofInt 1)), (3, .int (lb_op (lb_g f t z.1))), (1, .int (w)), (0, .ref RR)], [.ref RR], me_w M J2)) rfl k
                obtain ⟨d1, o1, ed, kc, k⟩ := lz_c (g := 56) (q := 1) (vs := [.ref RR]) (rest := []) rfl rfl (by decide) (Or.inr (Or.inl ⟨_, rfl, rfl⟩)) rfl k
                have e1 := lc_opAt hP hS2 (Nat.le_refl t) kc
                subst e1
                have hop := lb_op_in (lb_g f t t)
                have k : nt_rn X _ 49 (19, [(2, .int (nI (j + 1))), (4, .int (Int32.ofInt 1)), (3, .int (lb_op (lb_g f t z.1))), (1, .int (w)), (0, .ref RR)], [.int (lb_op (lb_g f t t))], me_w M J2) _ := k
                have he : lb_op (lb_g f t t) = Int32.ofInt (-1) := by
                  unfold lb_g
                  rw [if_neg (by omega)]
                  decide
                have k := ly_revb 4 (c' := (if (lb_op (lb_g f t t)) = (Int32.ofInt (-1)) then 25 else 28, [(3, .int (lb_op (lb_g f t t))), (2, .int (nI (j + 1))), (4, .int (Int32.ofInt 1)), (1, .int (w)), (0, .ref RR)], [], me_w M J2)) rfl k
                rw [if_pos (show (lb_op (lb_g f t t)) = (Int32.ofInt (-1)) from he)] at k
                have k := ly_revb 3 (c' := (93, [(3, .int (lb_op (lb_g f t t))), (2, .int (nI (j + 1))), (4, .int (Int32.ofInt 1)), (1, .int (w)), (0, .ref RR)], [.int (w), .ref RR], me_w M J2)) rfl k
                obtain ⟨d1, o1, ed, kc, k⟩ := lz_c (g := 57) (q := 1) (vs := [.ref RR, .int (w)]) (rest := []) rfl rfl (by decide) (Or.inr (Or.inl ⟨_, rfl, rfl⟩)) rfl k
                obtain ⟨J3, e1, hS3⟩ := lc_addn hP hS2 (Nat.le_refl t) kc
                subst e1
                have k : nt_rn X _ 49 (96, [(3, .int (lb_op (lb_g f t t))), (2, .int (nI (j + 1))), (4, .int (Int32.ofInt 1)), (1, .int (w)), (0, .ref RR)], [], me_w M J3) _ := k
                have k := lz_rv rfl rfl k
                exact ⟨1, .inl c, _, k, Or.inr (Or.inl ⟨Or.inl h31, _, hv, Or.inl ⟨c, rfl, rfl⟩⟩), hfa, _, _, hS3⟩
            | inr z1 =>
              obtain ⟨hS9, hp9⟩ := hq
              have hup := lb_val_up hp1 hv
              have k : nt_rn X _ 49 (71, [(4, .int (Int32.ofInt 1)), (3, .int (lb_op (lb_g f t z.1))), (2, .int (nI j)), (1, .int (w)), (0, .ref RR)], [], me_w M J8) _ := k
              have k := ly_revb 3 (c' := (if (Int32.ofInt 1) = 0 then 81 else 77, [(4, .int (Int32.ofInt 1)), (3, .int (lb_op (lb_g f t z.1))), (2, .int (nI j)), (1, .int (w)), (0, .ref RR)], [.ref RR], me_w M J8)) rfl k
              rw [if_neg (show ¬ ((Int32.ofInt 1) = 0) from by decide)] at k
              have k := ly_revb 2 (c' := (82, [(4, .int (Int32.ofInt 1)), (3, .int (lb_op (lb_g f t z.1))), (2, .int (nI j)), (1, .int (w)), (0, .ref RR)], [.int (lb_op (lb_g f t z.1)), .ref RR], me_w M J8)) rfl k
              obtain ⟨d1, o1, ed, kc, k⟩ := lz_c (g := 57) (q := 1) (vs := [.ref RR, .int (lb_op (lb_g f t z.1))]) (rest := []) rfl rfl (by decide) (Or.inr (Or.inl ⟨_, rfl, rfl⟩)) rfl k
              obtain ⟨J2, e1, hS2⟩ := lc_addn hP hS9 hp9 kc
              subst e1
              have k : nt_rn X _ 49 (85, [(4, .int (Int32.ofInt 1)), (3, .int (lb_op (lb_g f t z.1))), (2, .int (nI j)), (1, .int (w)), (0, .ref RR)], [], me_w M J2) _ := k
              have k := ly_revb 1 (c' := (88, [(2, .int ((nI j) + Int32.ofInt 1)), (4, .int (Int32.ofInt 1)), (3, .int (lb_op (lb_g f t z.1))), (1, .int (w)), (0, .ref RR)], [], me_w M J2)) rfl k
              rw [show ((nI j) + Int32.ofInt 1 : Int32) = nI (j + 1) from me_add (k := 1)] at k
              have k := ly_revb 1 (c' := (8, [(2, .int (nI (j + 1))), (4, .int (Int32.ofInt 1)), (3, .int (lb_op (lb_g f t z.1))), (1, .int (w)), (0, .ref RR)], [], me_w M J2)) rfl k
              have hsl := lb_s_le (f := f) (t := t) (t - (z.1 + 1)) (z.1 + 1) (by omega)
              dsimp only at hup
              obtain ⟨k1, r1, J7, e2, hsr, hq⟩ := ih (t - z1.1) (by omega) (j + 1) w (z1.1, z1.2.1, lb_ew z1.2.2 (lb_op (lb_g f t z.1))) _ _ rfl hp9 (by dsimp only; omega) (Or.inr (Or.inr ⟨_, _, rfl⟩)) (by dsimp only; rw [lb_ew1]; exact hS2) k
              exact ⟨k1 + 1, r1, J7, e2, Or.inr (Or.inl ⟨Or.inl h31, _, hv, Or.inr ⟨z1, rfl, hsr⟩⟩), hq⟩
          · rw [if_neg (show ¬ ((lb_op (lb_g f t z.1)) = (Int32.ofInt 12)) from h31)] at k
            have k := ly_revb 3 (c' := (if (lb_op (lb_g f t z.1)) = (Int32.ofInt 13) then 40 else 44, [(3, .int (lb_op (lb_g f t z.1))), (2, .int (nI j)), (1, .int (w)), (4, .int (b)), (0, .ref RR)], [], me_w M J)) rfl k
            by_cases h37 : (lb_op (lb_g f t z.1)) = (Int32.ofInt 13)
            · rw [if_pos (show (lb_op (lb_g f t z.1)) = (Int32.ofInt 13) from h37)] at k
              have k := ly_revb 5 (c' := (if (Int32.ofInt 1) = 0 then 52 else 59, [(4, .int (Int32.ofInt 1)), (3, .int (lb_op (lb_g f t z.1))), (2, .int (nI j)), (1, .int (w)), (0, .ref RR)], [], me_w M J)) rfl k
              rw [if_neg (show ¬ ((Int32.ofInt 1) = 0) from by decide)] at k
              have k := ly_revb 1 (c' := (60, [(4, .int (Int32.ofInt 1)), (3, .int (lb_op (lb_g f t z.1))), (2, .int (nI j)), (1, .int (w)), (0, .ref RR)], [.ref RR], me_w M J)) rfl k
              have k := lz_get (a := RR) (g := 500) (M := me_w M J) (v := .ref Rd) rfl (nt_gfR rfl hP.1.2.2.1) k
              have k := ly_revb 1 (c' := (64, [(4, .int (Int32.ofInt 1)), (3, .int (lb_op (lb_g f t z.1))), (2, .int (nI j)), (1, .int (w)), (0, .ref RR)], [.int (Int32.ofInt 1), .ref Rd], me_w M J)) rfl k
              obtain ⟨d1, o1, ed, kc, k⟩ := lz_c (g := 29) (q := 1) (vs := [.ref Rd, .int (Int32.ofInt 1)]) (rest := []) rfl rfl (by decide) (Or.inr (Or.inl ⟨_, rfl, rfl⟩)) rfl k
              have hlt := lb_op_lt h22
              have e1 := lc_skip (b := 1) hP hS hp (by first | omega | decide | (have := lb_W_len (a := lb_wd w); omega)) kc
              rw [Nat.min_eq_left (hlt)] at e1
              subst e1
              have hS1 := lc_Spp (q := lb_s f t (z.1 + 1)) hP hS
              have hp1 : lb_s f t (z.1 + 1) ≤ t := (lb_s_le (t - (z.1 + 1)) (z.1 + 1) (by have := (hlt); omega)).2
              have k : nt_rn X _ 49 (67, [(4, .int (Int32.ofInt 1)), (3, .int (lb_op (lb_g f t z.1))), (2, .int (nI j)), (1, .int (w)), (0, .ref RR)], [], me_w M (nt_u J Rd 1 (nI (lb_s f t (z.1 + 1))))) _ := k
              have k := ly_revb 1 (c' := (68, [(4, .int (Int32.ofInt 1)), (3, .int (lb_op (lb_g f t z.1))), (2, .int (nI j)), (1, .int (w)), (0, .ref RR)], [.ref RR], me_w M (nt_u J Rd 1 (nI (lb_s f t (z.1 + 1)))))) rfl k
              obtain ⟨d1, o1, ed, kc, k⟩ := lz_c (g := 50) (q := 1) (vs := [.ref RR]) (rest := []) rfl rfl (by decide) (Or.inr (Or.inl ⟨_, rfl, rfl⟩)) rfl k
              obtain ⟨r1, J8, e1, hv, hq⟩ := lc_readValue (e := z.2.2) hP hS1 hp1 kc
              subst e1
              cases r1 with
              | inl c =>
                obtain ⟨hfa, m8, s8, hS8⟩ := hq
                have k : nt_rn X _ 49 (71, [(4, .int (Int32.ofInt 1)), (3, .int (lb_op (lb_g f t z.1))), (2, .int (nI j)), (1, .int (w)), (0, .ref RR)], [], me_w M J8) _ := k
                have k := ly_revb 3 (c' := (if (Int32.ofInt 1) = 0 then 81 else 77, [(4, .int (Int32.ofInt 1)), (3, .int (lb_op (lb_g f t z.1))), (2, .int (nI j)), (1, .int (w)), (0, .ref RR)], [.ref RR], me_w M J8)) rfl k
                rw [if_neg (show ¬ ((Int32.ofInt 1) = 0) from by decide)] at k
                have k := ly_revb 2 (c' := (82, [(4, .int (Int32.ofInt 1)), (3, .int (lb_op (lb_g f t z.1))), (2, .int (nI j)), (1, .int (w)), (0, .ref RR)], [.int (lb_op (lb_g f t z.1)), .ref RR], me_w M J8)) rfl k
                obtain ⟨d1, o1, ed, kc, k⟩ := lz_c (g := 57) (q := 1) (vs := [.ref RR, .int (lb_op (lb_g f t z.1))]) (rest := []) rfl rfl (by decide) (Or.inr (Or.inl ⟨_, rfl, rfl⟩)) rfl k
                obtain ⟨J2, e1, hS2⟩ := lc_addn hP hS8 (Nat.le_refl t) kc
                subst e1
                have k : nt_rn X _ 49 (85, [(4, .int (Int32.ofInt 1)), (3, .int (lb_op (lb_g f t z.1))), (2, .int (nI j)), (1, .int (w)), (0, .ref RR)], [], me_w M J2) _ := k
                have k := ly_revb 1 (c' := (88, [(2, .int ((nI j) + Int32.ofInt 1)), (4, .int (Int32.ofInt 1)), (3, .int (lb_op (lb_g f t z.1))), (1, .int (w)), (0, .ref RR)], [], me_w M J2)) rfl k
                rw [show ((nI j) + Int32.ofInt 1 : Int32) = nI (j + 1) from me_add (k := 1)] at k
                have k := ly_revb 1 (c' := (8, [(2, .int (nI (j + 1))), (4, .int (Int32.ofInt 1)), (3, .int (lb_op (lb_g f t z.1))), (1, .int (w)), (0, .ref RR)], [], me_w M J2)) rfl k
                have k := ly_revb 3 (c' := (if (Int32.ofInt 400) ≤ (nI (j + 1)) then 91 else 15, [(2, .int (nI (j + 1))), (4, .int (Int32.ofInt 1)), (3, .int (lb_op (lb_g f t z.1))), (1, .int (w)), (0, .ref RR)], [], me_w M J2)) rfl k
                by_cases h12' : 400 ≤ (j + 1)
                · rw [if_pos (show (Int32.ofInt 400) ≤ (nI (j + 1)) from show nI 400 ≤ nI ((j + 1)) from nI_le h12' (by omega))] at k
                  have k := ly_revb 2 (c' := (93, [(2, .int (nI (j + 1))), (4, .int (Int32.ofInt 1)), (3, .int (lb_op (lb_g f t z.1))), (1, .int (w)), (0, .ref RR)], [.int (w), .ref RR], me_w M J2)) rfl k
                  obtain ⟨d1, o1, ed, kc, k⟩ := lz_c (g := 57) (q := 1) (vs := [.ref RR, .int (w)]) (rest := []) rfl rfl (by decide) (Or.inr (Or.inl ⟨_, rfl, rfl⟩)) rfl k
                  obtain ⟨J3, e1, hS3⟩ := lc_addn hP hS2 (Nat.le_refl t) kc
                  subst e1
                  have k : nt_rn X _ 49 (96, [(2, .int (nI (j + 1))), (4, .int (Int32.ofInt 1)), (3, .int (lb_op (lb_g f t z.1))), (1, .int (w)), (0, .ref RR)], [], me_w M J3) _ := k
                  have k := lz_rv rfl rfl k
                  exact ⟨1, .inl c, _, k, Or.inr (Or.inl ⟨Or.inr h37, _, hv, Or.inl ⟨c, rfl, rfl⟩⟩), hfa, _, _, hS3⟩
                · rw [if_neg (show ¬ ((Int32.ofInt 400) ≤ (nI (j + 1))) from show ¬ nI 400 ≤ nI ((j + 1)) from nI_ge (Nat.not_le.mp h12') (by omega))] at k
                  have k := ly_revb 1 (c' := (16, [(2, .int (nI (j + 1))), (4, .int (Int32.ofInt 1)), (3, .int (lb_op (lb_g f t z.1))), (1, .int (w)), (0, .ref RR)], [.ref RR], me_w M J2)) rfl k
                  obtain ⟨d1, o1, ed, kc, k⟩ := lz_c (g := 56) (q := 1) (vs := [.ref RR]) (rest := []) rfl rfl (by decide) (Or.inr (Or.inl ⟨_, rfl, rfl⟩)) rfl k
                  have e1 := lc_opAt hP hS2 (Nat.le_refl t) kc
                  subst e1
                  have hop := lb_op_in (lb_g f t t)
                  have k : nt_rn X _ 49 (19, [(2, .int (nI (j + 1))), (4, .int (Int32.ofInt 1)), (3, .int (lb_op (lb_g f t z.1))), (1, .int (w)), (0, .ref RR)], [.int (lb_op (lb_g f t t))], me_w M J2) _ := k
                  have he : lb_op (lb_g f t t) = Int32.ofInt (-1) := by
                    unfold lb_g
                    rw [if_neg (by omega)]
                    decide
                  have k := ly_revb 4 (c' := (if (lb_op (lb_g f t t)) = (Int32.ofInt (-1)) then 25 else 28, [(3, .int (lb_op (lb_g f t t))), (2, .int (nI (j + 1))), (4, .int (Int32.ofInt 1)), (1, .int (w)), (0, .ref RR)], [], me_w M J2)) rfl k
                  rw [if_pos (show (lb_op (lb_g f t t)) = (Int32.ofInt (-1)) from he)] at k
                  have k := ly_revb 3 (c' := (93, [(3, .int (lb_op (lb_g f t t))), (2, .int (nI (j + 1))), (4, .int (Int32.ofInt 1)), (1, .int (w)), (0, .ref RR)], [.int (w), .ref RR], me_w M J2)) rfl k
                  obtain ⟨d1, o1, ed, kc, k⟩ := lz_c (g := 57) (q := 1) (vs := [.ref RR, .int (w)]) (rest := []) rfl rfl (by decide) (Or.inr (Or.inl ⟨_, rfl, rfl⟩)) rfl k
                  obtain ⟨J3, e1, hS3⟩ := lc_addn hP hS2 (Nat.le_refl t) kc
                  subst e1
                  have k : nt_rn X _ 49 (96, [(3, .int (lb_op (lb_g f t t))), (2, .int (nI (j + 1))), (4, .int (Int32.ofInt 1)), (1, .int (w)), (0, .ref RR)], [], me_w M J3) _ := k
                  have k := lz_rv rfl rfl k
                  exact ⟨1, .inl c, _, k, Or.inr (Or.inl ⟨Or.inr h37, _, hv, Or.inl ⟨c, rfl, rfl⟩⟩), hfa, _, _, hS3⟩
              | inr z1 =>
                obtain ⟨hS9, hp9⟩ := hq
                have hup := lb_val_up hp1 hv
                have k : nt_rn X _ 49 (71, [(4, .int (Int32.ofInt 1)), (3, .int (lb_op (lb_g f t z.1))), (2, .int (nI j)), (1, .int (w)), (0, .ref RR)], [], me_w M J8) _ := k
                have k := ly_revb 3 (c' := (if (Int32.ofInt 1) = 0 then 81 else 77, [(4, .int (Int32.ofInt 1)), (3, .int (lb_op (lb_g f t z.1))), (2, .int (nI j)), (1, .int (w)), (0, .ref RR)], [.ref RR], me_w M J8)) rfl k
                rw [if_neg (show ¬ ((Int32.ofInt 1) = 0) from by decide)] at k
                have k := ly_revb 2 (c' := (82, [(4, .int (Int32.ofInt 1)), (3, .int (lb_op (lb_g f t z.1))), (2, .int (nI j)), (1, .int (w)), (0, .ref RR)], [.int (lb_op (lb_g f t z.1)), .ref RR], me_w M J8)) rfl k
                obtain ⟨d1, o1, ed, kc, k⟩ := lz_c (g := 57) (q := 1) (vs := [.ref RR, .int (lb_op (lb_g f t z.1))]) (rest := []) rfl rfl (by decide) (Or.inr (Or.inl ⟨_, rfl, rfl⟩)) rfl k
                obtain ⟨J2, e1, hS2⟩ := lc_addn hP hS9 hp9 kc
                subst e1
                have k : nt_rn X _ 49 (85, [(4, .int (Int32.ofInt 1)), (3, .int (lb_op (lb_g f t z.1))), (2, .int (nI j)), (1, .int (w)), (0, .ref RR)], [], me_w M J2) _ := k
                have k := ly_revb 1 (c' := (88, [(2, .int ((nI j) + Int32.ofInt 1)), (4, .int (Int32.ofInt 1)), (3, .int (lb_op (lb_g f t z.1))), (1, .int (w)), (0, .ref RR)], [], me_w M J2)) rfl k
                rw [show ((nI j) + Int32.ofInt 1 : Int32) = nI (j + 1) from me_add (k := 1)] at k
                have k := ly_revb 1 (c' := (8, [(2, .int (nI (j + 1))), (4, .int (Int32.ofInt 1)), (3, .int (lb_op (lb_g f t z.1))), (1, .int (w)), (0, .ref RR)], [], me_w M J2)) rfl k
                have hsl := lb_s_le (f := f) (t := t) (t - (z.1 + 1)) (z.1 + 1) (by omega)
                dsimp only at hup
                obtain ⟨k1, r1, J7, e2, hsr, hq⟩ := ih (t - z1.1) (by omega) (j + 1) w (z1.1, z1.2.1, lb_ew z1.2.2 (lb_op (lb_g f t z.1))) _ _ rfl hp9 (by dsimp only; omega) (Or.inr (Or.inr ⟨_, _, rfl⟩)) (by dsimp only; rw [lb_ew1]; exact hS2) k
                exact ⟨k1 + 1, r1, J7, e2, Or.inr (Or.inl ⟨Or.inr h37, _, hv, Or.inr ⟨z1, rfl, hsr⟩⟩), hq⟩
            · rw [if_neg (show ¬ ((lb_op (lb_g f t z.1)) = (Int32.ofInt 13)) from h37)] at k
              have hadd : lb_op (lb_g f t z.1) = Int32.ofInt 10 ∨ lb_op (lb_g f t z.1) = Int32.ofInt 11 := by
                rcases hop with h | h | h | h | h
                · exact Or.inl h
                · exact Or.inr h
                · exact absurd h h31
                · exact absurd h h37
                · exact absurd h h22
              have k := ly_revb 4 (c' := (if (Int32.ofInt 0) = 0 then 52 else 59, [(4, .int (Int32.ofInt 0)), (3, .int (lb_op (lb_g f t z.1))), (2, .int (nI j)), (1, .int (w)), (0, .ref RR)], [], me_w M J)) rfl k
              rw [if_pos (show (Int32.ofInt 0) = 0 from by decide)] at k
              have k := ly_revb 2 (c' := (54, [(4, .int (Int32.ofInt 0)), (3, .int (lb_op (lb_g f t z.1))), (2, .int (nI j)), (1, .int (w)), (0, .ref RR)], [.int (w), .ref RR], me_w M J)) rfl k
              obtain ⟨d1, o1, ed, kc, k⟩ := lz_c (g := 57) (q := 1) (vs := [.ref RR, .int (w)]) (rest := []) rfl rfl (by decide) (Or.inr (Or.inl ⟨_, rfl, rfl⟩)) rfl k
              obtain ⟨J1, e1, hS1⟩ := lc_addn hP hS hp kc
              subst e1
              have k : nt_rn X _ 49 (57, [(4, .int (Int32.ofInt 0)), (3, .int (lb_op (lb_g f t z.1))), (2, .int (nI j)), (1, .int (w)), (0, .ref RR)], [], me_w M J1) _ := k
              have k := ly_revb 3 (c' := (60, [(1, .int (lb_op (lb_g f t z.1))), (4, .int (Int32.ofInt 0)), (3, .int (lb_op (lb_g f t z.1))), (2, .int (nI j)), (0, .ref RR)], [.ref RR], me_w M J1)) rfl k
              have k := lz_get (a := RR) (g := 500) (M := me_w M J1) (v := .ref Rd) rfl (nt_gfR rfl hP.1.2.2.1) k
              have k := ly_revb 1 (c' := (64, [(1, .int (lb_op (lb_g f t z.1))), (4, .int (Int32.ofInt 0)), (3, .int (lb_op (lb_g f t z.1))), (2, .int (nI j)), (0, .ref RR)], [.int (Int32.ofInt 1), .ref Rd], me_w M J1)) rfl k
              obtain ⟨d1, o1, ed, kc, k⟩ := lz_c (g := 29) (q := 1) (vs := [.ref Rd, .int (Int32.ofInt 1)]) (rest := []) rfl rfl (by decide) (Or.inr (Or.inl ⟨_, rfl, rfl⟩)) rfl k
              have hlt := lb_op_lt h22
              have e1 := lc_skip (b := 1) hP hS1 hp (by first | omega | decide | (have := lb_W_len (a := lb_wd w); omega)) kc
              rw [Nat.min_eq_left (hlt)] at e1
              subst e1
              have hS2 := lc_Spp (q := lb_s f t (z.1 + 1)) hP hS1
              have hp2 : lb_s f t (z.1 + 1) ≤ t := (lb_s_le (t - (z.1 + 1)) (z.1 + 1) (by have := (hlt); omega)).2
              have k : nt_rn X _ 49 (67, [(1, .int (lb_op (lb_g f t z.1))), (4, .int (Int32.ofInt 0)), (3, .int (lb_op (lb_g f t z.1))), (2, .int (nI j)), (0, .ref RR)], [], me_w M (nt_u J1 Rd 1 (nI (lb_s f t (z.1 + 1))))) _ := k
              have k := ly_revb 1 (c' := (68, [(1, .int (lb_op (lb_g f t z.1))), (4, .int (Int32.ofInt 0)), (3, .int (lb_op (lb_g f t z.1))), (2, .int (nI j)), (0, .ref RR)], [.ref RR], me_w M (nt_u J1 Rd 1 (nI (lb_s f t (z.1 + 1)))))) rfl k
              obtain ⟨d1, o1, ed, kc, k⟩ := lz_c (g := 50) (q := 1) (vs := [.ref RR]) (rest := []) rfl rfl (by decide) (Or.inr (Or.inl ⟨_, rfl, rfl⟩)) rfl k
              obtain ⟨r1, J8, e1, hv, hq⟩ := lc_readValue (e := lb_ew z.2.2 w) hP (by rw [lb_ew1]; exact hS2) hp2 kc
              subst e1
              cases r1 with
              | inl c =>
                obtain ⟨hfa, m8, s8, hS8⟩ := hq
                have k : nt_rn X _ 49 (71, [(1, .int (lb_op (lb_g f t z.1))), (4, .int (Int32.ofInt 0)), (3, .int (lb_op (lb_g f t z.1))), (2, .int (nI j)), (0, .ref RR)], [], me_w M J8) _ := k
                have k := ly_revb 3 (c' := (if (Int32.ofInt 0) = 0 then 81 else 77, [(1, .int (lb_op (lb_g f t z.1))), (4, .int (Int32.ofInt 0)), (3, .int (lb_op (lb_g f t z.1))), (2, .int (nI j)), (0, .ref RR)], [.ref RR], me_w M J8)) rfl k
                rw [if_pos (show (Int32.ofInt 0) = 0 from by decide)] at k
                have k := ly_revb 1 (c' := (82, [(1, .int (lb_op (lb_g f t z.1))), (4, .int (Int32.ofInt 0)), (3, .int (lb_op (lb_g f t z.1))), (2, .int (nI j)), (0, .ref RR)], [.int (Int32.ofInt (-1)), .ref RR], me_w M J8)) rfl k
                obtain ⟨d1, o1, ed, kc, k⟩ := lz_c (g := 57) (q := 1) (vs := [.ref RR, .int (Int32.ofInt (-1))]) (rest := []) rfl rfl (by decide) (Or.inr (Or.inl ⟨_, rfl, rfl⟩)) rfl k
                obtain ⟨J3, e1, hS3⟩ := lc_addn hP hS8 (Nat.le_refl t) kc
                subst e1
                have k : nt_rn X _ 49 (85, [(1, .int (lb_op (lb_g f t z.1))), (4, .int (Int32.ofInt 0)), (3, .int (lb_op (lb_g f t z.1))), (2, .int (nI j)), (0, .ref RR)], [], me_w M J3) _ := k
                have k := ly_revb 1 (c' := (88, [(2, .int ((nI j) + Int32.ofInt 1)), (1, .int (lb_op (lb_g f t z.1))), (4, .int (Int32.ofInt 0)), (3, .int (lb_op (lb_g f t z.1))), (0, .ref RR)], [], me_w M J3)) rfl k
                rw [show ((nI j) + Int32.ofInt 1 : Int32) = nI (j + 1) from me_add (k := 1)] at k
                have k := ly_revb 1 (c' := (8, [(2, .int (nI (j + 1))), (1, .int (lb_op (lb_g f t z.1))), (4, .int (Int32.ofInt 0)), (3, .int (lb_op (lb_g f t z.1))), (0, .ref RR)], [], me_w M J3)) rfl k
                have k := ly_revb 3 (c' := (if (Int32.ofInt 400) ≤ (nI (j + 1)) then 91 else 15, [(2, .int (nI (j + 1))), (1, .int (lb_op (lb_g f t z.1))), (4, .int (Int32.ofInt 0)), (3, .int (lb_op (lb_g f t z.1))), (0, .ref RR)], [], me_w M J3)) rfl k
                by_cases h12' : 400 ≤ (j + 1)
                · rw [if_pos (show (Int32.ofInt 400) ≤ (nI (j + 1)) from show nI 400 ≤ nI ((j + 1)) from nI_le h12' (by omega))] at k
                  have k := ly_revb 2 (c' := (93, [(2, .int (nI (j + 1))), (1, .int (lb_op (lb_g f t z.1))), (4, .int (Int32.ofInt 0)), (3, .int (lb_op (lb_g f t z.1))), (0, .ref RR)], [.int (lb_op (lb_g f t z.1)), .ref RR], me_w M J3)) rfl k
                  obtain ⟨d1, o1, ed, kc, k⟩ := lz_c (g := 57) (q := 1) (vs := [.ref RR, .int (lb_op (lb_g f t z.1))]) (rest := []) rfl rfl (by decide) (Or.inr (Or.inl ⟨_, rfl, rfl⟩)) rfl k
                  obtain ⟨J4, e1, hS4⟩ := lc_addn hP hS3 (Nat.le_refl t) kc
                  subst e1
                  have k : nt_rn X _ 49 (96, [(2, .int (nI (j + 1))), (1, .int (lb_op (lb_g f t z.1))), (4, .int (Int32.ofInt 0)), (3, .int (lb_op (lb_g f t z.1))), (0, .ref RR)], [], me_w M J4) _ := k
                  have k := lz_rv rfl rfl k
                  exact ⟨1, .inl c, _, k, Or.inr (Or.inr ⟨hadd, _, hv, Or.inl ⟨c, rfl, rfl⟩⟩), hfa, _, _, hS4⟩
                · rw [if_neg (show ¬ ((Int32.ofInt 400) ≤ (nI (j + 1))) from show ¬ nI 400 ≤ nI ((j + 1)) from nI_ge (Nat.not_le.mp h12') (by omega))] at k
                  have k := ly_revb 1 (c' := (16, [(2, .int (nI (j + 1))), (1, .int (lb_op (lb_g f t z.1))), (4, .int (Int32.ofInt 0)), (3, .int (lb_op (lb_g f t z.1))), (0, .ref RR)], [.ref RR], me_w M J3)) rfl k
                  obtain ⟨d1, o1, ed, kc, k⟩ := lz_c (g := 56) (q := 1) (vs := [.ref RR]) (rest := []) rfl rfl (by decide) (Or.inr (Or.inl ⟨_, rfl, rfl⟩)) rfl k
                  have e1 := lc_opAt hP hS3 (Nat.le_refl t) kc
                  subst e1
                  have hop := lb_op_in (lb_g f t t)
                  have k : nt_rn X _ 49 (19, [(2, .int (nI (j + 1))), (1, .int (lb_op (lb_g f t z.1))), (4, .int (Int32.ofInt 0)), (3, .int (lb_op (lb_g f t z.1))), (0, .ref RR)], [.int (lb_op (lb_g f t t))], me_w M J3) _ := k
                  have he : lb_op (lb_g f t t) = Int32.ofInt (-1) := by
                    unfold lb_g
                    rw [if_neg (by omega)]
                    decide
                  have k := ly_revb 4 (c' := (if (lb_op (lb_g f t t)) = (Int32.ofInt (-1)) then 25 else 28, [(3, .int (lb_op (lb_g f t t))), (2, .int (nI (j + 1))), (1, .int (lb_op (lb_g f t z.1))), (4, .int (Int32.ofInt 0)), (0, .ref RR)], [], me_w M J3)) rfl k
                  rw [if_pos (show (lb_op (lb_g f t t)) = (Int32.ofInt (-1)) from he)] at k
                  have k := ly_revb 3 (c' := (93, [(3, .int (lb_op (lb_g f t t))), (2, .int (nI (j + 1))), (1, .int (lb_op (lb_g f t z.1))), (4, .int (Int32.ofInt 0)), (0, .ref RR)], [.int (lb_op (lb_g f t z.1)), .ref RR], me_w M J3)) rfl k
                  obtain ⟨d1, o1, ed, kc, k⟩ := lz_c (g := 57) (q := 1) (vs := [.ref RR, .int (lb_op (lb_g f t z.1))]) (rest := []) rfl rfl (by decide) (Or.inr (Or.inl ⟨_, rfl, rfl⟩)) rfl k
                  obtain ⟨J4, e1, hS4⟩ := lc_addn hP hS3 (Nat.le_refl t) kc
                  subst e1
                  have k : nt_rn X _ 49 (96, [(3, .int (lb_op (lb_g f t t))), (2, .int (nI (j + 1))), (1, .int (lb_op (lb_g f t z.1))), (4, .int (Int32.ofInt 0)), (0, .ref RR)], [], me_w M J4) _ := k
                  have k := lz_rv rfl rfl k
                  exact ⟨1, .inl c, _, k, Or.inr (Or.inr ⟨hadd, _, hv, Or.inl ⟨c, rfl, rfl⟩⟩), hfa, _, _, hS4⟩
              | inr z1 =>
                obtain ⟨hS9, hp9⟩ := hq
                have hup := lb_val_up hp2 hv
                have k : nt_rn X _ 49 (71, [(1, .int (lb_op (lb_g f t z.1))), (4, .int (Int32.ofInt 0)), (3, .int (lb_op (lb_g f t z.1))), (2, .int (nI j)), (0, .ref RR)], [], me_w M J8) _ := k
                have k := ly_revb 3 (c' := (if (Int32.ofInt 0) = 0 then 81 else 77, [(1, .int (lb_op (lb_g f t z.1))), (4, .int (Int32.ofInt 0)), (3, .int (lb_op (lb_g f t z.1))), (2, .int (nI j)), (0, .ref RR)], [.ref RR], me_w M J8)) rfl k
                rw [if_pos (show (Int32.ofInt 0) = 0 from by decide)] at k
                have k := ly_revb 1 (c' := (82, [(1, .int (lb_op (lb_g f t z.1))), (4, .int (Int32.ofInt 0)), (3, .int (lb_op (lb_g f t z.1))), (2, .int (nI j)), (0, .ref RR)], [.int (Int32.ofInt (-1)), .ref RR], me_w M J8)) rfl k
                obtain ⟨d1, o1, ed, kc, k⟩ := lz_c (g := 57) (q := 1) (vs := [.ref RR, .int (Int32.ofInt (-1))]) (rest := []) rfl rfl (by decide) (Or.inr (Or.inl ⟨_, rfl, rfl⟩)) rfl k
                obtain ⟨J3, e1, hS3⟩ := lc_addn hP hS9 hp9 kc
                subst e1
                have k : nt_rn X _ 49 (85, [(1, .int (lb_op (lb_g f t z.1))), (4, .int (Int32.ofInt 0)), (3, .int (lb_op (lb_g f t z.1))), (2, .int (nI j)), (0, .ref RR)], [], me_w M J3) _ := k
                have k := ly_revb 1 (c' := (88, [(2, .int ((nI j) + Int32.ofInt 1)), (1, .int (lb_op (lb_g f t z.1))), (4, .int (Int32.ofInt 0)), (3, .int (lb_op (lb_g f t z.1))), (0, .ref RR)], [], me_w M J3)) rfl k
                rw [show ((nI j) + Int32.ofInt 1 : Int32) = nI (j + 1) from me_add (k := 1)] at k
                have k := ly_revb 1 (c' := (8, [(2, .int (nI (j + 1))), (1, .int (lb_op (lb_g f t z.1))), (4, .int (Int32.ofInt 0)), (3, .int (lb_op (lb_g f t z.1))), (0, .ref RR)], [], me_w M J3)) rfl k
                have hsl := lb_s_le (f := f) (t := t) (t - (z.1 + 1)) (z.1 + 1) (by omega)
                dsimp only at hup
                obtain ⟨k1, r1, J7, e2, hsr, hq⟩ := ih (t - z1.1) (by omega) (j + 1) (lb_op (lb_g f t z.1)) z1 _ _ rfl hp9 (by omega) (Or.inr (Or.inl ⟨_, _, rfl⟩)) hS3 k
                exact ⟨k1 + 1, r1, J7, e2, Or.inr (Or.inr ⟨hadd, _, hv, Or.inr ⟨z1, rfl, hsr⟩⟩), hq⟩
    · have k := ly_revb 3 (c' := (if (Int32.ofInt 400) ≤ (nI j) then 91 else 15, [(2, .int (nI j)), (4, .int (b)), (3, .int (a)), (1, .int (w)), (0, .ref RR)], [], me_w M J)) rfl k
      by_cases h12 : 400 ≤ j
      · rw [if_pos (show (Int32.ofInt 400) ≤ (nI j) from show nI 400 ≤ nI j from nI_le h12 (by omega))] at k
        have k := ly_revb 2 (c' := (93, [(2, .int (nI j)), (4, .int (b)), (3, .int (a)), (1, .int (w)), (0, .ref RR)], [.int (w), .ref RR], me_w M J)) rfl k
        obtain ⟨d1, o1, ed, kc, k⟩ := lz_c (g := 57) (q := 1) (vs := [.ref RR, .int (w)]) (rest := []) rfl rfl (by decide) (Or.inr (Or.inl ⟨_, rfl, rfl⟩)) rfl k
        obtain ⟨J1, e1, hS1⟩ := lc_addn hP hS hp kc
        subst e1
        have k : nt_rn X _ 49 (96, [(2, .int (nI j)), (4, .int (b)), (3, .int (a)), (1, .int (w)), (0, .ref RR)], [], me_w M J1) _ := k
        have k := lz_rv rfl rfl k
        refine ⟨1, .inr (z.1, z.2.1, lb_ew z.2.2 w), _, k, Or.inl ⟨Classical.byContradiction (fun hh => absurd (lb_op_lt hh) (by omega)), rfl⟩, ?_, hp⟩
        dsimp only
        rw [lb_ew1]
        exact hS1
      · rw [if_neg (show ¬ ((Int32.ofInt 400) ≤ (nI j)) from show ¬ nI 400 ≤ nI j from nI_ge (Nat.not_le.mp h12) (by omega))] at k
        have k := ly_revb 1 (c' := (16, [(2, .int (nI j)), (4, .int (b)), (3, .int (a)), (1, .int (w)), (0, .ref RR)], [.ref RR], me_w M J)) rfl k
        obtain ⟨d1, o1, ed, kc, k⟩ := lz_c (g := 56) (q := 1) (vs := [.ref RR]) (rest := []) rfl rfl (by decide) (Or.inr (Or.inl ⟨_, rfl, rfl⟩)) rfl k
        have e1 := lc_opAt hP hS hp kc
        subst e1
        have hop := lb_op_in (lb_g f t z.1)
        have k : nt_rn X _ 49 (19, [(2, .int (nI j)), (4, .int (b)), (3, .int (a)), (1, .int (w)), (0, .ref RR)], [.int (lb_op (lb_g f t z.1))], me_w M J) _ := k
        have k := ly_revb 4 (c' := (if (lb_op (lb_g f t z.1)) = (Int32.ofInt (-1)) then 25 else 28, [(3, .int (lb_op (lb_g f t z.1))), (2, .int (nI j)), (4, .int (b)), (1, .int (w)), (0, .ref RR)], [], me_w M J)) rfl k
        by_cases h22 : lb_op (lb_g f t z.1) = Int32.ofInt (-1)
        · rw [if_pos (show (lb_op (lb_g f t z.1)) = (Int32.ofInt (-1)) from h22)] at k
          have k := ly_revb 3 (c' := (93, [(3, .int (lb_op (lb_g f t z.1))), (2, .int (nI j)), (4, .int (b)), (1, .int (w)), (0, .ref RR)], [.int (w), .ref RR], me_w M J)) rfl k
          obtain ⟨d1, o1, ed, kc, k⟩ := lz_c (g := 57) (q := 1) (vs := [.ref RR, .int (w)]) (rest := []) rfl rfl (by decide) (Or.inr (Or.inl ⟨_, rfl, rfl⟩)) rfl k
          obtain ⟨J1, e1, hS1⟩ := lc_addn hP hS hp kc
          subst e1
          have k : nt_rn X _ 49 (96, [(3, .int (lb_op (lb_g f t z.1))), (2, .int (nI j)), (4, .int (b)), (1, .int (w)), (0, .ref RR)], [], me_w M J1) _ := k
          have k := lz_rv rfl rfl k
          refine ⟨1, .inr (z.1, z.2.1, lb_ew z.2.2 w), _, k, Or.inl ⟨h22, rfl⟩, ?_, hp⟩
          dsimp only
          rw [lb_ew1]
          exact hS1
        · rw [if_neg (show ¬ ((lb_op (lb_g f t z.1)) = (Int32.ofInt (-1))) from h22)] at k
          have k := ly_revb 3 (c' := (if (lb_op (lb_g f t z.1)) = (Int32.ofInt 12) then 40 else 34, [(3, .int (lb_op (lb_g f t z.1))), (2, .int (nI j)), (4, .int (b)), (1, .int (w)), (0, .ref RR)], [], me_w M J)) rfl k
          by_cases h31 : (lb_op (lb_g f t z.1)) = (Int32.ofInt 12)
          · rw [if_pos (show (lb_op (lb_g f t z.1)) = (Int32.ofInt 12) from h31)] at k
            have k := ly_revb 5 (c' := (if (Int32.ofInt 1) = 0 then 52 else 59, [(4, .int (Int32.ofInt 1)), (3, .int (lb_op (lb_g f t z.1))), (2, .int (nI j)), (1, .int (w)), (0, .ref RR)], [], me_w M J)) rfl k
            rw [if_neg (show ¬ ((Int32.ofInt 1) = 0) from by decide)] at k
            have k := ly_revb 1 (c' := (60, [(4, .int (Int32.ofInt 1)), (3, .int (lb_op (lb_g f t z.1))), (2, .int (nI j)), (1, .int (w)), (0, .ref RR)], [.ref RR], me_w M J)) rfl k
            have k := lz_get (a := RR) (g := 500) (M := me_w M J) (v := .ref Rd) rfl (nt_gfR rfl hP.1.2.2.1) k
            have k := ly_revb 1 (c' := (64, [(4, .int (Int32.ofInt 1)), (3, .int (lb_op (lb_g f t z.1))), (2, .int (nI j)), (1, .int (w)), (0, .ref RR)], [.int (Int32.ofInt 1), .ref Rd], me_w M J)) rfl k
            obtain ⟨d1, o1, ed, kc, k⟩ := lz_c (g := 29) (q := 1) (vs := [.ref Rd, .int (Int32.ofInt 1)]) (rest := []) rfl rfl (by decide) (Or.inr (Or.inl ⟨_, rfl, rfl⟩)) rfl k
            have hlt := lb_op_lt h22
            have e1 := lc_skip (b := 1) hP hS hp (by first | omega | decide | (have := lb_W_len (a := lb_wd w); omega)) kc
            rw [Nat.min_eq_left (hlt)] at e1
            subst e1
            have hS1 := lc_Spp (q := lb_s f t (z.1 + 1)) hP hS
            have hp1 : lb_s f t (z.1 + 1) ≤ t := (lb_s_le (t - (z.1 + 1)) (z.1 + 1) (by have := (hlt); omega)).2
            have k : nt_rn X _ 49 (67, [(4, .int (Int32.ofInt 1)), (3, .int (lb_op (lb_g f t z.1))), (2, .int (nI j)), (1, .int (w)), (0, .ref RR)], [], me_w M (nt_u J Rd 1 (nI (lb_s f t (z.1 + 1))))) _ := k
            have k := ly_revb 1 (c' := (68, [(4, .int (Int32.ofInt 1)), (3, .int (lb_op (lb_g f t z.1))), (2, .int (nI j)), (1, .int (w)), (0, .ref RR)], [.ref RR], me_w M (nt_u J Rd 1 (nI (lb_s f t (z.1 + 1)))))) rfl k
            obtain ⟨d1, o1, ed, kc, k⟩ := lz_c (g := 50) (q := 1) (vs := [.ref RR]) (rest := []) rfl rfl (by decide) (Or.inr (Or.inl ⟨_, rfl, rfl⟩)) rfl k
            obtain ⟨r1, J8, e1, hv, hq⟩ := lc_readValue (e := z.2.2) hP hS1 hp1 kc
            subst e1
            cases r1 with
            | inl c =>
              obtain ⟨hfa, m8, s8, hS8⟩ := hq
              have k : nt_rn X _ 49 (71, [(4, .int (Int32.ofInt 1)), (3, .int (lb_op (lb_g f t z.1))), (2, .int (nI j)), (1, .int (w)), (0, .ref RR)], [], me_w M J8) _ := k
              have k := ly_revb 3 (c' := (if (Int32.ofInt 1) = 0 then 81 else 77, [(4, .int (Int32.ofInt 1)), (3, .int (lb_op (lb_g f t z.1))), (2, .int (nI j)), (1, .int (w)), (0, .ref RR)], [.ref RR], me_w M J8)) rfl k
              rw [if_neg (show ¬ ((Int32.ofInt 1) = 0) from by decide)] at k
              have k := ly_revb 2 (c' := (82, [(4, .int (Int32.ofInt 1)), (3, .int (lb_op (lb_g f t z.1))), (2, .int (nI j)), (1, .int (w)), (0, .ref RR)], [.int (lb_op (lb_g f t z.1)), .ref RR], me_w M J8)) rfl k
              obtain ⟨d1, o1, ed, kc, k⟩ := lz_c (g := 57) (q := 1) (vs := [.ref RR, .int (lb_op (lb_g f t z.1))]) (rest := []) rfl rfl (by decide) (Or.inr (Or.inl ⟨_, rfl, rfl⟩)) rfl k
              obtain ⟨J2, e1, hS2⟩ := lc_addn hP hS8 (Nat.le_refl t) kc
              subst e1
              have k : nt_rn X _ 49 (85, [(4, .int (Int32.ofInt 1)), (3, .int (lb_op (lb_g f t z.1))), (2, .int (nI j)), (1, .int (w)), (0, .ref RR)], [], me_w M J2) _ := k
              have k := ly_revb 1 (c' := (88, [(2, .int ((nI j) + Int32.ofInt 1)), (4, .int (Int32.ofInt 1)), (3, .int (lb_op (lb_g f t z.1))), (1, .int (w)), (0, .ref RR)], [], me_w M J2)) rfl k
              rw [show ((nI j) + Int32.ofInt 1 : Int32) = nI (j + 1) from me_add (k := 1)] at k
              have k := ly_revb 1 (c' := (8, [(2, .int (nI (j + 1))), (4, .int (Int32.ofInt 1)), (3, .int (lb_op (lb_g f t z.1))), (1, .int (w)), (0, .ref RR)], [], me_w M J2)) rfl k
              have k := ly_revb 3 (c' := (if (Int32.ofInt 400) ≤ (nI (j + 1)) then 91 else 15, [(2, .int (nI (j + 1))), (4, .int (Int32.ofInt 1)), (3, .int (lb_op (lb_g f t z.1))), (1, .int (w)), (0, .ref RR)], [], me_w M J2)) rfl k
              by_cases h12' : 400 ≤ (j + 1)
              · rw [if_pos (show (Int32.ofInt 400) ≤ (nI (j + 1)) from show nI 400 ≤ nI ((j + 1)) from nI_le h12' (by omega))] at k
                have k := ly_revb 2 (c' := (93, [(2, .int (nI (j + 1))), (4, .int (Int32.ofInt 1)), (3, .int (lb_op (lb_g f t z.1))), (1, .int (w)), (0, .ref RR)], [.int (w), .ref RR], me_w M J2)) rfl k
                obtain ⟨d1, o1, ed, kc, k⟩ := lz_c (g := 57) (q := 1) (vs := [.ref RR, .int (w)]) (rest := []) rfl rfl (by decide) (Or.inr (Or.inl ⟨_, rfl, rfl⟩)) rfl k
                obtain ⟨J3, e1, hS3⟩ := lc_addn hP hS2 (Nat.le_refl t) kc
                subst e1
                have k : nt_rn X _ 49 (96, [(2, .int (nI (j + 1))), (4, .int (Int32.ofInt 1)), (3, .int (lb_op (lb_g f t z.1))), (1, .int (w)), (0, .ref RR)], [], me_w M J3) _ := k
                have k := lz_rv rfl rfl k
                exact ⟨1, .inl c, _, k, Or.inr (Or.inl ⟨Or.inl h31, _, hv, Or.inl ⟨c, rfl, rfl⟩⟩), hfa, _, _, hS3⟩
              · rw [if_neg (show ¬ ((Int32.ofInt 400) ≤ (nI (j + 1))) from show ¬ nI 400 ≤ nI ((j + 1)) from nI_ge (Nat.not_le.mp h12') (by omega))] at k
                have k := ly_revb 1 (c' := (16, [(2, .int (nI (j + 1))), (4, .int (Int32.ofInt 1)), (3, .int (lb_op (lb_g f t z.1))), (1, .int (w)), (0, .ref RR)], [.ref RR], me_w M J2)) rfl k
                obtain ⟨d1, o1, ed, kc, k⟩ := lz_c (g := 56) (q := 1) (vs := [.ref RR]) (rest := []) rfl rfl (by decide) (Or.inr (Or.inl ⟨_, rfl, rfl⟩)) rfl k
                have e1 := lc_opAt hP hS2 (Nat.le_refl t) kc
                subst e1
                have hop := lb_op_in (lb_g f t t)
                have k : nt_rn X _ 49 (19, [(2, .int (nI (j + 1))), (4, .int (Int32.ofInt 1)), (3, .int (lb_op (lb_g f t z.1))), (1, .int (w)), (0, .ref RR)], [.int (lb_op (lb_g f t t))], me_w M J2) _ := k
                have he : lb_op (lb_g f t t) = Int32.ofInt (-1) := by
                  unfold lb_g
                  rw [if_neg (by omega)]
                  decide
                have k := ly_revb 4 (c' := (if (lb_op (lb_g f t t)) = (Int32.ofInt (-1)) then 25 else 28, [(3, .int (lb_op (lb_g f t t))), (2, .int (nI (j + 1))), (4, .int (Int32.ofInt 1)), (1, .int (w)), (0, .ref RR)], [], me_w M J2)) rfl k
                rw [if_pos (show (lb_op (lb_g f t t)) = (Int32.ofInt (-1)) from he)] at k
                have k := ly_revb 3 (c' := (93, [(3, .int (lb_op (lb_g f t t))), (2, .int (nI (j + 1))), (4, .int (Int32.ofInt 1)), (1, .int (w)), (0, .ref RR)], [.int (w), .ref RR], me_w M J2)) rfl k
                obtain ⟨d1, o1, ed, kc, k⟩ := lz_c (g := 57) (q := 1) (vs := [.ref RR, .int (w)]) (rest := []) rfl rfl (by decide) (Or.inr (Or.inl ⟨_, rfl, rfl⟩)) rfl k
                obtain ⟨J3, e1, hS3⟩ := lc_addn hP hS2 (Nat.le_refl t) kc
                subst e1
                have k : nt_rn X _ 49 (96, [(3, .int (lb_op (lb_g f t t))), (2, .int (nI (j + 1))), (4, .int (Int32.ofInt 1)), (1, .int (w)), (0, .ref RR)], [], me_w M J3) _ := k
                have k := lz_rv rfl rfl k
                exact ⟨1, .inl c, _, k, Or.inr (Or.inl ⟨Or.inl h31, _, hv, Or.inl ⟨c, rfl, rfl⟩⟩), hfa, _, _, hS3⟩
            | inr z1 =>
              obtain ⟨hS9, hp9⟩ := hq
              have hup := lb_val_up hp1 hv
              have k : nt_rn X _ 49 (71, [(4, .int (Int32.ofInt 1)), (3, .int (lb_op (lb_g f t z.1))), (2, .int (nI j)), (1, .int (w)), (0, .ref RR)], [], me_w M J8) _ := k
              have k := ly_revb 3 (c' := (if (Int32.ofInt 1) = 0 then 81 else 77, [(4, .int (Int32.ofInt 1)), (3, .int (lb_op (lb_g f t z.1))), (2, .int (nI j)), (1, .int (w)), (0, .ref RR)], [.ref RR], me_w M J8)) rfl k
              rw [if_neg (show ¬ ((Int32.ofInt 1) = 0) from by decide)] at k
              have k := ly_revb 2 (c' := (82, [(4, .int (Int32.ofInt 1)), (3, .int (lb_op (lb_g f t z.1))), (2, .int (nI j)), (1, .int (w)), (0, .ref RR)], [.int (lb_op (lb_g f t z.1)), .ref RR], me_w M J8)) rfl k
              obtain ⟨d1, o1, ed, kc, k⟩ := lz_c (g := 57) (q := 1) (vs := [.ref RR, .int (lb_op (lb_g f t z.1))]) (rest := []) rfl rfl (by decide) (Or.inr (Or.inl ⟨_, rfl, rfl⟩)) rfl k
              obtain ⟨J2, e1, hS2⟩ := lc_addn hP hS9 hp9 kc
              subst e1
              have k : nt_rn X _ 49 (85, [(4, .int (Int32.ofInt 1)), (3, .int (lb_op (lb_g f t z.1))), (2, .int (nI j)), (1, .int (w)), (0, .ref RR)], [], me_w M J2) _ := k
              have k := ly_revb 1 (c' := (88, [(2, .int ((nI j) + Int32.ofInt 1)), (4, .int (Int32.ofInt 1)), (3, .int (lb_op (lb_g f t z.1))), (1, .int (w)), (0, .ref RR)], [], me_w M J2)) rfl k
              rw [show ((nI j) + Int32.ofInt 1 : Int32) = nI (j + 1) from me_add (k := 1)] at k
              have k := ly_revb 1 (c' := (8, [(2, .int (nI (j + 1))), (4, .int (Int32.ofInt 1)), (3, .int (lb_op (lb_g f t z.1))), (1, .int (w)), (0, .ref RR)], [], me_w M J2)) rfl k
              have hsl := lb_s_le (f := f) (t := t) (t - (z.1 + 1)) (z.1 + 1) (by omega)
              dsimp only at hup
              obtain ⟨k1, r1, J7, e2, hsr, hq⟩ := ih (t - z1.1) (by omega) (j + 1) w (z1.1, z1.2.1, lb_ew z1.2.2 (lb_op (lb_g f t z.1))) _ _ rfl hp9 (by dsimp only; omega) (Or.inr (Or.inr ⟨_, _, rfl⟩)) (by dsimp only; rw [lb_ew1]; exact hS2) k
              exact ⟨k1 + 1, r1, J7, e2, Or.inr (Or.inl ⟨Or.inl h31, _, hv, Or.inr ⟨z1, rfl, hsr⟩⟩), hq⟩
          · rw [if_neg (show ¬ ((lb_op (lb_g f t z.1)) = (Int32.ofInt 12)) from h31)] at k
            have k := ly_revb 3 (c' := (if (lb_op (lb_g f t z.1)) = (Int32.ofInt 13) then 40 else 44, [(3, .int (lb_op (lb_g f t z.1))), (2, .int (nI j)), (4, .int (b)), (1, .int (w)), (0, .ref RR)], [], me_w M J)) rfl k
            by_cases h37 : (lb_op (lb_g f t z.1)) = (Int32.ofInt 13)
            · rw [if_pos (show (lb_op (lb_g f t z.1)) = (Int32.ofInt 13) from h37)] at k
              have k := ly_revb 5 (c' := (if (Int32.ofInt 1) = 0 then 52 else 59, [(4, .int (Int32.ofInt 1)), (3, .int (lb_op (lb_g f t z.1))), (2, .int (nI j)), (1, .int (w)), (0, .ref RR)], [], me_w M J)) rfl k
              rw [if_neg (show ¬ ((Int32.ofInt 1) = 0) from by decide)] at k
              have k := ly_revb 1 (c' := (60, [(4, .int (Int32.ofInt 1)), (3, .int (lb_op (lb_g f t z.1))), (2, .int (nI j)), (1, .int (w)), (0, .ref RR)], [.ref RR], me_w M J)) rfl k
              have k := lz_get (a := RR) (g := 500) (M := me_w M J) (v := .ref Rd) rfl (nt_gfR rfl hP.1.2.2.1) k
              have k := ly_revb 1 (c' := (64, [(4, .int (Int32.ofInt 1)), (3, .int (lb_op (lb_g f t z.1))), (2, .int (nI j)), (1, .int (w)), (0, .ref RR)], [.int (Int32.ofInt 1), .ref Rd], me_w M J)) rfl k
              obtain ⟨d1, o1, ed, kc, k⟩ := lz_c (g := 29) (q := 1) (vs := [.ref Rd, .int (Int32.ofInt 1)]) (rest := []) rfl rfl (by decide) (Or.inr (Or.inl ⟨_, rfl, rfl⟩)) rfl k
              have hlt := lb_op_lt h22
              have e1 := lc_skip (b := 1) hP hS hp (by first | omega | decide | (have := lb_W_len (a := lb_wd w); omega)) kc
              rw [Nat.min_eq_left (hlt)] at e1
              subst e1
              have hS1 := lc_Spp (q := lb_s f t (z.1 + 1)) hP hS
              have hp1 : lb_s f t (z.1 + 1) ≤ t := (lb_s_le (t - (z.1 + 1)) (z.1 + 1) (by have := (hlt); omega)).2
              have k : nt_rn X _ 49 (67, [(4, .int (Int32.ofInt 1)), (3, .int (lb_op (lb_g f t z.1))), (2, .int (nI j)), (1, .int (w)), (0, .ref RR)], [], me_w M (nt_u J Rd 1 (nI (lb_s f t (z.1 + 1))))) _ := k
              have k := ly_revb 1 (c' := (68, [(4, .int (Int32.ofInt 1)), (3, .int (lb_op (lb_g f t z.1))), (2, .int (nI j)), (1, .int (w)), (0, .ref RR)], [.ref RR], me_w M (nt_u J Rd 1 (nI (lb_s f t (z.1 + 1)))))) rfl k
              obtain ⟨d1, o1, ed, kc, k⟩ := lz_c (g := 50) (q := 1) (vs := [.ref RR]) (rest := []) rfl rfl (by decide) (Or.inr (Or.inl ⟨_, rfl, rfl⟩)) rfl k
              obtain ⟨r1, J8, e1, hv, hq⟩ := lc_readValue (e := z.2.2) hP hS1 hp1 kc
              subst e1
              cases r1 with
              | inl c =>
                obtain ⟨hfa, m8, s8, hS8⟩ := hq
                have k : nt_rn X _ 49 (71, [(4, .int (Int32.ofInt 1)), (3, .int (lb_op (lb_g f t z.1))), (2, .int (nI j)), (1, .int (w)), (0, .ref RR)], [], me_w M J8) _ := k
                have k := ly_revb 3 (c' := (if (Int32.ofInt 1) = 0 then 81 else 77, [(4, .int (Int32.ofInt 1)), (3, .int (lb_op (lb_g f t z.1))), (2, .int (nI j)), (1, .int (w)), (0, .ref RR)], [.ref RR], me_w M J8)) rfl k
                rw [if_neg (show ¬ ((Int32.ofInt 1) = 0) from by decide)] at k
                have k := ly_revb 2 (c' := (82, [(4, .int (Int32.ofInt 1)), (3, .int (lb_op (lb_g f t z.1))), (2, .int (nI j)), (1, .int (w)), (0, .ref RR)], [.int (lb_op (lb_g f t z.1)), .ref RR], me_w M J8)) rfl k
                obtain ⟨d1, o1, ed, kc, k⟩ := lz_c (g := 57) (q := 1) (vs := [.ref RR, .int (lb_op (lb_g f t z.1))]) (rest := []) rfl rfl (by decide) (Or.inr (Or.inl ⟨_, rfl, rfl⟩)) rfl k
                obtain ⟨J2, e1, hS2⟩ := lc_addn hP hS8 (Nat.le_refl t) kc
                subst e1
                have k : nt_rn X _ 49 (85, [(4, .int (Int32.ofInt 1)), (3, .int (lb_op (lb_g f t z.1))), (2, .int (nI j)), (1, .int (w)), (0, .ref RR)], [], me_w M J2) _ := k
                have k := ly_revb 1 (c' := (88, [(2, .int ((nI j) + Int32.ofInt 1)), (4, .int (Int32.ofInt 1)), (3, .int (lb_op (lb_g f t z.1))), (1, .int (w)), (0, .ref RR)], [], me_w M J2)) rfl k
                rw [show ((nI j) + Int32.ofInt 1 : Int32) = nI (j + 1) from me_add (k := 1)] at k
                have k := ly_revb 1 (c' := (8, [(2, .int (nI (j + 1))), (4, .int (Int32.ofInt 1)), (3, .int (lb_op (lb_g f t z.1))), (1, .int (w)), (0, .ref RR)], [], me_w M J2)) rfl k
                have k := ly_revb 3 (c' := (if (Int32.ofInt 400) ≤ (nI (j + 1)) then 91 else 15, [(2, .int (nI (j + 1))), (4, .int (Int32.ofInt 1)), (3, .int (lb_op (lb_g f t z.1))), (1, .int (w)), (0, .ref RR)], [], me_w M J2)) rfl k
                by_cases h12' : 400 ≤ (j + 1)
                · rw [if_pos (show (Int32.ofInt 400) ≤ (nI (j + 1)) from show nI 400 ≤ nI ((j + 1)) from nI_le h12' (by omega))] at k
                  have k := ly_revb 2 (c' := (93, [(2, .int (nI (j + 1))), (4, .int (Int32.ofInt 1)), (3, .int (lb_op (lb_g f t z.1))), (1, .int (w)), (0, .ref RR)], [.int (w), .ref RR], me_w M J2)) rfl k
                  obtain ⟨d1, o1, ed, kc, k⟩ := lz_c (g := 57) (q := 1) (vs := [.ref RR, .int (w)]) (rest := []) rfl rfl (by decide) (Or.inr (Or.inl ⟨_, rfl, rfl⟩)) rfl k
                  obtain ⟨J3, e1, hS3⟩ := lc_addn hP hS2 (Nat.le_refl t) kc
                  subst e1
                  have k : nt_rn X _ 49 (96, [(2, .int (nI (j + 1))), (4, .int (Int32.ofInt 1)), (3, .int (lb_op (lb_g f t z.1))), (1, .int (w)), (0, .ref RR)], [], me_w M J3) _ := k
                  have k := lz_rv rfl rfl k
                  exact ⟨1, .inl c, _, k, Or.inr (Or.inl ⟨Or.inr h37, _, hv, Or.inl ⟨c, rfl, rfl⟩⟩), hfa, _, _, hS3⟩
                · rw [if_neg (show ¬ ((Int32.ofInt 400) ≤ (nI (j + 1))) from show ¬ nI 400 ≤ nI ((j + 1)) from nI_ge (Nat.not_le.mp h12') (by omega))] at k
                  have k := ly_revb 1 (c' := (16, [(2, .int (nI (j + 1))), (4, .int (Int32.ofInt 1)), (3, .int (lb_op (lb_g f t z.1))), (1, .int (w)), (0, .ref RR)], [.ref RR], me_w M J2)) rfl k
                  obtain ⟨d1, o1, ed, kc, k⟩ := lz_c (g := 56) (q := 1) (vs := [.ref RR]) (rest := []) rfl rfl (by decide) (Or.inr (Or.inl ⟨_, rfl, rfl⟩)) rfl k
                  have e1 := lc_opAt hP hS2 (Nat.le_refl t) kc
                  subst e1
                  have hop := lb_op_in (lb_g f t t)
                  have k : nt_rn X _ 49 (19, [(2, .int (nI (j + 1))), (4, .int (Int32.ofInt 1)), (3, .int (lb_op (lb_g f t z.1))), (1, .int (w)), (0, .ref RR)], [.int (lb_op (lb_g f t t))], me_w M J2) _ := k
                  have he : lb_op (lb_g f t t) = Int32.ofInt (-1) := by
                    unfold lb_g
                    rw [if_neg (by omega)]
                    decide
                  have k := ly_revb 4 (c' := (if (lb_op (lb_g f t t)) = (Int32.ofInt (-1)) then 25 else 28, [(3, .int (lb_op (lb_g f t t))), (2, .int (nI (j + 1))), (4, .int (Int32.ofInt 1)), (1, .int (w)), (0, .ref RR)], [], me_w M J2)) rfl k
                  rw [if_pos (show (lb_op (lb_g f t t)) = (Int32.ofInt (-1)) from he)] at k
                  have k := ly_revb 3 (c' := (93, [(3, .int (lb_op (lb_g f t t))), (2, .int (nI (j + 1))), (4, .int (Int32.ofInt 1)), (1, .int (w)), (0, .ref RR)], [.int (w), .ref RR], me_w M J2)) rfl k
                  obtain ⟨d1, o1, ed, kc, k⟩ := lz_c (g := 57) (q := 1) (vs := [.ref RR, .int (w)]) (rest := []) rfl rfl (by decide) (Or.inr (Or.inl ⟨_, rfl, rfl⟩)) rfl k
                  obtain ⟨J3, e1, hS3⟩ := lc_addn hP hS2 (Nat.le_refl t) kc
                  subst e1
                  have k : nt_rn X _ 49 (96, [(3, .int (lb_op (lb_g f t t))), (2, .int (nI (j + 1))), (4, .int (Int32.ofInt 1)), (1, .int (w)), (0, .ref RR)], [], me_w M J3) _ := k
                  have k := lz_rv rfl rfl k
                  exact ⟨1, .inl c, _, k, Or.inr (Or.inl ⟨Or.inr h37, _, hv, Or.inl ⟨c, rfl, rfl⟩⟩), hfa, _, _, hS3⟩
              | inr z1 =>
                obtain ⟨hS9, hp9⟩ := hq
                have hup := lb_val_up hp1 hv
                have k : nt_rn X _ 49 (71, [(4, .int (Int32.ofInt 1)), (3, .int (lb_op (lb_g f t z.1))), (2, .int (nI j)), (1, .int (w)), (0, .ref RR)], [], me_w M J8) _ := k
                have k := ly_revb 3 (c' := (if (Int32.ofInt 1) = 0 then 81 else 77, [(4, .int (Int32.ofInt 1)), (3, .int (lb_op (lb_g f t z.1))), (2, .int (nI j)), (1, .int (w)), (0, .ref RR)], [.ref RR], me_w M J8)) rfl k
                rw [if_neg (show ¬ ((Int32.ofInt 1) = 0) from by decide)] at k
                have k := ly_revb 2 (c' := (82, [(4, .int (Int32.ofInt 1)), (3, .int (lb_op (lb_g f t z.1))), (2, .int (nI j)), (1, .int (w)), (0, .ref RR)], [.int (lb_op (lb_g f t z.1)), .ref RR], me_w M J8)) rfl k
                obtain ⟨d1, o1, ed, kc, k⟩ := lz_c (g := 57) (q := 1) (vs := [.ref RR, .int (lb_op (lb_g f t z.1))]) (rest := []) rfl rfl (by decide) (Or.inr (Or.inl ⟨_, rfl, rfl⟩)) rfl k
                obtain ⟨J2, e1, hS2⟩ := lc_addn hP hS9 hp9 kc
                subst e1
                have k : nt_rn X _ 49 (85, [(4, .int (Int32.ofInt 1)), (3, .int (lb_op (lb_g f t z.1))), (2, .int (nI j)), (1, .int (w)), (0, .ref RR)], [], me_w M J2) _ := k
                have k := ly_revb 1 (c' := (88, [(2, .int ((nI j) + Int32.ofInt 1)), (4, .int (Int32.ofInt 1)), (3, .int (lb_op (lb_g f t z.1))), (1, .int (w)), (0, .ref RR)], [], me_w M J2)) rfl k
                rw [show ((nI j) + Int32.ofInt 1 : Int32) = nI (j + 1) from me_add (k := 1)] at k
                have k := ly_revb 1 (c' := (8, [(2, .int (nI (j + 1))), (4, .int (Int32.ofInt 1)), (3, .int (lb_op (lb_g f t z.1))), (1, .int (w)), (0, .ref RR)], [], me_w M J2)) rfl k
                have hsl := lb_s_le (f := f) (t := t) (t - (z.1 + 1)) (z.1 + 1) (by omega)
                dsimp only at hup
                obtain ⟨k1, r1, J7, e2, hsr, hq⟩ := ih (t - z1.1) (by omega) (j + 1) w (z1.1, z1.2.1, lb_ew z1.2.2 (lb_op (lb_g f t z.1))) _ _ rfl hp9 (by dsimp only; omega) (Or.inr (Or.inr ⟨_, _, rfl⟩)) (by dsimp only; rw [lb_ew1]; exact hS2) k
                exact ⟨k1 + 1, r1, J7, e2, Or.inr (Or.inl ⟨Or.inr h37, _, hv, Or.inr ⟨z1, rfl, hsr⟩⟩), hq⟩
            · rw [if_neg (show ¬ ((lb_op (lb_g f t z.1)) = (Int32.ofInt 13)) from h37)] at k
              have hadd : lb_op (lb_g f t z.1) = Int32.ofInt 10 ∨ lb_op (lb_g f t z.1) = Int32.ofInt 11 := by
                rcases hop with h | h | h | h | h
                · exact Or.inl h
                · exact Or.inr h
                · exact absurd h h31
                · exact absurd h h37
                · exact absurd h h22
              have k := ly_revb 4 (c' := (if (Int32.ofInt 0) = 0 then 52 else 59, [(4, .int (Int32.ofInt 0)), (3, .int (lb_op (lb_g f t z.1))), (2, .int (nI j)), (1, .int (w)), (0, .ref RR)], [], me_w M J)) rfl k
              rw [if_pos (show (Int32.ofInt 0) = 0 from by decide)] at k
              have k := ly_revb 2 (c' := (54, [(4, .int (Int32.ofInt 0)), (3, .int (lb_op (lb_g f t z.1))), (2, .int (nI j)), (1, .int (w)), (0, .ref RR)], [.int (w), .ref RR], me_w M J)) rfl k
              obtain ⟨d1, o1, ed, kc, k⟩ := lz_c (g := 57) (q := 1) (vs := [.ref RR, .int (w)]) (rest := []) rfl rfl (by decide) (Or.inr (Or.inl ⟨_, rfl, rfl⟩)) rfl k
              obtain ⟨J1, e1, hS1⟩ := lc_addn hP hS hp kc
              subst e1
              have k : nt_rn X _ 49 (57, [(4, .int (Int32.ofInt 0)), (3, .int (lb_op (lb_g f t z.1))), (2, .int (nI j)), (1, .int (w)), (0, .ref RR)], [], me_w M J1) _ := k
              have k := ly_revb 3 (c' := (60, [(1, .int (lb_op (lb_g f t z.1))), (4, .int (Int32.ofInt 0)), (3, .int (lb_op (lb_g f t z.1))), (2, .int (nI j)), (0, .ref RR)], [.ref RR], me_w M J1)) rfl k
              have k := lz_get (a := RR) (g := 500) (M := me_w M J1) (v := .ref Rd) rfl (nt_gfR rfl hP.1.2.2.1) k
              have k := ly_revb 1 (c' := (64, [(1, .int (lb_op (lb_g f t z.1))), (4, .int (Int32.ofInt 0)), (3, .int (lb_op (lb_g f t z.1))), (2, .int (nI j)), (0, .ref RR)], [.int (Int32.ofInt 1), .ref Rd], me_w M J1)) rfl k
              obtain ⟨d1, o1, ed, kc, k⟩ := lz_c (g := 29) (q := 1) (vs := [.ref Rd, .int (Int32.ofInt 1)]) (rest := []) rfl rfl (by decide) (Or.inr (Or.inl ⟨_, rfl, rfl⟩)) rfl k
              have hlt := lb_op_lt h22
              have e1 := lc_skip (b := 1) hP hS1 hp (by first | omega | decide | (have := lb_W_len (a := lb_wd w); omega)) kc
              rw [Nat.min_eq_left (hlt)] at e1
              subst e1
              have hS2 := lc_Spp (q := lb_s f t (z.1 + 1)) hP hS1
              have hp2 : lb_s f t (z.1 + 1) ≤ t := (lb_s_le (t - (z.1 + 1)) (z.1 + 1) (by have := (hlt); omega)).2
              have k : nt_rn X _ 49 (67, [(1, .int (lb_op (lb_g f t z.1))), (4, .int (Int32.ofInt 0)), (3, .int (lb_op (lb_g f t z.1))), (2, .int (nI j)), (0, .ref RR)], [], me_w M (nt_u J1 Rd 1 (nI (lb_s f t (z.1 + 1))))) _ := k
              have k := ly_revb 1 (c' := (68, [(1, .int (lb_op (lb_g f t z.1))), (4, .int (Int32.ofInt 0)), (3, .int (lb_op (lb_g f t z.1))), (2, .int (nI j)), (0, .ref RR)], [.ref RR], me_w M (nt_u J1 Rd 1 (nI (lb_s f t (z.1 + 1)))))) rfl k
              obtain ⟨d1, o1, ed, kc, k⟩ := lz_c (g := 50) (q := 1) (vs := [.ref RR]) (rest := []) rfl rfl (by decide) (Or.inr (Or.inl ⟨_, rfl, rfl⟩)) rfl k
              obtain ⟨r1, J8, e1, hv, hq⟩ := lc_readValue (e := lb_ew z.2.2 w) hP (by rw [lb_ew1]; exact hS2) hp2 kc
              subst e1
              cases r1 with
              | inl c =>
                obtain ⟨hfa, m8, s8, hS8⟩ := hq
                have k : nt_rn X _ 49 (71, [(1, .int (lb_op (lb_g f t z.1))), (4, .int (Int32.ofInt 0)), (3, .int (lb_op (lb_g f t z.1))), (2, .int (nI j)), (0, .ref RR)], [], me_w M J8) _ := k
                have k := ly_revb 3 (c' := (if (Int32.ofInt 0) = 0 then 81 else 77, [(1, .int (lb_op (lb_g f t z.1))), (4, .int (Int32.ofInt 0)), (3, .int (lb_op (lb_g f t z.1))), (2, .int (nI j)), (0, .ref RR)], [.ref RR], me_w M J8)) rfl k
                rw [if_pos (show (Int32.ofInt 0) = 0 from by decide)] at k
                have k := ly_revb 1 (c' := (82, [(1, .int (lb_op (lb_g f t z.1))), (4, .int (Int32.ofInt 0)), (3, .int (lb_op (lb_g f t z.1))), (2, .int (nI j)), (0, .ref RR)], [.int (Int32.ofInt (-1)), .ref RR], me_w M J8)) rfl k
                obtain ⟨d1, o1, ed, kc, k⟩ := lz_c (g := 57) (q := 1) (vs := [.ref RR, .int (Int32.ofInt (-1))]) (rest := []) rfl rfl (by decide) (Or.inr (Or.inl ⟨_, rfl, rfl⟩)) rfl k
                obtain ⟨J3, e1, hS3⟩ := lc_addn hP hS8 (Nat.le_refl t) kc
                subst e1
                have k : nt_rn X _ 49 (85, [(1, .int (lb_op (lb_g f t z.1))), (4, .int (Int32.ofInt 0)), (3, .int (lb_op (lb_g f t z.1))), (2, .int (nI j)), (0, .ref RR)], [], me_w M J3) _ := k
                have k := ly_revb 1 (c' := (88, [(2, .int ((nI j) + Int32.ofInt 1)), (1, .int (lb_op (lb_g f t z.1))), (4, .int (Int32.ofInt 0)), (3, .int (lb_op (lb_g f t z.1))), (0, .ref RR)], [], me_w M J3)) rfl k
                rw [show ((nI j) + Int32.ofInt 1 : Int32) = nI (j + 1) from me_add (k := 1)] at k
                have k := ly_revb 1 (c' := (8, [(2, .int (nI (j + 1))), (1, .int (lb_op (lb_g f t z.1))), (4, .int (Int32.ofInt 0)), (3, .int (lb_op (lb_g f t z.1))), (0, .ref RR)], [], me_w M J3)) rfl k
                have k := ly_revb 3 (c' := (if (Int32.ofInt 400) ≤ (nI (j + 1)) then 91 else 15, [(2, .int (nI (j + 1))), (1, .int (lb_op (lb_g f t z.1))), (4, .int (Int32.ofInt 0)), (3, .int (lb_op (lb_g f t z.1))), (0, .ref RR)], [], me_w M J3)) rfl k
                by_cases h12' : 400 ≤ (j + 1)
                · rw [if_pos (show (Int32.ofInt 400) ≤ (nI (j + 1)) from show nI 400 ≤ nI ((j + 1)) from nI_le h12' (by omega))] at k
                  have k := ly_revb 2 (c' := (93, [(2, .int (nI (j + 1))), (1, .int (lb_op (lb_g f t z.1))), (4, .int (Int32.ofInt 0)), (3, .int (lb_op (lb_g f t z.1))), (0, .ref RR)], [.int (lb_op (lb_g f t z.1)), .ref RR], me_w M J3)) rfl k
                  obtain ⟨d1, o1, ed, kc, k⟩ := lz_c (g := 57) (q := 1) (vs := [.ref RR, .int (lb_op (lb_g f t z.1))]) (rest := []) rfl rfl (by decide) (Or.inr (Or.inl ⟨_, rfl, rfl⟩)) rfl k
                  obtain ⟨J4, e1, hS4⟩ := lc_addn hP hS3 (Nat.le_refl t) kc
                  subst e1
                  have k : nt_rn X _ 49 (96, [(2, .int (nI (j + 1))), (1, .int (lb_op (lb_g f t z.1))), (4, .int (Int32.ofInt 0)), (3, .int (lb_op (lb_g f t z.1))), (0, .ref RR)], [], me_w M J4) _ := k
                  have k := lz_rv rfl rfl k
                  exact ⟨1, .inl c, _, k, Or.inr (Or.inr ⟨hadd, _, hv, Or.inl ⟨c, rfl, rfl⟩⟩), hfa, _, _, hS4⟩
                · rw [if_neg (show ¬ ((Int32.ofInt 400) ≤ (nI (j + 1))) from show ¬ nI 400 ≤ nI ((j + 1)) from nI_ge (Nat.not_le.mp h12') (by omega))] at k
                  have k := ly_revb 1 (c' := (16, [(2, .int (nI (j + 1))), (1, .int (lb_op (lb_g f t z.1))), (4, .int (Int32.ofInt 0)), (3, .int (lb_op (lb_g f t z.1))), (0, .ref RR)], [.ref RR], me_w M J3)) rfl k
                  obtain ⟨d1, o1, ed, kc, k⟩ := lz_c (g := 56) (q := 1) (vs := [.ref RR]) (rest := []) rfl rfl (by decide) (Or.inr (Or.inl ⟨_, rfl, rfl⟩)) rfl k
                  have e1 := lc_opAt hP hS3 (Nat.le_refl t) kc
                  subst e1
                  have hop := lb_op_in (lb_g f t t)
                  have k : nt_rn X _ 49 (19, [(2, .int (nI (j + 1))), (1, .int (lb_op (lb_g f t z.1))), (4, .int (Int32.ofInt 0)), (3, .int (lb_op (lb_g f t z.1))), (0, .ref RR)], [.int (lb_op (lb_g f t t))], me_w M J3) _ := k
                  have he : lb_op (lb_g f t t) = Int32.ofInt (-1) := by
                    unfold lb_g
                    rw [if_neg (by omega)]
                    decide
                  have k := ly_revb 4 (c' := (if (lb_op (lb_g f t t)) = (Int32.ofInt (-1)) then 25 else 28, [(3, .int (lb_op (lb_g f t t))), (2, .int (nI (j + 1))), (1, .int (lb_op (lb_g f t z.1))), (4, .int (Int32.ofInt 0)), (0, .ref RR)], [], me_w M J3)) rfl k
                  rw [if_pos (show (lb_op (lb_g f t t)) = (Int32.ofInt (-1)) from he)] at k
                  have k := ly_revb 3 (c' := (93, [(3, .int (lb_op (lb_g f t t))), (2, .int (nI (j + 1))), (1, .int (lb_op (lb_g f t z.1))), (4, .int (Int32.ofInt 0)), (0, .ref RR)], [.int (lb_op (lb_g f t z.1)), .ref RR], me_w M J3)) rfl k
                  obtain ⟨d1, o1, ed, kc, k⟩ := lz_c (g := 57) (q := 1) (vs := [.ref RR, .int (lb_op (lb_g f t z.1))]) (rest := []) rfl rfl (by decide) (Or.inr (Or.inl ⟨_, rfl, rfl⟩)) rfl k
                  obtain ⟨J4, e1, hS4⟩ := lc_addn hP hS3 (Nat.le_refl t) kc
                  subst e1
                  have k : nt_rn X _ 49 (96, [(3, .int (lb_op (lb_g f t t))), (2, .int (nI (j + 1))), (1, .int (lb_op (lb_g f t z.1))), (4, .int (Int32.ofInt 0)), (0, .ref RR)], [], me_w M J4) _ := k
                  have k := lz_rv rfl rfl k
                  exact ⟨1, .inl c, _, k, Or.inr (Or.inr ⟨hadd, _, hv, Or.inl ⟨c, rfl, rfl⟩⟩), hfa, _, _, hS4⟩
              | inr z1 =>
                obtain ⟨hS9, hp9⟩ := hq
                have hup := lb_val_up hp2 hv
                have k : nt_rn X _ 49 (71, [(1, .int (lb_op (lb_g f t z.1))), (4, .int (Int32.ofInt 0)), (3, .int (lb_op (lb_g f t z.1))), (2, .int (nI j)), (0, .ref RR)], [], me_w M J8) _ := k
                have k := ly_revb 3 (c' := (if (Int32.ofInt 0) = 0 then 81 else 77, [(1, .int (lb_op (lb_g f t z.1))), (4, .int (Int32.ofInt 0)), (3, .int (lb_op (lb_g f t z.1))), (2, .int (nI j)), (0, .ref RR)], [.ref RR], me_w M J8)) rfl k
                rw [if_pos (show (Int32.ofInt 0) = 0 from by decide)] at k
                have k := ly_revb 1 (c' := (82, [(1, .int (lb_op (lb_g f t z.1))), (4, .int (Int32.ofInt 0)), (3, .int (lb_op (lb_g f t z.1))), (2, .int (nI j)), (0, .ref RR)], [.int (Int32.ofInt (-1)), .ref RR], me_w M J8)) rfl k
                obtain ⟨d1, o1, ed, kc, k⟩ := lz_c (g := 57) (q := 1) (vs := [.ref RR, .int (Int32.ofInt (-1))]) (rest := []) rfl rfl (by decide) (Or.inr (Or.inl ⟨_, rfl, rfl⟩)) rfl k
                obtain ⟨J3, e1, hS3⟩ := lc_addn hP hS9 hp9 kc
                subst e1
                have k : nt_rn X _ 49 (85, [(1, .int (lb_op (lb_g f t z.1))), (4, .int (Int32.ofInt 0)), (3, .int (lb_op (lb_g f t z.1))), (2, .int (nI j)), (0, .ref RR)], [], me_w M J3) _ := k
                have k := ly_revb 1 (c' := (88, [(2, .int ((nI j) + Int32.ofInt 1)), (1, .int (lb_op (lb_g f t z.1))), (4, .int (Int32.ofInt 0)), (3, .int (lb_op (lb_g f t z.1))), (0, .ref RR)], [], me_w M J3)) rfl k
                rw [show ((nI j) + Int32.ofInt 1 : Int32) = nI (j + 1) from me_add (k := 1)] at k
                have k := ly_revb 1 (c' := (8, [(2, .int (nI (j + 1))), (1, .int (lb_op (lb_g f t z.1))), (4, .int (Int32.ofInt 0)), (3, .int (lb_op (lb_g f t z.1))), (0, .ref RR)], [], me_w M J3)) rfl k
                have hsl := lb_s_le (f := f) (t := t) (t - (z.1 + 1)) (z.1 + 1) (by omega)
                dsimp only at hup
                obtain ⟨k1, r1, J7, e2, hsr, hq⟩ := ih (t - z1.1) (by omega) (j + 1) (lb_op (lb_g f t z.1)) z1 _ _ rfl hp9 (by omega) (Or.inr (Or.inl ⟨_, _, rfl⟩)) hS3 k
                exact ⟨k1 + 1, r1, J7, e2, Or.inr (Or.inr ⟨hadd, _, hv, Or.inr ⟨z1, rfl, hsr⟩⟩), hq⟩
end
section
/-! comparisons, told purely; sums and comparisons -/
def lb_nx (f : Nat → Int32) (t p : Nat) : Prop := p + 1 < t ∧ f (p + 1) = Int32.ofInt 61
/-- what sign of a fact stands at p -/
def lb_cm (f : Nat → Int32) (t p : Nat) (x : Int32) : Prop :=
  (lb_g f t p = Int32.ofInt 60 ∧ lb_nx f t p ∧ x = Int32.ofInt 15) ∨ (lb_g f t p = Int32.ofInt 60 ∧ ¬ lb_nx f t p ∧ x = Int32.ofInt 14) ∨ (lb_g f t p = Int32.ofInt 61 ∧ x = Int32.ofInt 16) ∨ (lb_g f t p = Int32.ofInt 62 ∧ lb_nx f t p ∧ x = Int32.ofInt 17) ∨ (lb_g f t p = Int32.ofInt 62 ∧ ¬ lb_nx f t p ∧ x = Int32.ofInt 18) ∨ ((lb_g f t p ≠ Int32.ofInt 60 ∧ lb_g f t p ≠ Int32.ofInt 61 ∧ lb_g f t p ≠ Int32.ofInt 62) ∧ x = Int32.ofInt (-1))
theorem lc_readSum {X : nt_X} {d t Rd Tp By RR Sp : Nat} {f : Nat → Int32} {M : nt_M} {J0 J : Nat → Nat → Int32} {o : Option Value × nt_M} {p m : Nat} {e : lb_E}  (hP : lc_P M J0 f t Rd Tp By RR Sp) (hS : lc_S J0 Rd RR Sp p 0 m e.1 J) (hp : p ≤ t) (k : nt_ev X d 49 [.ref RR] (me_w M J) o) : ∃ r J', o = (none, me_w M J') ∧ lb_sum f t (p, m, e) r ∧ lc_Q J0 Rd RR Sp t r J' := by
  have k : nt_rn X d 49 (0, [(0, .ref RR)], [], me_w M J) o := k
  have t4 : t ≤ 400 := hP.2.2.2.2.1
  have m6 : m ≤ 60 := hS.2.2.2.2.2.2.2
  have k := ly_revb 3 (c' := (3, [(1, .int (Int32.ofInt (-1))), (0, .ref RR)], [.ref RR], me_w M J)) rfl k
  obtain ⟨d1, o1, ed, kc, k⟩ := lz_c (g := 50) (q := 1) (vs := [.ref RR]) (rest := []) rfl rfl (by decide) (Or.inr (Or.inl ⟨_, rfl, rfl⟩)) rfl k
  obtain ⟨r1, J8, e1, hv, hq⟩ := lc_readValue (e := e) hP hS hp kc
  subst e1
  cases r1 with
  | inl c =>
    obtain ⟨hfa, m8, s8, hS8⟩ := hq
    have k : nt_rn X _ 49 (6, [(1, .int (Int32.ofInt (-1))), (0, .ref RR)], [], me_w M J8) _ := k
    have k := ly_revb 2 (c' := (8, [(2, .int (Int32.ofInt 1)), (1, .int (Int32.ofInt (-1))), (0, .ref RR)], [], me_w M J8)) rfl k
    have k := ly_revb 3 (c' := (if (Int32.ofInt 400) ≤ (Int32.ofInt 1) then 91 else 15, [(2, .int (Int32.ofInt 1)), (1, .int (Int32.ofInt (-1))), (0, .ref RR)], [], me_w M J8)) rfl k
    rw [if_neg (show ¬ ((Int32.ofInt 400) ≤ (Int32.ofInt 1)) from show ¬ nI 400 ≤ nI 1 from nI_ge (by omega) (by omega))] at k
    have k := ly_revb 1 (c' := (16, [(2, .int (Int32.ofInt 1)), (1, .int (Int32.ofInt (-1))), (0, .ref RR)], [.ref RR], me_w M J8)) rfl k
    obtain ⟨d1, o1, ed, kc, k⟩ := lz_c (g := 56) (q := 1) (vs := [.ref RR]) (rest := []) rfl rfl (by decide) (Or.inr (Or.inl ⟨_, rfl, rfl⟩)) rfl k
    have e1 := lc_opAt hP hS8 (Nat.le_refl t) kc
    subst e1
    have hop := lb_op_in (lb_g f t t)
    have k : nt_rn X _ 49 (19, [(2, .int (Int32.ofInt 1)), (1, .int (Int32.ofInt (-1))), (0, .ref RR)], [.int (lb_op (lb_g f t t))], me_w M J8) _ := k
    have he : lb_op (lb_g f t t) = Int32.ofInt (-1) := by
      unfold lb_g
      rw [if_neg (by omega)]
      decide
    have k := ly_revb 4 (c' := (if (lb_op (lb_g f t t)) = (Int32.ofInt (-1)) then 25 else 28, [(3, .int (lb_op (lb_g f t t))), (2, .int (Int32.ofInt 1)), (1, .int (Int32.ofInt (-1))), (0, .ref RR)], [], me_w M J8)) rfl k
    rw [if_pos (show (lb_op (lb_g f t t)) = (Int32.ofInt (-1)) from he)] at k
    have k := ly_revb 3 (c' := (93, [(3, .int (lb_op (lb_g f t t))), (2, .int (Int32.ofInt 1)), (1, .int (Int32.ofInt (-1))), (0, .ref RR)], [.int (Int32.ofInt (-1)), .ref RR], me_w M J8)) rfl k
    obtain ⟨d1, o1, ed, kc, k⟩ := lz_c (g := 57) (q := 1) (vs := [.ref RR, .int (Int32.ofInt (-1))]) (rest := []) rfl rfl (by decide) (Or.inr (Or.inl ⟨_, rfl, rfl⟩)) rfl k
    obtain ⟨J1, e1, hS1⟩ := lc_addn hP hS8 (Nat.le_refl t) kc
    subst e1
    have k : nt_rn X _ 49 (96, [(3, .int (lb_op (lb_g f t t))), (2, .int (Int32.ofInt 1)), (1, .int (Int32.ofInt (-1))), (0, .ref RR)], [], me_w M J1) _ := k
    have k := lz_rv rfl rfl k
    exact ⟨.inl c, _, k, ⟨_, hv, Or.inl ⟨c, rfl, rfl⟩⟩, hfa, _, _, hS1⟩
  | inr z1 =>
    obtain ⟨hS9, hp9⟩ := hq
    have hup := lb_val_up hp hv
    have k : nt_rn X _ 49 (6, [(1, .int (Int32.ofInt (-1))), (0, .ref RR)], [], me_w M J8) _ := k
    have k := ly_revb 2 (c' := (8, [(2, .int (Int32.ofInt 1)), (1, .int (Int32.ofInt (-1))), (0, .ref RR)], [], me_w M J8)) rfl k
    dsimp only at hup
    obtain ⟨k1, r, J7, e2, hsr, hq⟩ := lc_sml hP (t - z1.1) 1 (Int32.ofInt (-1)) z1 _ _ rfl hp9 (by omega) (Or.inl rfl) hS9 k
    exact ⟨r, J7, e2, ⟨_, hv, Or.inr ⟨z1, k1, rfl, hsr⟩⟩, hq⟩
theorem lc_cmpAt {X : nt_X} {d t Rd Tp By RR Sp : Nat} {f : Nat → Int32} {M : nt_M} {J0 J : Nat → Nat → Int32} {o : Option Value × nt_M} {p m : Nat} {fa : Int32} {s : Nat × (Nat → Int32)} (hP : lc_P M J0 f t Rd Tp By RR Sp) (hS : lc_S J0 Rd RR Sp p fa m s J) (hp : p ≤ t) (k : nt_ev X d 61 [.ref RR] (me_w M J) o) : ∃ x, o = (some (.int x), me_w M J) ∧ lb_cm f t p x := by
  have k : nt_rn X d 61 (0, [(0, .ref RR)], [], me_w M J) o := k
  have t4 : t ≤ 400 := hP.2.2.2.2.1
  have k := ly_revb 1 (c' := (1, [(0, .ref RR)], [.ref RR], me_w M J)) rfl k
  have k := lz_get (a := RR) (g := 500) (M := me_w M J) (v := .ref Rd) rfl (nt_gfR rfl hP.1.2.2.1) k
  obtain ⟨d1, o1, ed, kc, k⟩ := lz_c (g := 37) (q := 1) (vs := [.ref Rd]) (rest := []) rfl rfl (by decide) (Or.inr (Or.inl ⟨_, rfl, rfl⟩)) rfl k
  have e1 := lc_sign hP hS hp kc
  subst e1
  have k : nt_rn X _ 61 (7, [(0, .ref RR)], [.int (lb_g f t p)], me_w M J) _ := k
  by_cases h60 : lb_g f t p = Int32.ofInt 60
  · rw [h60] at k
    have k := ly_revb 1 (c' := (32, [(0, .ref RR)], [], me_w M J)) rfl k
    have k := ly_revb 1 (c' := (33, [(0, .ref RR)], [.ref RR], me_w M J)) rfl k
    have k := lz_get (a := RR) (g := 500) (M := me_w M J) (v := .ref Rd) rfl (nt_gfR rfl hP.1.2.2.1) k
    have k := ly_revb 1 (c' := (38, [(0, .ref RR)], [.int (Int32.ofInt 61), .ref Rd], me_w M J)) rfl k
    obtain ⟨d1, o1, ed, kc, k⟩ := lz_c (g := 39) (q := 1) (vs := [.ref Rd, .int (Int32.ofInt 61)]) (rest := []) rfl rfl (by decide) (Or.inr (Or.inl ⟨_, rfl, rfl⟩)) rfl k
    obtain ⟨r, e1, hr⟩ := lc_isNext hP hS hp kc
    subst e1
    rcases hr with ⟨rfl, hr⟩ | ⟨rfl, hr⟩
    · have k : nt_rn X _ 61 (41, [(0, .ref RR)], [.int (Int32.ofInt 1)], me_w M J) _ := k
      have k := ly_revb 1 (c' := (if (Int32.ofInt 1) = 0 then 49 else 44, [(0, .ref RR)], [], me_w M J)) rfl k
      rw [if_neg (show ¬ ((Int32.ofInt 1) = 0) from by decide)] at k
      have k := ly_revb 2 (c' := (51, [(0, .ref RR)], [.int (Int32.ofInt 15)], me_w M J)) rfl k
      have k := lz_ri rfl (by decide) k
      exact ⟨_, k, Or.inl ⟨h60, hr, rfl⟩⟩
    · have k : nt_rn X _ 61 (41, [(0, .ref RR)], [.int (Int32.ofInt 0)], me_w M J) _ := k
      have k := ly_revb 1 (c' := (if (Int32.ofInt 0) = 0 then 49 else 44, [(0, .ref RR)], [], me_w M J)) rfl k
      rw [if_pos (show (Int32.ofInt 0) = 0 from by decide)] at k
      have k := ly_revb 1 (c' := (51, [(0, .ref RR)], [.int (Int32.ofInt 14)], me_w M J)) rfl k
      have k := lz_ri rfl (by decide) k
      exact ⟨_, k, Or.inr (Or.inl ⟨h60, hr, rfl⟩)⟩
  by_cases h61 : lb_g f t p = Int32.ofInt 61
  · rw [h61] at k
    have k := ly_revb 1 (c' := (52, [(0, .ref RR)], [], me_w M J)) rfl k
    have k := ly_revb 1 (c' := (54, [(0, .ref RR)], [.int (Int32.ofInt 16)], me_w M J)) rfl k
    have k := lz_ri rfl (by decide) k
    exact ⟨_, k, Or.inr (Or.inr (Or.inl ⟨h61, rfl⟩))⟩
  by_cases h62 : lb_g f t p = Int32.ofInt 62
  · rw [h62] at k
    have k := ly_revb 1 (c' := (55, [(0, .ref RR)], [], me_w M J)) rfl k
    have k := ly_revb 1 (c' := (56, [(0, .ref RR)], [.ref RR], me_w M J)) rfl k
    have k := lz_get (a := RR) (g := 500) (M := me_w M J) (v := .ref Rd) rfl (nt_gfR rfl hP.1.2.2.1) k
    have k := ly_revb 1 (c' := (61, [(0, .ref RR)], [.int (Int32.ofInt 61), .ref Rd], me_w M J)) rfl k
    obtain ⟨d1, o1, ed, kc, k⟩ := lz_c (g := 39) (q := 1) (vs := [.ref Rd, .int (Int32.ofInt 61)]) (rest := []) rfl rfl (by decide) (Or.inr (Or.inl ⟨_, rfl, rfl⟩)) rfl k
    obtain ⟨r, e1, hr⟩ := lc_isNext hP hS hp kc
    subst e1
    rcases hr with ⟨rfl, hr⟩ | ⟨rfl, hr⟩
    · have k : nt_rn X _ 61 (64, [(0, .ref RR)], [.int (Int32.ofInt 1)], me_w M J) _ := k
      have k := ly_revb 1 (c' := (if (Int32.ofInt 1) = 0 then 72 else 67, [(0, .ref RR)], [], me_w M J)) rfl k
      rw [if_neg (show ¬ ((Int32.ofInt 1) = 0) from by decide)] at k
      have k := ly_revb 2 (c' := (74, [(0, .ref RR)], [.int (Int32.ofInt 17)], me_w M J)) rfl k
      have k := lz_ri rfl (by decide) k
      exact ⟨_, k, Or.inr (Or.inr (Or.inr (Or.inl ⟨h62, hr, rfl⟩)))⟩
    · have k : nt_rn X _ 61 (64, [(0, .ref RR)], [.int (Int32.ofInt 0)], me_w M J) _ := k
      have k := ly_revb 1 (c' := (if (Int32.ofInt 0) = 0 then 72 else 67, [(0, .ref RR)], [], me_w M J)) rfl k
      rw [if_pos (show (Int32.ofInt 0) = 0 from by decide)] at k
      have k := ly_revb 1 (c' := (74, [(0, .ref RR)], [.int (Int32.ofInt 18)], me_w M J)) rfl k
      have k := lz_ri rfl (by decide) k
      exact ⟨_, k, Or.inr (Or.inr (Or.inr (Or.inr (Or.inl ⟨h62, hr, rfl⟩))))⟩
  have hx : (lb_g f t p).toInt < 60 ∨ 62 < (lb_g f t p).toInt := by
    by_cases c : (lb_g f t p).toInt < 60 ∨ 62 < (lb_g f t p).toInt
    · exact c
    · exfalso
      rcases (by omega : (lb_g f t p).toInt = 60 ∨ (lb_g f t p).toInt = 61 ∨ (lb_g f t p).toInt = 62) with h | h | h
      · exact h60 (me_eqi (by decide) h)
      · exact h61 (me_eqi (by decide) h)
      · exact h62 (me_eqi (by decide) h)
  have k := me_ts (mi := 61) (pc := 7) (dflt := 68) (lo := 60) (hi := 62) (offs := #[25, 45, 48]) (c' := (75, [(0, .ref RR)], [], me_w M J)) rfl hx rfl k
  have k := ly_revb 1 (c' := (76, [(0, .ref RR)], [.int (Int32.ofInt (-1))], me_w M J)) rfl k
  have k := lz_ri rfl (by decide) k
  exact ⟨_, k, Or.inr (Or.inr (Or.inr (Or.inr (Or.inr ⟨⟨h60, h61, h62⟩, rfl⟩))))⟩
end
section
/-! a comparison's sign read -/
theorem lb_g_lt {f : Nat → Int32} {t p : Nat} (h : lb_g f t p ≠ Int32.ofInt (-1)) : p < t := by
  by_cases c : p < t
  · exact c
  · exact absurd (if_neg c) h
theorem lb_cm_1 {f : Nat → Int32} {t p : Nat} {x : Int32} (h : lb_cm f t p x) (hx : ¬ x = Int32.ofInt (-1)) : p + 1 ≤ t := by
  have q : lb_g f t p ≠ Int32.ofInt (-1) → p + 1 ≤ t := fun h => lb_g_lt h
  rcases h with h | h | h | h | h | h
  · exact q (by rw [h.1]; decide)
  · exact q (by rw [h.1]; decide)
  · exact q (by rw [h.1]; decide)
  · exact q (by rw [h.1]; decide)
  · exact q (by rw [h.1]; decide)
  · exact absurd h.2 hx
theorem lb_cm_2 {f : Nat → Int32} {t p : Nat} {x : Int32} (h : lb_cm f t p x) (hx : x = Int32.ofInt 15 ∨ x = Int32.ofInt 17) : p + 2 ≤ t := by
  rcases h with h | h | h | h | h | h
  · exact h.2.1.1
  · rcases hx with hx | hx <;> (rw [hx] at h; exact absurd h.2.2 (by decide))
  · rcases hx with hx | hx <;> (rw [hx] at h; exact absurd h.2 (by decide))
  · exact h.2.1.1
  · rcases hx with hx | hx <;> (rw [hx] at h; exact absurd h.2.2 (by decide))
  · rcases hx with hx | hx <;> (rw [hx] at h; exact absurd h.2 (by decide))
theorem lb_Wp : ∀ i, i < 18 → 0 < (lb_W (nt_sp + 1 + i)).length := by decide +kernel
theorem lb_at_t {f : Nat → Int32} {t i : Nat} (hi : i < 18) : ¬ lb_at f t (lb_W (nt_sp + 1 + i)) t := by
  intro h
  have a := h.1
  have b := lb_Wp i hi
  omega
def lb_cl (x : Int32) : Nat := if x = Int32.ofInt 15 then 2 else if x = Int32.ofInt 17 then 2 else 1
def lb_cp (f : Nat → Int32) (t : Nat) (z : lb_Z) (x : Int32) (r : lb_Y) : Prop := lb_cm f t z.1 x ∧ ((x = Int32.ofInt (-1) ∧ r = .inl (lb_c z.1 (Int32.ofInt 0))) ∨ (¬ x = Int32.ofInt (-1) ∧ z.2.1 = 60 ∧ r = .inl (lb_c z.1 (Int32.ofInt 3))) ∨ (¬ x = Int32.ofInt (-1) ∧ z.2.1 < 60 ∧ r = .inr (lb_s f t (z.1 + lb_cl x), z.2.1 + 1, z.2.2)))
theorem lc_readCmp {X : nt_X} {d t Rd Tp By RR Sp : Nat} {f : Nat → Int32} {M : nt_M} {J0 J : Nat → Nat → Int32} {o : Option Value × nt_M} {p m : Nat} {e : lb_E}  (hP : lc_P M J0 f t Rd Tp By RR Sp) (hS : lc_S J0 Rd RR Sp p 0 m e.1 J) (hp : p ≤ t) (k : nt_ev X d 60 [.ref RR] (me_w M J) o) : ∃ x r J', o = (some (.int x), me_w M J') ∧ lb_cp f t (p, m, e) x r ∧ lc_Q J0 Rd RR Sp t r J' := by
  have k : nt_rn X d 60 (0, [(0, .ref RR)], [], me_w M J) o := k
  have t4 : t ≤ 400 := hP.2.2.2.2.1
  have m6 : m ≤ 60 := hS.2.2.2.2.2.2.2
  have k := ly_revb 1 (c' := (1, [(0, .ref RR)], [.ref RR], me_w M J)) rfl k
  obtain ⟨d1, o1, ed, kc, k⟩ := lz_c (g := 61) (q := 1) (vs := [.ref RR]) (rest := []) rfl rfl (by decide) (Or.inr (Or.inl ⟨_, rfl, rfl⟩)) rfl k
  obtain ⟨x, e1, hcm⟩ := lc_cmpAt hP hS hp kc
  subst e1
  have k : nt_rn X _ 60 (4, [(0, .ref RR)], [.int (x)], me_w M J) _ := k
  have k := ly_revb 4 (c' := (if x = (Int32.ofInt (-1)) then 10 else 21, [(1, .int (x)), (0, .ref RR)], [], me_w M J)) rfl k
  by_cases h7 : x = Int32.ofInt (-1)
  · rw [if_pos (show x = (Int32.ofInt (-1)) from h7)] at k
    have k := ly_revb 1 (c' := (11, [(1, .int (x)), (0, .ref RR)], [.ref RR], me_w M J)) rfl k
    have k := lz_get (a := RR) (g := 500) (M := me_w M J) (v := .ref Rd) rfl (nt_gfR rfl hP.1.2.2.1) k
    have k := ly_revb 1 (c' := (15, [(1, .int (x)), (0, .ref RR)], [.int (Int32.ofInt 0), .ref Rd], me_w M J)) rfl k
    obtain ⟨d1, o1, ed, kc, k⟩ := lz_c (g := 31) (q := 1) (vs := [.ref Rd, .int (Int32.ofInt 0)]) (rest := []) rfl rfl (by decide) (Or.inr (Or.inl ⟨_, rfl, rfl⟩)) rfl k
    obtain ⟨hf, e1⟩ := (lc_fail hP hS hp kc).resolve_right (fun c => c.1 rfl)
    subst e1
    have hS1 := lc_Spp (q := t) hP (lc_Sf (fb := lb_c p (Int32.ofInt 0)) hP hS)
    have k : nt_rn X _ 60 (18, [(1, .int (x)), (0, .ref RR)], [], me_w M (nt_u (nt_u J Rd 2 (lb_c p (Int32.ofInt 0))) Rd 1 (nI t))) _ := k
    have k := ly_revb 2 (c' := (53, [(1, .int (x)), (0, .ref RR)], [.int (x)], me_w M (nt_u (nt_u J Rd 2 (lb_c p (Int32.ofInt 0))) Rd 1 (nI t)))) rfl k
    have k := lz_ri rfl (by decide) k
    exact ⟨x, .inl (lb_c p (Int32.ofInt 0)), _, k, ⟨hcm, Or.inl ⟨h7, rfl⟩⟩, (lb_c_ne (by omega) (by decide) (by decide)), _, _, hS1⟩
  · rw [if_neg (show ¬ (x = (Int32.ofInt (-1))) from h7)] at k
    have k := ly_revb 1 (c' := (22, [(1, .int (x)), (0, .ref RR)], [.ref RR], me_w M J)) rfl k
    obtain ⟨d1, o1, ed, kc, k⟩ := lz_c (g := 53) (q := 1) (vs := [.ref RR]) (rest := []) rfl rfl (by decide) (Or.inr (Or.inl ⟨_, rfl, rfl⟩)) rfl k
    rcases lc_counts hP hS hp kc with ⟨hm, e1⟩ | ⟨hm, _, e1⟩ | ⟨_, hf, _⟩
    · subst e1
      have hS1 := lc_Sm (q := m + 1) hP hS (by omega)
      have k : nt_rn X _ 60 (25, [(1, .int (x)), (0, .ref RR)], [.int (Int32.ofInt 1)], me_w M (nt_u J RR 3 (nI (m + 1)))) _ := k
      have k := ly_revb 1 (c' := (if (Int32.ofInt 1) = 0 then 52 else 28, [(1, .int (x)), (0, .ref RR)], [], me_w M (nt_u J RR 3 (nI (m + 1))))) rfl k
      rw [if_neg (show ¬ ((Int32.ofInt 1) = 0) from by decide)] at k
      have k := ly_revb 1 (c' := (29, [(1, .int (x)), (0, .ref RR)], [.ref RR], me_w M (nt_u J RR 3 (nI (m + 1))))) rfl k
      have k := lz_get (a := RR) (g := 500) (M := me_w M (nt_u J RR 3 (nI (m + 1)))) (v := .ref Rd) rfl (nt_gfR rfl hP.1.2.2.1) k
      have k := ly_revb 3 (c' := (if x = (Int32.ofInt 15) then 44 else 38, [(1, .int (x)), (0, .ref RR)], [.ref Rd], me_w M (nt_u J RR 3 (nI (m + 1))))) rfl k
      by_cases h35 : x = Int32.ofInt 15
      · rw [if_pos (show x = (Int32.ofInt 15) from h35)] at k
        have k := ly_revb 2 (c' := (49, [(1, .int (x)), (0, .ref RR)], [.int (Int32.ofInt 2), .ref Rd], me_w M (nt_u J RR 3 (nI (m + 1))))) rfl k
        obtain ⟨d1, o1, ed, kc, k⟩ := lz_c (g := 29) (q := 1) (vs := [.ref Rd, .int (Int32.ofInt 2)]) (rest := []) rfl rfl (by decide) (Or.inr (Or.inl ⟨_, rfl, rfl⟩)) rfl k
        have e1 := lc_skip (b := 2) hP hS1 hp (by first | omega | decide | (have := lb_W_len (a := lb_wd w); omega)) kc
        rw [Nat.min_eq_left (lb_cm_2 hcm (Or.inl h35))] at e1
        subst e1
        have hS2 := lc_Spp (q := lb_s f t (p + 2)) hP hS1
        have hp2 : lb_s f t (p + 2) ≤ t := (lb_s_le (t - (p + 2)) (p + 2) (by have := (lb_cm_2 hcm (Or.inl h35)); omega)).2
        have k : nt_rn X _ 60 (52, [(1, .int (x)), (0, .ref RR)], [], me_w M (nt_u (nt_u J RR 3 (nI (m + 1))) Rd 1 (nI (lb_s f t (p + 2))))) _ := k
        have k := ly_revb 1 (c' := (53, [(1, .int (x)), (0, .ref RR)], [.int (x)], me_w M (nt_u (nt_u J RR 3 (nI (m + 1))) Rd 1 (nI (lb_s f t (p + 2)))))) rfl k
        have k := lz_ri rfl (by decide) k
        have hl : lb_cl x = 2 := by
          unfold lb_cl
          rw [if_pos h35]
        refine ⟨x, .inr (lb_s f t (p + lb_cl x), m + 1, e), _, k, ⟨hcm, Or.inr (Or.inr ⟨h7, hm, rfl⟩)⟩, ?_⟩
        rw [hl]
        exact ⟨hS2, hp2⟩
      · rw [if_neg (show ¬ (x = (Int32.ofInt 15)) from h35)] at k
        have k := ly_revb 3 (c' := (if x = (Int32.ofInt 17) then 44 else 48, [(1, .int (x)), (0, .ref RR)], [.ref Rd], me_w M (nt_u J RR 3 (nI (m + 1))))) rfl k
        by_cases h41 : x = Int32.ofInt 17
        · rw [if_pos (show x = (Int32.ofInt 17) from h41)] at k
          have k := ly_revb 2 (c' := (49, [(1, .int (x)), (0, .ref RR)], [.int (Int32.ofInt 2), .ref Rd], me_w M (nt_u J RR 3 (nI (m + 1))))) rfl k
          obtain ⟨d1, o1, ed, kc, k⟩ := lz_c (g := 29) (q := 1) (vs := [.ref Rd, .int (Int32.ofInt 2)]) (rest := []) rfl rfl (by decide) (Or.inr (Or.inl ⟨_, rfl, rfl⟩)) rfl k
          have e1 := lc_skip (b := 2) hP hS1 hp (by first | omega | decide | (have := lb_W_len (a := lb_wd w); omega)) kc
          rw [Nat.min_eq_left (lb_cm_2 hcm (Or.inr h41))] at e1
          subst e1
          have hS2 := lc_Spp (q := lb_s f t (p + 2)) hP hS1
          have hp2 : lb_s f t (p + 2) ≤ t := (lb_s_le (t - (p + 2)) (p + 2) (by have := (lb_cm_2 hcm (Or.inr h41)); omega)).2
          have k : nt_rn X _ 60 (52, [(1, .int (x)), (0, .ref RR)], [], me_w M (nt_u (nt_u J RR 3 (nI (m + 1))) Rd 1 (nI (lb_s f t (p + 2))))) _ := k
          have k := ly_revb 1 (c' := (53, [(1, .int (x)), (0, .ref RR)], [.int (x)], me_w M (nt_u (nt_u J RR 3 (nI (m + 1))) Rd 1 (nI (lb_s f t (p + 2)))))) rfl k
          have k := lz_ri rfl (by decide) k
          have hl : lb_cl x = 2 := by
            unfold lb_cl
            rw [if_neg h35, if_pos h41]
          refine ⟨x, .inr (lb_s f t (p + lb_cl x), m + 1, e), _, k, ⟨hcm, Or.inr (Or.inr ⟨h7, hm, rfl⟩)⟩, ?_⟩
          rw [hl]
          exact ⟨hS2, hp2⟩
        · rw [if_neg (show ¬ (x = (Int32.ofInt 17)) from h41)] at k
          have k := ly_revb 1 (c' := (49, [(1, .int (x)), (0, .ref RR)], [.int (Int32.ofInt 1), .ref Rd], me_w M (nt_u J RR 3 (nI (m + 1))))) rfl k
          obtain ⟨d1, o1, ed, kc, k⟩ := lz_c (g := 29) (q := 1) (vs := [.ref Rd, .int (Int32.ofInt 1)]) (rest := []) rfl rfl (by decide) (Or.inr (Or.inl ⟨_, rfl, rfl⟩)) rfl k
          have e1 := lc_skip (b := 1) hP hS1 hp (by first | omega | decide | (have := lb_W_len (a := lb_wd w); omega)) kc
          rw [Nat.min_eq_left (lb_cm_1 hcm h7)] at e1
          subst e1
          have hS2 := lc_Spp (q := lb_s f t (p + 1)) hP hS1
          have hp2 : lb_s f t (p + 1) ≤ t := (lb_s_le (t - (p + 1)) (p + 1) (by have := (lb_cm_1 hcm h7); omega)).2
          have k : nt_rn X _ 60 (52, [(1, .int (x)), (0, .ref RR)], [], me_w M (nt_u (nt_u J RR 3 (nI (m + 1))) Rd 1 (nI (lb_s f t (p + 1))))) _ := k
          have k := ly_revb 1 (c' := (53, [(1, .int (x)), (0, .ref RR)], [.int (x)], me_w M (nt_u (nt_u J RR 3 (nI (m + 1))) Rd 1 (nI (lb_s f t (p + 1)))))) rfl k
          have k := lz_ri rfl (by decide) k
          have hl : lb_cl x = 1 := by
            unfold lb_cl
            rw [if_neg h35, if_neg h41]
          refine ⟨x, .inr (lb_s f t (p + lb_cl x), m + 1, e), _, k, ⟨hcm, Or.inr (Or.inr ⟨h7, hm, rfl⟩)⟩, ?_⟩
          rw [hl]
          exact ⟨hS2, hp2⟩
    · subst e1
      have hS1 := lc_Spp (q := t) hP (lc_Sf (fb := lb_c p (Int32.ofInt 3)) hP hS)
      have k : nt_rn X _ 60 (25, [(1, .int (x)), (0, .ref RR)], [.int (Int32.ofInt 0)], me_w M (nt_u (nt_u J Rd 2 (lb_c p (Int32.ofInt 3))) Rd 1 (nI t))) _ := k
      have k := ly_revb 1 (c' := (if (Int32.ofInt 0) = 0 then 52 else 28, [(1, .int (x)), (0, .ref RR)], [], me_w M (nt_u (nt_u J Rd 2 (lb_c p (Int32.ofInt 3))) Rd 1 (nI t)))) rfl k
      rw [if_pos (show (Int32.ofInt 0) = 0 from by decide)] at k
      have k := ly_revb 1 (c' := (53, [(1, .int (x)), (0, .ref RR)], [.int (x)], me_w M (nt_u (nt_u J Rd 2 (lb_c p (Int32.ofInt 3))) Rd 1 (nI t)))) rfl k
      have k := lz_ri rfl (by decide) k
      exact ⟨x, .inl (lb_c p (Int32.ofInt 3)), _, k, ⟨hcm, Or.inr (Or.inl ⟨h7, hm, rfl⟩)⟩, (lb_c_ne (by omega) (by decide) (by decide)), _, _, hS1⟩
    · exact absurd rfl hf
theorem lc_readCmpF {X : nt_X} {d t Rd Tp By RR Sp : Nat} {f : Nat → Int32} {M : nt_M} {J0 J : Nat → Nat → Int32} {o : Option Value × nt_M} { m : Nat} {fa : Int32} {s : Nat × (Nat → Int32)}  (hP : lc_P M J0 f t Rd Tp By RR Sp) (hS : lc_S J0 Rd RR Sp t fa m s J) (hfa : ¬ fa = 0) (k : nt_ev X d 60 [.ref RR] (me_w M J) o) : ∃ x m' s' J', o = (some (.int x), me_w M J') ∧ lc_S J0 Rd RR Sp t fa m' s' J' := by
  have k : nt_rn X d 60 (0, [(0, .ref RR)], [], me_w M J) o := k
  have t4 : t ≤ 400 := hP.2.2.2.2.1
  have m6 : m ≤ 60 := hS.2.2.2.2.2.2.2
  have k := ly_revb 1 (c' := (1, [(0, .ref RR)], [.ref RR], me_w M J)) rfl k
  obtain ⟨d1, o1, ed, kc, k⟩ := lz_c (g := 61) (q := 1) (vs := [.ref RR]) (rest := []) rfl rfl (by decide) (Or.inr (Or.inl ⟨_, rfl, rfl⟩)) rfl k
  obtain ⟨x, e1, hcm⟩ := lc_cmpAt hP hS (Nat.le_refl t) kc
  subst e1
  have hx : x = Int32.ofInt (-1) := Classical.byContradiction (fun hh => absurd (lb_cm_1 hcm hh) (by omega))
  subst hx
  have k : nt_rn X _ 60 (4, [(0, .ref RR)], [.int (Int32.ofInt (-1))], me_w M J) _ := k
  have k := ly_revb 4 (c' := (if (Int32.ofInt (-1)) = (Int32.ofInt (-1)) then 10 else 21, [(1, .int (Int32.ofInt (-1))), (0, .ref RR)], [], me_w M J)) rfl k
  rw [if_pos (show (Int32.ofInt (-1)) = (Int32.ofInt (-1)) from rfl)] at k
  have k := ly_revb 1 (c' := (11, [(1, .int (Int32.ofInt (-1))), (0, .ref RR)], [.ref RR], me_w M J)) rfl k
  have k := lz_get (a := RR) (g := 500) (M := me_w M J) (v := .ref Rd) rfl (nt_gfR rfl hP.1.2.2.1) k
  have k := ly_revb 1 (c' := (15, [(1, .int (Int32.ofInt (-1))), (0, .ref RR)], [.int (Int32.ofInt 0), .ref Rd], me_w M J)) rfl k
  obtain ⟨d1, o1, ed, kc, k⟩ := lz_c (g := 31) (q := 1) (vs := [.ref Rd, .int (Int32.ofInt 0)]) (rest := []) rfl rfl (by decide) (Or.inr (Or.inl ⟨_, rfl, rfl⟩)) rfl k
  obtain ⟨hf, e1⟩ := (lc_fail hP hS (Nat.le_refl t) kc).resolve_left (fun c => hfa c.1)
  subst e1
  have hS1 := lc_Spp (q := t) hP hS
  have k : nt_rn X _ 60 (18, [(1, .int (Int32.ofInt (-1))), (0, .ref RR)], [], me_w M (nt_u J Rd 1 (nI t))) _ := k
  have k := ly_revb 2 (c' := (53, [(1, .int (Int32.ofInt (-1))), (0, .ref RR)], [.int (Int32.ofInt (-1))], me_w M (nt_u J Rd 1 (nI t)))) rfl k
  have k := lz_ri rfl (by decide) k
  exact ⟨_, _, _, _, k, hS1⟩
end
section
/-! facts and tests, told purely -/
def lb_th (r1 r : lb_Y) (P : lb_Z → Prop) : Prop := (∃ c, r1 = .inl c ∧ r = .inl c) ∨ ∃ z1, r1 = .inr z1 ∧ P z1
theorem lb_th_up {r1 r : lb_Y} {P Q : lb_Z → Prop} (h : ∀ z, P z → Q z) (k : lb_th r1 r P) : lb_th r1 r Q := by
  rcases k with k | ⟨z, e, k⟩
  · exact Or.inl k
  · exact Or.inr ⟨z, e, h z k⟩
def lb_oe (e : lb_E) : Bool → lb_E
  | true => lb_em e (Int32.ofInt 20) (Int32.ofInt 13)
  | false => e
def lb_fa (f : Nat → Int32) (t : Nat) (z : lb_Z) (r : lb_Y) : Prop := ∃ r1, lb_sum f t z r1 ∧ lb_th r1 r (fun z1 => ∃ x r2, lb_cp f t z1 x r2 ∧ lb_th r2 r (fun z2 => ∃ r3, lb_sum f t z2 r3 ∧ lb_th r3 r (fun z3 => r = .inr (z3.1, z3.2.1, lb_em z3.2.2 x (x - Int32.ofInt 8)))))
/-- so many rounds: a fact (true) at a depth, or what follows a fact (false), an or waiting -/
def lb_ft (f : Nat → Int32) (t : Nat) : Nat → Bool → Nat → Bool → lb_Z → lb_Y → Prop
  | 0, _, _, _, _, _ => False
  | k + 1, true, d, _, z, r =>
    ((lb_at f t (lb_W (nt_sp + 1 + 15)) z.1 ∨ lb_g f t z.1 = Int32.ofInt 91) ∧ 10 ≤ d ∧ r = .inl (lb_c z.1 (Int32.ofInt 2))) ∨
    (lb_at f t (lb_W (nt_sp + 1 + 15)) z.1 ∧ d < 10 ∧ ∃ r1, lb_ft f t k true (d + 1) false (lb_s f t (z.1 + (lb_W (nt_sp + 1 + 15)).length), z.2.1, z.2.2) r1 ∧ lb_th r1 r (fun z1 => r = .inr (z1.1, z1.2.1, lb_em z1.2.2 (Int32.ofInt 21) (Int32.ofInt 11)))) ∨
    (¬ lb_at f t (lb_W (nt_sp + 1 + 15)) z.1 ∧ lb_g f t z.1 = Int32.ofInt 91 ∧ d < 10 ∧ ∃ r1, lb_ft f t k true (d + 1) false (lb_s f t (z.1 + 1), z.2.1, z.2.2) r1 ∧ lb_th r1 r (fun z1 => ∃ r2, lb_ft f t k false (d + 1) false z1 r2 ∧ lb_th r2 r (fun z2 => (lb_g f t z2.1 = Int32.ofInt 93 ∧ r = .inr (lb_s f t (z2.1 + 1), z2.2.1, z2.2.2)) ∨ (¬ lb_g f t z2.1 = Int32.ofInt 93 ∧ r = .inl (lb_c z2.1 (Int32.ofInt 0)))))) ∨
    (¬ lb_at f t (lb_W (nt_sp + 1 + 15)) z.1 ∧ ¬ lb_g f t z.1 = Int32.ofInt 91 ∧ lb_fa f t z r)
  | k + 1, false, d, w, z, r =>
    (lb_at f t (lb_W (nt_sp + 1 + 16)) z.1 ∧ ∃ r1, lb_ft f t k true d false (lb_s f t (z.1 + (lb_W (nt_sp + 1 + 16)).length), z.2.1, z.2.2) r1 ∧ lb_th r1 r (fun z1 => lb_ft f t k false d w (z1.1, z1.2.1, lb_em z1.2.2 (Int32.ofInt 19) (Int32.ofInt 12)) r)) ∨
    (¬ lb_at f t (lb_W (nt_sp + 1 + 16)) z.1 ∧ lb_at f t (lb_W (nt_sp + 1 + 17)) z.1 ∧ ∃ r1, lb_ft f t k true d false (lb_s f t (z.1 + (lb_W (nt_sp + 1 + 17)).length), z.2.1, lb_oe z.2.2 w) r1 ∧ lb_th r1 r (fun z1 => lb_ft f t k false d true z1 r)) ∨
    (¬ lb_at f t (lb_W (nt_sp + 1 + 16)) z.1 ∧ ¬ lb_at f t (lb_W (nt_sp + 1 + 17)) z.1 ∧ r = .inr (z.1, z.2.1, lb_oe z.2.2 w))
theorem lb_ft_1 {f : Nat → Int32} {t : Nat} : ∀ (k : Nat) (b : Bool) (d : Nat) (w : Bool) (z : lb_Z) (r : lb_Y), lb_ft f t k b d w z r → lb_ft f t (k + 1) b d w z r := by
  intro k
  induction k with
  | zero => intro b d w z r h; exact h.elim
  | succ k ih =>
    intro b d w z r h
    cases b with
    | true =>
      rcases h with h | ⟨h1, h2, r1, h3, h4⟩ | ⟨h1, h2, h3, r1, h4, h5⟩ | h
      · exact Or.inl h
      · exact Or.inr (Or.inl ⟨h1, h2, r1, ih _ _ _ _ _ h3, h4⟩)
      · exact Or.inr (Or.inr (Or.inl ⟨h1, h2, h3, r1, ih _ _ _ _ _ h4, lb_th_up (fun z1 ⟨r2, h6, h7⟩ => ⟨r2, ih _ _ _ _ _ h6, h7⟩) h5⟩))
      · exact Or.inr (Or.inr (Or.inr h))
    | false =>
      rcases h with ⟨h1, r1, h3, h4⟩ | ⟨h1, h2, r1, h3, h4⟩ | h
      · exact Or.inl ⟨h1, r1, ih _ _ _ _ _ h3, lb_th_up (fun z1 h => ih _ _ _ _ _ h) h4⟩
      · exact Or.inr (Or.inl ⟨h1, h2, r1, ih _ _ _ _ _ h3, lb_th_up (fun z1 h => ih _ _ _ _ _ h) h4⟩)
      · exact Or.inr (Or.inr h)
theorem lb_ft_le {f : Nat → Int32} {t k n : Nat} {b : Bool} {d : Nat} {w : Bool} {z : lb_Z} {r : lb_Y} (h : lb_ft f t k b d w z r) (hn : k ≤ n) : lb_ft f t n b d w z r := by
  induction hn with
  | refl => exact h
  | step _ ih => exact lb_ft_1 _ _ _ _ _ _ ih
theorem lb_sr_up {f : Nat → Int32} {t : Nat} : ∀ (k : Nat) (w : Int32) (z z1 : lb_Z), z.1 ≤ t → lb_sr f t k w z (.inr z1) → z.1 ≤ z1.1 ∧ z1.1 ≤ t := by
  intro k
  induction k with
  | zero => intro w z z1 hz h; exact h.elim
  | succ k ih =>
    intro w z z1 hz h
    rcases h with ⟨_, h⟩ | ⟨ho, r1, hv, h⟩ | ⟨ho, r1, hv, h⟩
    · have e := Sum.inr.inj h
      subst e
      exact ⟨Nat.le_refl _, hz⟩
    · have hlt : z.1 < t := lb_op_lt (by rcases ho with ho | ho <;> (rw [ho]; decide))
      have hs := lb_s_le (f := f) (t := t) (t - (z.1 + 1)) (z.1 + 1) (by omega)
      rcases h with ⟨c, e1, e2⟩ | ⟨z2, e1, h⟩
      · cases e2
      · subst e1
        have q := lb_val_up hs.2 hv
        have a := ih _ (z2.1, z2.2.1, lb_ew z2.2.2 (lb_op (lb_g f t z.1))) _ q.2 h
        dsimp only at a q
        omega
    · have hlt : z.1 < t := lb_op_lt (by rcases ho with ho | ho <;> (rw [ho]; decide))
      have hs := lb_s_le (f := f) (t := t) (t - (z.1 + 1)) (z.1 + 1) (by omega)
      rcases h with ⟨c, e1, e2⟩ | ⟨z2, e1, h⟩
      · cases e2
      · subst e1
        have q := lb_val_up hs.2 hv
        have a := ih _ _ _ q.2 h
        dsimp only at a q
        omega
theorem lb_sum_up {f : Nat → Int32} {t : Nat} {z z1 : lb_Z} (hz : z.1 ≤ t) (h : lb_sum f t z (.inr z1)) : z.1 < z1.1 ∧ z1.1 ≤ t := by
  obtain ⟨r1, hv, h⟩ := h
  rcases h with ⟨c, e1, e2⟩ | ⟨z2, k, e1, h⟩
  · cases e2
  · subst e1
    have q := lb_val_up hz hv
    have a := lb_sr_up _ _ _ _ q.2 h
    omega
theorem lb_cp_up {f : Nat → Int32} {t : Nat} {z z1 : lb_Z} {x : Int32} (hz : z.1 ≤ t) (h : lb_cp f t z x (.inr z1)) : z.1 < z1.1 ∧ z1.1 ≤ t := by
  obtain ⟨hcm, h⟩ := h
  rcases h with ⟨_, h⟩ | ⟨_, _, h⟩ | ⟨hx, _, h⟩
  · cases h
  · cases h
  · have e := Sum.inr.inj h
    subst e
    dsimp only
    have hl : z.1 + lb_cl x ≤ t ∧ 1 ≤ lb_cl x := by
      unfold lb_cl
      by_cases h1 : x = Int32.ofInt 15
      · rw [if_pos h1]
        exact ⟨lb_cm_2 hcm (Or.inl h1), by omega⟩
      · rw [if_neg h1]
        by_cases h2 : x = Int32.ofInt 17
        · rw [if_pos h2]
          exact ⟨lb_cm_2 hcm (Or.inr h2), by omega⟩
        · rw [if_neg h2]
          exact ⟨lb_cm_1 hcm hx, by omega⟩
    have q := lb_s_le (f := f) (t := t) (t - (z.1 + lb_cl x)) (z.1 + lb_cl x) (by omega)
    omega
theorem lb_fa_up {f : Nat → Int32} {t : Nat} {z z1 : lb_Z} (hz : z.1 ≤ t) (h : lb_fa f t z (.inr z1)) : z.1 < z1.1 ∧ z1.1 ≤ t := by
  obtain ⟨r1, h1, h⟩ := h
  rcases h with ⟨c, e1, e2⟩ | ⟨z2, e1, x, r2, h2, h⟩
  · cases e2
  subst e1
  have q1 := lb_sum_up hz h1
  rcases h with ⟨c, e1, e2⟩ | ⟨z3, e1, r3, h3, h⟩
  · cases e2
  subst e1
  have q2 := lb_cp_up q1.2 h2
  rcases h with ⟨c, e1, e2⟩ | ⟨z4, e1, h⟩
  · cases e2
  subst e1
  have q3 := lb_sum_up q2.2 h3
  have e := Sum.inr.inj h
  subst e
  dsimp only
  omega
theorem lb_ft_up {f : Nat → Int32} {t : Nat} : ∀ (k : Nat) (b : Bool) (d : Nat) (w : Bool) (z z1 : lb_Z), z.1 ≤ t → lb_ft f t k b d w z (.inr z1) → z.1 ≤ z1.1 ∧ z1.1 ≤ t ∧ (b = true → z.1 < z1.1) := by
  intro k
  induction k with
  | zero => intro b d w z z1 hz h; exact h.elim
  | succ k ih =>
    intro b d w z z1 hz h
    cases b with
    | true =>
      rcases h with ⟨_, _, h⟩ | ⟨h1, h2, r1, h3, h4⟩ | ⟨h1, h2, h3, r1, h4, h5⟩ | ⟨_, _, h⟩
      · cases h
      · have a := h1.1
        have b2 := lb_Wp 15 (by decide)
        have q := lb_s_le (f := f) (t := t) (t - (z.1 + (lb_W (nt_sp + 1 + 15)).length)) (z.1 + (lb_W (nt_sp + 1 + 15)).length) (by omega)
        rcases h4 with ⟨c, e1, e2⟩ | ⟨z2, e1, h⟩
        · cases e2
        · subst e1
          have i := ih _ _ _ _ _ q.2 h3
          have e := Sum.inr.inj h
          subst e
          dsimp only at i ⊢
          exact ⟨by omega, i.2.1, fun _ => by omega⟩
      · have a := lb_g_lt (f := f) (t := t) (p := z.1) (by rw [h2]; decide)
        have q := lb_s_le (f := f) (t := t) (t - (z.1 + 1)) (z.1 + 1) (by omega)
        rcases h5 with ⟨c, e1, e2⟩ | ⟨z2, e1, r2, h6, h⟩
        · cases e2
        subst e1
        have i := ih _ _ _ _ _ q.2 h4
        dsimp only at i
        rcases h with ⟨c, e1, e2⟩ | ⟨z3, e1, h⟩
        · cases e2
        subst e1
        have i2 := ih _ _ _ _ _ i.2.1 h6
        rcases h with ⟨h93, h⟩ | ⟨_, h⟩
        · have e := Sum.inr.inj h
          subst e
          have a3 := lb_g_lt (f := f) (t := t) (p := z3.1) (by rw [h93]; decide)
          have q3 := lb_s_le (f := f) (t := t) (t - (z3.1 + 1)) (z3.1 + 1) (by omega)
          dsimp only
          exact ⟨by omega, by omega, fun _ => by omega⟩
        · cases h
      · have q := lb_fa_up hz h
        exact ⟨by omega, q.2, fun _ => q.1⟩
    | false =>
      rcases h with ⟨h1, r1, h3, h4⟩ | ⟨h1, h2, r1, h3, h4⟩ | ⟨_, _, h⟩
      · have a := h1.1
        have q := lb_s_le (f := f) (t := t) (t - (z.1 + (lb_W (nt_sp + 1 + 16)).length)) (z.1 + (lb_W (nt_sp + 1 + 16)).length) (by omega)
        rcases h4 with ⟨c, e1, e2⟩ | ⟨z2, e1, h⟩
        · cases e2
        · subst e1
          have i := ih _ _ _ _ _ q.2 h3
          have i2 := ih _ _ _ _ _ (show (z2.1, z2.2.1, lb_em z2.2.2 (Int32.ofInt 19) (Int32.ofInt 12)).1 ≤ t from i.2.1) h
          dsimp only at i i2
          exact ⟨by omega, i2.2.1, fun h => by cases h⟩
      · have a := h2.1
        have q := lb_s_le (f := f) (t := t) (t - (z.1 + (lb_W (nt_sp + 1 + 17)).length)) (z.1 + (lb_W (nt_sp + 1 + 17)).length) (by omega)
        rcases h4 with ⟨c, e1, e2⟩ | ⟨z2, e1, h⟩
        · cases e2
        · subst e1
          have i := ih _ _ _ _ _ q.2 h3
          have i2 := ih _ _ _ _ _ i.2.1 h
          dsimp only at i i2
          exact ⟨by omega, i2.2.1, fun h => by cases h⟩
      · have e := Sum.inr.inj h
        subst e
        exact ⟨Nat.le_refl _, hz, fun h => by cases h⟩
end
section
/-! facts and tests of the rule reader -/
def lc_FOK (X : nt_X) (t Rd RR Sp : Nat) (f : Nat → Int32) (M : nt_M) (J0 : Nat → Nat → Int32) (n : Nat) : Prop := ∀ (dep p m : Nat) (e : lb_E) (J : Nat → Nat → Int32) (o : Option Value × nt_M), lc_S J0 Rd RR Sp p 0 m e.1 J → p ≤ t → dep ≤ 10 → nt_ev X n 59 [.ref RR, .int (nI dep)] (me_w M J) o → ∃ k r J', o = (none, me_w M J') ∧ lb_ft f t k true dep false (p, m, e) r ∧ lc_Q J0 Rd RR Sp t r J'
def lc_TOK (X : nt_X) (t Rd RR Sp : Nat) (f : Nat → Int32) (M : nt_M) (J0 : Nat → Nat → Int32) (n : Nat) : Prop := ∀ (dep p m : Nat) (e : lb_E) (J : Nat → Nat → Int32) (o : Option Value × nt_M), lc_S J0 Rd RR Sp p 0 m e.1 J → p ≤ t → dep ≤ 10 → nt_ev X n 58 [.ref RR, .int (nI dep)] (me_w M J) o → ∃ k r1 r J', o = (none, me_w M J') ∧ lb_ft f t k true dep false (p, m, e) r1 ∧ lb_th r1 r (fun z1 => lb_ft f t k false dep false z1 r) ∧ lc_Q J0 Rd RR Sp t r J'
theorem lc_fact_step {X : nt_X} {t Rd Tp By RR Sp : Nat} {f : Nat → Int32} {M : nt_M} {J0 : Nat → Nat → Int32} {n : Nat} (hP : lc_P M J0 f t Rd Tp By RR Sp) (ih : ∀ n1, n = n1 + 1 → lc_FOK X t Rd RR Sp f M J0 n1 ∧ lc_TOK X t Rd RR Sp f M J0 n1) : lc_FOK X t Rd RR Sp f M J0 n := by
  intro dep p m e J o hS hp hd k
  have k : nt_rn X n 59 (0, [(0, .ref RR), (1, .int (nI dep))], [], me_w M J) o := k
  have t4 : t ≤ 400 := hP.2.2.2.2.1
  have m6 : m ≤ 60 := hS.2.2.2.2.2.2.2
  have k := ly_revb 1 (c' := (1, [(0, .ref RR), (1, .int (nI dep))], [.ref RR], me_w M J)) rfl k
  have k := lz_get (a := RR) (g := 500) (M := me_w M J) (v := .ref Rd) rfl (nt_gfR rfl hP.1.2.2.1) k
  have k := ly_revb 1 (c' := (6, [(0, .ref RR), (1, .int (nI dep))], [.ref (nt_sp + 1 + 15), .ref Rd], me_w M J)) rfl k
  obtain ⟨d1, o1, ed, kc, k⟩ := lz_c (g := 30) (q := 1) (vs := [.ref Rd, .ref (nt_sp + 1 + 15)]) (rest := []) rfl rfl (by decide) (Or.inr (Or.inl ⟨_, rfl, rfl⟩)) rfl k
  obtain ⟨r, e1, hr⟩ := lc_isAt hP hS hp kc
  subst e1
  rcases hr with ⟨rfl, hr⟩ | ⟨rfl, hr⟩
  · have k : nt_rn X _ 59 (9, [(0, .ref RR), (1, .int (nI dep))], [.int (Int32.ofInt 1)], me_w M J) _ := k
    have k := ly_revb 2 (c' := (11, [(2, .int (Int32.ofInt 1)), (0, .ref RR), (1, .int (nI dep))], [.ref RR], me_w M J)) rfl k
    have k := lz_get (a := RR) (g := 500) (M := me_w M J) (v := .ref Rd) rfl (nt_gfR rfl hP.1.2.2.1) k
    obtain ⟨d1, o1, ed, kc, k⟩ := lz_c (g := 37) (q := 1) (vs := [.ref Rd]) (rest := []) rfl rfl (by decide) (Or.inr (Or.inl ⟨_, rfl, rfl⟩)) rfl k
    have e1 := lc_sign hP hS hp kc
    subst e1
    have k : nt_rn X _ 59 (17, [(2, .int (Int32.ofInt 1)), (0, .ref RR), (1, .int (nI dep))], [.int (lb_g f t p)], me_w M J) _ := k
    have k := ly_revb 2 (c' := (if (lb_g f t p) = (Int32.ofInt 91) then 22 else 26, [(2, .int (Int32.ofInt 1)), (0, .ref RR), (1, .int (nI dep))], [], me_w M J)) rfl k
    by_cases h19 : lb_g f t p = Int32.ofInt 91
    · rw [if_pos (show (lb_g f t p) = (Int32.ofInt 91) from h19)] at k
      have k := ly_revb 5 (c' := (if (Int32.ofInt 1) = 0 then 32 else 36, [(3, .int (Int32.ofInt 1)), (2, .int (Int32.ofInt 1)), (0, .ref RR), (1, .int (nI dep))], [], me_w M J)) rfl k
      rw [if_neg (show ¬ ((Int32.ofInt 1) = 0) from by decide)] at k
      have k := ly_revb 3 (c' := (if (nI dep) < (Int32.ofInt 10) then 53 else 42, [(3, .int (Int32.ofInt 1)), (2, .int (Int32.ofInt 1)), (0, .ref RR), (1, .int (nI dep))], [], me_w M J)) rfl k
      by_cases h39 : dep < 10
      · rw [if_pos (show (nI dep) < (Int32.ofInt 10) from show nI dep < nI 10 from nI_lt h39 (by omega))] at k
        have k := ly_revb 2 (c' := (if (Int32.ofInt 1) = 0 then 83 else 57, [(3, .int (Int32.ofInt 1)), (2, .int (Int32.ofInt 1)), (0, .ref RR), (1, .int (nI dep))], [], me_w M J)) rfl k
        rw [if_neg (show ¬ ((Int32.ofInt 1) = 0) from by decide)] at k
        have k := ly_revb 1 (c' := (58, [(3, .int (Int32.ofInt 1)), (2, .int (Int32.ofInt 1)), (0, .ref RR), (1, .int (nI dep))], [.ref RR], me_w M J)) rfl k
        have k := lz_get (a := RR) (g := 500) (M := me_w M J) (v := .ref Rd) rfl (nt_gfR rfl hP.1.2.2.1) k
        have k := ly_revb 1 (c' := (63, [(3, .int (Int32.ofInt 1)), (2, .int (Int32.ofInt 1)), (0, .ref RR), (1, .int (nI dep))], [.ref (nt_sp + 1 + 15), .ref Rd], me_w M J)) rfl k
        obtain ⟨d1, o1, ed, kc, k⟩ := lz_c (g := 32) (q := 1) (vs := [.ref Rd, .ref (nt_sp + 1 + 15)]) (rest := []) rfl rfl (by decide) (Or.inr (Or.inl ⟨_, rfl, rfl⟩)) rfl k
        obtain ⟨_, e1⟩ := (lc_takesWord hP hS hp kc).resolve_right (fun hh => hh.1 hr)
        subst e1
        have hwl := hr.1
        have hS1 := lc_Spp (q := lb_s f t (p + (lb_W (nt_sp + 1 + 15)).length)) hP hS
        have hp1 : lb_s f t (p + (lb_W (nt_sp + 1 + 15)).length) ≤ t := (lb_s_le (t - (p + (lb_W (nt_sp + 1 + 15)).length)) (p + (lb_W (nt_sp + 1 + 15)).length) (by omega)).2
        have hg1 := (lb_s_le (f := f) (t := t) (t - (p + (lb_W (nt_sp + 1 + 15)).length)) (p + (lb_W (nt_sp + 1 + 15)).length) (by omega)).1
        have k : nt_rn X _ 59 (66, [(3, .int (Int32.ofInt 1)), (2, .int (Int32.ofInt 1)), (0, .ref RR), (1, .int (nI dep))], [.int (Int32.ofInt 1)], me_w M (nt_u J Rd 1 (nI (lb_s f t (p + (lb_W (nt_sp + 1 + 15)).length))))) _ := k
        have k := ly_revb 5 (c' := (71, [(3, .int (Int32.ofInt 1)), (2, .int (Int32.ofInt 1)), (0, .ref RR), (1, .int (nI dep))], [.int ((nI dep) + (Int32.ofInt 1)), .ref RR], me_w M (nt_u J Rd 1 (nI (lb_s f t (p + (lb_W (nt_sp + 1 + 15)).length)))))) rfl k
        rw [show ((nI dep) + (Int32.ofInt 1) : Int32) = nI (dep + 1) from me_add (k := 1)] at k
        obtain ⟨d1, o1, ed, kc, k⟩ := lz_c (g := 59) (q := 1) (vs := [.ref RR, .int (nI (dep + 1))]) (rest := []) rfl rfl (by decide) (Or.inr (Or.inl ⟨_, rfl, rfl⟩)) rfl k
        obtain ⟨k21, r21, J21, e1, hv21, hq21⟩ := (ih d1 ed).1 ((dep + 1)) _ _ e _ _ hS1 hp1 (by omega) kc
        subst e1
        cases r21 with
        | inl c21 =>
          obtain ⟨hfa, m21, s21, hS21⟩ := hq21
          have k : nt_rn X _ 59 (74, [(3, .int (Int32.ofInt 1)), (2, .int (Int32.ofInt 1)), (0, .ref RR), (1, .int (nI dep))], [], me_w M J21) _ := k
          have k := ly_revb 2 (c' := (77, [(3, .int (Int32.ofInt 1)), (2, .int (Int32.ofInt 1)), (0, .ref RR), (1, .int (nI dep))], [.int (Int32.ofInt 21), .ref RR], me_w M J21)) rfl k
          obtain ⟨d1, o1, ed, kc, k⟩ := lz_c (g := 54) (q := 1) (vs := [.ref RR, .int (Int32.ofInt 21)]) (rest := []) rfl rfl (by decide) (Or.inr (Or.inl ⟨_, rfl, rfl⟩)) rfl k
          obtain ⟨J2, e1, hS2⟩ := lc_add hP hS21 (Nat.le_refl t) kc
          subst e1
          have k : nt_rn X _ 59 (80, [(3, .int (Int32.ofInt 1)), (2, .int (Int32.ofInt 1)), (0, .ref RR), (1, .int (nI dep))], [], me_w M J2) _ := k
          have k := ly_revb 1 (c' := (145, [(3, .int (Int32.ofInt 1)), (2, .int (Int32.ofInt 1)), (0, .ref RR), (1, .int (nI dep))], [], me_w M J2)) rfl k
          have k := lz_rv rfl rfl k
          exact ⟨k21 + 1, .inl (c21), _, k, Or.inr (Or.inl ⟨hr, h39, _, hv21, Or.inl ⟨_, rfl, rfl⟩⟩), hfa, _, _, hS2⟩
        | inr z21 =>
          obtain ⟨hS21, hp21⟩ := hq21
          have k : nt_rn X _ 59 (74, [(3, .int (Int32.ofInt 1)), (2, .int (Int32.ofInt 1)), (0, .ref RR), (1, .int (nI dep))], [], me_w M J21) _ := k
          have k := ly_revb 2 (c' := (77, [(3, .int (Int32.ofInt 1)), (2, .int (Int32.ofInt 1)), (0, .ref RR), (1, .int (nI dep))], [.int (Int32.ofInt 21), .ref RR], me_w M J21)) rfl k
          obtain ⟨d1, o1, ed, kc, k⟩ := lz_c (g := 54) (q := 1) (vs := [.ref RR, .int (Int32.ofInt 21)]) (rest := []) rfl rfl (by decide) (Or.inr (Or.inl ⟨_, rfl, rfl⟩)) rfl k
          obtain ⟨J2, e1, hS2⟩ := lc_add hP hS21 hp21 kc
          subst e1
          have k : nt_rn X _ 59 (80, [(3, .int (Int32.ofInt 1)), (2, .int (Int32.ofInt 1)), (0, .ref RR), (1, .int (nI dep))], [], me_w M J2) _ := k
          have k := ly_revb 1 (c' := (145, [(3, .int (Int32.ofInt 1)), (2, .int (Int32.ofInt 1)), (0, .ref RR), (1, .int (nI dep))], [], me_w M J2)) rfl k
          have k := lz_rv rfl rfl k
          refine ⟨k21 + 1, .inr (z21.1, z21.2.1, lb_em z21.2.2 (Int32.ofInt 21) (Int32.ofInt 11)), _, k, Or.inr (Or.inl ⟨hr, h39, _, hv21, Or.inr ⟨z21, rfl, rfl⟩⟩), ?_⟩
          exact ⟨hS2, hp21⟩
      · rw [if_neg (show ¬ ((nI dep) < (Int32.ofInt 10)) from show ¬ nI dep < nI 10 from nI_nlt (Nat.not_lt.mp h39) (by omega))] at k
        have k := ly_revb 1 (c' := (43, [(3, .int (Int32.ofInt 1)), (2, .int (Int32.ofInt 1)), (0, .ref RR), (1, .int (nI dep))], [.ref RR], me_w M J)) rfl k
        have k := lz_get (a := RR) (g := 500) (M := me_w M J) (v := .ref Rd) rfl (nt_gfR rfl hP.1.2.2.1) k
        have k := ly_revb 1 (c' := (47, [(3, .int (Int32.ofInt 1)), (2, .int (Int32.ofInt 1)), (0, .ref RR), (1, .int (nI dep))], [.int (Int32.ofInt 2), .ref Rd], me_w M J)) rfl k
        obtain ⟨d1, o1, ed, kc, k⟩ := lz_c (g := 31) (q := 1) (vs := [.ref Rd, .int (Int32.ofInt 2)]) (rest := []) rfl rfl (by decide) (Or.inr (Or.inl ⟨_, rfl, rfl⟩)) rfl k
        obtain ⟨hf, e1⟩ := (lc_fail hP hS hp kc).resolve_right (fun c => c.1 rfl)
        subst e1
        have hS1 := lc_Spp (q := t) hP (lc_Sf (fb := lb_c p (Int32.ofInt 2)) hP hS)
        have k : nt_rn X _ 59 (50, [(3, .int (Int32.ofInt 1)), (2, .int (Int32.ofInt 1)), (0, .ref RR), (1, .int (nI dep))], [], me_w M (nt_u (nt_u J Rd 2 (lb_c p (Int32.ofInt 2))) Rd 1 (nI t))) _ := k
        have k := ly_revb 1 (c' := (145, [(3, .int (Int32.ofInt 1)), (2, .int (Int32.ofInt 1)), (0, .ref RR), (1, .int (nI dep))], [], me_w M (nt_u (nt_u J Rd 2 (lb_c p (Int32.ofInt 2))) Rd 1 (nI t)))) rfl k
        have k := lz_rv rfl rfl k
        exact ⟨1, .inl (lb_c p (Int32.ofInt 2)), _, k, Or.inl ⟨Or.inl hr, by omega, rfl⟩, (lb_c_ne (by omega) (by decide) (by decide)), _, _, hS1⟩
    · rw [if_neg (show ¬ ((lb_g f t p) = (Int32.ofInt 91)) from h19)] at k
      have k := ly_revb 4 (c' := (if (Int32.ofInt 1) = 0 then 32 else 36, [(3, .int (Int32.ofInt 0)), (2, .int (Int32.ofInt 1)), (0, .ref RR), (1, .int (nI dep))], [], me_w M J)) rfl k
      rw [if_neg (show ¬ ((Int32.ofInt 1) = 0) from by decide)] at k
      have k := ly_revb 3 (c' := (if (nI dep) < (Int32.ofInt 10) then 53 else 42, [(3, .int (Int32.ofInt 0)), (2, .int (Int32.ofInt 1)), (0, .ref RR), (1, .int (nI dep))], [], me_w M J)) rfl k
      by_cases h39 : dep < 10
      · rw [if_pos (show (nI dep) < (Int32.ofInt 10) from show nI dep < nI 10 from nI_lt h39 (by omega))] at k
        have k := ly_revb 2 (c' := (if (Int32.ofInt 1) = 0 then 83 else 57, [(3, .int (Int32.ofInt 0)), (2, .int (Int32.ofInt 1)), (0, .ref RR), (1, .int (nI dep))], [], me_w M J)) rfl k
        rw [if_neg (show ¬ ((Int32.ofInt 1) = 0) from by decide)] at k
        have k := ly_revb 1 (c' := (58, [(3, .int (Int32.ofInt 0)), (2, .int (Int32.ofInt 1)), (0, .ref RR), (1, .int (nI dep))], [.ref RR], me_w M J)) rfl k
        have k := lz_get (a := RR) (g := 500) (M := me_w M J) (v := .ref Rd) rfl (nt_gfR rfl hP.1.2.2.1) k
        have k := ly_revb 1 (c' := (63, [(3, .int (Int32.ofInt 0)), (2, .int (Int32.ofInt 1)), (0, .ref RR), (1, .int (nI dep))], [.ref (nt_sp + 1 + 15), .ref Rd], me_w M J)) rfl k
        obtain ⟨d1, o1, ed, kc, k⟩ := lz_c (g := 32) (q := 1) (vs := [.ref Rd, .ref (nt_sp + 1 + 15)]) (rest := []) rfl rfl (by decide) (Or.inr (Or.inl ⟨_, rfl, rfl⟩)) rfl k
        obtain ⟨_, e1⟩ := (lc_takesWord hP hS hp kc).resolve_right (fun hh => hh.1 hr)
        subst e1
        have hwl := hr.1
        have hS1 := lc_Spp (q := lb_s f t (p + (lb_W (nt_sp + 1 + 15)).length)) hP hS
        have hp1 : lb_s f t (p + (lb_W (nt_sp + 1 + 15)).length) ≤ t := (lb_s_le (t - (p + (lb_W (nt_sp + 1 + 15)).length)) (p + (lb_W (nt_sp + 1 + 15)).length) (by omega)).2
        have hg1 := (lb_s_le (f := f) (t := t) (t - (p + (lb_W (nt_sp + 1 + 15)).length)) (p + (lb_W (nt_sp + 1 + 15)).length) (by omega)).1
        have k : nt_rn X _ 59 (66, [(3, .int (Int32.ofInt 0)), (2, .int (Int32.ofInt 1)), (0, .ref RR), (1, .int (nI dep))], [.int (Int32.ofInt 1)], me_w M (nt_u J Rd 1 (nI (lb_s f t (p + (lb_W (nt_sp + 1 + 15)).length))))) _ := k
        have k := ly_revb 5 (c' := (71, [(3, .int (Int32.ofInt 0)), (2, .int (Int32.ofInt 1)), (0, .ref RR), (1, .int (nI dep))], [.int ((nI dep) + (Int32.ofInt 1)), .ref RR], me_w M (nt_u J Rd 1 (nI (lb_s f t (p + (lb_W (nt_sp + 1 + 15)).length)))))) rfl k
        rw [show ((nI dep) + (Int32.ofInt 1) : Int32) = nI (dep + 1) from me_add (k := 1)] at k
        obtain ⟨d1, o1, ed, kc, k⟩ := lz_c (g := 59) (q := 1) (vs := [.ref RR, .int (nI (dep + 1))]) (rest := []) rfl rfl (by decide) (Or.inr (Or.inl ⟨_, rfl, rfl⟩)) rfl k
        obtain ⟨k21, r21, J21, e1, hv21, hq21⟩ := (ih d1 ed).1 ((dep + 1)) _ _ e _ _ hS1 hp1 (by omega) kc
        subst e1
        cases r21 with
        | inl c21 =>
          obtain ⟨hfa, m21, s21, hS21⟩ := hq21
          have k : nt_rn X _ 59 (74, [(3, .int (Int32.ofInt 0)), (2, .int (Int32.ofInt 1)), (0, .ref RR), (1, .int (nI dep))], [], me_w M J21) _ := k
          have k := ly_revb 2 (c' := (77, [(3, .int (Int32.ofInt 0)), (2, .int (Int32.ofInt 1)), (0, .ref RR), (1, .int (nI dep))], [.int (Int32.ofInt 21), .ref RR], me_w M J21)) rfl k
          obtain ⟨d1, o1, ed, kc, k⟩ := lz_c (g := 54) (q := 1) (vs := [.ref RR, .int (Int32.ofInt 21)]) (rest := []) rfl rfl (by decide) (Or.inr (Or.inl ⟨_, rfl, rfl⟩)) rfl k
          obtain ⟨J2, e1, hS2⟩ := lc_add hP hS21 (Nat.le_refl t) kc
          subst e1
          have k : nt_rn X _ 59 (80, [(3, .int (Int32.ofInt 0)), (2, .int (Int32.ofInt 1)), (0, .ref RR), (1, .int (nI dep))], [], me_w M J2) _ := k
          have k := ly_revb 1 (c' := (145, [(3, .int (Int32.ofInt 0)), (2, .int (Int32.ofInt 1)), (0, .ref RR), (1, .int (nI dep))], [], me_w M J2)) rfl k
          have k := lz_rv rfl rfl k
          exact ⟨k21 + 1, .inl (c21), _, k, Or.inr (Or.inl ⟨hr, h39, _, hv21, Or.inl ⟨_, rfl, rfl⟩⟩), hfa, _, _, hS2⟩
        | inr z21 =>
          obtain ⟨hS21, hp21⟩ := hq21
          have k : nt_rn X _ 59 (74, [(3, .int (Int32.ofInt 0)), (2, .int (Int32.ofInt 1)), (0, .ref RR), (1, .int (nI dep))], [], me_w M J21) _ := k
          have k := ly_revb 2 (c' := (77, [(3, .int (Int32.ofInt 0)), (2, .int (Int32.ofInt 1)), (0, .ref RR), (1, .int (nI dep))], [.int (Int32.ofInt 21), .ref RR], me_w M J21)) rfl k
          obtain ⟨d1, o1, ed, kc, k⟩ := lz_c (g := 54) (q := 1) (vs := [.ref RR, .int (Int32.ofInt 21)]) (rest := []) rfl rfl (by decide) (Or.inr (Or.inl ⟨_, rfl, rfl⟩)) rfl k
          obtain ⟨J2, e1, hS2⟩ := lc_add hP hS21 hp21 kc
          subst e1
          have k : nt_rn X _ 59 (80, [(3, .int (Int32.ofInt 0)), (2, .int (Int32.ofInt 1)), (0, .ref RR), (1, .int (nI dep))], [], me_w M J2) _ := k
          have k := ly_revb 1 (c' := (145, [(3, .int (Int32.ofInt 0)), (2, .int (Int32.ofInt 1)), (0, .ref RR), (1, .int (nI dep))], [], me_w M J2)) rfl k
          have k := lz_rv rfl rfl k
          refine ⟨k21 + 1, .inr (z21.1, z21.2.1, lb_em z21.2.2 (Int32.ofInt 21) (Int32.ofInt 11)), _, k, Or.inr (Or.inl ⟨hr, h39, _, hv21, Or.inr ⟨z21, rfl, rfl⟩⟩), ?_⟩
          exact ⟨hS2, hp21⟩
      · rw [if_neg (show ¬ ((nI dep) < (Int32.ofInt 10)) from show ¬ nI dep < nI 10 from nI_nlt (Nat.not_lt.mp h39) (by omega))] at k
        have k := ly_revb 1 (c' := (43, [(3, .int (Int32.ofInt 0)), (2, .int (Int32.ofInt 1)), (0, .ref RR), (1, .int (nI dep))], [.ref RR], me_w M J)) rfl k
        have k := lz_get (a := RR) (g := 500) (M := me_w M J) (v := .ref Rd) rfl (nt_gfR rfl hP.1.2.2.1) k
        have k := ly_revb 1 (c' := (47, [(3, .int (Int32.ofInt 0)), (2, .int (Int32.ofInt 1)), (0, .ref RR), (1, .int (nI dep))], [.int (Int32.ofInt 2), .ref Rd], me_w M J)) rfl k
        obtain ⟨d1, o1, ed, kc, k⟩ := lz_c (g := 31) (q := 1) (vs := [.ref Rd, .int (Int32.ofInt 2)]) (rest := []) rfl rfl (by decide) (Or.inr (Or.inl ⟨_, rfl, rfl⟩)) rfl k
        obtain ⟨hf, e1⟩ := (lc_fail hP hS hp kc).resolve_right (fun c => c.1 rfl)
        subst e1
        have hS1 := lc_Spp (q := t) hP (lc_Sf (fb := lb_c p (Int32.ofInt 2)) hP hS)
        have k : nt_rn X _ 59 (50, [(3, .int (Int32.ofInt 0)), (2, .int (Int32.ofInt 1)), (0, .ref RR), (1, .int (nI dep))], [], me_w M (nt_u (nt_u J Rd 2 (lb_c p (Int32.ofInt 2))) Rd 1 (nI t))) _ := k
        have k := ly_revb 1 (c' := (145, [(3, .int (Int32.ofInt 0)), (2, .int (Int32.ofInt 1)), (0, .ref RR), (1, .int (nI dep))], [], me_w M (nt_u (nt_u J Rd 2 (lb_c p (Int32.ofInt 2))) Rd 1 (nI t)))) rfl k
        have k := lz_rv rfl rfl k
        exact ⟨1, .inl (lb_c p (Int32.ofInt 2)), _, k, Or.inl ⟨Or.inl hr, by omega, rfl⟩, (lb_c_ne (by omega) (by decide) (by decide)), _, _, hS1⟩
  · have k : nt_rn X _ 59 (9, [(0, .ref RR), (1, .int (nI dep))], [.int (Int32.ofInt 0)], me_w M J) _ := k
    have k := ly_revb 2 (c' := (11, [(2, .int (Int32.ofInt 0)), (0, .ref RR), (1, .int (nI dep))], [.ref RR], me_w M J)) rfl k
    have k := lz_get (a := RR) (g := 500) (M := me_w M J) (v := .ref Rd) rfl (nt_gfR rfl hP.1.2.2.1) k
    obtain ⟨d1, o1, ed, kc, k⟩ := lz_c (g := 37) (q := 1) (vs := [.ref Rd]) (rest := []) rfl rfl (by decide) (Or.inr (Or.inl ⟨_, rfl, rfl⟩)) rfl k
    have e1 := lc_sign hP hS hp kc
    subst e1
    have k : nt_rn X _ 59 (17, [(2, .int (Int32.ofInt 0)), (0, .ref RR), (1, .int (nI dep))], [.int (lb_g f t p)], me_w M J) _ := k
    have k := ly_revb 2 (c' := (if (lb_g f t p) = (Int32.ofInt 91) then 22 else 26, [(2, .int (Int32.ofInt 0)), (0, .ref RR), (1, .int (nI dep))], [], me_w M J)) rfl k
    by_cases h19 : lb_g f t p = Int32.ofInt 91
    · rw [if_pos (show (lb_g f t p) = (Int32.ofInt 91) from h19)] at k
      have k := ly_revb 5 (c' := (if (Int32.ofInt 0) = 0 then 32 else 36, [(3, .int (Int32.ofInt 1)), (2, .int (Int32.ofInt 0)), (0, .ref RR), (1, .int (nI dep))], [], me_w M J)) rfl k
      rw [if_pos (show (Int32.ofInt 0) = 0 from by decide)] at k
      have k := ly_revb 2 (c' := (if (Int32.ofInt 1) = 0 then 53 else 36, [(3, .int (Int32.ofInt 1)), (2, .int (Int32.ofInt 0)), (0, .ref RR), (1, .int (nI dep))], [], me_w M J)) rfl k
      rw [if_neg (show ¬ ((Int32.ofInt 1) = 0) from by decide)] at k
      have k := ly_revb 3 (c' := (if (nI dep) < (Int32.ofInt 10) then 53 else 42, [(3, .int (Int32.ofInt 1)), (2, .int (Int32.ofInt 0)), (0, .ref RR), (1, .int (nI dep))], [], me_w M J)) rfl k
      by_cases h39 : dep < 10
      · rw [if_pos (show (nI dep) < (Int32.ofInt 10) from show nI dep < nI 10 from nI_lt h39 (by omega))] at k
        have k := ly_revb 2 (c' := (if (Int32.ofInt 0) = 0 then 83 else 57, [(3, .int (Int32.ofInt 1)), (2, .int (Int32.ofInt 0)), (0, .ref RR), (1, .int (nI dep))], [], me_w M J)) rfl k
        rw [if_pos (show (Int32.ofInt 0) = 0 from by decide)] at k
        have k := ly_revb 2 (c' := (if (Int32.ofInt 1) = 0 then 125 else 87, [(3, .int (Int32.ofInt 1)), (2, .int (Int32.ofInt 0)), (0, .ref RR), (1, .int (nI dep))], [], me_w M J)) rfl k
        rw [if_neg (show ¬ ((Int32.ofInt 1) = 0) from by decide)] at k
        have k := ly_revb 1 (c' := (88, [(3, .int (Int32.ofInt 1)), (2, .int (Int32.ofInt 0)), (0, .ref RR), (1, .int (nI dep))], [.ref RR], me_w M J)) rfl k
        have k := lz_get (a := RR) (g := 500) (M := me_w M J) (v := .ref Rd) rfl (nt_gfR rfl hP.1.2.2.1) k
        have k := ly_revb 1 (c' := (92, [(3, .int (Int32.ofInt 1)), (2, .int (Int32.ofInt 0)), (0, .ref RR), (1, .int (nI dep))], [.int (Int32.ofInt 1), .ref Rd], me_w M J)) rfl k
        obtain ⟨d1, o1, ed, kc, k⟩ := lz_c (g := 29) (q := 1) (vs := [.ref Rd, .int (Int32.ofInt 1)]) (rest := []) rfl rfl (by decide) (Or.inr (Or.inl ⟨_, rfl, rfl⟩)) rfl k
        have e1 := lc_skip (b := 1) hP hS hp (by first | omega | decide | (have := lb_W_len (a := lb_wd w); omega)) kc
        rw [Nat.min_eq_left (lb_g_lt (by rw [h19]; decide))] at e1
        subst e1
        have hS1 := lc_Spp (q := lb_s f t (p + 1)) hP hS
        have hp1 : lb_s f t (p + 1) ≤ t := (lb_s_le (t - (p + 1)) (p + 1) (by have := (lb_g_lt (by rw [h19]; decide)); omega)).2
        have k : nt_rn X _ 59 (95, [(3, .int (Int32.ofInt 1)), (2, .int (Int32.ofInt 0)), (0, .ref RR), (1, .int (nI dep))], [], me_w M (nt_u J Rd 1 (nI (lb_s f t (p + 1))))) _ := k
        have k := ly_revb 4 (c' := (99, [(3, .int (Int32.ofInt 1)), (2, .int (Int32.ofInt 0)), (0, .ref RR), (1, .int (nI dep))], [.int ((nI dep) + (Int32.ofInt 1)), .ref RR], me_w M (nt_u J Rd 1 (nI (lb_s f t (p + 1)))))) rfl k
        rw [show ((nI dep) + (Int32.ofInt 1) : Int32) = nI (dep + 1) from me_add (k := 1)] at k
        obtain ⟨d1, o1, ed, kc, k⟩ := lz_c (g := 58) (q := 1) (vs := [.ref RR, .int (nI (dep + 1))]) (rest := []) rfl rfl (by decide) (Or.inr (Or.inl ⟨_, rfl, rfl⟩)) rfl k
        obtain ⟨k21, q21, r21, J21, e1, hu21, hv21, hq21⟩ := (ih d1 ed).2 ((dep + 1)) _ _ e _ _ hS1 hp1 (by omega) kc
        subst e1
        cases r21 with
        | inl c21 =>
          obtain ⟨hfa, m21, s21, hS21⟩ := hq21
          have k : nt_rn X _ 59 (102, [(3, .int (Int32.ofInt 1)), (2, .int (Int32.ofInt 0)), (0, .ref RR), (1, .int (nI dep))], [], me_w M J21) _ := k
          have k := ly_revb 1 (c' := (103, [(3, .int (Int32.ofInt 1)), (2, .int (Int32.ofInt 0)), (0, .ref RR), (1, .int (nI dep))], [.ref RR], me_w M J21)) rfl k
          have k := lz_get (a := RR) (g := 500) (M := me_w M J21) (v := .ref Rd) rfl (nt_gfR rfl hP.1.2.2.1) k
          have k := ly_revb 1 (c' := (108, [(3, .int (Int32.ofInt 1)), (2, .int (Int32.ofInt 0)), (0, .ref RR), (1, .int (nI dep))], [.int (Int32.ofInt 93), .ref Rd], me_w M J21)) rfl k
          obtain ⟨d1, o1, ed, kc, k⟩ := lz_c (g := 36) (q := 1) (vs := [.ref Rd, .int (Int32.ofInt 93)]) (rest := []) rfl rfl (by decide) (Or.inr (Or.inl ⟨_, rfl, rfl⟩)) rfl k
          obtain ⟨_, e1⟩ := (lc_takes hP hS21 (Nat.le_refl t) kc).resolve_left (fun hh => absurd hh.1 (by unfold lb_g; rw [if_neg (by omega)]; decide))
          subst e1
          have k : nt_rn X _ 59 (111, [(3, .int (Int32.ofInt 1)), (2, .int (Int32.ofInt 0)), (0, .ref RR), (1, .int (nI dep))], [.int (Int32.ofInt 0)], me_w M J21) _ := k
          have k := ly_revb 1 (c' := (if (Int32.ofInt 0) = 0 then 114 else 145, [(3, .int (Int32.ofInt 1)), (2, .int (Int32.ofInt 0)), (0, .ref RR), (1, .int (nI dep))], [], me_w M J21)) rfl k
          rw [if_pos (show (Int32.ofInt 0) = 0 from by decide)] at k
          have k := ly_revb 1 (c' := (115, [(3, .int (Int32.ofInt 1)), (2, .int (Int32.ofInt 0)), (0, .ref RR), (1, .int (nI dep))], [.ref RR], me_w M J21)) rfl k
          have k := lz_get (a := RR) (g := 500) (M := me_w M J21) (v := .ref Rd) rfl (nt_gfR rfl hP.1.2.2.1) k
          have k := ly_revb 1 (c' := (119, [(3, .int (Int32.ofInt 1)), (2, .int (Int32.ofInt 0)), (0, .ref RR), (1, .int (nI dep))], [.int (Int32.ofInt 0), .ref Rd], me_w M J21)) rfl k
          obtain ⟨d1, o1, ed, kc, k⟩ := lz_c (g := 31) (q := 1) (vs := [.ref Rd, .int (Int32.ofInt 0)]) (rest := []) rfl rfl (by decide) (Or.inr (Or.inl ⟨_, rfl, rfl⟩)) rfl k
          obtain ⟨hf, e1⟩ := (lc_fail hP hS21 (Nat.le_refl t) kc).resolve_left (fun c => hfa c.1)
          subst e1
          have hS2 := lc_Spp (q := t) hP hS21
          have k : nt_rn X _ 59 (122, [(3, .int (Int32.ofInt 1)), (2, .int (Int32.ofInt 0)), (0, .ref RR), (1, .int (nI dep))], [], me_w M (nt_u J21 Rd 1 (nI t))) _ := k
          have k := ly_revb 1 (c' := (145, [(3, .int (Int32.ofInt 1)), (2, .int (Int32.ofInt 0)), (0, .ref RR), (1, .int (nI dep))], [], me_w M (nt_u J21 Rd 1 (nI t)))) rfl k
          have k := lz_rv rfl rfl k
          rcases hv21 with ⟨c, e2, e3⟩ | ⟨z, e2, hv21⟩
          · exact ⟨k21 + 1, .inl (c21), _, k, Or.inr (Or.inr (Or.inl ⟨hr, h19, h39, _, hu21, Or.inl ⟨c, e2, e3⟩⟩)), hfa, _, _, hS2⟩
          · exact ⟨k21 + 1, .inl (c21), _, k, Or.inr (Or.inr (Or.inl ⟨hr, h19, h39, _, hu21, Or.inr ⟨z, e2, _, hv21, Or.inl ⟨_, rfl, rfl⟩⟩⟩)), hfa, _, _, hS2⟩
        | inr z21 =>
          obtain ⟨hS21, hp21⟩ := hq21
          have k : nt_rn X _ 59 (102, [(3, .int (Int32.ofInt 1)), (2, .int (Int32.ofInt 0)), (0, .ref RR), (1, .int (nI dep))], [], me_w M J21) _ := k
          have k := ly_revb 1 (c' := (103, [(3, .int (Int32.ofInt 1)), (2, .int (Int32.ofInt 0)), (0, .ref RR), (1, .int (nI dep))], [.ref RR], me_w M J21)) rfl k
          have k := lz_get (a := RR) (g := 500) (M := me_w M J21) (v := .ref Rd) rfl (nt_gfR rfl hP.1.2.2.1) k
          have k := ly_revb 1 (c' := (108, [(3, .int (Int32.ofInt 1)), (2, .int (Int32.ofInt 0)), (0, .ref RR), (1, .int (nI dep))], [.int (Int32.ofInt 93), .ref Rd], me_w M J21)) rfl k
          obtain ⟨d1, o1, ed, kc, k⟩ := lz_c (g := 36) (q := 1) (vs := [.ref Rd, .int (Int32.ofInt 93)]) (rest := []) rfl rfl (by decide) (Or.inr (Or.inl ⟨_, rfl, rfl⟩)) rfl k
          rcases lc_takes hP hS21 hp21 kc with ⟨htk, e1⟩ | ⟨htk, e1⟩
          · have hlt := lb_g_lt (f := f) (t := t) (p := z21.1) (by rw [htk]; decide)
            rw [Nat.min_eq_left (show z21.1 + 1 ≤ t from hlt)] at e1
            subst e1
            have hS2 := lc_Spp (q := lb_s f t (z21.1 + 1)) hP hS21
            have hp2 : lb_s f t (z21.1 + 1) ≤ t := (lb_s_le (t - (z21.1 + 1)) (z21.1 + 1) (by omega)).2
            have k : nt_rn X _ 59 (111, [(3, .int (Int32.ofInt 1)), (2, .int (Int32.ofInt 0)), (0, .ref RR), (1, .int (nI dep))], [.int (Int32.ofInt 1)], me_w M (nt_u J21 Rd 1 (nI (lb_s f t (z21.1 + 1))))) _ := k
            have k := ly_revb 1 (c' := (if (Int32.ofInt 1) = 0 then 114 else 145, [(3, .int (Int32.ofInt 1)), (2, .int (Int32.ofInt 0)), (0, .ref RR), (1, .int (nI dep))], [], me_w M (nt_u J21 Rd 1 (nI (lb_s f t (z21.1 + 1)))))) rfl k
            rw [if_neg (show ¬ ((Int32.ofInt 1) = 0) from by decide)] at k
            have k := lz_rv rfl rfl k
            rcases hv21 with ⟨c, _, e3⟩ | ⟨z, e2, hv21⟩
            · cases e3
            · exact ⟨k21 + 1, .inr (lb_s f t (z21.1 + 1), z21.2.1, z21.2.2), _, k, Or.inr (Or.inr (Or.inl ⟨hr, h19, h39, _, hu21, Or.inr ⟨z, e2, _, hv21, Or.inr ⟨z21, rfl, Or.inl ⟨htk, rfl⟩⟩⟩⟩)), hS2, hp2⟩
          · subst e1
            have k : nt_rn X _ 59 (111, [(3, .int (Int32.ofInt 1)), (2, .int (Int32.ofInt 0)), (0, .ref RR), (1, .int (nI dep))], [.int (Int32.ofInt 0)], me_w M J21) _ := k
            have k := ly_revb 1 (c' := (if (Int32.ofInt 0) = 0 then 114 else 145, [(3, .int (Int32.ofInt 1)), (2, .int (Int32.ofInt 0)), (0, .ref RR), (1, .int (nI dep))], [], me_w M J21)) rfl k
            rw [if_pos (show (Int32.ofInt 0) = 0 from by decide)] at k
            have k := ly_revb 1 (c' := (115, [(3, .int (Int32.ofInt 1)), (2, .int (Int32.ofInt 0)), (0, .ref RR), (1, .int (nI dep))], [.ref RR], me_w M J21)) rfl k
            have k := lz_get (a := RR) (g := 500) (M := me_w M J21) (v := .ref Rd) rfl (nt_gfR rfl hP.1.2.2.1) k
            have k := ly_revb 1 (c' := (119, [(3, .int (Int32.ofInt 1)), (2, .int (Int32.ofInt 0)), (0, .ref RR), (1, .int (nI dep))], [.int (Int32.ofInt 0), .ref Rd], me_w M J21)) rfl k
            obtain ⟨d1, o1, ed, kc, k⟩ := lz_c (g := 31) (q := 1) (vs := [.ref Rd, .int (Int32.ofInt 0)]) (rest := []) rfl rfl (by decide) (Or.inr (Or.inl ⟨_, rfl, rfl⟩)) rfl k
            obtain ⟨hf, e1⟩ := (lc_fail hP hS21 hp21 kc).resolve_right (fun c => c.1 rfl)
            subst e1
            have hS2 := lc_Spp (q := t) hP (lc_Sf (fb := lb_c z21.1 (Int32.ofInt 0)) hP hS21)
            have k : nt_rn X _ 59 (122, [(3, .int (Int32.ofInt 1)), (2, .int (Int32.ofInt 0)), (0, .ref RR), (1, .int (nI dep))], [], me_w M (nt_u (nt_u J21 Rd 2 (lb_c z21.1 (Int32.ofInt 0))) Rd 1 (nI t))) _ := k
            have k := ly_revb 1 (c' := (145, [(3, .int (Int32.ofInt 1)), (2, .int (Int32.ofInt 0)), (0, .ref RR), (1, .int (nI dep))], [], me_w M (nt_u (nt_u J21 Rd 2 (lb_c z21.1 (Int32.ofInt 0))) Rd 1 (nI t)))) rfl k
            have k := lz_rv rfl rfl k
            rcases hv21 with ⟨c, _, e3⟩ | ⟨z, e2, hv21⟩
            · cases e3
            · exact ⟨k21 + 1, .inl (lb_c z21.1 (Int32.ofInt 0)), _, k, Or.inr (Or.inr (Or.inl ⟨hr, h19, h39, _, hu21, Or.inr ⟨z, e2, _, hv21, Or.inr ⟨z21, rfl, Or.inr ⟨htk, rfl⟩⟩⟩⟩)), (lb_c_ne (by omega) (by decide) (by decide)), _, _, hS2⟩
      · rw [if_neg (show ¬ ((nI dep) < (Int32.ofInt 10)) from show ¬ nI dep < nI 10 from nI_nlt (Nat.not_lt.mp h39) (by omega))] at k
        have k := ly_revb 1 (c' := (43, [(3, .int (Int32.ofInt 1)), (2, .int (Int32.ofInt 0)), (0, .ref RR), (1, .int (nI dep))], [.ref RR], me_w M J)) rfl k
        have k := lz_get (a := RR) (g := 500) (M := me_w M J) (v := .ref Rd) rfl (nt_gfR rfl hP.1.2.2.1) k
        have k := ly_revb 1 (c' := (47, [(3, .int (Int32.ofInt 1)), (2, .int (Int32.ofInt 0)), (0, .ref RR), (1, .int (nI dep))], [.int (Int32.ofInt 2), .ref Rd], me_w M J)) rfl k
        obtain ⟨d1, o1, ed, kc, k⟩ := lz_c (g := 31) (q := 1) (vs := [.ref Rd, .int (Int32.ofInt 2)]) (rest := []) rfl rfl (by decide) (Or.inr (Or.inl ⟨_, rfl, rfl⟩)) rfl k
        obtain ⟨hf, e1⟩ := (lc_fail hP hS hp kc).resolve_right (fun c => c.1 rfl)
        subst e1
        have hS1 := lc_Spp (q := t) hP (lc_Sf (fb := lb_c p (Int32.ofInt 2)) hP hS)
        have k : nt_rn X _ 59 (50, [(3, .int (Int32.ofInt 1)), (2, .int (Int32.ofInt 0)), (0, .ref RR), (1, .int (nI dep))], [], me_w M (nt_u (nt_u J Rd 2 (lb_c p (Int32.ofInt 2))) Rd 1 (nI t))) _ := k
        have k := ly_revb 1 (c' := (145, [(3, .int (Int32.ofInt 1)), (2, .int (Int32.ofInt 0)), (0, .ref RR), (1, .int (nI dep))], [], me_w M (nt_u (nt_u J Rd 2 (lb_c p (Int32.ofInt 2))) Rd 1 (nI t)))) rfl k
        have k := lz_rv rfl rfl k
        exact ⟨1, .inl (lb_c p (Int32.ofInt 2)), _, k, Or.inl ⟨Or.inr h19, by omega, rfl⟩, (lb_c_ne (by omega) (by decide) (by decide)), _, _, hS1⟩
    · rw [if_neg (show ¬ ((lb_g f t p) = (Int32.ofInt 91)) from h19)] at k
      have k := ly_revb 4 (c' := (if (Int32.ofInt 0) = 0 then 32 else 36, [(3, .int (Int32.ofInt 0)), (2, .int (Int32.ofInt 0)), (0, .ref RR), (1, .int (nI dep))], [], me_w M J)) rfl k
      rw [if_pos (show (Int32.ofInt 0) = 0 from by decide)] at k
      have k := ly_revb 2 (c' := (if (Int32.ofInt 0) = 0 then 53 else 36, [(3, .int (Int32.ofInt 0)), (2, .int (Int32.ofInt 0)), (0, .ref RR), (1, .int (nI dep))], [], me_w M J)) rfl k
      rw [if_pos (show (Int32.ofInt 0) = 0 from by decide)] at k
      have k := ly_revb 2 (c' := (if (Int32.ofInt 0) = 0 then 83 else 57, [(3, .int (Int32.ofInt 0)), (2, .int (Int32.ofInt 0)), (0, .ref RR), (1, .int (nI dep))], [], me_w M J)) rfl k
      rw [if_pos (show (Int32.ofInt 0) = 0 from by decide)] at k
      have k := ly_revb 2 (c' := (if (Int32.ofInt 0) = 0 then 125 else 87, [(3, .int (Int32.ofInt 0)), (2, .int (Int32.ofInt 0)), (0, .ref RR), (1, .int (nI dep))], [], me_w M J)) rfl k
      rw [if_pos (show (Int32.ofInt 0) = 0 from by decide)] at k
      have k := ly_revb 1 (c' := (126, [(3, .int (Int32.ofInt 0)), (2, .int (Int32.ofInt 0)), (0, .ref RR), (1, .int (nI dep))], [.ref RR], me_w M J)) rfl k
      obtain ⟨d1, o1, ed, kc, k⟩ := lz_c (g := 49) (q := 1) (vs := [.ref RR]) (rest := []) rfl rfl (by decide) (Or.inr (Or.inl ⟨_, rfl, rfl⟩)) rfl k
      obtain ⟨r21, J21, e1, hv21, hq21⟩ := lc_readSum (e := e) hP hS hp kc
      subst e1
      cases r21 with
      | inl c21 =>
        obtain ⟨hfa, m21, s21, hS21⟩ := hq21
        have k : nt_rn X _ 59 (129, [(3, .int (Int32.ofInt 0)), (2, .int (Int32.ofInt 0)), (0, .ref RR), (1, .int (nI dep))], [], me_w M J21) _ := k
        have k := ly_revb 1 (c' := (130, [(3, .int (Int32.ofInt 0)), (2, .int (Int32.ofInt 0)), (0, .ref RR), (1, .int (nI dep))], [.ref RR], me_w M J21)) rfl k
        obtain ⟨d1, o1, ed, kc, k⟩ := lz_c (g := 60) (q := 1) (vs := [.ref RR]) (rest := []) rfl rfl (by decide) (Or.inr (Or.inl ⟨_, rfl, rfl⟩)) rfl k
        obtain ⟨x, m1, s1, J1, e1, hT1⟩ := lc_readCmpF hP hS21 hfa kc
        subst e1
        have k : nt_rn X _ 59 (133, [(3, .int (Int32.ofInt 0)), (2, .int (Int32.ofInt 0)), (0, .ref RR), (1, .int (nI dep))], [.int (x)], me_w M J1) _ := k
        have k := ly_revb 2 (c' := (136, [(4, .int (x)), (3, .int (Int32.ofInt 0)), (2, .int (Int32.ofInt 0)), (0, .ref RR), (1, .int (nI dep))], [.ref RR], me_w M J1)) rfl k
        obtain ⟨d1, o1, ed, kc, k⟩ := lz_c (g := 49) (q := 1) (vs := [.ref RR]) (rest := []) rfl rfl (by decide) (Or.inr (Or.inl ⟨_, rfl, rfl⟩)) rfl k
        obtain ⟨m2, s2, J2, e1, hT2⟩ := lc_readSumF hP hT1 hfa kc
        subst e1
        have k : nt_rn X _ 59 (139, [(4, .int (x)), (3, .int (Int32.ofInt 0)), (2, .int (Int32.ofInt 0)), (0, .ref RR), (1, .int (nI dep))], [], me_w M J2) _ := k
        have k := ly_revb 2 (c' := (142, [(4, .int (x)), (3, .int (Int32.ofInt 0)), (2, .int (Int32.ofInt 0)), (0, .ref RR), (1, .int (nI dep))], [.int (x), .ref RR], me_w M J2)) rfl k
        obtain ⟨d1, o1, ed, kc, k⟩ := lz_c (g := 54) (q := 1) (vs := [.ref RR, .int (x)]) (rest := []) rfl rfl (by decide) (Or.inr (Or.inl ⟨_, rfl, rfl⟩)) rfl k
        obtain ⟨J1, e1, hS1⟩ := lc_add hP hT2 (Nat.le_refl t) kc
        subst e1
        have k : nt_rn X _ 59 (145, [(4, .int (x)), (3, .int (Int32.ofInt 0)), (2, .int (Int32.ofInt 0)), (0, .ref RR), (1, .int (nI dep))], [], me_w M J1) _ := k
        have k := lz_rv rfl rfl k
        exact ⟨1, .inl (c21), _, k, Or.inr (Or.inr (Or.inr ⟨hr, h19, ⟨_, hv21, Or.inl ⟨_, rfl, rfl⟩⟩⟩)), hfa, _, _, hS1⟩
      | inr z21 =>
        obtain ⟨hS21, hp21⟩ := hq21
        have k : nt_rn X _ 59 (129, [(3, .int (Int32.ofInt 0)), (2, .int (Int32.ofInt 0)), (0, .ref RR), (1, .int (nI dep))], [], me_w M J21) _ := k
        have k := ly_revb 1 (c' := (130, [(3, .int (Int32.ofInt 0)), (2, .int (Int32.ofInt 0)), (0, .ref RR), (1, .int (nI dep))], [.ref RR], me_w M J21)) rfl k
        obtain ⟨d1, o1, ed, kc, k⟩ := lz_c (g := 60) (q := 1) (vs := [.ref RR]) (rest := []) rfl rfl (by decide) (Or.inr (Or.inl ⟨_, rfl, rfl⟩)) rfl k
        obtain ⟨x, r22, J22, e1, hv22, hq22⟩ := lc_readCmp (e := z21.2.2) hP hS21 hp21 kc
        subst e1
        cases r22 with
        | inl c22 =>
          obtain ⟨hfa, m22, s22, hS22⟩ := hq22
          have k : nt_rn X _ 59 (133, [(3, .int (Int32.ofInt 0)), (2, .int (Int32.ofInt 0)), (0, .ref RR), (1, .int (nI dep))], [.int (x)], me_w M J22) _ := k
          have k := ly_revb 2 (c' := (136, [(4, .int (x)), (3, .int (Int32.ofInt 0)), (2, .int (Int32.ofInt 0)), (0, .ref RR), (1, .int (nI dep))], [.ref RR], me_w M J22)) rfl k
          obtain ⟨d1, o1, ed, kc, k⟩ := lz_c (g := 49) (q := 1) (vs := [.ref RR]) (rest := []) rfl rfl (by decide) (Or.inr (Or.inl ⟨_, rfl, rfl⟩)) rfl k
          obtain ⟨m1, s1, J1, e1, hT1⟩ := lc_readSumF hP hS22 hfa kc
          subst e1
          have k : nt_rn X _ 59 (139, [(4, .int (x)), (3, .int (Int32.ofInt 0)), (2, .int (Int32.ofInt 0)), (0, .ref RR), (1, .int (nI dep))], [], me_w M J1) _ := k
          have k := ly_revb 2 (c' := (142, [(4, .int (x)), (3, .int (Int32.ofInt 0)), (2, .int (Int32.ofInt 0)), (0, .ref RR), (1, .int (nI dep))], [.int (x), .ref RR], me_w M J1)) rfl k
          obtain ⟨d1, o1, ed, kc, k⟩ := lz_c (g := 54) (q := 1) (vs := [.ref RR, .int (x)]) (rest := []) rfl rfl (by decide) (Or.inr (Or.inl ⟨_, rfl, rfl⟩)) rfl k
          obtain ⟨J1, e1, hS1⟩ := lc_add hP hT1 (Nat.le_refl t) kc
          subst e1
          have k : nt_rn X _ 59 (145, [(4, .int (x)), (3, .int (Int32.ofInt 0)), (2, .int (Int32.ofInt 0)), (0, .ref RR), (1, .int (nI dep))], [], me_w M J1) _ := k
          have k := lz_rv rfl rfl k
          exact ⟨1, .inl (c22), _, k, Or.inr (Or.inr (Or.inr ⟨hr, h19, ⟨_, hv21, Or.inr ⟨z21, rfl, x, _, hv22, Or.inl ⟨_, rfl, rfl⟩⟩⟩⟩)), hfa, _, _, hS1⟩
        | inr z22 =>
          obtain ⟨hS22, hp22⟩ := hq22
          have k : nt_rn X _ 59 (133, [(3, .int (Int32.ofInt 0)), (2, .int (Int32.ofInt 0)), (0, .ref RR), (1, .int (nI dep))], [.int (x)], me_w M J22) _ := k
          have k := ly_revb 2 (c' := (136, [(4, .int (x)), (3, .int (Int32.ofInt 0)), (2, .int (Int32.ofInt 0)), (0, .ref RR), (1, .int (nI dep))], [.ref RR], me_w M J22)) rfl k
          obtain ⟨d1, o1, ed, kc, k⟩ := lz_c (g := 49) (q := 1) (vs := [.ref RR]) (rest := []) rfl rfl (by decide) (Or.inr (Or.inl ⟨_, rfl, rfl⟩)) rfl k
          obtain ⟨r23, J23, e1, hv23, hq23⟩ := lc_readSum (e := z22.2.2) hP hS22 hp22 kc
          subst e1
          cases r23 with
          | inl c23 =>
            obtain ⟨hfa, m23, s23, hS23⟩ := hq23
            have k : nt_rn X _ 59 (139, [(4, .int (x)), (3, .int (Int32.ofInt 0)), (2, .int (Int32.ofInt 0)), (0, .ref RR), (1, .int (nI dep))], [], me_w M J23) _ := k
            have k := ly_revb 2 (c' := (142, [(4, .int (x)), (3, .int (Int32.ofInt 0)), (2, .int (Int32.ofInt 0)), (0, .ref RR), (1, .int (nI dep))], [.int (x), .ref RR], me_w M J23)) rfl k
            obtain ⟨d1, o1, ed, kc, k⟩ := lz_c (g := 54) (q := 1) (vs := [.ref RR, .int (x)]) (rest := []) rfl rfl (by decide) (Or.inr (Or.inl ⟨_, rfl, rfl⟩)) rfl k
            obtain ⟨J1, e1, hS1⟩ := lc_add hP hS23 (Nat.le_refl t) kc
            subst e1
            have k : nt_rn X _ 59 (145, [(4, .int (x)), (3, .int (Int32.ofInt 0)), (2, .int (Int32.ofInt 0)), (0, .ref RR), (1, .int (nI dep))], [], me_w M J1) _ := k
            have k := lz_rv rfl rfl k
            exact ⟨1, .inl (c23), _, k, Or.inr (Or.inr (Or.inr ⟨hr, h19, ⟨_, hv21, Or.inr ⟨z21, rfl, x, _, hv22, Or.inr ⟨z22, rfl, _, hv23, Or.inl ⟨_, rfl, rfl⟩⟩⟩⟩⟩)), hfa, _, _, hS1⟩
          | inr z23 =>
            obtain ⟨hS23, hp23⟩ := hq23
            have k : nt_rn X _ 59 (139, [(4, .int (x)), (3, .int (Int32.ofInt 0)), (2, .int (Int32.ofInt 0)), (0, .ref RR), (1, .int (nI dep))], [], me_w M J23) _ := k
            have k := ly_revb 2 (c' := (142, [(4, .int (x)), (3, .int (Int32.ofInt 0)), (2, .int (Int32.ofInt 0)), (0, .ref RR), (1, .int (nI dep))], [.int (x), .ref RR], me_w M J23)) rfl k
            obtain ⟨d1, o1, ed, kc, k⟩ := lz_c (g := 54) (q := 1) (vs := [.ref RR, .int (x)]) (rest := []) rfl rfl (by decide) (Or.inr (Or.inl ⟨_, rfl, rfl⟩)) rfl k
            obtain ⟨J1, e1, hS1⟩ := lc_add hP hS23 hp23 kc
            subst e1
            have k : nt_rn X _ 59 (145, [(4, .int (x)), (3, .int (Int32.ofInt 0)), (2, .int (Int32.ofInt 0)), (0, .ref RR), (1, .int (nI dep))], [], me_w M J1) _ := k
            have k := lz_rv rfl rfl k
            refine ⟨1, .inr (z23.1, z23.2.1, lb_em z23.2.2 x (x - Int32.ofInt 8)), _, k, Or.inr (Or.inr (Or.inr ⟨hr, h19, ⟨_, hv21, Or.inr ⟨z21, rfl, x, _, hv22, Or.inr ⟨z22, rfl, _, hv23, Or.inr ⟨z23, rfl, rfl⟩⟩⟩⟩⟩)), ?_⟩
            exact ⟨hS1, hp23⟩
end
section
/-! tests of the rule reader -/
def lb_wi : Bool → Int32
  | true => Int32.ofInt 1
  | false => Int32.ofInt 0
theorem lc_tel {X : nt_X} {t Rd Tp By RR Sp : Nat} {f : Nat → Int32} {M : nt_M} {J0 : Nat → Nat → Int32} {n dep : Nat} {o : Option Value × nt_M} (hP : lc_P M J0 f t Rd Tp By RR Sp) (hd : dep ≤ 10) (ih0 : ∀ n1, n = n1 + 1 → lc_FOK X t Rd RR Sp f M J0 n1) : ∀ (c j : Nat) (w : Bool) (z : lb_Z) (J : Nat → Nat → Int32), t - z.1 = c → z.1 ≤ t → j ≤ z.1 → lc_S J0 Rd RR Sp z.1 0 z.2.1 z.2.2.1 J → nt_rn X n 58 (9, [(3, .int (nI j)), (2, .int (lb_wi w)), (0, .ref RR), (1, .int (nI dep))], [], me_w M J) o → ∃ k r J', o = (none, me_w M J') ∧ lb_ft f t k false dep w z r ∧ lc_Q J0 Rd RR Sp t r J' := by
  have t4 : t ≤ 400 := hP.2.2.2.2.1
  intro c
  induction c using Nat.strongRecOn with
  | ind c ih =>
    intro j w z J hc hp hj hS k
    have w16 := lb_Wp 16 (by decide)
    have w17 := lb_Wp 17 (by decide)
    cases w with
    | true =>
      have k : nt_rn X n 58 (9, [(3, .int (nI j)), (2, .int (Int32.ofInt 1)), (0, .ref RR), (1, .int (nI dep))], [], me_w M J) o := k
      have k := ly_revb 3 (c' := (if (Int32.ofInt 400) ≤ (nI j) then 77 else 16, [(3, .int (nI j)), (2, .int (Int32.ofInt 1)), (0, .ref RR), (1, .int (nI dep))], [], me_w M J)) rfl k
      by_cases h13 : 400 ≤ j
      · rw [if_pos (show (Int32.ofInt 400) ≤ (nI j) from show nI 400 ≤ nI j from nI_le h13 (by omega))] at k
        have k := ly_revb 2 (c' := (if (Int32.ofInt 1) = 0 then 87 else 81, [(3, .int (nI j)), (2, .int (Int32.ofInt 1)), (0, .ref RR), (1, .int (nI dep))], [], me_w M J)) rfl k
        rw [if_neg (show ¬ ((Int32.ofInt 1) = 0) from by decide)] at k
        have k := ly_revb 2 (c' := (84, [(3, .int (nI j)), (2, .int (Int32.ofInt 1)), (0, .ref RR), (1, .int (nI dep))], [.int (Int32.ofInt 20), .ref RR], me_w M J)) rfl k
        obtain ⟨d1, o1, ed, kc, k⟩ := lz_c (g := 54) (q := 1) (vs := [.ref RR, .int (Int32.ofInt 20)]) (rest := []) rfl rfl (by decide) (Or.inr (Or.inl ⟨_, rfl, rfl⟩)) rfl k
        obtain ⟨J1, e1, hS1⟩ := lc_add hP hS hp kc
        subst e1
        have k : nt_rn X _ 58 (87, [(3, .int (nI j)), (2, .int (Int32.ofInt 1)), (0, .ref RR), (1, .int (nI dep))], [], me_w M J1) _ := k
        have k := lz_rv rfl rfl k
        exact ⟨1, .inr (z.1, z.2.1, lb_oe z.2.2 true), _, k, Or.inr (Or.inr ⟨(fun hh => absurd hh.1 (by omega)), (fun hh => absurd hh.1 (by omega)), rfl⟩), hS1, hp⟩
      · rw [if_neg (show ¬ ((Int32.ofInt 400) ≤ (nI j)) from show ¬ nI 400 ≤ nI j from nI_ge (Nat.not_le.mp h13) (by omega))] at k
        have k := ly_revb 1 (c' := (17, [(3, .int (nI j)), (2, .int (Int32.ofInt 1)), (0, .ref RR), (1, .int (nI dep))], [.ref RR], me_w M J)) rfl k
        have k := lz_get (a := RR) (g := 500) (M := me_w M J) (v := .ref Rd) rfl (nt_gfR rfl hP.1.2.2.1) k
        have k := ly_revb 1 (c' := (22, [(3, .int (nI j)), (2, .int (Int32.ofInt 1)), (0, .ref RR), (1, .int (nI dep))], [.ref (nt_sp + 1 + 16), .ref Rd], me_w M J)) rfl k
        obtain ⟨d1, o1, ed, kc, k⟩ := lz_c (g := 32) (q := 1) (vs := [.ref Rd, .ref (nt_sp + 1 + 16)]) (rest := []) rfl rfl (by decide) (Or.inr (Or.inl ⟨_, rfl, rfl⟩)) rfl k
        rcases lc_takesWord hP hS hp kc with ⟨hw16, e1⟩ | ⟨hw16, e1⟩
        · subst e1
          have hwl := hw16.1
          have hS1 := lc_Spp (q := lb_s f t (z.1 + (lb_W (nt_sp + 1 + 16)).length)) hP hS
          have hp1 : lb_s f t (z.1 + (lb_W (nt_sp + 1 + 16)).length) ≤ t := (lb_s_le (t - (z.1 + (lb_W (nt_sp + 1 + 16)).length)) (z.1 + (lb_W (nt_sp + 1 + 16)).length) (by omega)).2
          have hg1 := (lb_s_le (f := f) (t := t) (t - (z.1 + (lb_W (nt_sp + 1 + 16)).length)) (z.1 + (lb_W (nt_sp + 1 + 16)).length) (by omega)).1
          have k : nt_rn X _ 58 (25, [(3, .int (nI j)), (2, .int (Int32.ofInt 1)), (0, .ref RR), (1, .int (nI dep))], [.int (Int32.ofInt 1)], me_w M (nt_u J Rd 1 (nI (lb_s f t (z.1 + (lb_W (nt_sp + 1 + 16)).length))))) _ := k
          have k := ly_revb 1 (c' := (if (Int32.ofInt 1) = 0 then 42 else 28, [(3, .int (nI j)), (2, .int (Int32.ofInt 1)), (0, .ref RR), (1, .int (nI dep))], [], me_w M (nt_u J Rd 1 (nI (lb_s f t (z.1 + (lb_W (nt_sp + 1 + 16)).length)))))) rfl k
          rw [if_neg (show ¬ ((Int32.ofInt 1) = 0) from by decide)] at k
          have k := ly_revb 2 (c' := (30, [(3, .int (nI j)), (2, .int (Int32.ofInt 1)), (0, .ref RR), (1, .int (nI dep))], [.int (nI dep), .ref RR], me_w M (nt_u J Rd 1 (nI (lb_s f t (z.1 + (lb_W (nt_sp + 1 + 16)).length)))))) rfl k
          obtain ⟨d1, o1, ed, kc, k⟩ := lz_c (g := 59) (q := 1) (vs := [.ref RR, .int (nI dep)]) (rest := []) rfl rfl (by decide) (Or.inr (Or.inl ⟨_, rfl, rfl⟩)) rfl k
          obtain ⟨k21, r21, J21, e1, hv21, hq21⟩ := (ih0 d1 ed) dep _ _ z.2.2 _ _ hS1 hp1 (by omega) kc
          subst e1
          cases r21 with
          | inl c21 =>
            obtain ⟨hfa, m21, s21, hS21⟩ := hq21
            have k : nt_rn X _ 58 (33, [(3, .int (nI j)), (2, .int (Int32.ofInt 1)), (0, .ref RR), (1, .int (nI dep))], [], me_w M J21) _ := k
            have k := ly_revb 2 (c' := (36, [(3, .int (nI j)), (2, .int (Int32.ofInt 1)), (0, .ref RR), (1, .int (nI dep))], [.int (Int32.ofInt 19), .ref RR], me_w M J21)) rfl k
            obtain ⟨d1, o1, ed, kc, k⟩ := lz_c (g := 54) (q := 1) (vs := [.ref RR, .int (Int32.ofInt 19)]) (rest := []) rfl rfl (by decide) (Or.inr (Or.inl ⟨_, rfl, rfl⟩)) rfl k
            obtain ⟨J2, e1, hS2⟩ := lc_add hP hS21 (Nat.le_refl t) kc
            subst e1
            have k : nt_rn X _ 58 (39, [(3, .int (nI j)), (2, .int (Int32.ofInt 1)), (0, .ref RR), (1, .int (nI dep))], [], me_w M J2) _ := k
            have k := ly_revb 2 (c' := (74, [(3, .int ((nI j) + Int32.ofInt 1)), (2, .int (Int32.ofInt 1)), (0, .ref RR), (1, .int (nI dep))], [], me_w M J2)) rfl k
            rw [show ((nI j) + Int32.ofInt 1 : Int32) = nI (j + 1) from me_add (k := 1)] at k
            have k := ly_revb 1 (c' := (9, [(3, .int (nI (j + 1))), (2, .int (Int32.ofInt 1)), (0, .ref RR), (1, .int (nI dep))], [], me_w M J2)) rfl k
            have k := ly_revb 3 (c' := (if (Int32.ofInt 400) ≤ (nI (j + 1)) then 77 else 16, [(3, .int (nI (j + 1))), (2, .int (Int32.ofInt 1)), (0, .ref RR), (1, .int (nI dep))], [], me_w M J2)) rfl k
            by_cases h13' : 400 ≤ (j + 1)
            · rw [if_pos (show (Int32.ofInt 400) ≤ (nI (j + 1)) from show nI 400 ≤ nI ((j + 1)) from nI_le h13' (by omega))] at k
              have k := ly_revb 2 (c' := (if (Int32.ofInt 1) = 0 then 87 else 81, [(3, .int (nI (j + 1))), (2, .int (Int32.ofInt 1)), (0, .ref RR), (1, .int (nI dep))], [], me_w M J2)) rfl k
              rw [if_neg (show ¬ ((Int32.ofInt 1) = 0) from by decide)] at k
              have k := ly_revb 2 (c' := (84, [(3, .int (nI (j + 1))), (2, .int (Int32.ofInt 1)), (0, .ref RR), (1, .int (nI dep))], [.int (Int32.ofInt 20), .ref RR], me_w M J2)) rfl k
              obtain ⟨d1, o1, ed, kc, k⟩ := lz_c (g := 54) (q := 1) (vs := [.ref RR, .int (Int32.ofInt 20)]) (rest := []) rfl rfl (by decide) (Or.inr (Or.inl ⟨_, rfl, rfl⟩)) rfl k
              obtain ⟨J3, e1, hS3⟩ := lc_add hP hS2 (Nat.le_refl t) kc
              subst e1
              have k : nt_rn X _ 58 (87, [(3, .int (nI (j + 1))), (2, .int (Int32.ofInt 1)), (0, .ref RR), (1, .int (nI dep))], [], me_w M J3) _ := k
              have k := lz_rv rfl rfl k
              exact ⟨k21 + 1, .inl (c21), _, k, Or.inl ⟨hw16, _, hv21, Or.inl ⟨_, rfl, rfl⟩⟩, hfa, _, _, hS3⟩
            · rw [if_neg (show ¬ ((Int32.ofInt 400) ≤ (nI (j + 1))) from show ¬ nI 400 ≤ nI ((j + 1)) from nI_ge (Nat.not_le.mp h13') (by omega))] at k
              have k := ly_revb 1 (c' := (17, [(3, .int (nI (j + 1))), (2, .int (Int32.ofInt 1)), (0, .ref RR), (1, .int (nI dep))], [.ref RR], me_w M J2)) rfl k
              have k := lz_get (a := RR) (g := 500) (M := me_w M J2) (v := .ref Rd) rfl (nt_gfR rfl hP.1.2.2.1) k
              have k := ly_revb 1 (c' := (22, [(3, .int (nI (j + 1))), (2, .int (Int32.ofInt 1)), (0, .ref RR), (1, .int (nI dep))], [.ref (nt_sp + 1 + 16), .ref Rd], me_w M J2)) rfl k
              obtain ⟨d1, o1, ed, kc, k⟩ := lz_c (g := 32) (q := 1) (vs := [.ref Rd, .ref (nt_sp + 1 + 16)]) (rest := []) rfl rfl (by decide) (Or.inr (Or.inl ⟨_, rfl, rfl⟩)) rfl k
              obtain ⟨hn, e1⟩ := (lc_takesWord hP hS2 (Nat.le_refl t) kc).resolve_left (fun hh => lb_at_t (by decide) hh.1)
              subst e1
              have k : nt_rn X _ 58 (25, [(3, .int (nI (j + 1))), (2, .int (Int32.ofInt 1)), (0, .ref RR), (1, .int (nI dep))], [.int (Int32.ofInt 0)], me_w M J2) _ := k
              have k := ly_revb 1 (c' := (if (Int32.ofInt 0) = 0 then 42 else 28, [(3, .int (nI (j + 1))), (2, .int (Int32.ofInt 1)), (0, .ref RR), (1, .int (nI dep))], [], me_w M J2)) rfl k
              rw [if_pos (show (Int32.ofInt 0) = 0 from by decide)] at k
              have k := ly_revb 1 (c' := (43, [(3, .int (nI (j + 1))), (2, .int (Int32.ofInt 1)), (0, .ref RR), (1, .int (nI dep))], [.ref RR], me_w M J2)) rfl k
              have k := lz_get (a := RR) (g := 500) (M := me_w M J2) (v := .ref Rd) rfl (nt_gfR rfl hP.1.2.2.1) k
              have k := ly_revb 1 (c' := (48, [(3, .int (nI (j + 1))), (2, .int (Int32.ofInt 1)), (0, .ref RR), (1, .int (nI dep))], [.ref (nt_sp + 1 + 17), .ref Rd], me_w M J2)) rfl k
              obtain ⟨d1, o1, ed, kc, k⟩ := lz_c (g := 32) (q := 1) (vs := [.ref Rd, .ref (nt_sp + 1 + 17)]) (rest := []) rfl rfl (by decide) (Or.inr (Or.inl ⟨_, rfl, rfl⟩)) rfl k
              obtain ⟨hn, e1⟩ := (lc_takesWord hP hS2 (Nat.le_refl t) kc).resolve_left (fun hh => lb_at_t (by decide) hh.1)
              subst e1
              have k : nt_rn X _ 58 (51, [(3, .int (nI (j + 1))), (2, .int (Int32.ofInt 1)), (0, .ref RR), (1, .int (nI dep))], [.int (Int32.ofInt 0)], me_w M J2) _ := k
              have k := ly_revb 1 (c' := (if (Int32.ofInt 0) = 0 then 77 else 54, [(3, .int (nI (j + 1))), (2, .int (Int32.ofInt 1)), (0, .ref RR), (1, .int (nI dep))], [], me_w M J2)) rfl k
              rw [if_pos (show (Int32.ofInt 0) = 0 from by decide)] at k
              have k := ly_revb 2 (c' := (if (Int32.ofInt 1) = 0 then 87 else 81, [(3, .int (nI (j + 1))), (2, .int (Int32.ofInt 1)), (0, .ref RR), (1, .int (nI dep))], [], me_w M J2)) rfl k
              rw [if_neg (show ¬ ((Int32.ofInt 1) = 0) from by decide)] at k
              have k := ly_revb 2 (c' := (84, [(3, .int (nI (j + 1))), (2, .int (Int32.ofInt 1)), (0, .ref RR), (1, .int (nI dep))], [.int (Int32.ofInt 20), .ref RR], me_w M J2)) rfl k
              obtain ⟨d1, o1, ed, kc, k⟩ := lz_c (g := 54) (q := 1) (vs := [.ref RR, .int (Int32.ofInt 20)]) (rest := []) rfl rfl (by decide) (Or.inr (Or.inl ⟨_, rfl, rfl⟩)) rfl k
              obtain ⟨J3, e1, hS3⟩ := lc_add hP hS2 (Nat.le_refl t) kc
              subst e1
              have k : nt_rn X _ 58 (87, [(3, .int (nI (j + 1))), (2, .int (Int32.ofInt 1)), (0, .ref RR), (1, .int (nI dep))], [], me_w M J3) _ := k
              have k := lz_rv rfl rfl k
              exact ⟨k21 + 1, .inl (c21), _, k, Or.inl ⟨hw16, _, hv21, Or.inl ⟨_, rfl, rfl⟩⟩, hfa, _, _, hS3⟩
          | inr z21 =>
            obtain ⟨hS21, hp21⟩ := hq21
            have k : nt_rn X _ 58 (33, [(3, .int (nI j)), (2, .int (Int32.ofInt 1)), (0, .ref RR), (1, .int (nI dep))], [], me_w M J21) _ := k
            have k := ly_revb 2 (c' := (36, [(3, .int (nI j)), (2, .int (Int32.ofInt 1)), (0, .ref RR), (1, .int (nI dep))], [.int (Int32.ofInt 19), .ref RR], me_w M J21)) rfl k
            obtain ⟨d1, o1, ed, kc, k⟩ := lz_c (g := 54) (q := 1) (vs := [.ref RR, .int (Int32.ofInt 19)]) (rest := []) rfl rfl (by decide) (Or.inr (Or.inl ⟨_, rfl, rfl⟩)) rfl k
            obtain ⟨J2, e1, hS2⟩ := lc_add hP hS21 hp21 kc
            subst e1
            have k : nt_rn X _ 58 (39, [(3, .int (nI j)), (2, .int (Int32.ofInt 1)), (0, .ref RR), (1, .int (nI dep))], [], me_w M J2) _ := k
            have k := ly_revb 2 (c' := (74, [(3, .int ((nI j) + Int32.ofInt 1)), (2, .int (Int32.ofInt 1)), (0, .ref RR), (1, .int (nI dep))], [], me_w M J2)) rfl k
            rw [show ((nI j) + Int32.ofInt 1 : Int32) = nI (j + 1) from me_add (k := 1)] at k
            have k := ly_revb 1 (c' := (9, [(3, .int (nI (j + 1))), (2, .int (Int32.ofInt 1)), (0, .ref RR), (1, .int (nI dep))], [], me_w M J2)) rfl k
            have hup := lb_ft_up _ _ _ _ _ _ hp1 hv21
            dsimp only at hup
            have hu3 := hup.2.2 rfl
            obtain ⟨k1, r1, J7, e2, hsr, hq⟩ := ih (t - z21.1) (by omega) (j + 1) true (z21.1, z21.2.1, lb_em z21.2.2 (Int32.ofInt 19) (Int32.ofInt 12)) _ rfl hp21 (by dsimp only; omega) hS2 k
            exact ⟨k21 + k1 + 1, r1, J7, e2, Or.inl ⟨hw16, _, lb_ft_le hv21 (by omega), Or.inr ⟨z21, rfl, lb_ft_le hsr (by omega)⟩⟩, hq⟩
        · subst e1
          have k : nt_rn X _ 58 (25, [(3, .int (nI j)), (2, .int (Int32.ofInt 1)), (0, .ref RR), (1, .int (nI dep))], [.int (Int32.ofInt 0)], me_w M J) _ := k
          have k := ly_revb 1 (c' := (if (Int32.ofInt 0) = 0 then 42 else 28, [(3, .int (nI j)), (2, .int (Int32.ofInt 1)), (0, .ref RR), (1, .int (nI dep))], [], me_w M J)) rfl k
          rw [if_pos (show (Int32.ofInt 0) = 0 from by decide)] at k
          have k := ly_revb 1 (c' := (43, [(3, .int (nI j)), (2, .int (Int32.ofInt 1)), (0, .ref RR), (1, .int (nI dep))], [.ref RR], me_w M J)) rfl k
          have k := lz_get (a := RR) (g := 500) (M := me_w M J) (v := .ref Rd) rfl (nt_gfR rfl hP.1.2.2.1) k
          have k := ly_revb 1 (c' := (48, [(3, .int (nI j)), (2, .int (Int32.ofInt 1)), (0, .ref RR), (1, .int (nI dep))], [.ref (nt_sp + 1 + 17), .ref Rd], me_w M J)) rfl k
          obtain ⟨d1, o1, ed, kc, k⟩ := lz_c (g := 32) (q := 1) (vs := [.ref Rd, .ref (nt_sp + 1 + 17)]) (rest := []) rfl rfl (by decide) (Or.inr (Or.inl ⟨_, rfl, rfl⟩)) rfl k
          rcases lc_takesWord hP hS hp kc with ⟨hw17, e1⟩ | ⟨hw17, e1⟩
          · subst e1
            have hwl := hw17.1
            have hS1 := lc_Spp (q := lb_s f t (z.1 + (lb_W (nt_sp + 1 + 17)).length)) hP hS
            have hp1 : lb_s f t (z.1 + (lb_W (nt_sp + 1 + 17)).length) ≤ t := (lb_s_le (t - (z.1 + (lb_W (nt_sp + 1 + 17)).length)) (z.1 + (lb_W (nt_sp + 1 + 17)).length) (by omega)).2
            have hg1 := (lb_s_le (f := f) (t := t) (t - (z.1 + (lb_W (nt_sp + 1 + 17)).length)) (z.1 + (lb_W (nt_sp + 1 + 17)).length) (by omega)).1
            have k : nt_rn X _ 58 (51, [(3, .int (nI j)), (2, .int (Int32.ofInt 1)), (0, .ref RR), (1, .int (nI dep))], [.int (Int32.ofInt 1)], me_w M (nt_u J Rd 1 (nI (lb_s f t (z.1 + (lb_W (nt_sp + 1 + 17)).length))))) _ := k
            have k := ly_revb 1 (c' := (if (Int32.ofInt 1) = 0 then 77 else 54, [(3, .int (nI j)), (2, .int (Int32.ofInt 1)), (0, .ref RR), (1, .int (nI dep))], [], me_w M (nt_u J Rd 1 (nI (lb_s f t (z.1 + (lb_W (nt_sp + 1 + 17)).length)))))) rfl k
            rw [if_neg (show ¬ ((Int32.ofInt 1) = 0) from by decide)] at k
            have k := ly_revb 2 (c' := (if (Int32.ofInt 1) = 0 then 64 else 58, [(3, .int (nI j)), (2, .int (Int32.ofInt 1)), (0, .ref RR), (1, .int (nI dep))], [], me_w M (nt_u J Rd 1 (nI (lb_s f t (z.1 + (lb_W (nt_sp + 1 + 17)).length)))))) rfl k
            rw [if_neg (show ¬ ((Int32.ofInt 1) = 0) from by decide)] at k
            have k := ly_revb 2 (c' := (61, [(3, .int (nI j)), (2, .int (Int32.ofInt 1)), (0, .ref RR), (1, .int (nI dep))], [.int (Int32.ofInt 20), .ref RR], me_w M (nt_u J Rd 1 (nI (lb_s f t (z.1 + (lb_W (nt_sp + 1 + 17)).length)))))) rfl k
            obtain ⟨d1, o1, ed, kc, k⟩ := lz_c (g := 54) (q := 1) (vs := [.ref RR, .int (Int32.ofInt 20)]) (rest := []) rfl rfl (by decide) (Or.inr (Or.inl ⟨_, rfl, rfl⟩)) rfl k
            obtain ⟨J2, e1, hS2⟩ := lc_add hP hS1 hp1 kc
            subst e1
            have k : nt_rn X _ 58 (64, [(3, .int (nI j)), (2, .int (Int32.ofInt 1)), (0, .ref RR), (1, .int (nI dep))], [], me_w M J2) _ := k
            have k := ly_revb 4 (c' := (68, [(2, .int (Int32.ofInt 1)), (3, .int (nI j)), (0, .ref RR), (1, .int (nI dep))], [.int (nI dep), .ref RR], me_w M J2)) rfl k
            obtain ⟨d1, o1, ed, kc, k⟩ := lz_c (g := 59) (q := 1) (vs := [.ref RR, .int (nI dep)]) (rest := []) rfl rfl (by decide) (Or.inr (Or.inl ⟨_, rfl, rfl⟩)) rfl k
            obtain ⟨k21, r21, J21, e1, hv21, hq21⟩ := (ih0 d1 ed) dep _ _ ((lb_em z.2.2 (Int32.ofInt 20) (Int32.ofInt 13))) _ _ hS2 hp1 (by omega) kc
            subst e1
            cases r21 with
            | inl c21 =>
              obtain ⟨hfa, m21, s21, hS21⟩ := hq21
              have k : nt_rn X _ 58 (71, [(2, .int (Int32.ofInt 1)), (3, .int (nI j)), (0, .ref RR), (1, .int (nI dep))], [], me_w M J21) _ := k
              have k := ly_revb 1 (c' := (74, [(3, .int ((nI j) + Int32.ofInt 1)), (2, .int (Int32.ofInt 1)), (0, .ref RR), (1, .int (nI dep))], [], me_w M J21)) rfl k
              rw [show ((nI j) + Int32.ofInt 1 : Int32) = nI (j + 1) from me_add (k := 1)] at k
              have k := ly_revb 1 (c' := (9, [(3, .int (nI (j + 1))), (2, .int (Int32.ofInt 1)), (0, .ref RR), (1, .int (nI dep))], [], me_w M J21)) rfl k
              have k := ly_revb 3 (c' := (if (Int32.ofInt 400) ≤ (nI (j + 1)) then 77 else 16, [(3, .int (nI (j + 1))), (2, .int (Int32.ofInt 1)), (0, .ref RR), (1, .int (nI dep))], [], me_w M J21)) rfl k
              by_cases h13' : 400 ≤ (j + 1)
              · rw [if_pos (show (Int32.ofInt 400) ≤ (nI (j + 1)) from show nI 400 ≤ nI ((j + 1)) from nI_le h13' (by omega))] at k
                have k := ly_revb 2 (c' := (if (Int32.ofInt 1) = 0 then 87 else 81, [(3, .int (nI (j + 1))), (2, .int (Int32.ofInt 1)), (0, .ref RR), (1, .int (nI dep))], [], me_w M J21)) rfl k
                rw [if_neg (show ¬ ((Int32.ofInt 1) = 0) from by decide)] at k
                have k := ly_revb 2 (c' := (84, [(3, .int (nI (j + 1))), (2, .int (Int32.ofInt 1)), (0, .ref RR), (1, .int (nI dep))], [.int (Int32.ofInt 20), .ref RR], me_w M J21)) rfl k
                obtain ⟨d1, o1, ed, kc, k⟩ := lz_c (g := 54) (q := 1) (vs := [.ref RR, .int (Int32.ofInt 20)]) (rest := []) rfl rfl (by decide) (Or.inr (Or.inl ⟨_, rfl, rfl⟩)) rfl k
                obtain ⟨J3, e1, hS3⟩ := lc_add hP hS21 (Nat.le_refl t) kc
                subst e1
                have k : nt_rn X _ 58 (87, [(3, .int (nI (j + 1))), (2, .int (Int32.ofInt 1)), (0, .ref RR), (1, .int (nI dep))], [], me_w M J3) _ := k
                have k := lz_rv rfl rfl k
                exact ⟨k21 + 1, .inl (c21), _, k, Or.inr (Or.inl ⟨hw16, hw17, _, hv21, Or.inl ⟨_, rfl, rfl⟩⟩), hfa, _, _, hS3⟩
              · rw [if_neg (show ¬ ((Int32.ofInt 400) ≤ (nI (j + 1))) from show ¬ nI 400 ≤ nI ((j + 1)) from nI_ge (Nat.not_le.mp h13') (by omega))] at k
                have k := ly_revb 1 (c' := (17, [(3, .int (nI (j + 1))), (2, .int (Int32.ofInt 1)), (0, .ref RR), (1, .int (nI dep))], [.ref RR], me_w M J21)) rfl k
                have k := lz_get (a := RR) (g := 500) (M := me_w M J21) (v := .ref Rd) rfl (nt_gfR rfl hP.1.2.2.1) k
                have k := ly_revb 1 (c' := (22, [(3, .int (nI (j + 1))), (2, .int (Int32.ofInt 1)), (0, .ref RR), (1, .int (nI dep))], [.ref (nt_sp + 1 + 16), .ref Rd], me_w M J21)) rfl k
                obtain ⟨d1, o1, ed, kc, k⟩ := lz_c (g := 32) (q := 1) (vs := [.ref Rd, .ref (nt_sp + 1 + 16)]) (rest := []) rfl rfl (by decide) (Or.inr (Or.inl ⟨_, rfl, rfl⟩)) rfl k
                obtain ⟨hn, e1⟩ := (lc_takesWord hP hS21 (Nat.le_refl t) kc).resolve_left (fun hh => lb_at_t (by decide) hh.1)
                subst e1
                have k : nt_rn X _ 58 (25, [(3, .int (nI (j + 1))), (2, .int (Int32.ofInt 1)), (0, .ref RR), (1, .int (nI dep))], [.int (Int32.ofInt 0)], me_w M J21) _ := k
                have k := ly_revb 1 (c' := (if (Int32.ofInt 0) = 0 then 42 else 28, [(3, .int (nI (j + 1))), (2, .int (Int32.ofInt 1)), (0, .ref RR), (1, .int (nI dep))], [], me_w M J21)) rfl k
                rw [if_pos (show (Int32.ofInt 0) = 0 from by decide)] at k
                have k := ly_revb 1 (c' := (43, [(3, .int (nI (j + 1))), (2, .int (Int32.ofInt 1)), (0, .ref RR), (1, .int (nI dep))], [.ref RR], me_w M J21)) rfl k
                have k := lz_get (a := RR) (g := 500) (M := me_w M J21) (v := .ref Rd) rfl (nt_gfR rfl hP.1.2.2.1) k
                have k := ly_revb 1 (c' := (48, [(3, .int (nI (j + 1))), (2, .int (Int32.ofInt 1)), (0, .ref RR), (1, .int (nI dep))], [.ref (nt_sp + 1 + 17), .ref Rd], me_w M J21)) rfl k
                obtain ⟨d1, o1, ed, kc, k⟩ := lz_c (g := 32) (q := 1) (vs := [.ref Rd, .ref (nt_sp + 1 + 17)]) (rest := []) rfl rfl (by decide) (Or.inr (Or.inl ⟨_, rfl, rfl⟩)) rfl k
                obtain ⟨hn, e1⟩ := (lc_takesWord hP hS21 (Nat.le_refl t) kc).resolve_left (fun hh => lb_at_t (by decide) hh.1)
                subst e1
                have k : nt_rn X _ 58 (51, [(3, .int (nI (j + 1))), (2, .int (Int32.ofInt 1)), (0, .ref RR), (1, .int (nI dep))], [.int (Int32.ofInt 0)], me_w M J21) _ := k
                have k := ly_revb 1 (c' := (if (Int32.ofInt 0) = 0 then 77 else 54, [(3, .int (nI (j + 1))), (2, .int (Int32.ofInt 1)), (0, .ref RR), (1, .int (nI dep))], [], me_w M J21)) rfl k
                rw [if_pos (show (Int32.ofInt 0) = 0 from by decide)] at k
                have k := ly_revb 2 (c' := (if (Int32.ofInt 1) = 0 then 87 else 81, [(3, .int (nI (j + 1))), (2, .int (Int32.ofInt 1)), (0, .ref RR), (1, .int (nI dep))], [], me_w M J21)) rfl k
                rw [if_neg (show ¬ ((Int32.ofInt 1) = 0) from by decide)] at k
                have k := ly_revb 2 (c' := (84, [(3, .int (nI (j + 1))), (2, .int (Int32.ofInt 1)), (0, .ref RR), (1, .int (nI dep))], [.int (Int32.ofInt 20), .ref RR], me_w M J21)) rfl k
                obtain ⟨d1, o1, ed, kc, k⟩ := lz_c (g := 54) (q := 1) (vs := [.ref RR, .int (Int32.ofInt 20)]) (rest := []) rfl rfl (by decide) (Or.inr (Or.inl ⟨_, rfl, rfl⟩)) rfl k
                obtain ⟨J3, e1, hS3⟩ := lc_add hP hS21 (Nat.le_refl t) kc
                subst e1
                have k : nt_rn X _ 58 (87, [(3, .int (nI (j + 1))), (2, .int (Int32.ofInt 1)), (0, .ref RR), (1, .int (nI dep))], [], me_w M J3) _ := k
                have k := lz_rv rfl rfl k
                exact ⟨k21 + 1, .inl (c21), _, k, Or.inr (Or.inl ⟨hw16, hw17, _, hv21, Or.inl ⟨_, rfl, rfl⟩⟩), hfa, _, _, hS3⟩
            | inr z21 =>
              obtain ⟨hS21, hp21⟩ := hq21
              have k : nt_rn X _ 58 (71, [(2, .int (Int32.ofInt 1)), (3, .int (nI j)), (0, .ref RR), (1, .int (nI dep))], [], me_w M J21) _ := k
              have k := ly_revb 1 (c' := (74, [(3, .int ((nI j) + Int32.ofInt 1)), (2, .int (Int32.ofInt 1)), (0, .ref RR), (1, .int (nI dep))], [], me_w M J21)) rfl k
              rw [show ((nI j) + Int32.ofInt 1 : Int32) = nI (j + 1) from me_add (k := 1)] at k
              have k := ly_revb 1 (c' := (9, [(3, .int (nI (j + 1))), (2, .int (Int32.ofInt 1)), (0, .ref RR), (1, .int (nI dep))], [], me_w M J21)) rfl k
              have hup := lb_ft_up _ _ _ _ _ _ hp1 hv21
              dsimp only at hup
              have hu3 := hup.2.2 rfl
              obtain ⟨k1, r1, J7, e2, hsr, hq⟩ := ih (t - z21.1) (by omega) (j + 1) true z21 _ rfl hp21 (by omega) hS21 k
              exact ⟨k21 + k1 + 1, r1, J7, e2, Or.inr (Or.inl ⟨hw16, hw17, _, lb_ft_le hv21 (by omega), Or.inr ⟨z21, rfl, lb_ft_le hsr (by omega)⟩⟩), hq⟩
          · subst e1
            have k : nt_rn X _ 58 (51, [(3, .int (nI j)), (2, .int (Int32.ofInt 1)), (0, .ref RR), (1, .int (nI dep))], [.int (Int32.ofInt 0)], me_w M J) _ := k
            have k := ly_revb 1 (c' := (if (Int32.ofInt 0) = 0 then 77 else 54, [(3, .int (nI j)), (2, .int (Int32.ofInt 1)), (0, .ref RR), (1, .int (nI dep))], [], me_w M J)) rfl k
            rw [if_pos (show (Int32.ofInt 0) = 0 from by decide)] at k
            have k := ly_revb 2 (c' := (if (Int32.ofInt 1) = 0 then 87 else 81, [(3, .int (nI j)), (2, .int (Int32.ofInt 1)), (0, .ref RR), (1, .int (nI dep))], [], me_w M J)) rfl k
            rw [if_neg (show ¬ ((Int32.ofInt 1) = 0) from by decide)] at k
            have k := ly_revb 2 (c' := (84, [(3, .int (nI j)), (2, .int (Int32.ofInt 1)), (0, .ref RR), (1, .int (nI dep))], [.int (Int32.ofInt 20), .ref RR], me_w M J)) rfl k
            obtain ⟨d1, o1, ed, kc, k⟩ := lz_c (g := 54) (q := 1) (vs := [.ref RR, .int (Int32.ofInt 20)]) (rest := []) rfl rfl (by decide) (Or.inr (Or.inl ⟨_, rfl, rfl⟩)) rfl k
            obtain ⟨J1, e1, hS1⟩ := lc_add hP hS hp kc
            subst e1
            have k : nt_rn X _ 58 (87, [(3, .int (nI j)), (2, .int (Int32.ofInt 1)), (0, .ref RR), (1, .int (nI dep))], [], me_w M J1) _ := k
            have k := lz_rv rfl rfl k
            exact ⟨1, .inr (z.1, z.2.1, lb_oe z.2.2 true), _, k, Or.inr (Or.inr ⟨hw16, hw17, rfl⟩), hS1, hp⟩
    | false =>
      have k : nt_rn X n 58 (9, [(3, .int (nI j)), (2, .int (Int32.ofInt 0)), (0, .ref RR), (1, .int (nI dep))], [], me_w M J) o := k
      have k := ly_revb 3 (c' := (if (Int32.ofInt 400) ≤ (nI j) then 77 else 16, [(3, .int (nI j)), (2, .int (Int32.ofInt 0)), (0, .ref RR), (1, .int (nI dep))], [], me_w M J)) rfl k
      by_cases h13 : 400 ≤ j
      · rw [if_pos (show (Int32.ofInt 400) ≤ (nI j) from show nI 400 ≤ nI j from nI_le h13 (by omega))] at k
        have k := ly_revb 2 (c' := (if (Int32.ofInt 0) = 0 then 87 else 81, [(3, .int (nI j)), (2, .int (Int32.ofInt 0)), (0, .ref RR), (1, .int (nI dep))], [], me_w M J)) rfl k
        rw [if_pos (show (Int32.ofInt 0) = 0 from by decide)] at k
        have k := lz_rv rfl rfl k
        exact ⟨1, .inr (z.1, z.2.1, lb_oe z.2.2 false), _, k, Or.inr (Or.inr ⟨(fun hh => absurd hh.1 (by omega)), (fun hh => absurd hh.1 (by omega)), rfl⟩), hS, hp⟩
      · rw [if_neg (show ¬ ((Int32.ofInt 400) ≤ (nI j)) from show ¬ nI 400 ≤ nI j from nI_ge (Nat.not_le.mp h13) (by omega))] at k
        have k := ly_revb 1 (c' := (17, [(3, .int (nI j)), (2, .int (Int32.ofInt 0)), (0, .ref RR), (1, .int (nI dep))], [.ref RR], me_w M J)) rfl k
        have k := lz_get (a := RR) (g := 500) (M := me_w M J) (v := .ref Rd) rfl (nt_gfR rfl hP.1.2.2.1) k
        have k := ly_revb 1 (c' := (22, [(3, .int (nI j)), (2, .int (Int32.ofInt 0)), (0, .ref RR), (1, .int (nI dep))], [.ref (nt_sp + 1 + 16), .ref Rd], me_w M J)) rfl k
        obtain ⟨d1, o1, ed, kc, k⟩ := lz_c (g := 32) (q := 1) (vs := [.ref Rd, .ref (nt_sp + 1 + 16)]) (rest := []) rfl rfl (by decide) (Or.inr (Or.inl ⟨_, rfl, rfl⟩)) rfl k
        rcases lc_takesWord hP hS hp kc with ⟨hw16, e1⟩ | ⟨hw16, e1⟩
        · subst e1
          have hwl := hw16.1
          have hS1 := lc_Spp (q := lb_s f t (z.1 + (lb_W (nt_sp + 1 + 16)).length)) hP hS
          have hp1 : lb_s f t (z.1 + (lb_W (nt_sp + 1 + 16)).length) ≤ t := (lb_s_le (t - (z.1 + (lb_W (nt_sp + 1 + 16)).length)) (z.1 + (lb_W (nt_sp + 1 + 16)).length) (by omega)).2
          have hg1 := (lb_s_le (f := f) (t := t) (t - (z.1 + (lb_W (nt_sp + 1 + 16)).length)) (z.1 + (lb_W (nt_sp + 1 + 16)).length) (by omega)).1
          have k : nt_rn X _ 58 (25, [(3, .int (nI j)), (2, .int (Int32.ofInt 0)), (0, .ref RR), (1, .int (nI dep))], [.int (Int32.ofInt 1)], me_w M (nt_u J Rd 1 (nI (lb_s f t (z.1 + (lb_W (nt_sp + 1 + 16)).length))))) _ := k
          have k := ly_revb 1 (c' := (if (Int32.ofInt 1) = 0 then 42 else 28, [(3, .int (nI j)), (2, .int (Int32.ofInt 0)), (0, .ref RR), (1, .int (nI dep))], [], me_w M (nt_u J Rd 1 (nI (lb_s f t (z.1 + (lb_W (nt_sp + 1 + 16)).length)))))) rfl k
          rw [if_neg (show ¬ ((Int32.ofInt 1) = 0) from by decide)] at k
          have k := ly_revb 2 (c' := (30, [(3, .int (nI j)), (2, .int (Int32.ofInt 0)), (0, .ref RR), (1, .int (nI dep))], [.int (nI dep), .ref RR], me_w M (nt_u J Rd 1 (nI (lb_s f t (z.1 + (lb_W (nt_sp + 1 + 16)).length)))))) rfl k
          obtain ⟨d1, o1, ed, kc, k⟩ := lz_c (g := 59) (q := 1) (vs := [.ref RR, .int (nI dep)]) (rest := []) rfl rfl (by decide) (Or.inr (Or.inl ⟨_, rfl, rfl⟩)) rfl k
          obtain ⟨k21, r21, J21, e1, hv21, hq21⟩ := (ih0 d1 ed) dep _ _ z.2.2 _ _ hS1 hp1 (by omega) kc
          subst e1
          cases r21 with
          | inl c21 =>
            obtain ⟨hfa, m21, s21, hS21⟩ := hq21
            have k : nt_rn X _ 58 (33, [(3, .int (nI j)), (2, .int (Int32.ofInt 0)), (0, .ref RR), (1, .int (nI dep))], [], me_w M J21) _ := k
            have k := ly_revb 2 (c' := (36, [(3, .int (nI j)), (2, .int (Int32.ofInt 0)), (0, .ref RR), (1, .int (nI dep))], [.int (Int32.ofInt 19), .ref RR], me_w M J21)) rfl k
            obtain ⟨d1, o1, ed, kc, k⟩ := lz_c (g := 54) (q := 1) (vs := [.ref RR, .int (Int32.ofInt 19)]) (rest := []) rfl rfl (by decide) (Or.inr (Or.inl ⟨_, rfl, rfl⟩)) rfl k
            obtain ⟨J2, e1, hS2⟩ := lc_add hP hS21 (Nat.le_refl t) kc
            subst e1
            have k : nt_rn X _ 58 (39, [(3, .int (nI j)), (2, .int (Int32.ofInt 0)), (0, .ref RR), (1, .int (nI dep))], [], me_w M J2) _ := k
            have k := ly_revb 2 (c' := (74, [(3, .int ((nI j) + Int32.ofInt 1)), (2, .int (Int32.ofInt 0)), (0, .ref RR), (1, .int (nI dep))], [], me_w M J2)) rfl k
            rw [show ((nI j) + Int32.ofInt 1 : Int32) = nI (j + 1) from me_add (k := 1)] at k
            have k := ly_revb 1 (c' := (9, [(3, .int (nI (j + 1))), (2, .int (Int32.ofInt 0)), (0, .ref RR), (1, .int (nI dep))], [], me_w M J2)) rfl k
            have k := ly_revb 3 (c' := (if (Int32.ofInt 400) ≤ (nI (j + 1)) then 77 else 16, [(3, .int (nI (j + 1))), (2, .int (Int32.ofInt 0)), (0, .ref RR), (1, .int (nI dep))], [], me_w M J2)) rfl k
            by_cases h13' : 400 ≤ (j + 1)
            · rw [if_pos (show (Int32.ofInt 400) ≤ (nI (j + 1)) from show nI 400 ≤ nI ((j + 1)) from nI_le h13' (by omega))] at k
              have k := ly_revb 2 (c' := (if (Int32.ofInt 0) = 0 then 87 else 81, [(3, .int (nI (j + 1))), (2, .int (Int32.ofInt 0)), (0, .ref RR), (1, .int (nI dep))], [], me_w M J2)) rfl k
              rw [if_pos (show (Int32.ofInt 0) = 0 from by decide)] at k
              have k := lz_rv rfl rfl k
              exact ⟨k21 + 1, .inl (c21), _, k, Or.inl ⟨hw16, _, hv21, Or.inl ⟨_, rfl, rfl⟩⟩, hfa, _, _, hS2⟩
            · rw [if_neg (show ¬ ((Int32.ofInt 400) ≤ (nI (j + 1))) from show ¬ nI 400 ≤ nI ((j + 1)) from nI_ge (Nat.not_le.mp h13') (by omega))] at k
              have k := ly_revb 1 (c' := (17, [(3, .int (nI (j + 1))), (2, .int (Int32.ofInt 0)), (0, .ref RR), (1, .int (nI dep))], [.ref RR], me_w M J2)) rfl k
              have k := lz_get (a := RR) (g := 500) (M := me_w M J2) (v := .ref Rd) rfl (nt_gfR rfl hP.1.2.2.1) k
              have k := ly_revb 1 (c' := (22, [(3, .int (nI (j + 1))), (2, .int (Int32.ofInt 0)), (0, .ref RR), (1, .int (nI dep))], [.ref (nt_sp + 1 + 16), .ref Rd], me_w M J2)) rfl k
              obtain ⟨d1, o1, ed, kc, k⟩ := lz_c (g := 32) (q := 1) (vs := [.ref Rd, .ref (nt_sp + 1 + 16)]) (rest := []) rfl rfl (by decide) (Or.inr (Or.inl ⟨_, rfl, rfl⟩)) rfl k
              obtain ⟨hn, e1⟩ := (lc_takesWord hP hS2 (Nat.le_refl t) kc).resolve_left (fun hh => lb_at_t (by decide) hh.1)
              subst e1
              have k : nt_rn X _ 58 (25, [(3, .int (nI (j + 1))), (2, .int (Int32.ofInt 0)), (0, .ref RR), (1, .int (nI dep))], [.int (Int32.ofInt 0)], me_w M J2) _ := k
              have k := ly_revb 1 (c' := (if (Int32.ofInt 0) = 0 then 42 else 28, [(3, .int (nI (j + 1))), (2, .int (Int32.ofInt 0)), (0, .ref RR), (1, .int (nI dep))], [], me_w M J2)) rfl k
              rw [if_pos (show (Int32.ofInt 0) = 0 from by decide)] at k
              have k := ly_revb 1 (c' := (43, [(3, .int (nI (j + 1))), (2, .int (Int32.ofInt 0)), (0, .ref RR), (1, .int (nI dep))], [.ref RR], me_w M J2)) rfl k
              have k := lz_get (a := RR) (g := 500) (M := me_w M J2) (v := .ref Rd) rfl (nt_gfR rfl hP.1.2.2.1) k
              have k := ly_revb 1 (c' := (48, [(3, .int (nI (j + 1))), (2, .int (Int32.ofInt 0)), (0, .ref RR), (1, .int (nI dep))], [.ref (nt_sp + 1 + 17), .ref Rd], me_w M J2)) rfl k
              obtain ⟨d1, o1, ed, kc, k⟩ := lz_c (g := 32) (q := 1) (vs := [.ref Rd, .ref (nt_sp + 1 + 17)]) (rest := []) rfl rfl (by decide) (Or.inr (Or.inl ⟨_, rfl, rfl⟩)) rfl k
              obtain ⟨hn, e1⟩ := (lc_takesWord hP hS2 (Nat.le_refl t) kc).resolve_left (fun hh => lb_at_t (by decide) hh.1)
              subst e1
              have k : nt_rn X _ 58 (51, [(3, .int (nI (j + 1))), (2, .int (Int32.ofInt 0)), (0, .ref RR), (1, .int (nI dep))], [.int (Int32.ofInt 0)], me_w M J2) _ := k
              have k := ly_revb 1 (c' := (if (Int32.ofInt 0) = 0 then 77 else 54, [(3, .int (nI (j + 1))), (2, .int (Int32.ofInt 0)), (0, .ref RR), (1, .int (nI dep))], [], me_w M J2)) rfl k
              rw [if_pos (show (Int32.ofInt 0) = 0 from by decide)] at k
              have k := ly_revb 2 (c' := (if (Int32.ofInt 0) = 0 then 87 else 81, [(3, .int (nI (j + 1))), (2, .int (Int32.ofInt 0)), (0, .ref RR), (1, .int (nI dep))], [], me_w M J2)) rfl k
              rw [if_pos (show (Int32.ofInt 0) = 0 from by decide)] at k
              have k := lz_rv rfl rfl k
              exact ⟨k21 + 1, .inl (c21), _, k, Or.inl ⟨hw16, _, hv21, Or.inl ⟨_, rfl, rfl⟩⟩, hfa, _, _, hS2⟩
          | inr z21 =>
            obtain ⟨hS21, hp21⟩ := hq21
            have k : nt_rn X _ 58 (33, [(3, .int (nI j)), (2, .int (Int32.ofInt 0)), (0, .ref RR), (1, .int (nI dep))], [], me_w M J21) _ := k
            have k := ly_revb 2 (c' := (36, [(3, .int (nI j)), (2, .int (Int32.ofInt 0)), (0, .ref RR), (1, .int (nI dep))], [.int (Int32.ofInt 19), .ref RR], me_w M J21)) rfl k
            obtain ⟨d1, o1, ed, kc, k⟩ := lz_c (g := 54) (q := 1) (vs := [.ref RR, .int (Int32.ofInt 19)]) (rest := []) rfl rfl (by decide) (Or.inr (Or.inl ⟨_, rfl, rfl⟩)) rfl k
            obtain ⟨J2, e1, hS2⟩ := lc_add hP hS21 hp21 kc
            subst e1
            have k : nt_rn X _ 58 (39, [(3, .int (nI j)), (2, .int (Int32.ofInt 0)), (0, .ref RR), (1, .int (nI dep))], [], me_w M J2) _ := k
            have k := ly_revb 2 (c' := (74, [(3, .int ((nI j) + Int32.ofInt 1)), (2, .int (Int32.ofInt 0)), (0, .ref RR), (1, .int (nI dep))], [], me_w M J2)) rfl k
            rw [show ((nI j) + Int32.ofInt 1 : Int32) = nI (j + 1) from me_add (k := 1)] at k
            have k := ly_revb 1 (c' := (9, [(3, .int (nI (j + 1))), (2, .int (Int32.ofInt 0)), (0, .ref RR), (1, .int (nI dep))], [], me_w M J2)) rfl k
            have hup := lb_ft_up _ _ _ _ _ _ hp1 hv21
            dsimp only at hup
            have hu3 := hup.2.2 rfl
            obtain ⟨k1, r1, J7, e2, hsr, hq⟩ := ih (t - z21.1) (by omega) (j + 1) false (z21.1, z21.2.1, lb_em z21.2.2 (Int32.ofInt 19) (Int32.ofInt 12)) _ rfl hp21 (by dsimp only; omega) hS2 k
            exact ⟨k21 + k1 + 1, r1, J7, e2, Or.inl ⟨hw16, _, lb_ft_le hv21 (by omega), Or.inr ⟨z21, rfl, lb_ft_le hsr (by omega)⟩⟩, hq⟩
        · subst e1
          have k : nt_rn X _ 58 (25, [(3, .int (nI j)), (2, .int (Int32.ofInt 0)), (0, .ref RR), (1, .int (nI dep))], [.int (Int32.ofInt 0)], me_w M J) _ := k
          have k := ly_revb 1 (c' := (if (Int32.ofInt 0) = 0 then 42 else 28, [(3, .int (nI j)), (2, .int (Int32.ofInt 0)), (0, .ref RR), (1, .int (nI dep))], [], me_w M J)) rfl k
          rw [if_pos (show (Int32.ofInt 0) = 0 from by decide)] at k
          have k := ly_revb 1 (c' := (43, [(3, .int (nI j)), (2, .int (Int32.ofInt 0)), (0, .ref RR), (1, .int (nI dep))], [.ref RR], me_w M J)) rfl k
          have k := lz_get (a := RR) (g := 500) (M := me_w M J) (v := .ref Rd) rfl (nt_gfR rfl hP.1.2.2.1) k
          have k := ly_revb 1 (c' := (48, [(3, .int (nI j)), (2, .int (Int32.ofInt 0)), (0, .ref RR), (1, .int (nI dep))], [.ref (nt_sp + 1 + 17), .ref Rd], me_w M J)) rfl k
          obtain ⟨d1, o1, ed, kc, k⟩ := lz_c (g := 32) (q := 1) (vs := [.ref Rd, .ref (nt_sp + 1 + 17)]) (rest := []) rfl rfl (by decide) (Or.inr (Or.inl ⟨_, rfl, rfl⟩)) rfl k
          rcases lc_takesWord hP hS hp kc with ⟨hw17, e1⟩ | ⟨hw17, e1⟩
          · subst e1
            have hwl := hw17.1
            have hS1 := lc_Spp (q := lb_s f t (z.1 + (lb_W (nt_sp + 1 + 17)).length)) hP hS
            have hp1 : lb_s f t (z.1 + (lb_W (nt_sp + 1 + 17)).length) ≤ t := (lb_s_le (t - (z.1 + (lb_W (nt_sp + 1 + 17)).length)) (z.1 + (lb_W (nt_sp + 1 + 17)).length) (by omega)).2
            have hg1 := (lb_s_le (f := f) (t := t) (t - (z.1 + (lb_W (nt_sp + 1 + 17)).length)) (z.1 + (lb_W (nt_sp + 1 + 17)).length) (by omega)).1
            have k : nt_rn X _ 58 (51, [(3, .int (nI j)), (2, .int (Int32.ofInt 0)), (0, .ref RR), (1, .int (nI dep))], [.int (Int32.ofInt 1)], me_w M (nt_u J Rd 1 (nI (lb_s f t (z.1 + (lb_W (nt_sp + 1 + 17)).length))))) _ := k
            have k := ly_revb 1 (c' := (if (Int32.ofInt 1) = 0 then 77 else 54, [(3, .int (nI j)), (2, .int (Int32.ofInt 0)), (0, .ref RR), (1, .int (nI dep))], [], me_w M (nt_u J Rd 1 (nI (lb_s f t (z.1 + (lb_W (nt_sp + 1 + 17)).length)))))) rfl k
            rw [if_neg (show ¬ ((Int32.ofInt 1) = 0) from by decide)] at k
            have k := ly_revb 2 (c' := (if (Int32.ofInt 0) = 0 then 64 else 58, [(3, .int (nI j)), (2, .int (Int32.ofInt 0)), (0, .ref RR), (1, .int (nI dep))], [], me_w M (nt_u J Rd 1 (nI (lb_s f t (z.1 + (lb_W (nt_sp + 1 + 17)).length)))))) rfl k
            rw [if_pos (show (Int32.ofInt 0) = 0 from by decide)] at k
            have k := ly_revb 4 (c' := (68, [(2, .int (Int32.ofInt 1)), (3, .int (nI j)), (0, .ref RR), (1, .int (nI dep))], [.int (nI dep), .ref RR], me_w M (nt_u J Rd 1 (nI (lb_s f t (z.1 + (lb_W (nt_sp + 1 + 17)).length)))))) rfl k
            obtain ⟨d1, o1, ed, kc, k⟩ := lz_c (g := 59) (q := 1) (vs := [.ref RR, .int (nI dep)]) (rest := []) rfl rfl (by decide) (Or.inr (Or.inl ⟨_, rfl, rfl⟩)) rfl k
            obtain ⟨k21, r21, J21, e1, hv21, hq21⟩ := (ih0 d1 ed) dep _ _ z.2.2 _ _ hS1 hp1 (by omega) kc
            subst e1
            cases r21 with
            | inl c21 =>
              obtain ⟨hfa, m21, s21, hS21⟩ := hq21
              have k : nt_rn X _ 58 (71, [(2, .int (Int32.ofInt 1)), (3, .int (nI j)), (0, .ref RR), (1, .int (nI dep))], [], me_w M J21) _ := k
              have k := ly_revb 1 (c' := (74, [(3, .int ((nI j) + Int32.ofInt 1)), (2, .int (Int32.ofInt 1)), (0, .ref RR), (1, .int (nI dep))], [], me_w M J21)) rfl k
              rw [show ((nI j) + Int32.ofInt 1 : Int32) = nI (j + 1) from me_add (k := 1)] at k
              have k := ly_revb 1 (c' := (9, [(3, .int (nI (j + 1))), (2, .int (Int32.ofInt 1)), (0, .ref RR), (1, .int (nI dep))], [], me_w M J21)) rfl k
              have k := ly_revb 3 (c' := (if (Int32.ofInt 400) ≤ (nI (j + 1)) then 77 else 16, [(3, .int (nI (j + 1))), (2, .int (Int32.ofInt 1)), (0, .ref RR), (1, .int (nI dep))], [], me_w M J21)) rfl k
              by_cases h13' : 400 ≤ (j + 1)
              · rw [if_pos (show (Int32.ofInt 400) ≤ (nI (j + 1)) from show nI 400 ≤ nI ((j + 1)) from nI_le h13' (by omega))] at k
                have k := ly_revb 2 (c' := (if (Int32.ofInt 1) = 0 then 87 else 81, [(3, .int (nI (j + 1))), (2, .int (Int32.ofInt 1)), (0, .ref RR), (1, .int (nI dep))], [], me_w M J21)) rfl k
                rw [if_neg (show ¬ ((Int32.ofInt 1) = 0) from by decide)] at k
                have k := ly_revb 2 (c' := (84, [(3, .int (nI (j + 1))), (2, .int (Int32.ofInt 1)), (0, .ref RR), (1, .int (nI dep))], [.int (Int32.ofInt 20), .ref RR], me_w M J21)) rfl k
                obtain ⟨d1, o1, ed, kc, k⟩ := lz_c (g := 54) (q := 1) (vs := [.ref RR, .int (Int32.ofInt 20)]) (rest := []) rfl rfl (by decide) (Or.inr (Or.inl ⟨_, rfl, rfl⟩)) rfl k
                obtain ⟨J2, e1, hS2⟩ := lc_add hP hS21 (Nat.le_refl t) kc
                subst e1
                have k : nt_rn X _ 58 (87, [(3, .int (nI (j + 1))), (2, .int (Int32.ofInt 1)), (0, .ref RR), (1, .int (nI dep))], [], me_w M J2) _ := k
                have k := lz_rv rfl rfl k
                exact ⟨k21 + 1, .inl (c21), _, k, Or.inr (Or.inl ⟨hw16, hw17, _, hv21, Or.inl ⟨_, rfl, rfl⟩⟩), hfa, _, _, hS2⟩
              · rw [if_neg (show ¬ ((Int32.ofInt 400) ≤ (nI (j + 1))) from show ¬ nI 400 ≤ nI ((j + 1)) from nI_ge (Nat.not_le.mp h13') (by omega))] at k
                have k := ly_revb 1 (c' := (17, [(3, .int (nI (j + 1))), (2, .int (Int32.ofInt 1)), (0, .ref RR), (1, .int (nI dep))], [.ref RR], me_w M J21)) rfl k
                have k := lz_get (a := RR) (g := 500) (M := me_w M J21) (v := .ref Rd) rfl (nt_gfR rfl hP.1.2.2.1) k
                have k := ly_revb 1 (c' := (22, [(3, .int (nI (j + 1))), (2, .int (Int32.ofInt 1)), (0, .ref RR), (1, .int (nI dep))], [.ref (nt_sp + 1 + 16), .ref Rd], me_w M J21)) rfl k
                obtain ⟨d1, o1, ed, kc, k⟩ := lz_c (g := 32) (q := 1) (vs := [.ref Rd, .ref (nt_sp + 1 + 16)]) (rest := []) rfl rfl (by decide) (Or.inr (Or.inl ⟨_, rfl, rfl⟩)) rfl k
                obtain ⟨hn, e1⟩ := (lc_takesWord hP hS21 (Nat.le_refl t) kc).resolve_left (fun hh => lb_at_t (by decide) hh.1)
                subst e1
                have k : nt_rn X _ 58 (25, [(3, .int (nI (j + 1))), (2, .int (Int32.ofInt 1)), (0, .ref RR), (1, .int (nI dep))], [.int (Int32.ofInt 0)], me_w M J21) _ := k
                have k := ly_revb 1 (c' := (if (Int32.ofInt 0) = 0 then 42 else 28, [(3, .int (nI (j + 1))), (2, .int (Int32.ofInt 1)), (0, .ref RR), (1, .int (nI dep))], [], me_w M J21)) rfl k
                rw [if_pos (show (Int32.ofInt 0) = 0 from by decide)] at k
                have k := ly_revb 1 (c' := (43, [(3, .int (nI (j + 1))), (2, .int (Int32.ofInt 1)), (0, .ref RR), (1, .int (nI dep))], [.ref RR], me_w M J21)) rfl k
                have k := lz_get (a := RR) (g := 500) (M := me_w M J21) (v := .ref Rd) rfl (nt_gfR rfl hP.1.2.2.1) k
                have k := ly_revb 1 (c' := (48, [(3, .int (nI (j + 1))), (2, .int (Int32.ofInt 1)), (0, .ref RR), (1, .int (nI dep))], [.ref (nt_sp + 1 + 17), .ref Rd], me_w M J21)) rfl k
                obtain ⟨d1, o1, ed, kc, k⟩ := lz_c (g := 32) (q := 1) (vs := [.ref Rd, .ref (nt_sp + 1 + 17)]) (rest := []) rfl rfl (by decide) (Or.inr (Or.inl ⟨_, rfl, rfl⟩)) rfl k
                obtain ⟨hn, e1⟩ := (lc_takesWord hP hS21 (Nat.le_refl t) kc).resolve_left (fun hh => lb_at_t (by decide) hh.1)
                subst e1
                have k : nt_rn X _ 58 (51, [(3, .int (nI (j + 1))), (2, .int (Int32.ofInt 1)), (0, .ref RR), (1, .int (nI dep))], [.int (Int32.ofInt 0)], me_w M J21) _ := k
                have k := ly_revb 1 (c' := (if (Int32.ofInt 0) = 0 then 77 else 54, [(3, .int (nI (j + 1))), (2, .int (Int32.ofInt 1)), (0, .ref RR), (1, .int (nI dep))], [], me_w M J21)) rfl k
                rw [if_pos (show (Int32.ofInt 0) = 0 from by decide)] at k
                have k := ly_revb 2 (c' := (if (Int32.ofInt 1) = 0 then 87 else 81, [(3, .int (nI (j + 1))), (2, .int (Int32.ofInt 1)), (0, .ref RR), (1, .int (nI dep))], [], me_w M J21)) rfl k
                rw [if_neg (show ¬ ((Int32.ofInt 1) = 0) from by decide)] at k
                have k := ly_revb 2 (c' := (84, [(3, .int (nI (j + 1))), (2, .int (Int32.ofInt 1)), (0, .ref RR), (1, .int (nI dep))], [.int (Int32.ofInt 20), .ref RR], me_w M J21)) rfl k
                obtain ⟨d1, o1, ed, kc, k⟩ := lz_c (g := 54) (q := 1) (vs := [.ref RR, .int (Int32.ofInt 20)]) (rest := []) rfl rfl (by decide) (Or.inr (Or.inl ⟨_, rfl, rfl⟩)) rfl k
                obtain ⟨J2, e1, hS2⟩ := lc_add hP hS21 (Nat.le_refl t) kc
                subst e1
                have k : nt_rn X _ 58 (87, [(3, .int (nI (j + 1))), (2, .int (Int32.ofInt 1)), (0, .ref RR), (1, .int (nI dep))], [], me_w M J2) _ := k
                have k := lz_rv rfl rfl k
                exact ⟨k21 + 1, .inl (c21), _, k, Or.inr (Or.inl ⟨hw16, hw17, _, hv21, Or.inl ⟨_, rfl, rfl⟩⟩), hfa, _, _, hS2⟩
            | inr z21 =>
              obtain ⟨hS21, hp21⟩ := hq21
              have k : nt_rn X _ 58 (71, [(2, .int (Int32.ofInt 1)), (3, .int (nI j)), (0, .ref RR), (1, .int (nI dep))], [], me_w M J21) _ := k
              have k := ly_revb 1 (c' := (74, [(3, .int ((nI j) + Int32.ofInt 1)), (2, .int (Int32.ofInt 1)), (0, .ref RR), (1, .int (nI dep))], [], me_w M J21)) rfl k
              rw [show ((nI j) + Int32.ofInt 1 : Int32) = nI (j + 1) from me_add (k := 1)] at k
              have k := ly_revb 1 (c' := (9, [(3, .int (nI (j + 1))), (2, .int (Int32.ofInt 1)), (0, .ref RR), (1, .int (nI dep))], [], me_w M J21)) rfl k
              have hup := lb_ft_up _ _ _ _ _ _ hp1 hv21
              dsimp only at hup
              have hu3 := hup.2.2 rfl
              obtain ⟨k1, r1, J7, e2, hsr, hq⟩ := ih (t - z21.1) (by omega) (j + 1) true z21 _ rfl hp21 (by omega) hS21 k
              exact ⟨k21 + k1 + 1, r1, J7, e2, Or.inr (Or.inl ⟨hw16, hw17, _, lb_ft_le hv21 (by omega), Or.inr ⟨z21, rfl, lb_ft_le hsr (by omega)⟩⟩), hq⟩
          · subst e1
            have k : nt_rn X _ 58 (51, [(3, .int (nI j)), (2, .int (Int32.ofInt 0)), (0, .ref RR), (1, .int (nI dep))], [.int (Int32.ofInt 0)], me_w M J) _ := k
            have k := ly_revb 1 (c' := (if (Int32.ofInt 0) = 0 then 77 else 54, [(3, .int (nI j)), (2, .int (Int32.ofInt 0)), (0, .ref RR), (1, .int (nI dep))], [], me_w M J)) rfl k
            rw [if_pos (show (Int32.ofInt 0) = 0 from by decide)] at k
            have k := ly_revb 2 (c' := (if (Int32.ofInt 0) = 0 then 87 else 81, [(3, .int (nI j)), (2, .int (Int32.ofInt 0)), (0, .ref RR), (1, .int (nI dep))], [], me_w M J)) rfl k
            rw [if_pos (show (Int32.ofInt 0) = 0 from by decide)] at k
            have k := lz_rv rfl rfl k
            exact ⟨1, .inr (z.1, z.2.1, lb_oe z.2.2 false), _, k, Or.inr (Or.inr ⟨hw16, hw17, rfl⟩), hS, hp⟩
theorem lc_test_step {X : nt_X} {t Rd Tp By RR Sp : Nat} {f : Nat → Int32} {M : nt_M} {J0 : Nat → Nat → Int32} {n : Nat} (hP : lc_P M J0 f t Rd Tp By RR Sp) (ih : ∀ n1, n = n1 + 1 → lc_FOK X t Rd RR Sp f M J0 n1) : lc_TOK X t Rd RR Sp f M J0 n := by
  intro dep p m e J o hS hp hd k
  have k : nt_rn X n 58 (0, [(0, .ref RR), (1, .int (nI dep))], [], me_w M J) o := k
  have t4 : t ≤ 400 := hP.2.2.2.2.1
  have m6 : m ≤ 60 := hS.2.2.2.2.2.2.2
  have k := ly_revb 4 (c' := (4, [(2, .int (Int32.ofInt 0)), (0, .ref RR), (1, .int (nI dep))], [.int (nI dep), .ref RR], me_w M J)) rfl k
  obtain ⟨d1, o1, ed, kc, k⟩ := lz_c (g := 59) (q := 1) (vs := [.ref RR, .int (nI dep)]) (rest := []) rfl rfl (by decide) (Or.inr (Or.inl ⟨_, rfl, rfl⟩)) rfl k
  obtain ⟨k21, r21, J21, e1, hv21, hq21⟩ := (ih d1 ed) dep _ _ e _ _ hS hp (by omega) kc
  subst e1
  cases r21 with
  | inl c21 =>
    obtain ⟨hfa, m21, s21, hS21⟩ := hq21
    have k : nt_rn X _ 58 (7, [(2, .int (Int32.ofInt 0)), (0, .ref RR), (1, .int (nI dep))], [], me_w M J21) _ := k
    have k := ly_revb 2 (c' := (9, [(3, .int (Int32.ofInt 1)), (2, .int (Int32.ofInt 0)), (0, .ref RR), (1, .int (nI dep))], [], me_w M J21)) rfl k
    have k := ly_revb 3 (c' := (if (Int32.ofInt 400) ≤ (Int32.ofInt 1) then 77 else 16, [(3, .int (Int32.ofInt 1)), (2, .int (Int32.ofInt 0)), (0, .ref RR), (1, .int (nI dep))], [], me_w M J21)) rfl k
    rw [if_neg (show ¬ ((Int32.ofInt 400) ≤ (Int32.ofInt 1)) from show ¬ nI 400 ≤ nI 1 from nI_ge (by omega) (by omega))] at k
    have k := ly_revb 1 (c' := (17, [(3, .int (Int32.ofInt 1)), (2, .int (Int32.ofInt 0)), (0, .ref RR), (1, .int (nI dep))], [.ref RR], me_w M J21)) rfl k
    have k := lz_get (a := RR) (g := 500) (M := me_w M J21) (v := .ref Rd) rfl (nt_gfR rfl hP.1.2.2.1) k
    have k := ly_revb 1 (c' := (22, [(3, .int (Int32.ofInt 1)), (2, .int (Int32.ofInt 0)), (0, .ref RR), (1, .int (nI dep))], [.ref (nt_sp + 1 + 16), .ref Rd], me_w M J21)) rfl k
    obtain ⟨d1, o1, ed, kc, k⟩ := lz_c (g := 32) (q := 1) (vs := [.ref Rd, .ref (nt_sp + 1 + 16)]) (rest := []) rfl rfl (by decide) (Or.inr (Or.inl ⟨_, rfl, rfl⟩)) rfl k
    obtain ⟨hn, e1⟩ := (lc_takesWord hP hS21 (Nat.le_refl t) kc).resolve_left (fun hh => lb_at_t (by decide) hh.1)
    subst e1
    have k : nt_rn X _ 58 (25, [(3, .int (Int32.ofInt 1)), (2, .int (Int32.ofInt 0)), (0, .ref RR), (1, .int (nI dep))], [.int (Int32.ofInt 0)], me_w M J21) _ := k
    have k := ly_revb 1 (c' := (if (Int32.ofInt 0) = 0 then 42 else 28, [(3, .int (Int32.ofInt 1)), (2, .int (Int32.ofInt 0)), (0, .ref RR), (1, .int (nI dep))], [], me_w M J21)) rfl k
    rw [if_pos (show (Int32.ofInt 0) = 0 from by decide)] at k
    have k := ly_revb 1 (c' := (43, [(3, .int (Int32.ofInt 1)), (2, .int (Int32.ofInt 0)), (0, .ref RR), (1, .int (nI dep))], [.ref RR], me_w M J21)) rfl k
    have k := lz_get (a := RR) (g := 500) (M := me_w M J21) (v := .ref Rd) rfl (nt_gfR rfl hP.1.2.2.1) k
    have k := ly_revb 1 (c' := (48, [(3, .int (Int32.ofInt 1)), (2, .int (Int32.ofInt 0)), (0, .ref RR), (1, .int (nI dep))], [.ref (nt_sp + 1 + 17), .ref Rd], me_w M J21)) rfl k
    obtain ⟨d1, o1, ed, kc, k⟩ := lz_c (g := 32) (q := 1) (vs := [.ref Rd, .ref (nt_sp + 1 + 17)]) (rest := []) rfl rfl (by decide) (Or.inr (Or.inl ⟨_, rfl, rfl⟩)) rfl k
    obtain ⟨hn, e1⟩ := (lc_takesWord hP hS21 (Nat.le_refl t) kc).resolve_left (fun hh => lb_at_t (by decide) hh.1)
    subst e1
    have k : nt_rn X _ 58 (51, [(3, .int (Int32.ofInt 1)), (2, .int (Int32.ofInt 0)), (0, .ref RR), (1, .int (nI dep))], [.int (Int32.ofInt 0)], me_w M J21) _ := k
    have k := ly_revb 1 (c' := (if (Int32.ofInt 0) = 0 then 77 else 54, [(3, .int (Int32.ofInt 1)), (2, .int (Int32.ofInt 0)), (0, .ref RR), (1, .int (nI dep))], [], me_w M J21)) rfl k
    rw [if_pos (show (Int32.ofInt 0) = 0 from by decide)] at k
    have k := ly_revb 2 (c' := (if (Int32.ofInt 0) = 0 then 87 else 81, [(3, .int (Int32.ofInt 1)), (2, .int (Int32.ofInt 0)), (0, .ref RR), (1, .int (nI dep))], [], me_w M J21)) rfl k
    rw [if_pos (show (Int32.ofInt 0) = 0 from by decide)] at k
    have k := lz_rv rfl rfl k
    exact ⟨k21, _, .inl (c21), _, k, hv21, Or.inl ⟨_, rfl, rfl⟩, hfa, _, _, hS21⟩
  | inr z21 =>
    obtain ⟨hS21, hp21⟩ := hq21
    have k : nt_rn X _ 58 (7, [(2, .int (Int32.ofInt 0)), (0, .ref RR), (1, .int (nI dep))], [], me_w M J21) _ := k
    have k := ly_revb 2 (c' := (9, [(3, .int (Int32.ofInt 1)), (2, .int (Int32.ofInt 0)), (0, .ref RR), (1, .int (nI dep))], [], me_w M J21)) rfl k
    have hup := lb_ft_up _ _ _ _ _ _ hp hv21
    have hu3 := hup.2.2 rfl
    dsimp only at hup hu3
    obtain ⟨k1, r1, J7, e2, hsr, hq⟩ := lc_tel hP hd ih (t - z21.1) 1 false z21 _ rfl hp21 (by omega) hS21 k
    exact ⟨k21 + k1, _, r1, J7, e2, lb_ft_le hv21 (by omega), Or.inr ⟨z21, rfl, lb_ft_le hsr (by omega)⟩, hq⟩
theorem lc_FT {X : nt_X} {t Rd Tp By RR Sp : Nat} {f : Nat → Int32} {M : nt_M} {J0 : Nat → Nat → Int32} (hP : lc_P M J0 f t Rd Tp By RR Sp) : ∀ n, lc_FOK X t Rd RR Sp f M J0 n ∧ lc_TOK X t Rd RR Sp f M J0 n := by
  intro n
  induction n with
  | zero => exact ⟨lc_fact_step hP (fun n1 h => absurd h (by omega)), lc_test_step hP (fun n1 h => absurd h (by omega))⟩
  | succ n ih => exact ⟨lc_fact_step hP (fun n1 h => by cases h; exact ih), lc_test_step hP (fun n1 h => by cases h; exact ih.1)⟩
end
section
/-! a rule's clauses, told purely, and read -/
def lb_if (f : Nat → Int32) (t : Nat) (z : lb_Z) (r : lb_Y) : Prop := (lb_at f t (lb_W (nt_sp + 1 + 14)) z.1 ∧ ∃ k r1 r2, lb_ft f t k true 0 false (lb_s f t (z.1 + (lb_W (nt_sp + 1 + 14)).length), z.2.1, z.2.2) r1 ∧ lb_th r1 r2 (fun z1 => lb_ft f t k false 0 false z1 r2) ∧ lb_th r2 r (fun z2 => r = .inr (z2.1, z2.2.1, (lb_e z2.2.2.1 (Int32.ofInt 23), z2.2.2.2)))) ∨ (¬ lb_at f t (lb_W (nt_sp + 1 + 14)) z.1 ∧ r = .inr (z.1, z.2.1, (lb_e z.2.2.1 (Int32.ofInt 22), z.2.2.2)))
def lb_cs (f : Nat → Int32) (t : Nat) : Nat → Nat → lb_Z → lb_Y → Prop
  | 0, _, _, _ => False
  | k + 1, i, z, r =>
    (¬ lb_at f t (lb_W (nt_sp + 1 + 5)) z.1 ∧ r = .inl (lb_c z.1 (Int32.ofInt 0))) ∨
    (lb_at f t (lb_W (nt_sp + 1 + 5)) z.1 ∧ i = 12 ∧ r = .inl (lb_c z.1 (Int32.ofInt 4))) ∨
    (lb_at f t (lb_W (nt_sp + 1 + 5)) z.1 ∧ i < 12 ∧ ∃ r1, lb_sum f t (lb_s f t (z.1 + (lb_W (nt_sp + 1 + 5)).length), z.2.1, z.2.2) r1 ∧ lb_th r1 r (fun z1 => ∃ r2, lb_if f t z1 r2 ∧ lb_th r2 r (fun z2 => (lb_g f t z2.1 = Int32.ofInt 59 ∧ lb_cs f t k (i + 1) (lb_s f t (z2.1 + 1), z2.2.1, z2.2.2) r) ∨ (lb_g f t z2.1 = Int32.ofInt (-1) ∧ r = .inr z2) ∨ (¬ lb_g f t z2.1 = Int32.ofInt 59 ∧ ¬ lb_g f t z2.1 = Int32.ofInt (-1) ∧ r = .inl (lb_c z2.1 (Int32.ofInt 0))))))
def lb_rc : lb_Y → Int32
  | .inl c => c
  | .inr _ => 0
theorem lc_fault {X : nt_X} {d t Rd Tp By RR Sp : Nat} {f : Nat → Int32} {M : nt_M} {J0 J : Nat → Nat → Int32} {o : Option Value × nt_M} {p m : Nat} {fa : Int32} {s : Nat × (Nat → Int32)}  (hP : lc_P M J0 f t Rd Tp By RR Sp) (hS : lc_S J0 Rd RR Sp p fa m s J) (hp : p ≤ t) (k : nt_ev X d 38 [.ref Rd] (me_w M J) o) : o = (some (.int fa), me_w M J) := by
  have k : nt_rn X d 38 (0, [(0, .ref Rd)], [], me_w M J) o := k
  have t4 : t ≤ 400 := hP.2.2.2.2.1
  have k := ly_revb 1 (c' := (1, [(0, .ref Rd)], [.ref Rd], me_w M J)) rfl k
  have k := lz_get (a := Rd) (g := 202) (M := me_w M J) (v := .int (fa)) rfl (congrArg Value.int (hS.2.1)) k
  have k := lz_ri rfl (by decide) k
  exact k
theorem lc_rdl {X : nt_X} {d t Rd Tp By RR Sp : Nat} {f : Nat → Int32} {M : nt_M} {J0 : Nat → Nat → Int32} {o : Option Value × nt_M} (hP : lc_P M J0 f t Rd Tp By RR Sp) : ∀ (c i : Nat) (z : lb_Z) (J : Nat → Nat → Int32), i + c = 12 → z.1 ≤ t → lc_S J0 Rd RR Sp z.1 0 z.2.1 z.2.2.1 J → nt_rn X d 48 (21, [(2, .int (nI i)), (1, .int (Int32.ofInt 1)), (0, .ref RR)], [], me_w M J) o → ∃ k r J', o = (some (.int (lb_rc r)), me_w M J') ∧ lb_cs f t k i z r ∧ lc_Q J0 Rd RR Sp t r J' := by
  have t4 : t ≤ 400 := hP.2.2.2.2.1
  intro c
  induction c with
  | zero =>
    intro i z J hc hp hS k
    have k := ly_revb 2 (c' := (if (Int32.ofInt 1) = 0 then 130 else 25, [(2, .int (nI i)), (1, .int (Int32.ofInt 1)), (0, .ref RR)], [], me_w M J)) rfl k
    rw [if_neg (show ¬ ((Int32.ofInt 1) = 0) from by decide)] at k
    have k := ly_revb 3 (c' := (if (Int32.ofInt 12) < (nI i) then 130 else 31, [(2, .int (nI i)), (1, .int (Int32.ofInt 1)), (0, .ref RR)], [], me_w M J)) rfl k
    rw [if_neg (show ¬ ((Int32.ofInt 12) < (nI i)) from show ¬ nI 12 < nI i from nI_nlt (Nat.not_lt.mp (by omega)) (by omega))] at k
    have k := ly_revb 3 (c' := (if (nI i) = (Int32.ofInt 12) then 37 else 60, [(2, .int (nI i)), (1, .int (Int32.ofInt 1)), (0, .ref RR)], [], me_w M J)) rfl k
    rw [if_pos (show (nI i) = (Int32.ofInt 12) from show nI i = nI 12 from congrArg nI (by omega))] at k
    have k := ly_revb 1 (c' := (38, [(2, .int (nI i)), (1, .int (Int32.ofInt 1)), (0, .ref RR)], [.ref RR], me_w M J)) rfl k
    have k := lz_get (a := RR) (g := 500) (M := me_w M J) (v := .ref Rd) rfl (nt_gfR rfl hP.1.2.2.1) k
    have k := ly_revb 1 (c' := (43, [(2, .int (nI i)), (1, .int (Int32.ofInt 1)), (0, .ref RR)], [.ref (nt_sp + 1 + 5), .ref Rd], me_w M J)) rfl k
    obtain ⟨d1, o1, ed, kc, k⟩ := lz_c (g := 30) (q := 1) (vs := [.ref Rd, .ref (nt_sp + 1 + 5)]) (rest := []) rfl rfl (by decide) (Or.inr (Or.inl ⟨_, rfl, rfl⟩)) rfl k
    obtain ⟨r, e1, hr⟩ := lc_isAt hP hS hp kc
    subst e1
    rcases hr with ⟨rfl, hr⟩ | ⟨rfl, hr⟩
    · have k : nt_rn X _ 48 (46, [(2, .int (nI i)), (1, .int (Int32.ofInt 1)), (0, .ref RR)], [.int (Int32.ofInt 1)], me_w M J) _ := k
      have k := ly_revb 1 (c' := (if (Int32.ofInt 1) = 0 then 60 else 49, [(2, .int (nI i)), (1, .int (Int32.ofInt 1)), (0, .ref RR)], [], me_w M J)) rfl k
      rw [if_neg (show ¬ ((Int32.ofInt 1) = 0) from by decide)] at k
      have k := ly_revb 1 (c' := (50, [(2, .int (nI i)), (1, .int (Int32.ofInt 1)), (0, .ref RR)], [.ref RR], me_w M J)) rfl k
      have k := lz_get (a := RR) (g := 500) (M := me_w M J) (v := .ref Rd) rfl (nt_gfR rfl hP.1.2.2.1) k
      have k := ly_revb 1 (c' := (54, [(2, .int (nI i)), (1, .int (Int32.ofInt 1)), (0, .ref RR)], [.int (Int32.ofInt 4), .ref Rd], me_w M J)) rfl k
      obtain ⟨d1, o1, ed, kc, k⟩ := lz_c (g := 31) (q := 1) (vs := [.ref Rd, .int (Int32.ofInt 4)]) (rest := []) rfl rfl (by decide) (Or.inr (Or.inl ⟨_, rfl, rfl⟩)) rfl k
      obtain ⟨hf, e1⟩ := (lc_fail hP hS hp kc).resolve_right (fun c => c.1 rfl)
      subst e1
      have hS1 := lc_Spp (q := t) hP (lc_Sf (fb := lb_c z.1 (Int32.ofInt 4)) hP hS)
      have k : nt_rn X _ 48 (57, [(2, .int (nI i)), (1, .int (Int32.ofInt 1)), (0, .ref RR)], [], me_w M (nt_u (nt_u J Rd 2 (lb_c z.1 (Int32.ofInt 4))) Rd 1 (nI t))) _ := k
      have k := ly_revb 2 (c' := (81, [(2, .int (nI i)), (1, .int (Int32.ofInt 1)), (0, .ref RR)], [.ref RR], me_w M (nt_u (nt_u J Rd 2 (lb_c z.1 (Int32.ofInt 4))) Rd 1 (nI t)))) rfl k
      obtain ⟨d1, o1, ed, kc, k⟩ := lz_c (g := 49) (q := 1) (vs := [.ref RR]) (rest := []) rfl rfl (by decide) (Or.inr (Or.inl ⟨_, rfl, rfl⟩)) rfl k
      obtain ⟨m1, s1, J1, e1, hT1⟩ := lc_readSumF hP hS1 (lb_c_ne (by omega) (by decide) (by decide)) kc
      subst e1
      have k : nt_rn X _ 48 (84, [(2, .int (nI i)), (1, .int (Int32.ofInt 1)), (0, .ref RR)], [], me_w M J1) _ := k
      have k := ly_revb 1 (c' := (85, [(2, .int (nI i)), (1, .int (Int32.ofInt 1)), (0, .ref RR)], [.ref RR], me_w M J1)) rfl k
      have k := lz_get (a := RR) (g := 500) (M := me_w M J1) (v := .ref Rd) rfl (nt_gfR rfl hP.1.2.2.1) k
      have k := ly_revb 1 (c' := (90, [(2, .int (nI i)), (1, .int (Int32.ofInt 1)), (0, .ref RR)], [.ref (nt_sp + 1 + 14), .ref Rd], me_w M J1)) rfl k
      obtain ⟨d1, o1, ed, kc, k⟩ := lz_c (g := 32) (q := 1) (vs := [.ref Rd, .ref (nt_sp + 1 + 14)]) (rest := []) rfl rfl (by decide) (Or.inr (Or.inl ⟨_, rfl, rfl⟩)) rfl k
      obtain ⟨hn, e1⟩ := (lc_takesWord hP hT1 (Nat.le_refl t) kc).resolve_left (fun hh => lb_at_t (by decide) hh.1)
      subst e1
      have k : nt_rn X _ 48 (93, [(2, .int (nI i)), (1, .int (Int32.ofInt 1)), (0, .ref RR)], [.int (Int32.ofInt 0)], me_w M J1) _ := k
      have k := ly_revb 1 (c' := (if (Int32.ofInt 0) = 0 then 110 else 96, [(2, .int (nI i)), (1, .int (Int32.ofInt 1)), (0, .ref RR)], [], me_w M J1)) rfl k
      rw [if_pos (show (Int32.ofInt 0) = 0 from by decide)] at k
      have k := ly_revb 2 (c' := (113, [(2, .int (nI i)), (1, .int (Int32.ofInt 1)), (0, .ref RR)], [.int (Int32.ofInt 22), .ref RR], me_w M J1)) rfl k
      obtain ⟨d1, o1, ed, kc, k⟩ := lz_c (g := 54) (q := 1) (vs := [.ref RR, .int (Int32.ofInt 22)]) (rest := []) rfl rfl (by decide) (Or.inr (Or.inl ⟨_, rfl, rfl⟩)) rfl k
      obtain ⟨J2, e1, hS2⟩ := lc_add hP hT1 (Nat.le_refl t) kc
      subst e1
      have k : nt_rn X _ 48 (116, [(2, .int (nI i)), (1, .int (Int32.ofInt 1)), (0, .ref RR)], [], me_w M J2) _ := k
      have k := ly_revb 1 (c' := (117, [(2, .int (nI i)), (1, .int (Int32.ofInt 1)), (0, .ref RR)], [.ref RR], me_w M J2)) rfl k
      have k := lz_get (a := RR) (g := 500) (M := me_w M J2) (v := .ref Rd) rfl (nt_gfR rfl hP.1.2.2.1) k
      obtain ⟨d1, o1, ed, kc, k⟩ := lz_c (g := 35) (q := 1) (vs := [.ref Rd]) (rest := []) rfl rfl (by decide) (Or.inr (Or.inl ⟨_, rfl, rfl⟩)) rfl k
      have hgt : lb_g f t t = Int32.ofInt (-1) := if_neg (by omega)
      have e1 : o1 = (some (.int (Int32.ofInt 0)), me_w M J2) := by
        rcases lc_nextClause hP hS2 (Nat.le_refl t) kc with ⟨q, _⟩ | ⟨_, q⟩ | ⟨_, q, _⟩ | ⟨_, q, _⟩
        · rw [hgt] at q; exact absurd q (by decide)
        · exact q
        · exact absurd hgt q
        · exact absurd hgt q
      subst e1
      have k : nt_rn X _ 48 (123, [(2, .int (nI i)), (1, .int (Int32.ofInt 1)), (0, .ref RR)], [.int (Int32.ofInt 0)], me_w M J2) _ := k
      have k := ly_revb 2 (c' := (127, [(2, .int ((nI i) + Int32.ofInt 1)), (1, .int (Int32.ofInt 0)), (0, .ref RR)], [], me_w M J2)) rfl k
      rw [show ((nI i) + Int32.ofInt 1 : Int32) = nI (i + 1) from me_add (k := 1)] at k
      have k := ly_revb 1 (c' := (21, [(2, .int (nI (i + 1))), (1, .int (Int32.ofInt 0)), (0, .ref RR)], [], me_w M J2)) rfl k
      have k := ly_revb 2 (c' := (if (Int32.ofInt 0) = 0 then 130 else 25, [(2, .int (nI (i + 1))), (1, .int (Int32.ofInt 0)), (0, .ref RR)], [], me_w M J2)) rfl k
      rw [if_pos (show (Int32.ofInt 0) = 0 from by decide)] at k
      have k := ly_revb 1 (c' := (131, [(2, .int (nI (i + 1))), (1, .int (Int32.ofInt 0)), (0, .ref RR)], [.ref RR], me_w M J2)) rfl k
      have k := lz_get (a := RR) (g := 500) (M := me_w M J2) (v := .ref Rd) rfl (nt_gfR rfl hP.1.2.2.1) k
      obtain ⟨d1, o1, ed, kc, k⟩ := lz_c (g := 38) (q := 1) (vs := [.ref Rd]) (rest := []) rfl rfl (by decide) (Or.inr (Or.inl ⟨_, rfl, rfl⟩)) rfl k
      have e1 := lc_fault hP hS2 (Nat.le_refl t) kc
      subst e1
      have k : nt_rn X _ 48 (137, [(2, .int (nI (i + 1))), (1, .int (Int32.ofInt 0)), (0, .ref RR)], [.int (lb_c z.1 (Int32.ofInt 4))], me_w M J2) _ := k
      have k := lz_ri rfl (by decide) k
      exact ⟨1, .inl (lb_c z.1 (Int32.ofInt 4)), _, k, Or.inr (Or.inl ⟨hr, by omega, rfl⟩), (lb_c_ne (by omega) (by decide) (by decide)), _, _, hS2⟩
    · have k : nt_rn X _ 48 (46, [(2, .int (nI i)), (1, .int (Int32.ofInt 1)), (0, .ref RR)], [.int (Int32.ofInt 0)], me_w M J) _ := k
      have k := ly_revb 1 (c' := (if (Int32.ofInt 0) = 0 then 60 else 49, [(2, .int (nI i)), (1, .int (Int32.ofInt 1)), (0, .ref RR)], [], me_w M J)) rfl k
      rw [if_pos (show (Int32.ofInt 0) = 0 from by decide)] at k
      have k := ly_revb 1 (c' := (61, [(2, .int (nI i)), (1, .int (Int32.ofInt 1)), (0, .ref RR)], [.ref RR], me_w M J)) rfl k
      have k := lz_get (a := RR) (g := 500) (M := me_w M J) (v := .ref Rd) rfl (nt_gfR rfl hP.1.2.2.1) k
      have k := ly_revb 1 (c' := (66, [(2, .int (nI i)), (1, .int (Int32.ofInt 1)), (0, .ref RR)], [.ref (nt_sp + 1 + 5), .ref Rd], me_w M J)) rfl k
      obtain ⟨d1, o1, ed, kc, k⟩ := lz_c (g := 32) (q := 1) (vs := [.ref Rd, .ref (nt_sp + 1 + 5)]) (rest := []) rfl rfl (by decide) (Or.inr (Or.inl ⟨_, rfl, rfl⟩)) rfl k
      obtain ⟨_, e1⟩ := (lc_takesWord hP hS hp kc).resolve_left (fun hh => hr hh.1)
      subst e1
      have k : nt_rn X _ 48 (69, [(2, .int (nI i)), (1, .int (Int32.ofInt 1)), (0, .ref RR)], [.int (Int32.ofInt 0)], me_w M J) _ := k
      have hw5 := hr
      have k := ly_revb 1 (c' := (if (Int32.ofInt 0) = 0 then 72 else 80, [(2, .int (nI i)), (1, .int (Int32.ofInt 1)), (0, .ref RR)], [], me_w M J)) rfl k
      rw [if_pos (show (Int32.ofInt 0) = 0 from by decide)] at k
      have k := ly_revb 1 (c' := (73, [(2, .int (nI i)), (1, .int (Int32.ofInt 1)), (0, .ref RR)], [.ref RR], me_w M J)) rfl k
      have k := lz_get (a := RR) (g := 500) (M := me_w M J) (v := .ref Rd) rfl (nt_gfR rfl hP.1.2.2.1) k
      have k := ly_revb 1 (c' := (77, [(2, .int (nI i)), (1, .int (Int32.ofInt 1)), (0, .ref RR)], [.int (Int32.ofInt 0), .ref Rd], me_w M J)) rfl k
      obtain ⟨d1, o1, ed, kc, k⟩ := lz_c (g := 31) (q := 1) (vs := [.ref Rd, .int (Int32.ofInt 0)]) (rest := []) rfl rfl (by decide) (Or.inr (Or.inl ⟨_, rfl, rfl⟩)) rfl k
      obtain ⟨hf, e1⟩ := (lc_fail hP hS hp kc).resolve_right (fun c => c.1 rfl)
      subst e1
      have hS1 := lc_Spp (q := t) hP (lc_Sf (fb := lb_c z.1 (Int32.ofInt 0)) hP hS)
      have k : nt_rn X _ 48 (80, [(2, .int (nI i)), (1, .int (Int32.ofInt 1)), (0, .ref RR)], [], me_w M (nt_u (nt_u J Rd 2 (lb_c z.1 (Int32.ofInt 0))) Rd 1 (nI t))) _ := k
      have k := ly_revb 1 (c' := (81, [(2, .int (nI i)), (1, .int (Int32.ofInt 1)), (0, .ref RR)], [.ref RR], me_w M (nt_u (nt_u J Rd 2 (lb_c z.1 (Int32.ofInt 0))) Rd 1 (nI t)))) rfl k
      obtain ⟨d1, o1, ed, kc, k⟩ := lz_c (g := 49) (q := 1) (vs := [.ref RR]) (rest := []) rfl rfl (by decide) (Or.inr (Or.inl ⟨_, rfl, rfl⟩)) rfl k
      obtain ⟨m1, s1, J1, e1, hT1⟩ := lc_readSumF hP hS1 (lb_c_ne (by omega) (by decide) (by decide)) kc
      subst e1
      have k : nt_rn X _ 48 (84, [(2, .int (nI i)), (1, .int (Int32.ofInt 1)), (0, .ref RR)], [], me_w M J1) _ := k
      have k := ly_revb 1 (c' := (85, [(2, .int (nI i)), (1, .int (Int32.ofInt 1)), (0, .ref RR)], [.ref RR], me_w M J1)) rfl k
      have k := lz_get (a := RR) (g := 500) (M := me_w M J1) (v := .ref Rd) rfl (nt_gfR rfl hP.1.2.2.1) k
      have k := ly_revb 1 (c' := (90, [(2, .int (nI i)), (1, .int (Int32.ofInt 1)), (0, .ref RR)], [.ref (nt_sp + 1 + 14), .ref Rd], me_w M J1)) rfl k
      obtain ⟨d1, o1, ed, kc, k⟩ := lz_c (g := 32) (q := 1) (vs := [.ref Rd, .ref (nt_sp + 1 + 14)]) (rest := []) rfl rfl (by decide) (Or.inr (Or.inl ⟨_, rfl, rfl⟩)) rfl k
      obtain ⟨hn, e1⟩ := (lc_takesWord hP hT1 (Nat.le_refl t) kc).resolve_left (fun hh => lb_at_t (by decide) hh.1)
      subst e1
      have k : nt_rn X _ 48 (93, [(2, .int (nI i)), (1, .int (Int32.ofInt 1)), (0, .ref RR)], [.int (Int32.ofInt 0)], me_w M J1) _ := k
      have k := ly_revb 1 (c' := (if (Int32.ofInt 0) = 0 then 110 else 96, [(2, .int (nI i)), (1, .int (Int32.ofInt 1)), (0, .ref RR)], [], me_w M J1)) rfl k
      rw [if_pos (show (Int32.ofInt 0) = 0 from by decide)] at k
      have k := ly_revb 2 (c' := (113, [(2, .int (nI i)), (1, .int (Int32.ofInt 1)), (0, .ref RR)], [.int (Int32.ofInt 22), .ref RR], me_w M J1)) rfl k
      obtain ⟨d1, o1, ed, kc, k⟩ := lz_c (g := 54) (q := 1) (vs := [.ref RR, .int (Int32.ofInt 22)]) (rest := []) rfl rfl (by decide) (Or.inr (Or.inl ⟨_, rfl, rfl⟩)) rfl k
      obtain ⟨J2, e1, hS2⟩ := lc_add hP hT1 (Nat.le_refl t) kc
      subst e1
      have k : nt_rn X _ 48 (116, [(2, .int (nI i)), (1, .int (Int32.ofInt 1)), (0, .ref RR)], [], me_w M J2) _ := k
      have k := ly_revb 1 (c' := (117, [(2, .int (nI i)), (1, .int (Int32.ofInt 1)), (0, .ref RR)], [.ref RR], me_w M J2)) rfl k
      have k := lz_get (a := RR) (g := 500) (M := me_w M J2) (v := .ref Rd) rfl (nt_gfR rfl hP.1.2.2.1) k
      obtain ⟨d1, o1, ed, kc, k⟩ := lz_c (g := 35) (q := 1) (vs := [.ref Rd]) (rest := []) rfl rfl (by decide) (Or.inr (Or.inl ⟨_, rfl, rfl⟩)) rfl k
      have hgt : lb_g f t t = Int32.ofInt (-1) := if_neg (by omega)
      have e1 : o1 = (some (.int (Int32.ofInt 0)), me_w M J2) := by
        rcases lc_nextClause hP hS2 (Nat.le_refl t) kc with ⟨q, _⟩ | ⟨_, q⟩ | ⟨_, q, _⟩ | ⟨_, q, _⟩
        · rw [hgt] at q; exact absurd q (by decide)
        · exact q
        · exact absurd hgt q
        · exact absurd hgt q
      subst e1
      have k : nt_rn X _ 48 (123, [(2, .int (nI i)), (1, .int (Int32.ofInt 1)), (0, .ref RR)], [.int (Int32.ofInt 0)], me_w M J2) _ := k
      have k := ly_revb 2 (c' := (127, [(2, .int ((nI i) + Int32.ofInt 1)), (1, .int (Int32.ofInt 0)), (0, .ref RR)], [], me_w M J2)) rfl k
      rw [show ((nI i) + Int32.ofInt 1 : Int32) = nI (i + 1) from me_add (k := 1)] at k
      have k := ly_revb 1 (c' := (21, [(2, .int (nI (i + 1))), (1, .int (Int32.ofInt 0)), (0, .ref RR)], [], me_w M J2)) rfl k
      have k := ly_revb 2 (c' := (if (Int32.ofInt 0) = 0 then 130 else 25, [(2, .int (nI (i + 1))), (1, .int (Int32.ofInt 0)), (0, .ref RR)], [], me_w M J2)) rfl k
      rw [if_pos (show (Int32.ofInt 0) = 0 from by decide)] at k
      have k := ly_revb 1 (c' := (131, [(2, .int (nI (i + 1))), (1, .int (Int32.ofInt 0)), (0, .ref RR)], [.ref RR], me_w M J2)) rfl k
      have k := lz_get (a := RR) (g := 500) (M := me_w M J2) (v := .ref Rd) rfl (nt_gfR rfl hP.1.2.2.1) k
      obtain ⟨d1, o1, ed, kc, k⟩ := lz_c (g := 38) (q := 1) (vs := [.ref Rd]) (rest := []) rfl rfl (by decide) (Or.inr (Or.inl ⟨_, rfl, rfl⟩)) rfl k
      have e1 := lc_fault hP hS2 (Nat.le_refl t) kc
      subst e1
      have k : nt_rn X _ 48 (137, [(2, .int (nI (i + 1))), (1, .int (Int32.ofInt 0)), (0, .ref RR)], [.int (lb_c z.1 (Int32.ofInt 0))], me_w M J2) _ := k
      have k := lz_ri rfl (by decide) k
      exact ⟨1, .inl (lb_c z.1 (Int32.ofInt 0)), _, k, Or.inl ⟨hw5, rfl⟩, (lb_c_ne (by omega) (by decide) (by decide)), _, _, hS2⟩
  | succ c ih =>
    intro i z J hc hp hS k
    have k := ly_revb 2 (c' := (if (Int32.ofInt 1) = 0 then 130 else 25, [(2, .int (nI i)), (1, .int (Int32.ofInt 1)), (0, .ref RR)], [], me_w M J)) rfl k
    rw [if_neg (show ¬ ((Int32.ofInt 1) = 0) from by decide)] at k
    have k := ly_revb 3 (c' := (if (Int32.ofInt 12) < (nI i) then 130 else 31, [(2, .int (nI i)), (1, .int (Int32.ofInt 1)), (0, .ref RR)], [], me_w M J)) rfl k
    rw [if_neg (show ¬ ((Int32.ofInt 12) < (nI i)) from show ¬ nI 12 < nI i from nI_nlt (Nat.not_lt.mp (by omega)) (by omega))] at k
    have k := ly_revb 3 (c' := (if (nI i) = (Int32.ofInt 12) then 37 else 60, [(2, .int (nI i)), (1, .int (Int32.ofInt 1)), (0, .ref RR)], [], me_w M J)) rfl k
    rw [if_neg (show ¬ ((nI i) = (Int32.ofInt 12)) from show ¬ nI i = nI 12 from me_ne (by omega) (by omega) (by omega))] at k
    have k := ly_revb 1 (c' := (61, [(2, .int (nI i)), (1, .int (Int32.ofInt 1)), (0, .ref RR)], [.ref RR], me_w M J)) rfl k
    have k := lz_get (a := RR) (g := 500) (M := me_w M J) (v := .ref Rd) rfl (nt_gfR rfl hP.1.2.2.1) k
    have k := ly_revb 1 (c' := (66, [(2, .int (nI i)), (1, .int (Int32.ofInt 1)), (0, .ref RR)], [.ref (nt_sp + 1 + 5), .ref Rd], me_w M J)) rfl k
    obtain ⟨d1, o1, ed, kc, k⟩ := lz_c (g := 32) (q := 1) (vs := [.ref Rd, .ref (nt_sp + 1 + 5)]) (rest := []) rfl rfl (by decide) (Or.inr (Or.inl ⟨_, rfl, rfl⟩)) rfl k
    rcases lc_takesWord hP hS hp kc with ⟨hw5, e1⟩ | ⟨hw5, e1⟩
    · subst e1
      have hwl := hw5.1
      have hS1 := lc_Spp (q := lb_s f t (z.1 + (lb_W (nt_sp + 1 + 5)).length)) hP hS
      have hp1 : lb_s f t (z.1 + (lb_W (nt_sp + 1 + 5)).length) ≤ t := (lb_s_le (t - (z.1 + (lb_W (nt_sp + 1 + 5)).length)) (z.1 + (lb_W (nt_sp + 1 + 5)).length) (by omega)).2
      have hg1 := (lb_s_le (f := f) (t := t) (t - (z.1 + (lb_W (nt_sp + 1 + 5)).length)) (z.1 + (lb_W (nt_sp + 1 + 5)).length) (by omega)).1
      have k : nt_rn X _ 48 (69, [(2, .int (nI i)), (1, .int (Int32.ofInt 1)), (0, .ref RR)], [.int (Int32.ofInt 1)], me_w M (nt_u J Rd 1 (nI (lb_s f t (z.1 + (lb_W (nt_sp + 1 + 5)).length))))) _ := k
      have k := ly_revb 1 (c' := (if (Int32.ofInt 1) = 0 then 72 else 80, [(2, .int (nI i)), (1, .int (Int32.ofInt 1)), (0, .ref RR)], [], me_w M (nt_u J Rd 1 (nI (lb_s f t (z.1 + (lb_W (nt_sp + 1 + 5)).length)))))) rfl k
      rw [if_neg (show ¬ ((Int32.ofInt 1) = 0) from by decide)] at k
      have k := ly_revb 1 (c' := (81, [(2, .int (nI i)), (1, .int (Int32.ofInt 1)), (0, .ref RR)], [.ref RR], me_w M (nt_u J Rd 1 (nI (lb_s f t (z.1 + (lb_W (nt_sp + 1 + 5)).length)))))) rfl k
      obtain ⟨d1, o1, ed, kc, k⟩ := lz_c (g := 49) (q := 1) (vs := [.ref RR]) (rest := []) rfl rfl (by decide) (Or.inr (Or.inl ⟨_, rfl, rfl⟩)) rfl k
      obtain ⟨r21, J21, e1, hv21, hq21⟩ := lc_readSum (e := z.2.2) hP hS1 hp1 kc
      subst e1
      cases r21 with
      | inl c21 =>
        obtain ⟨hfa, m21, s21, hS21⟩ := hq21
        have k : nt_rn X _ 48 (84, [(2, .int (nI i)), (1, .int (Int32.ofInt 1)), (0, .ref RR)], [], me_w M J21) _ := k
        have k := ly_revb 1 (c' := (85, [(2, .int (nI i)), (1, .int (Int32.ofInt 1)), (0, .ref RR)], [.ref RR], me_w M J21)) rfl k
        have k := lz_get (a := RR) (g := 500) (M := me_w M J21) (v := .ref Rd) rfl (nt_gfR rfl hP.1.2.2.1) k
        have k := ly_revb 1 (c' := (90, [(2, .int (nI i)), (1, .int (Int32.ofInt 1)), (0, .ref RR)], [.ref (nt_sp + 1 + 14), .ref Rd], me_w M J21)) rfl k
        obtain ⟨d1, o1, ed, kc, k⟩ := lz_c (g := 32) (q := 1) (vs := [.ref Rd, .ref (nt_sp + 1 + 14)]) (rest := []) rfl rfl (by decide) (Or.inr (Or.inl ⟨_, rfl, rfl⟩)) rfl k
        obtain ⟨hn, e1⟩ := (lc_takesWord hP hS21 (Nat.le_refl t) kc).resolve_left (fun hh => lb_at_t (by decide) hh.1)
        subst e1
        have k : nt_rn X _ 48 (93, [(2, .int (nI i)), (1, .int (Int32.ofInt 1)), (0, .ref RR)], [.int (Int32.ofInt 0)], me_w M J21) _ := k
        have k := ly_revb 1 (c' := (if (Int32.ofInt 0) = 0 then 110 else 96, [(2, .int (nI i)), (1, .int (Int32.ofInt 1)), (0, .ref RR)], [], me_w M J21)) rfl k
        rw [if_pos (show (Int32.ofInt 0) = 0 from by decide)] at k
        have k := ly_revb 2 (c' := (113, [(2, .int (nI i)), (1, .int (Int32.ofInt 1)), (0, .ref RR)], [.int (Int32.ofInt 22), .ref RR], me_w M J21)) rfl k
        obtain ⟨d1, o1, ed, kc, k⟩ := lz_c (g := 54) (q := 1) (vs := [.ref RR, .int (Int32.ofInt 22)]) (rest := []) rfl rfl (by decide) (Or.inr (Or.inl ⟨_, rfl, rfl⟩)) rfl k
        obtain ⟨J2, e1, hS2⟩ := lc_add hP hS21 (Nat.le_refl t) kc
        subst e1
        have k : nt_rn X _ 48 (116, [(2, .int (nI i)), (1, .int (Int32.ofInt 1)), (0, .ref RR)], [], me_w M J2) _ := k
        have k := ly_revb 1 (c' := (117, [(2, .int (nI i)), (1, .int (Int32.ofInt 1)), (0, .ref RR)], [.ref RR], me_w M J2)) rfl k
        have k := lz_get (a := RR) (g := 500) (M := me_w M J2) (v := .ref Rd) rfl (nt_gfR rfl hP.1.2.2.1) k
        obtain ⟨d1, o1, ed, kc, k⟩ := lz_c (g := 35) (q := 1) (vs := [.ref Rd]) (rest := []) rfl rfl (by decide) (Or.inr (Or.inl ⟨_, rfl, rfl⟩)) rfl k
        have hgt : lb_g f t t = Int32.ofInt (-1) := if_neg (by omega)
        have e1 : o1 = (some (.int (Int32.ofInt 0)), me_w M J2) := by
          rcases lc_nextClause hP hS2 (Nat.le_refl t) kc with ⟨q, _⟩ | ⟨_, q⟩ | ⟨_, q, _⟩ | ⟨_, q, _⟩
          · rw [hgt] at q; exact absurd q (by decide)
          · exact q
          · exact absurd hgt q
          · exact absurd hgt q
        subst e1
        have k : nt_rn X _ 48 (123, [(2, .int (nI i)), (1, .int (Int32.ofInt 1)), (0, .ref RR)], [.int (Int32.ofInt 0)], me_w M J2) _ := k
        have k := ly_revb 2 (c' := (127, [(2, .int ((nI i) + Int32.ofInt 1)), (1, .int (Int32.ofInt 0)), (0, .ref RR)], [], me_w M J2)) rfl k
        rw [show ((nI i) + Int32.ofInt 1 : Int32) = nI (i + 1) from me_add (k := 1)] at k
        have k := ly_revb 1 (c' := (21, [(2, .int (nI (i + 1))), (1, .int (Int32.ofInt 0)), (0, .ref RR)], [], me_w M J2)) rfl k
        have k := ly_revb 2 (c' := (if (Int32.ofInt 0) = 0 then 130 else 25, [(2, .int (nI (i + 1))), (1, .int (Int32.ofInt 0)), (0, .ref RR)], [], me_w M J2)) rfl k
        rw [if_pos (show (Int32.ofInt 0) = 0 from by decide)] at k
        have k := ly_revb 1 (c' := (131, [(2, .int (nI (i + 1))), (1, .int (Int32.ofInt 0)), (0, .ref RR)], [.ref RR], me_w M J2)) rfl k
        have k := lz_get (a := RR) (g := 500) (M := me_w M J2) (v := .ref Rd) rfl (nt_gfR rfl hP.1.2.2.1) k
        obtain ⟨d1, o1, ed, kc, k⟩ := lz_c (g := 38) (q := 1) (vs := [.ref Rd]) (rest := []) rfl rfl (by decide) (Or.inr (Or.inl ⟨_, rfl, rfl⟩)) rfl k
        have e1 := lc_fault hP hS2 (Nat.le_refl t) kc
        subst e1
        have k : nt_rn X _ 48 (137, [(2, .int (nI (i + 1))), (1, .int (Int32.ofInt 0)), (0, .ref RR)], [.int (c21)], me_w M J2) _ := k
        have k := lz_ri rfl (by decide) k
        exact ⟨1, .inl (c21), _, k, Or.inr (Or.inr ⟨hw5, by omega, _, hv21, Or.inl ⟨_, rfl, rfl⟩⟩), hfa, _, _, hS2⟩
      | inr z21 =>
        obtain ⟨hS21, hp21⟩ := hq21
        have k : nt_rn X _ 48 (84, [(2, .int (nI i)), (1, .int (Int32.ofInt 1)), (0, .ref RR)], [], me_w M J21) _ := k
        have k := ly_revb 1 (c' := (85, [(2, .int (nI i)), (1, .int (Int32.ofInt 1)), (0, .ref RR)], [.ref RR], me_w M J21)) rfl k
        have k := lz_get (a := RR) (g := 500) (M := me_w M J21) (v := .ref Rd) rfl (nt_gfR rfl hP.1.2.2.1) k
        have k := ly_revb 1 (c' := (90, [(2, .int (nI i)), (1, .int (Int32.ofInt 1)), (0, .ref RR)], [.ref (nt_sp + 1 + 14), .ref Rd], me_w M J21)) rfl k
        obtain ⟨d1, o1, ed, kc, k⟩ := lz_c (g := 32) (q := 1) (vs := [.ref Rd, .ref (nt_sp + 1 + 14)]) (rest := []) rfl rfl (by decide) (Or.inr (Or.inl ⟨_, rfl, rfl⟩)) rfl k
        rcases lc_takesWord hP hS21 hp21 kc with ⟨hw14, e1⟩ | ⟨hw14, e1⟩
        · subst e1
          have hwl := hw14.1
          have hS2 := lc_Spp (q := lb_s f t (z21.1 + (lb_W (nt_sp + 1 + 14)).length)) hP hS21
          have hp2 : lb_s f t (z21.1 + (lb_W (nt_sp + 1 + 14)).length) ≤ t := (lb_s_le (t - (z21.1 + (lb_W (nt_sp + 1 + 14)).length)) (z21.1 + (lb_W (nt_sp + 1 + 14)).length) (by omega)).2
          have hg2 := (lb_s_le (f := f) (t := t) (t - (z21.1 + (lb_W (nt_sp + 1 + 14)).length)) (z21.1 + (lb_W (nt_sp + 1 + 14)).length) (by omega)).1
          have k : nt_rn X _ 48 (93, [(2, .int (nI i)), (1, .int (Int32.ofInt 1)), (0, .ref RR)], [.int (Int32.ofInt 1)], me_w M (nt_u J21 Rd 1 (nI (lb_s f t (z21.1 + (lb_W (nt_sp + 1 + 14)).length))))) _ := k
          have k := ly_revb 1 (c' := (if (Int32.ofInt 1) = 0 then 110 else 96, [(2, .int (nI i)), (1, .int (Int32.ofInt 1)), (0, .ref RR)], [], me_w M (nt_u J21 Rd 1 (nI (lb_s f t (z21.1 + (lb_W (nt_sp + 1 + 14)).length)))))) rfl k
          rw [if_neg (show ¬ ((Int32.ofInt 1) = 0) from by decide)] at k
          have k := ly_revb 2 (c' := (98, [(2, .int (nI i)), (1, .int (Int32.ofInt 1)), (0, .ref RR)], [.int (Int32.ofInt 0), .ref RR], me_w M (nt_u J21 Rd 1 (nI (lb_s f t (z21.1 + (lb_W (nt_sp + 1 + 14)).length)))))) rfl k
          obtain ⟨d1, o1, ed, kc, k⟩ := lz_c (g := 58) (q := 1) (vs := [.ref RR, .int (Int32.ofInt 0)]) (rest := []) rfl rfl (by decide) (Or.inr (Or.inl ⟨_, rfl, rfl⟩)) rfl k
          obtain ⟨k22, q22, r22, J22, e1, hu22, hv22, hq22⟩ := (lc_FT hP d1).2 0 _ _ z21.2.2 _ _ hS2 hp2 (by omega) kc
          subst e1
          cases r22 with
          | inl c22 =>
            obtain ⟨hfa, m22, s22, hS22⟩ := hq22
            have k : nt_rn X _ 48 (101, [(2, .int (nI i)), (1, .int (Int32.ofInt 1)), (0, .ref RR)], [], me_w M J22) _ := k
            have k := ly_revb 2 (c' := (104, [(2, .int (nI i)), (1, .int (Int32.ofInt 1)), (0, .ref RR)], [.int (Int32.ofInt 23), .ref RR], me_w M J22)) rfl k
            obtain ⟨d1, o1, ed, kc, k⟩ := lz_c (g := 54) (q := 1) (vs := [.ref RR, .int (Int32.ofInt 23)]) (rest := []) rfl rfl (by decide) (Or.inr (Or.inl ⟨_, rfl, rfl⟩)) rfl k
            obtain ⟨J3, e1, hS3⟩ := lc_add hP hS22 (Nat.le_refl t) kc
            subst e1
            have k : nt_rn X _ 48 (107, [(2, .int (nI i)), (1, .int (Int32.ofInt 1)), (0, .ref RR)], [], me_w M J3) _ := k
            have k := ly_revb 2 (c' := (117, [(2, .int (nI i)), (1, .int (Int32.ofInt 1)), (0, .ref RR)], [.ref RR], me_w M J3)) rfl k
            have k := lz_get (a := RR) (g := 500) (M := me_w M J3) (v := .ref Rd) rfl (nt_gfR rfl hP.1.2.2.1) k
            obtain ⟨d1, o1, ed, kc, k⟩ := lz_c (g := 35) (q := 1) (vs := [.ref Rd]) (rest := []) rfl rfl (by decide) (Or.inr (Or.inl ⟨_, rfl, rfl⟩)) rfl k
            have hgt : lb_g f t t = Int32.ofInt (-1) := if_neg (by omega)
            have e1 : o1 = (some (.int (Int32.ofInt 0)), me_w M J3) := by
              rcases lc_nextClause hP hS3 (Nat.le_refl t) kc with ⟨q, _⟩ | ⟨_, q⟩ | ⟨_, q, _⟩ | ⟨_, q, _⟩
              · rw [hgt] at q; exact absurd q (by decide)
              · exact q
              · exact absurd hgt q
              · exact absurd hgt q
            subst e1
            have k : nt_rn X _ 48 (123, [(2, .int (nI i)), (1, .int (Int32.ofInt 1)), (0, .ref RR)], [.int (Int32.ofInt 0)], me_w M J3) _ := k
            have k := ly_revb 2 (c' := (127, [(2, .int ((nI i) + Int32.ofInt 1)), (1, .int (Int32.ofInt 0)), (0, .ref RR)], [], me_w M J3)) rfl k
            rw [show ((nI i) + Int32.ofInt 1 : Int32) = nI (i + 1) from me_add (k := 1)] at k
            have k := ly_revb 1 (c' := (21, [(2, .int (nI (i + 1))), (1, .int (Int32.ofInt 0)), (0, .ref RR)], [], me_w M J3)) rfl k
            have k := ly_revb 2 (c' := (if (Int32.ofInt 0) = 0 then 130 else 25, [(2, .int (nI (i + 1))), (1, .int (Int32.ofInt 0)), (0, .ref RR)], [], me_w M J3)) rfl k
            rw [if_pos (show (Int32.ofInt 0) = 0 from by decide)] at k
            have k := ly_revb 1 (c' := (131, [(2, .int (nI (i + 1))), (1, .int (Int32.ofInt 0)), (0, .ref RR)], [.ref RR], me_w M J3)) rfl k
            have k := lz_get (a := RR) (g := 500) (M := me_w M J3) (v := .ref Rd) rfl (nt_gfR rfl hP.1.2.2.1) k
            obtain ⟨d1, o1, ed, kc, k⟩ := lz_c (g := 38) (q := 1) (vs := [.ref Rd]) (rest := []) rfl rfl (by decide) (Or.inr (Or.inl ⟨_, rfl, rfl⟩)) rfl k
            have e1 := lc_fault hP hS3 (Nat.le_refl t) kc
            subst e1
            have k : nt_rn X _ 48 (137, [(2, .int (nI (i + 1))), (1, .int (Int32.ofInt 0)), (0, .ref RR)], [.int (c22)], me_w M J3) _ := k
            have k := lz_ri rfl (by decide) k
            exact ⟨1, .inl (c22), _, k, Or.inr (Or.inr ⟨hw5, by omega, _, hv21, Or.inr ⟨z21, rfl, .inl _, Or.inl ⟨hw14, k22, _, _, hu22, hv22, Or.inl ⟨_, rfl, rfl⟩⟩, Or.inl ⟨_, rfl, rfl⟩⟩⟩), hfa, _, _, hS3⟩
          | inr z22 =>
            obtain ⟨hS22, hp22⟩ := hq22
            have k : nt_rn X _ 48 (101, [(2, .int (nI i)), (1, .int (Int32.ofInt 1)), (0, .ref RR)], [], me_w M J22) _ := k
            have k := ly_revb 2 (c' := (104, [(2, .int (nI i)), (1, .int (Int32.ofInt 1)), (0, .ref RR)], [.int (Int32.ofInt 23), .ref RR], me_w M J22)) rfl k
            obtain ⟨d1, o1, ed, kc, k⟩ := lz_c (g := 54) (q := 1) (vs := [.ref RR, .int (Int32.ofInt 23)]) (rest := []) rfl rfl (by decide) (Or.inr (Or.inl ⟨_, rfl, rfl⟩)) rfl k
            obtain ⟨J3, e1, hS3⟩ := lc_add hP hS22 hp22 kc
            subst e1
            have k : nt_rn X _ 48 (107, [(2, .int (nI i)), (1, .int (Int32.ofInt 1)), (0, .ref RR)], [], me_w M J3) _ := k
            have k := ly_revb 2 (c' := (117, [(2, .int (nI i)), (1, .int (Int32.ofInt 1)), (0, .ref RR)], [.ref RR], me_w M J3)) rfl k
            have k := lz_get (a := RR) (g := 500) (M := me_w M J3) (v := .ref Rd) rfl (nt_gfR rfl hP.1.2.2.1) k
            obtain ⟨d1, o1, ed, kc, k⟩ := lz_c (g := 35) (q := 1) (vs := [.ref Rd]) (rest := []) rfl rfl (by decide) (Or.inr (Or.inl ⟨_, rfl, rfl⟩)) rfl k
            rcases lc_nextClause hP hS3 hp22 kc with ⟨hn, e1⟩ | ⟨hn, e1⟩ | ⟨hn, hn2, _, e1⟩ | ⟨_, _, hf, _⟩
            · have hlt := lb_g_lt (f := f) (t := t) (p := z22.1) (by rw [hn]; decide)
              rw [Nat.min_eq_left (show z22.1 + 1 ≤ t from hlt)] at e1
              subst e1
              have hS4 := lc_Spp (q := lb_s f t (z22.1 + 1)) hP hS3
              have hp4 : lb_s f t (z22.1 + 1) ≤ t := (lb_s_le (t - (z22.1 + 1)) (z22.1 + 1) (by omega)).2
              have k : nt_rn X _ 48 (123, [(2, .int (nI i)), (1, .int (Int32.ofInt 1)), (0, .ref RR)], [.int (Int32.ofInt 1)], me_w M (nt_u J3 Rd 1 (nI (lb_s f t (z22.1 + 1))))) _ := k
              have k := ly_revb 2 (c' := (127, [(2, .int ((nI i) + Int32.ofInt 1)), (1, .int (Int32.ofInt 1)), (0, .ref RR)], [], me_w M (nt_u J3 Rd 1 (nI (lb_s f t (z22.1 + 1)))))) rfl k
              rw [show ((nI i) + Int32.ofInt 1 : Int32) = nI (i + 1) from me_add (k := 1)] at k
              have k := ly_revb 1 (c' := (21, [(2, .int (nI (i + 1))), (1, .int (Int32.ofInt 1)), (0, .ref RR)], [], me_w M (nt_u J3 Rd 1 (nI (lb_s f t (z22.1 + 1)))))) rfl k
              obtain ⟨k1, r1, J7, e2, hsr, hq⟩ := ih (i + 1) (lb_s f t (z22.1 + 1), z22.2.1, (lb_e z22.2.2.1 (Int32.ofInt 23), z22.2.2.2)) _ (by omega) hp4 hS4 k
              exact ⟨k1 + 1, r1, J7, e2, Or.inr (Or.inr ⟨hw5, by omega, _, hv21, Or.inr ⟨z21, rfl, .inr (z22.1, z22.2.1, (lb_e z22.2.2.1 (Int32.ofInt 23), z22.2.2.2)), Or.inl ⟨hw14, k22, _, _, hu22, hv22, Or.inr ⟨z22, rfl, rfl⟩⟩, Or.inr ⟨_, rfl, Or.inl ⟨hn, hsr⟩⟩⟩⟩), hq⟩
            · subst e1
              have k : nt_rn X _ 48 (123, [(2, .int (nI i)), (1, .int (Int32.ofInt 1)), (0, .ref RR)], [.int (Int32.ofInt 0)], me_w M J3) _ := k
              have k := ly_revb 2 (c' := (127, [(2, .int ((nI i) + Int32.ofInt 1)), (1, .int (Int32.ofInt 0)), (0, .ref RR)], [], me_w M J3)) rfl k
              rw [show ((nI i) + Int32.ofInt 1 : Int32) = nI (i + 1) from me_add (k := 1)] at k
              have k := ly_revb 1 (c' := (21, [(2, .int (nI (i + 1))), (1, .int (Int32.ofInt 0)), (0, .ref RR)], [], me_w M J3)) rfl k
              have k := ly_revb 2 (c' := (if (Int32.ofInt 0) = 0 then 130 else 25, [(2, .int (nI (i + 1))), (1, .int (Int32.ofInt 0)), (0, .ref RR)], [], me_w M J3)) rfl k
              rw [if_pos (show (Int32.ofInt 0) = 0 from by decide)] at k
              have k := ly_revb 1 (c' := (131, [(2, .int (nI (i + 1))), (1, .int (Int32.ofInt 0)), (0, .ref RR)], [.ref RR], me_w M J3)) rfl k
              have k := lz_get (a := RR) (g := 500) (M := me_w M J3) (v := .ref Rd) rfl (nt_gfR rfl hP.1.2.2.1) k
              obtain ⟨d1, o1, ed, kc, k⟩ := lz_c (g := 38) (q := 1) (vs := [.ref Rd]) (rest := []) rfl rfl (by decide) (Or.inr (Or.inl ⟨_, rfl, rfl⟩)) rfl k
              have e1 := lc_fault hP hS3 hp22 kc
              subst e1
              have k : nt_rn X _ 48 (137, [(2, .int (nI (i + 1))), (1, .int (Int32.ofInt 0)), (0, .ref RR)], [.int (0)], me_w M J3) _ := k
              have k := lz_ri rfl (by decide) k
              exact ⟨1, .inr (z22.1, z22.2.1, (lb_e z22.2.2.1 (Int32.ofInt 23), z22.2.2.2)), _, k, Or.inr (Or.inr ⟨hw5, by omega, _, hv21, Or.inr ⟨z21, rfl, .inr (z22.1, z22.2.1, (lb_e z22.2.2.1 (Int32.ofInt 23), z22.2.2.2)), Or.inl ⟨hw14, k22, _, _, hu22, hv22, Or.inr ⟨z22, rfl, rfl⟩⟩, Or.inr ⟨_, rfl, Or.inr (Or.inl ⟨hn, rfl⟩)⟩⟩⟩), hS3, hp22⟩
            · subst e1
              have hS4 := lc_Spp (q := t) hP (lc_Sf (fb := lb_c z22.1 (Int32.ofInt 0)) hP hS3)
              have k : nt_rn X _ 48 (123, [(2, .int (nI i)), (1, .int (Int32.ofInt 1)), (0, .ref RR)], [.int (Int32.ofInt 0)], me_w M (nt_u (nt_u J3 Rd 2 (lb_c z22.1 (Int32.ofInt 0))) Rd 1 (nI t))) _ := k
              have k := ly_revb 2 (c' := (127, [(2, .int ((nI i) + Int32.ofInt 1)), (1, .int (Int32.ofInt 0)), (0, .ref RR)], [], me_w M (nt_u (nt_u J3 Rd 2 (lb_c z22.1 (Int32.ofInt 0))) Rd 1 (nI t)))) rfl k
              rw [show ((nI i) + Int32.ofInt 1 : Int32) = nI (i + 1) from me_add (k := 1)] at k
              have k := ly_revb 1 (c' := (21, [(2, .int (nI (i + 1))), (1, .int (Int32.ofInt 0)), (0, .ref RR)], [], me_w M (nt_u (nt_u J3 Rd 2 (lb_c z22.1 (Int32.ofInt 0))) Rd 1 (nI t)))) rfl k
              have k := ly_revb 2 (c' := (if (Int32.ofInt 0) = 0 then 130 else 25, [(2, .int (nI (i + 1))), (1, .int (Int32.ofInt 0)), (0, .ref RR)], [], me_w M (nt_u (nt_u J3 Rd 2 (lb_c z22.1 (Int32.ofInt 0))) Rd 1 (nI t)))) rfl k
              rw [if_pos (show (Int32.ofInt 0) = 0 from by decide)] at k
              have k := ly_revb 1 (c' := (131, [(2, .int (nI (i + 1))), (1, .int (Int32.ofInt 0)), (0, .ref RR)], [.ref RR], me_w M (nt_u (nt_u J3 Rd 2 (lb_c z22.1 (Int32.ofInt 0))) Rd 1 (nI t)))) rfl k
              have k := lz_get (a := RR) (g := 500) (M := me_w M (nt_u (nt_u J3 Rd 2 (lb_c z22.1 (Int32.ofInt 0))) Rd 1 (nI t))) (v := .ref Rd) rfl (nt_gfR rfl hP.1.2.2.1) k
              obtain ⟨d1, o1, ed, kc, k⟩ := lz_c (g := 38) (q := 1) (vs := [.ref Rd]) (rest := []) rfl rfl (by decide) (Or.inr (Or.inl ⟨_, rfl, rfl⟩)) rfl k
              have e1 := lc_fault hP hS4 (Nat.le_refl t) kc
              subst e1
              have k : nt_rn X _ 48 (137, [(2, .int (nI (i + 1))), (1, .int (Int32.ofInt 0)), (0, .ref RR)], [.int (lb_c z22.1 (Int32.ofInt 0))], me_w M (nt_u (nt_u J3 Rd 2 (lb_c z22.1 (Int32.ofInt 0))) Rd 1 (nI t))) _ := k
              have k := lz_ri rfl (by decide) k
              exact ⟨1, .inl (lb_c z22.1 (Int32.ofInt 0)), _, k, Or.inr (Or.inr ⟨hw5, by omega, _, hv21, Or.inr ⟨z21, rfl, .inr (z22.1, z22.2.1, (lb_e z22.2.2.1 (Int32.ofInt 23), z22.2.2.2)), Or.inl ⟨hw14, k22, _, _, hu22, hv22, Or.inr ⟨z22, rfl, rfl⟩⟩, Or.inr ⟨_, rfl, Or.inr (Or.inr ⟨hn, hn2, rfl⟩)⟩⟩⟩), (lb_c_ne (by omega) (by decide) (by decide)), _, _, hS4⟩
            · exact absurd rfl hf
        · subst e1
          have k : nt_rn X _ 48 (93, [(2, .int (nI i)), (1, .int (Int32.ofInt 1)), (0, .ref RR)], [.int (Int32.ofInt 0)], me_w M J21) _ := k
          have k := ly_revb 1 (c' := (if (Int32.ofInt 0) = 0 then 110 else 96, [(2, .int (nI i)), (1, .int (Int32.ofInt 1)), (0, .ref RR)], [], me_w M J21)) rfl k
          rw [if_pos (show (Int32.ofInt 0) = 0 from by decide)] at k
          have k := ly_revb 2 (c' := (113, [(2, .int (nI i)), (1, .int (Int32.ofInt 1)), (0, .ref RR)], [.int (Int32.ofInt 22), .ref RR], me_w M J21)) rfl k
          obtain ⟨d1, o1, ed, kc, k⟩ := lz_c (g := 54) (q := 1) (vs := [.ref RR, .int (Int32.ofInt 22)]) (rest := []) rfl rfl (by decide) (Or.inr (Or.inl ⟨_, rfl, rfl⟩)) rfl k
          obtain ⟨J2, e1, hS2⟩ := lc_add hP hS21 hp21 kc
          subst e1
          have k : nt_rn X _ 48 (116, [(2, .int (nI i)), (1, .int (Int32.ofInt 1)), (0, .ref RR)], [], me_w M J2) _ := k
          have k := ly_revb 1 (c' := (117, [(2, .int (nI i)), (1, .int (Int32.ofInt 1)), (0, .ref RR)], [.ref RR], me_w M J2)) rfl k
          have k := lz_get (a := RR) (g := 500) (M := me_w M J2) (v := .ref Rd) rfl (nt_gfR rfl hP.1.2.2.1) k
          obtain ⟨d1, o1, ed, kc, k⟩ := lz_c (g := 35) (q := 1) (vs := [.ref Rd]) (rest := []) rfl rfl (by decide) (Or.inr (Or.inl ⟨_, rfl, rfl⟩)) rfl k
          rcases lc_nextClause hP hS2 hp21 kc with ⟨hn, e1⟩ | ⟨hn, e1⟩ | ⟨hn, hn2, _, e1⟩ | ⟨_, _, hf, _⟩
          · have hlt := lb_g_lt (f := f) (t := t) (p := z21.1) (by rw [hn]; decide)
            rw [Nat.min_eq_left (show z21.1 + 1 ≤ t from hlt)] at e1
            subst e1
            have hS3 := lc_Spp (q := lb_s f t (z21.1 + 1)) hP hS2
            have hp3 : lb_s f t (z21.1 + 1) ≤ t := (lb_s_le (t - (z21.1 + 1)) (z21.1 + 1) (by omega)).2
            have k : nt_rn X _ 48 (123, [(2, .int (nI i)), (1, .int (Int32.ofInt 1)), (0, .ref RR)], [.int (Int32.ofInt 1)], me_w M (nt_u J2 Rd 1 (nI (lb_s f t (z21.1 + 1))))) _ := k
            have k := ly_revb 2 (c' := (127, [(2, .int ((nI i) + Int32.ofInt 1)), (1, .int (Int32.ofInt 1)), (0, .ref RR)], [], me_w M (nt_u J2 Rd 1 (nI (lb_s f t (z21.1 + 1)))))) rfl k
            rw [show ((nI i) + Int32.ofInt 1 : Int32) = nI (i + 1) from me_add (k := 1)] at k
            have k := ly_revb 1 (c' := (21, [(2, .int (nI (i + 1))), (1, .int (Int32.ofInt 1)), (0, .ref RR)], [], me_w M (nt_u J2 Rd 1 (nI (lb_s f t (z21.1 + 1)))))) rfl k
            obtain ⟨k1, r1, J7, e2, hsr, hq⟩ := ih (i + 1) (lb_s f t (z21.1 + 1), z21.2.1, (lb_e z21.2.2.1 (Int32.ofInt 22), z21.2.2.2)) _ (by omega) hp3 hS3 k
            exact ⟨k1 + 1, r1, J7, e2, Or.inr (Or.inr ⟨hw5, by omega, _, hv21, Or.inr ⟨z21, rfl, .inr (z21.1, z21.2.1, (lb_e z21.2.2.1 (Int32.ofInt 22), z21.2.2.2)), Or.inr ⟨hw14, rfl⟩, Or.inr ⟨_, rfl, Or.inl ⟨hn, hsr⟩⟩⟩⟩), hq⟩
          · subst e1
            have k : nt_rn X _ 48 (123, [(2, .int (nI i)), (1, .int (Int32.ofInt 1)), (0, .ref RR)], [.int (Int32.ofInt 0)], me_w M J2) _ := k
            have k := ly_revb 2 (c' := (127, [(2, .int ((nI i) + Int32.ofInt 1)), (1, .int (Int32.ofInt 0)), (0, .ref RR)], [], me_w M J2)) rfl k
            rw [show ((nI i) + Int32.ofInt 1 : Int32) = nI (i + 1) from me_add (k := 1)] at k
            have k := ly_revb 1 (c' := (21, [(2, .int (nI (i + 1))), (1, .int (Int32.ofInt 0)), (0, .ref RR)], [], me_w M J2)) rfl k
            have k := ly_revb 2 (c' := (if (Int32.ofInt 0) = 0 then 130 else 25, [(2, .int (nI (i + 1))), (1, .int (Int32.ofInt 0)), (0, .ref RR)], [], me_w M J2)) rfl k
            rw [if_pos (show (Int32.ofInt 0) = 0 from by decide)] at k
            have k := ly_revb 1 (c' := (131, [(2, .int (nI (i + 1))), (1, .int (Int32.ofInt 0)), (0, .ref RR)], [.ref RR], me_w M J2)) rfl k
            have k := lz_get (a := RR) (g := 500) (M := me_w M J2) (v := .ref Rd) rfl (nt_gfR rfl hP.1.2.2.1) k
            obtain ⟨d1, o1, ed, kc, k⟩ := lz_c (g := 38) (q := 1) (vs := [.ref Rd]) (rest := []) rfl rfl (by decide) (Or.inr (Or.inl ⟨_, rfl, rfl⟩)) rfl k
            have e1 := lc_fault hP hS2 hp21 kc
            subst e1
            have k : nt_rn X _ 48 (137, [(2, .int (nI (i + 1))), (1, .int (Int32.ofInt 0)), (0, .ref RR)], [.int (0)], me_w M J2) _ := k
            have k := lz_ri rfl (by decide) k
            exact ⟨1, .inr (z21.1, z21.2.1, (lb_e z21.2.2.1 (Int32.ofInt 22), z21.2.2.2)), _, k, Or.inr (Or.inr ⟨hw5, by omega, _, hv21, Or.inr ⟨z21, rfl, .inr (z21.1, z21.2.1, (lb_e z21.2.2.1 (Int32.ofInt 22), z21.2.2.2)), Or.inr ⟨hw14, rfl⟩, Or.inr ⟨_, rfl, Or.inr (Or.inl ⟨hn, rfl⟩)⟩⟩⟩), hS2, hp21⟩
          · subst e1
            have hS3 := lc_Spp (q := t) hP (lc_Sf (fb := lb_c z21.1 (Int32.ofInt 0)) hP hS2)
            have k : nt_rn X _ 48 (123, [(2, .int (nI i)), (1, .int (Int32.ofInt 1)), (0, .ref RR)], [.int (Int32.ofInt 0)], me_w M (nt_u (nt_u J2 Rd 2 (lb_c z21.1 (Int32.ofInt 0))) Rd 1 (nI t))) _ := k
            have k := ly_revb 2 (c' := (127, [(2, .int ((nI i) + Int32.ofInt 1)), (1, .int (Int32.ofInt 0)), (0, .ref RR)], [], me_w M (nt_u (nt_u J2 Rd 2 (lb_c z21.1 (Int32.ofInt 0))) Rd 1 (nI t)))) rfl k
            rw [show ((nI i) + Int32.ofInt 1 : Int32) = nI (i + 1) from me_add (k := 1)] at k
            have k := ly_revb 1 (c' := (21, [(2, .int (nI (i + 1))), (1, .int (Int32.ofInt 0)), (0, .ref RR)], [], me_w M (nt_u (nt_u J2 Rd 2 (lb_c z21.1 (Int32.ofInt 0))) Rd 1 (nI t)))) rfl k
            have k := ly_revb 2 (c' := (if (Int32.ofInt 0) = 0 then 130 else 25, [(2, .int (nI (i + 1))), (1, .int (Int32.ofInt 0)), (0, .ref RR)], [], me_w M (nt_u (nt_u J2 Rd 2 (lb_c z21.1 (Int32.ofInt 0))) Rd 1 (nI t)))) rfl k
            rw [if_pos (show (Int32.ofInt 0) = 0 from by decide)] at k
            have k := ly_revb 1 (c' := (131, [(2, .int (nI (i + 1))), (1, .int (Int32.ofInt 0)), (0, .ref RR)], [.ref RR], me_w M (nt_u (nt_u J2 Rd 2 (lb_c z21.1 (Int32.ofInt 0))) Rd 1 (nI t)))) rfl k
            have k := lz_get (a := RR) (g := 500) (M := me_w M (nt_u (nt_u J2 Rd 2 (lb_c z21.1 (Int32.ofInt 0))) Rd 1 (nI t))) (v := .ref Rd) rfl (nt_gfR rfl hP.1.2.2.1) k
            obtain ⟨d1, o1, ed, kc, k⟩ := lz_c (g := 38) (q := 1) (vs := [.ref Rd]) (rest := []) rfl rfl (by decide) (Or.inr (Or.inl ⟨_, rfl, rfl⟩)) rfl k
            have e1 := lc_fault hP hS3 (Nat.le_refl t) kc
            subst e1
            have k : nt_rn X _ 48 (137, [(2, .int (nI (i + 1))), (1, .int (Int32.ofInt 0)), (0, .ref RR)], [.int (lb_c z21.1 (Int32.ofInt 0))], me_w M (nt_u (nt_u J2 Rd 2 (lb_c z21.1 (Int32.ofInt 0))) Rd 1 (nI t))) _ := k
            have k := lz_ri rfl (by decide) k
            exact ⟨1, .inl (lb_c z21.1 (Int32.ofInt 0)), _, k, Or.inr (Or.inr ⟨hw5, by omega, _, hv21, Or.inr ⟨z21, rfl, .inr (z21.1, z21.2.1, (lb_e z21.2.2.1 (Int32.ofInt 22), z21.2.2.2)), Or.inr ⟨hw14, rfl⟩, Or.inr ⟨_, rfl, Or.inr (Or.inr ⟨hn, hn2, rfl⟩)⟩⟩⟩), (lb_c_ne (by omega) (by decide) (by decide)), _, _, hS3⟩
          · exact absurd rfl hf
    · subst e1
      have k : nt_rn X _ 48 (69, [(2, .int (nI i)), (1, .int (Int32.ofInt 1)), (0, .ref RR)], [.int (Int32.ofInt 0)], me_w M J) _ := k
      have k := ly_revb 1 (c' := (if (Int32.ofInt 0) = 0 then 72 else 80, [(2, .int (nI i)), (1, .int (Int32.ofInt 1)), (0, .ref RR)], [], me_w M J)) rfl k
      rw [if_pos (show (Int32.ofInt 0) = 0 from by decide)] at k
      have k := ly_revb 1 (c' := (73, [(2, .int (nI i)), (1, .int (Int32.ofInt 1)), (0, .ref RR)], [.ref RR], me_w M J)) rfl k
      have k := lz_get (a := RR) (g := 500) (M := me_w M J) (v := .ref Rd) rfl (nt_gfR rfl hP.1.2.2.1) k
      have k := ly_revb 1 (c' := (77, [(2, .int (nI i)), (1, .int (Int32.ofInt 1)), (0, .ref RR)], [.int (Int32.ofInt 0), .ref Rd], me_w M J)) rfl k
      obtain ⟨d1, o1, ed, kc, k⟩ := lz_c (g := 31) (q := 1) (vs := [.ref Rd, .int (Int32.ofInt 0)]) (rest := []) rfl rfl (by decide) (Or.inr (Or.inl ⟨_, rfl, rfl⟩)) rfl k
      obtain ⟨hf, e1⟩ := (lc_fail hP hS hp kc).resolve_right (fun c => c.1 rfl)
      subst e1
      have hS1 := lc_Spp (q := t) hP (lc_Sf (fb := lb_c z.1 (Int32.ofInt 0)) hP hS)
      have k : nt_rn X _ 48 (80, [(2, .int (nI i)), (1, .int (Int32.ofInt 1)), (0, .ref RR)], [], me_w M (nt_u (nt_u J Rd 2 (lb_c z.1 (Int32.ofInt 0))) Rd 1 (nI t))) _ := k
      have k := ly_revb 1 (c' := (81, [(2, .int (nI i)), (1, .int (Int32.ofInt 1)), (0, .ref RR)], [.ref RR], me_w M (nt_u (nt_u J Rd 2 (lb_c z.1 (Int32.ofInt 0))) Rd 1 (nI t)))) rfl k
      obtain ⟨d1, o1, ed, kc, k⟩ := lz_c (g := 49) (q := 1) (vs := [.ref RR]) (rest := []) rfl rfl (by decide) (Or.inr (Or.inl ⟨_, rfl, rfl⟩)) rfl k
      obtain ⟨m1, s1, J1, e1, hT1⟩ := lc_readSumF hP hS1 (lb_c_ne (by omega) (by decide) (by decide)) kc
      subst e1
      have k : nt_rn X _ 48 (84, [(2, .int (nI i)), (1, .int (Int32.ofInt 1)), (0, .ref RR)], [], me_w M J1) _ := k
      have k := ly_revb 1 (c' := (85, [(2, .int (nI i)), (1, .int (Int32.ofInt 1)), (0, .ref RR)], [.ref RR], me_w M J1)) rfl k
      have k := lz_get (a := RR) (g := 500) (M := me_w M J1) (v := .ref Rd) rfl (nt_gfR rfl hP.1.2.2.1) k
      have k := ly_revb 1 (c' := (90, [(2, .int (nI i)), (1, .int (Int32.ofInt 1)), (0, .ref RR)], [.ref (nt_sp + 1 + 14), .ref Rd], me_w M J1)) rfl k
      obtain ⟨d1, o1, ed, kc, k⟩ := lz_c (g := 32) (q := 1) (vs := [.ref Rd, .ref (nt_sp + 1 + 14)]) (rest := []) rfl rfl (by decide) (Or.inr (Or.inl ⟨_, rfl, rfl⟩)) rfl k
      obtain ⟨hn, e1⟩ := (lc_takesWord hP hT1 (Nat.le_refl t) kc).resolve_left (fun hh => lb_at_t (by decide) hh.1)
      subst e1
      have k : nt_rn X _ 48 (93, [(2, .int (nI i)), (1, .int (Int32.ofInt 1)), (0, .ref RR)], [.int (Int32.ofInt 0)], me_w M J1) _ := k
      have k := ly_revb 1 (c' := (if (Int32.ofInt 0) = 0 then 110 else 96, [(2, .int (nI i)), (1, .int (Int32.ofInt 1)), (0, .ref RR)], [], me_w M J1)) rfl k
      rw [if_pos (show (Int32.ofInt 0) = 0 from by decide)] at k
      have k := ly_revb 2 (c' := (113, [(2, .int (nI i)), (1, .int (Int32.ofInt 1)), (0, .ref RR)], [.int (Int32.ofInt 22), .ref RR], me_w M J1)) rfl k
      obtain ⟨d1, o1, ed, kc, k⟩ := lz_c (g := 54) (q := 1) (vs := [.ref RR, .int (Int32.ofInt 22)]) (rest := []) rfl rfl (by decide) (Or.inr (Or.inl ⟨_, rfl, rfl⟩)) rfl k
      obtain ⟨J2, e1, hS2⟩ := lc_add hP hT1 (Nat.le_refl t) kc
      subst e1
      have k : nt_rn X _ 48 (116, [(2, .int (nI i)), (1, .int (Int32.ofInt 1)), (0, .ref RR)], [], me_w M J2) _ := k
      have k := ly_revb 1 (c' := (117, [(2, .int (nI i)), (1, .int (Int32.ofInt 1)), (0, .ref RR)], [.ref RR], me_w M J2)) rfl k
      have k := lz_get (a := RR) (g := 500) (M := me_w M J2) (v := .ref Rd) rfl (nt_gfR rfl hP.1.2.2.1) k
      obtain ⟨d1, o1, ed, kc, k⟩ := lz_c (g := 35) (q := 1) (vs := [.ref Rd]) (rest := []) rfl rfl (by decide) (Or.inr (Or.inl ⟨_, rfl, rfl⟩)) rfl k
      have hgt : lb_g f t t = Int32.ofInt (-1) := if_neg (by omega)
      have e1 : o1 = (some (.int (Int32.ofInt 0)), me_w M J2) := by
        rcases lc_nextClause hP hS2 (Nat.le_refl t) kc with ⟨q, _⟩ | ⟨_, q⟩ | ⟨_, q, _⟩ | ⟨_, q, _⟩
        · rw [hgt] at q; exact absurd q (by decide)
        · exact q
        · exact absurd hgt q
        · exact absurd hgt q
      subst e1
      have k : nt_rn X _ 48 (123, [(2, .int (nI i)), (1, .int (Int32.ofInt 1)), (0, .ref RR)], [.int (Int32.ofInt 0)], me_w M J2) _ := k
      have k := ly_revb 2 (c' := (127, [(2, .int ((nI i) + Int32.ofInt 1)), (1, .int (Int32.ofInt 0)), (0, .ref RR)], [], me_w M J2)) rfl k
      rw [show ((nI i) + Int32.ofInt 1 : Int32) = nI (i + 1) from me_add (k := 1)] at k
      have k := ly_revb 1 (c' := (21, [(2, .int (nI (i + 1))), (1, .int (Int32.ofInt 0)), (0, .ref RR)], [], me_w M J2)) rfl k
      have k := ly_revb 2 (c' := (if (Int32.ofInt 0) = 0 then 130 else 25, [(2, .int (nI (i + 1))), (1, .int (Int32.ofInt 0)), (0, .ref RR)], [], me_w M J2)) rfl k
      rw [if_pos (show (Int32.ofInt 0) = 0 from by decide)] at k
      have k := ly_revb 1 (c' := (131, [(2, .int (nI (i + 1))), (1, .int (Int32.ofInt 0)), (0, .ref RR)], [.ref RR], me_w M J2)) rfl k
      have k := lz_get (a := RR) (g := 500) (M := me_w M J2) (v := .ref Rd) rfl (nt_gfR rfl hP.1.2.2.1) k
      obtain ⟨d1, o1, ed, kc, k⟩ := lz_c (g := 38) (q := 1) (vs := [.ref Rd]) (rest := []) rfl rfl (by decide) (Or.inr (Or.inl ⟨_, rfl, rfl⟩)) rfl k
      have e1 := lc_fault hP hS2 (Nat.le_refl t) kc
      subst e1
      have k : nt_rn X _ 48 (137, [(2, .int (nI (i + 1))), (1, .int (Int32.ofInt 0)), (0, .ref RR)], [.int (lb_c z.1 (Int32.ofInt 0))], me_w M J2) _ := k
      have k := lz_ri rfl (by decide) k
      exact ⟨1, .inl (lb_c z.1 (Int32.ofInt 0)), _, k, Or.inl ⟨hw5, rfl⟩, (lb_c_ne (by omega) (by decide) (by decide)), _, _, hS2⟩
theorem lc_open {X : nt_X} {d t Rd Tp By RR Sp : Nat} {f : Nat → Int32} {M : nt_M} {J0 J : Nat → Nat → Int32} {o : Option Value × nt_M} {E : Nat → Int32} (hP : lc_P M J0 f t Rd Tp By RR Sp) (h2 : J RR 2 = nI 0) (h3 : J RR 3 = nI 0) (fr : ∀ a, a ≠ Rd → a ≠ RR → a ≠ Sp → J a = J0 a) (k : nt_ev X d 28 [.ref Rd] (me_w M J) o) : ∃ J', o = (none, me_w M J') ∧ lc_S J0 Rd RR Sp (lb_s f t 0) 0 0 (0, E) J' := by
  have k : nt_rn X d 28 (0, [(0, .ref Rd)], [], me_w M J) o := k
  have t4 : t ≤ 400 := hP.2.2.2.2.1
  have k := ly_revb 2 (c' := (2, [(0, .ref Rd)], [.int (Int32.ofInt 0), .ref Rd], me_w M J)) rfl k
  have k := me_put rfl (by decide) k
  have k : nt_rn X _ 28 (5, [(0, .ref Rd)], [], me_w M (nt_u J Rd 1 (Int32.ofInt 0))) _ := k
  have k := ly_revb 2 (c' := (7, [(0, .ref Rd)], [.int (Int32.ofInt 0), .ref Rd], me_w M (nt_u J Rd 1 (Int32.ofInt 0)))) rfl k
  have k := me_put rfl (by decide) k
  have k : nt_rn X _ 28 (10, [(0, .ref Rd)], [], me_w M (nt_u (nt_u J Rd 1 (Int32.ofInt 0)) Rd 2 (Int32.ofInt 0))) _ := k
  have k := ly_revb 2 (c' := (12, [(0, .ref Rd)], [.int (Int32.ofInt 0), .ref Rd], me_w M (nt_u (nt_u J Rd 1 (Int32.ofInt 0)) Rd 2 (Int32.ofInt 0)))) rfl k
  obtain ⟨d1, o1, ed, kc, k⟩ := lz_c (g := 29) (q := 1) (vs := [.ref Rd, .int (Int32.ofInt 0)]) (rest := []) rfl rfl (by decide) (Or.inr (Or.inl ⟨_, rfl, rfl⟩)) rfl k
  have n1 := hP.2.1.2.2.2.2.2.2.1
  have hS0 : lc_S J0 Rd RR Sp 0 0 0 (0, E) (nt_u (nt_u J Rd 1 (Int32.ofInt 0)) Rd 2 (Int32.ofInt 0)) := ⟨(me_uk (by decide)).trans me_us, me_us, (me_uj (Ne.symm n1)).trans ((me_uj (Ne.symm n1)).trans h2), (me_uj (Ne.symm n1)).trans ((me_uj (Ne.symm n1)).trans h3), fun j hj => absurd hj (Nat.not_lt_zero j), fun a q1 q2 q3 => (me_uo q1).trans ((me_uo q1).trans (fr a q1 q2 q3)), Nat.zero_le 400, Nat.zero_le 60⟩
  have e1 := lc_skip (b := 0) hP hS0 (Nat.zero_le t) (by omega) kc
  rw [show min (0 + 0) t = 0 from by omega] at e1
  subst e1
  have k : nt_rn X _ 28 (15, [(0, .ref Rd)], [], me_w M (nt_u (nt_u (nt_u J Rd 1 (Int32.ofInt 0)) Rd 2 (Int32.ofInt 0)) Rd 1 (nI (lb_s f t 0)))) _ := k
  have k := lz_rv rfl rfl k
  exact ⟨_, k, lc_Spp hP hS0⟩
theorem lc_read {X : nt_X} {d t Rd Tp By RR Sp : Nat} {f : Nat → Int32} {M : nt_M} {J0 J : Nat → Nat → Int32} {o : Option Value × nt_M} {E2 : Nat × (Nat → Int32)} (hP : lc_P M J0 f t Rd Tp By RR Sp) (fr : ∀ a, a ≠ Rd → a ≠ RR → a ≠ Sp → J a = J0 a) (k : nt_ev X d 48 [.ref RR] (me_w M J) o) : ∃ k r J', o = (some (.int (lb_rc r)), me_w M J') ∧ lb_cs f t k 0 (lb_s f t 0, 0, ((0, fun _ => 0), E2)) r ∧ lc_Q J0 Rd RR Sp t r J' := by
  have k : nt_rn X d 48 (0, [(0, .ref RR)], [], me_w M J) o := k
  have t4 : t ≤ 400 := hP.2.2.2.2.1
  have k := ly_revb 2 (c' := (2, [(0, .ref RR)], [.int (Int32.ofInt 0), .ref RR], me_w M J)) rfl k
  have k := me_put rfl (by decide) k
  have k : nt_rn X _ 48 (5, [(0, .ref RR)], [], me_w M (nt_u J RR 2 (Int32.ofInt 0))) _ := k
  have k := ly_revb 2 (c' := (7, [(0, .ref RR)], [.int (Int32.ofInt 0), .ref RR], me_w M (nt_u J RR 2 (Int32.ofInt 0)))) rfl k
  have k := me_put rfl (by decide) k
  have k : nt_rn X _ 48 (10, [(0, .ref RR)], [], me_w M (nt_u (nt_u J RR 2 (Int32.ofInt 0)) RR 3 (Int32.ofInt 0))) _ := k
  have k := ly_revb 1 (c' := (11, [(0, .ref RR)], [.ref RR], me_w M (nt_u (nt_u J RR 2 (Int32.ofInt 0)) RR 3 (Int32.ofInt 0)))) rfl k
  have k := lz_get (a := RR) (g := 500) (M := me_w M (nt_u (nt_u J RR 2 (Int32.ofInt 0)) RR 3 (Int32.ofInt 0))) (v := .ref Rd) rfl (nt_gfR rfl hP.1.2.2.1) k
  obtain ⟨d1, o1, ed, kc, k⟩ := lz_c (g := 28) (q := 1) (vs := [.ref Rd]) (rest := []) rfl rfl (by decide) (Or.inr (Or.inl ⟨_, rfl, rfl⟩)) rfl k
  have n1 := hP.2.1.2.2.2.2.2.2.1
  obtain ⟨J1, e1, hS⟩ := lc_open (E := fun _ => 0) hP (show (nt_u (nt_u J RR 2 (Int32.ofInt 0)) RR 3 (Int32.ofInt 0)) RR 2 = nI 0 from (me_uk (by decide)).trans me_us) (show (nt_u (nt_u J RR 2 (Int32.ofInt 0)) RR 3 (Int32.ofInt 0)) RR 3 = nI 0 from me_us) (fun a q1 q2 q3 => (me_uo q2).trans ((me_uo q2).trans (fr a q1 q2 q3))) kc
  subst e1
  have k : nt_rn X _ 48 (17, [(0, .ref RR)], [], me_w M J1) _ := k
  have k := ly_revb 4 (c' := (21, [(2, .int (Int32.ofInt 0)), (1, .int (Int32.ofInt 1)), (0, .ref RR)], [], me_w M J1)) rfl k
  exact lc_rdl hP 12 0 (lb_s f t 0, 0, ((0, fun _ => 0), E2)) J1 rfl (lb_s_le t 0 (by omega)).2 hS k
end
section
/-! the other side's reader: where things lie, what it holds -/
def md_P (M : nt_M) (J0 : Nat → Nat → Int32) (f : Nat → Int32) (t x B Tb Sg Ln : Nat) : Prop := (nt_R M B 0 = some Tb ∧ nt_R M B 3 = some Sg ∧ nt_R M B 4 = some Ln) ∧ (Tb ≠ B ∧ Tb ≠ Sg ∧ Tb ≠ Ln ∧ B ≠ Sg ∧ B ≠ Ln ∧ Sg ≠ Ln) ∧ J0 B 1 = nI t ∧ J0 B 18 = nI x ∧ (∀ j, J0 Tb j = f j) ∧ t ≤ 400 ∧ x ≤ 6 ∧ nt_l M Sg = 2400 ∧ Sg ≠ nt_sp ∧ Ln ≠ nt_sp
def md_S (J0 : Nat → Nat → Int32) (B Sg Ln x q : Nat) (wr : Int32) (m : Nat) (e : Nat × (Nat → Int32)) (J : Nat → Nat → Int32) : Prop := J B 15 = nI q ∧ J B 16 = wr ∧ J B 19 = nI m ∧ J Ln x = nI e.1 ∧ (∀ j, j < e.1 → J Sg (400 * x + j) = e.2 j) ∧ (∀ i, i ≠ 15 → i ≠ 16 → i ≠ 17 → i ≠ 19 → J B i = J0 B i) ∧ (∀ a, a ≠ B → a ≠ Sg → a ≠ Ln → J a = J0 a) ∧ e.1 ≤ 2400 ∧ m ≤ 60
theorem md_t {M : nt_M} {J0 J : Nat → Nat → Int32} {f : Nat → Int32} {t x B Tb Sg Ln q m : Nat} {wr : Int32} {e : Nat × (Nat → Int32)} (hP : md_P M J0 f t x B Tb Sg Ln) (hS : md_S J0 B Sg Ln x q wr m e J) : J B 1 = nI t := (hS.2.2.2.2.2.1 1 (by decide) (by decide) (by decide) (by decide)).trans hP.2.2.1
theorem md_x {M : nt_M} {J0 J : Nat → Nat → Int32} {f : Nat → Int32} {t x B Tb Sg Ln q m : Nat} {wr : Int32} {e : Nat × (Nat → Int32)} (hP : md_P M J0 f t x B Tb Sg Ln) (hS : md_S J0 B Sg Ln x q wr m e J) : J B 18 = nI x := (hS.2.2.2.2.2.1 18 (by decide) (by decide) (by decide) (by decide)).trans hP.2.2.2.1
theorem md_f {M : nt_M} {J0 J : Nat → Nat → Int32} {f : Nat → Int32} {t x B Tb Sg Ln q m : Nat} {wr : Int32} {e : Nat × (Nat → Int32)} (hP : md_P M J0 f t x B Tb Sg Ln) (hS : md_S J0 B Sg Ln x q wr m e J) (j : Nat) : J Tb j = f j := by
  rw [hS.2.2.2.2.2.2.1 Tb hP.2.1.1 hP.2.1.2.1 hP.2.1.2.2.1]
  exact hP.2.2.2.2.1 j
theorem md_Sq {M : nt_M} {J0 J : Nat → Nat → Int32} {f : Nat → Int32} {t x B Tb Sg Ln q m : Nat} {wr : Int32} {e : Nat × (Nat → Int32)} {y : Nat} (hP : md_P M J0 f t x B Tb Sg Ln) (hS : md_S J0 B Sg Ln x q wr m e J)  : md_S J0 B Sg Ln x y wr m e (nt_u J B 15 (nI y)) := by
  obtain ⟨a1, a2, a3, a4, a5, a6, a7, a8⟩ := hS
  have n1 := hP.2.1.2.2.2.1
  have n2 := hP.2.1.2.2.2.2.1
  have n3 := hP.2.1.2.2.2.2.2
  exact ⟨me_us, (me_uk (by decide)).trans a2, (me_uk (by decide)).trans a3, (me_uj (Ne.symm n2)).trans a4, fun j hj => (me_uj (Ne.symm n1)).trans (a5 j hj), fun i q1 q2 q3 q4 => (me_uk q1).trans (a6 i q1 q2 q3 q4), fun a q1 q2 q3 => (me_uo q1).trans (a7 a q1 q2 q3), a8.1, a8.2⟩
theorem md_Sw {M : nt_M} {J0 J : Nat → Nat → Int32} {f : Nat → Int32} {t x B Tb Sg Ln q m : Nat} {wr : Int32} {e : Nat × (Nat → Int32)} {y : Int32} (hP : md_P M J0 f t x B Tb Sg Ln) (hS : md_S J0 B Sg Ln x q wr m e J)  : md_S J0 B Sg Ln x q y m e (nt_u J B 16 (y)) := by
  obtain ⟨a1, a2, a3, a4, a5, a6, a7, a8⟩ := hS
  have n1 := hP.2.1.2.2.2.1
  have n2 := hP.2.1.2.2.2.2.1
  have n3 := hP.2.1.2.2.2.2.2
  exact ⟨(me_uk (by decide)).trans a1, me_us, (me_uk (by decide)).trans a3, (me_uj (Ne.symm n2)).trans a4, fun j hj => (me_uj (Ne.symm n1)).trans (a5 j hj), fun i q1 q2 q3 q4 => (me_uk q2).trans (a6 i q1 q2 q3 q4), fun a q1 q2 q3 => (me_uo q1).trans (a7 a q1 q2 q3), a8.1, a8.2⟩
theorem md_Sn {M : nt_M} {J0 J : Nat → Nat → Int32} {f : Nat → Int32} {t x B Tb Sg Ln q m : Nat} {wr : Int32} {e : Nat × (Nat → Int32)} {y : Int32} (hP : md_P M J0 f t x B Tb Sg Ln) (hS : md_S J0 B Sg Ln x q wr m e J)  : md_S J0 B Sg Ln x q wr m e (nt_u J B 17 (y)) := by
  obtain ⟨a1, a2, a3, a4, a5, a6, a7, a8⟩ := hS
  have n1 := hP.2.1.2.2.2.1
  have n2 := hP.2.1.2.2.2.2.1
  have n3 := hP.2.1.2.2.2.2.2
  exact ⟨(me_uk (by decide)).trans a1, (me_uk (by decide)).trans a2, (me_uk (by decide)).trans a3, (me_uj (Ne.symm n2)).trans a4, fun j hj => (me_uj (Ne.symm n1)).trans (a5 j hj), fun i q1 q2 q3 q4 => (me_uk q3).trans (a6 i q1 q2 q3 q4), fun a q1 q2 q3 => (me_uo q1).trans (a7 a q1 q2 q3), a8.1, a8.2⟩
theorem me_iastb {X : nt_X} {d mi pc a g t q : Nat} {ls : nt_V} {st : List Value} {M : nt_M} {J : Nat → Nat → Int32} {o : Option Value × nt_M} {i x : Int32} (hat : nt_at mi pc = some (pc, .iastore, g, t)) (hi : i = nI q) (hq : q < 2 ^ 31) (k : nt_rn X d mi (pc, ls, .int x :: .int i :: .ref a :: st, me_w M J) o) : q < nt_l M a := by
  obtain ⟨c', hs, k⟩ := lz_s hat rfl k
  have hs : nt_in (me_w M J) a 13 i (some (pc + 1, ls, st, nt_sI (me_w M J) a i.toNatClampNeg x)) = some c' := hs
  unfold nt_in at hs
  obtain ⟨h, _⟩ := nt_if_some hs
  have h := h.2.2
  rw [hi, nI_clamp hq] at h
  have h2 : ¬ nt_l M a ≤ q := fun c => h (Or.inr c)
  omega
def lb_let (f : Nat → Int32) (t k : Nat) : Prop := k < t ∧ Int32.ofInt 97 ≤ f k ∧ f k ≤ Int32.ofInt 122
theorem md_isLetter {X : nt_X} {d t x B Tb Sg Ln q m : Nat} {f : Nat → Int32} {M : nt_M} {J0 J : Nat → Nat → Int32} {o : Option Value × nt_M} {wr : Int32} {e : Nat × (Nat → Int32)} {y : Nat} (hP : md_P M J0 f t x B Tb Sg Ln) (hS : md_S J0 B Sg Ln x q wr m e J) (hp : q ≤ t) (hy : y ≤ 1000) (k : nt_ev X d 138 [.ref B, .int (nI y)] (me_w M J) o) : ∃ r, o = (some (.int r), me_w M J) ∧ (r = Int32.ofInt 1 ∧ lb_let f t y ∨ r = Int32.ofInt 0 ∧ ¬ lb_let f t y) := by
  have k : nt_rn X d 138 (0, [(0, .ref B), (1, .int (nI y))], [], me_w M J) o := k
  have t4 : t ≤ 400 := hP.2.2.2.2.2.1
  have k := ly_revb 2 (c' := (2, [(0, .ref B), (1, .int (nI y))], [.ref B, .int (nI y)], me_w M J)) rfl k
  have k := lz_get (a := B) (g := 1101) (M := me_w M J) (v := .int (nI t)) rfl (congrArg Value.int (md_t hP hS)) k
  have k := ly_revb 1 (c' := (if (nI t) ≤ (nI y) then 34 else 8, [(0, .ref B), (1, .int (nI y))], [], me_w M J)) rfl k
  by_cases h5 : t ≤ y
  · rw [if_pos (show (nI t) ≤ (nI y) from show nI t ≤ nI y from nI_le h5 (by omega))] at k
    have k := ly_revb 1 (c' := (35, [(0, .ref B), (1, .int (nI y))], [.int (Int32.ofInt 0)], me_w M J)) rfl k
    have k := lz_ri rfl (by decide) k
    exact ⟨_, k, Or.inr ⟨rfl, fun c => absurd c.1 (by omega)⟩⟩
  · rw [if_neg (show ¬ ((nI t) ≤ (nI y)) from show ¬ nI t ≤ nI y from nI_ge (Nat.not_le.mp h5) (by omega))] at k
    have k := ly_revb 1 (c' := (9, [(0, .ref B), (1, .int (nI y))], [.ref B], me_w M J)) rfl k
    have k := lz_get (a := B) (g := 1100) (M := me_w M J) (v := .ref Tb) rfl (nt_gfR rfl hP.1.1) k
    have k := ly_revb 1 (c' := (13, [(0, .ref B), (1, .int (nI y))], [.int (nI y), .ref Tb], me_w M J)) rfl k
    have k := me_bald (q := y) (v := f y) rfl (rfl) (by omega) (md_f hP hS y) k
    have k := ly_revb 2 (c' := (if (f y) < (Int32.ofInt 97) then 34 else 19, [(0, .ref B), (1, .int (nI y))], [], me_w M J)) rfl k
    by_cases h16 : (f y) < (Int32.ofInt 97)
    · rw [if_pos (show (f y) < (Int32.ofInt 97) from h16)] at k
      have k := ly_revb 1 (c' := (35, [(0, .ref B), (1, .int (nI y))], [.int (Int32.ofInt 0)], me_w M J)) rfl k
      have k := lz_ri rfl (by decide) k
      exact ⟨_, k, Or.inr ⟨rfl, fun c => absurd c.2.1 (me_nle h16)⟩⟩
    · rw [if_neg (show ¬ ((f y) < (Int32.ofInt 97)) from h16)] at k
      have k := ly_revb 1 (c' := (20, [(0, .ref B), (1, .int (nI y))], [.ref B], me_w M J)) rfl k
      have k := lz_get (a := B) (g := 1100) (M := me_w M J) (v := .ref Tb) rfl (nt_gfR rfl hP.1.1) k
      have k := ly_revb 1 (c' := (24, [(0, .ref B), (1, .int (nI y))], [.int (nI y), .ref Tb], me_w M J)) rfl k
      have k := me_bald (q := y) (v := f y) rfl (rfl) (by omega) (md_f hP hS y) k
      have k := ly_revb 2 (c' := (if (Int32.ofInt 122) < (f y) then 34 else 30, [(0, .ref B), (1, .int (nI y))], [], me_w M J)) rfl k
      by_cases h27 : (Int32.ofInt 122) < (f y)
      · rw [if_pos (show (Int32.ofInt 122) < (f y) from h27)] at k
        have k := ly_revb 1 (c' := (35, [(0, .ref B), (1, .int (nI y))], [.int (Int32.ofInt 0)], me_w M J)) rfl k
        have k := lz_ri rfl (by decide) k
        exact ⟨_, k, Or.inr ⟨rfl, fun c => absurd c.2.2 (me_nle h27)⟩⟩
      · rw [if_neg (show ¬ ((Int32.ofInt 122) < (f y)) from h27)] at k
        have k := ly_revb 2 (c' := (35, [(0, .ref B), (1, .int (nI y))], [.int (Int32.ofInt 1)], me_w M J)) rfl k
        have k := lz_ri rfl (by decide) k
        exact ⟨_, k, Or.inl ⟨rfl, by omega, me_le h16, me_le h27⟩⟩
theorem md_seel {X : nt_X} {d t x B Tb Sg Ln m : Nat} {f : Nat → Int32} {M : nt_M} {J0 : Nat → Nat → Int32} {o : Option Value × nt_M} {wr : Int32} {e : Nat × (Nat → Int32)} (hP : md_P M J0 f t x B Tb Sg Ln) : ∀ (c q : Nat) (J : Nat → Nat → Int32), q + c = t → md_S J0 B Sg Ln x q wr m e J → nt_rn X d 136 (0, [(0, .ref B)], [], me_w M J) o → o = (some (.int (lb_g f t (lb_s f t q))), me_w M (nt_u J B 15 (nI (lb_s f t q)))) := by
  have t4 : t ≤ 400 := hP.2.2.2.2.2.1
  intro c
  induction c with
  | zero =>
    intro q J hc hS k
    have k := ly_revb 1 (c' := (1, [(0, .ref B)], [.ref B], me_w M J)) rfl k
    have k := lz_get (a := B) (g := 1115) (M := me_w M J) (v := .int (nI q)) rfl (congrArg Value.int (hS.1)) k
    have k := ly_revb 1 (c' := (5, [(0, .ref B)], [.ref B, .int (nI q)], me_w M J)) rfl k
    have k := lz_get (a := B) (g := 1101) (M := me_w M J) (v := .int (nI t)) rfl (congrArg Value.int (md_t hP hS)) k
    have k := ly_revb 1 (c' := (if (nI t) ≤ (nI q) then 38 else 11, [(0, .ref B)], [], me_w M J)) rfl k
    rw [if_pos (show (nI t) ≤ (nI q) from show nI t ≤ nI q from nI_le (by omega) (by omega))] at k
    have k := ly_revb 1 (c' := (39, [(0, .ref B)], [.ref B], me_w M J)) rfl k
    have k := lz_get (a := B) (g := 1115) (M := me_w M J) (v := .int (nI q)) rfl (congrArg Value.int (hS.1)) k
    have k := ly_revb 1 (c' := (43, [(0, .ref B)], [.ref B, .int (nI q)], me_w M J)) rfl k
    have k := lz_get (a := B) (g := 1101) (M := me_w M J) (v := .int (nI t)) rfl (congrArg Value.int (md_t hP hS)) k
    have k := ly_revb 1 (c' := (if (nI t) ≤ (nI q) then 65 else 49, [(0, .ref B)], [], me_w M J)) rfl k
    rw [if_pos (show (nI t) ≤ (nI q) from show nI t ≤ nI q from nI_le (by omega) (by omega))] at k
    have k := ly_revb 1 (c' := (66, [(0, .ref B)], [.int (Int32.ofInt (-1))], me_w M J)) rfl k
    have k := lz_ri rfl (by decide) k
    rw [k, lb_s0 (by omega), me_ui hS.1]
    unfold lb_g
    rw [if_neg (by omega)]
  | succ c ih =>
    intro q J hc hS k
    have k := ly_revb 1 (c' := (1, [(0, .ref B)], [.ref B], me_w M J)) rfl k
    have k := lz_get (a := B) (g := 1115) (M := me_w M J) (v := .int (nI q)) rfl (congrArg Value.int (hS.1)) k
    have k := ly_revb 1 (c' := (5, [(0, .ref B)], [.ref B, .int (nI q)], me_w M J)) rfl k
    have k := lz_get (a := B) (g := 1101) (M := me_w M J) (v := .int (nI t)) rfl (congrArg Value.int (md_t hP hS)) k
    have k := ly_revb 1 (c' := (if (nI t) ≤ (nI q) then 38 else 11, [(0, .ref B)], [], me_w M J)) rfl k
    rw [if_neg (show ¬ ((nI t) ≤ (nI q)) from show ¬ nI t ≤ nI q from nI_ge (Nat.not_le.mp (by omega)) (by omega))] at k
    have k := ly_revb 1 (c' := (12, [(0, .ref B)], [.ref B], me_w M J)) rfl k
    have k := lz_get (a := B) (g := 1100) (M := me_w M J) (v := .ref Tb) rfl (nt_gfR rfl hP.1.1) k
    have k := ly_revb 1 (c' := (16, [(0, .ref B)], [.ref B, .ref Tb], me_w M J)) rfl k
    have k := lz_get (a := B) (g := 1115) (M := me_w M J) (v := .int (nI q)) rfl (congrArg Value.int (hS.1)) k
    have k := me_bald (q := q) (v := f q) rfl (rfl) (by omega) (md_f hP hS q) k
    have k := ly_revb 2 (c' := (if (f q) = (Int32.ofInt 32) then 25 else 38, [(0, .ref B)], [], me_w M J)) rfl k
    by_cases h22 : (f q) = (Int32.ofInt 32)
    · rw [if_pos (show (f q) = (Int32.ofInt 32) from h22)] at k
      have k := ly_revb 2 (c' := (27, [(0, .ref B)], [.ref B, .ref B], me_w M J)) rfl k
      have k := lz_get (a := B) (g := 1115) (M := me_w M J) (v := .int (nI q)) rfl (congrArg Value.int (hS.1)) k
      have k := ly_revb 2 (c' := (32, [(0, .ref B)], [.int ((nI q) + (Int32.ofInt 1)), .ref B], me_w M J)) rfl k
      rw [show ((nI q) + (Int32.ofInt 1) : Int32) = nI (q + 1) from me_add (k := 1)] at k
      have k := me_put rfl (by decide) k
      have k : nt_rn X _ 136 (35, [(0, .ref B)], [], me_w M (nt_u J B 15 (nI (q + 1)))) _ := k
      have k := ly_revb 1 (c' := (0, [(0, .ref B)], [], me_w M (nt_u J B 15 (nI (q + 1))))) rfl k
      have k := ih (q + 1) _ (by omega) (md_Sq hP hS) k
      rw [k, lb_s1 ⟨by omega, h22⟩, me_uu]
    · rw [if_neg (show ¬ ((f q) = (Int32.ofInt 32)) from h22)] at k
      have k := ly_revb 1 (c' := (39, [(0, .ref B)], [.ref B], me_w M J)) rfl k
      have k := lz_get (a := B) (g := 1115) (M := me_w M J) (v := .int (nI q)) rfl (congrArg Value.int (hS.1)) k
      have k := ly_revb 1 (c' := (43, [(0, .ref B)], [.ref B, .int (nI q)], me_w M J)) rfl k
      have k := lz_get (a := B) (g := 1101) (M := me_w M J) (v := .int (nI t)) rfl (congrArg Value.int (md_t hP hS)) k
      have k := ly_revb 1 (c' := (if (nI t) ≤ (nI q) then 65 else 49, [(0, .ref B)], [], me_w M J)) rfl k
      rw [if_neg (show ¬ ((nI t) ≤ (nI q)) from show ¬ nI t ≤ nI q from nI_ge (Nat.not_le.mp (by omega)) (by omega))] at k
      have k := ly_revb 1 (c' := (50, [(0, .ref B)], [.ref B], me_w M J)) rfl k
      have k := lz_get (a := B) (g := 1100) (M := me_w M J) (v := .ref Tb) rfl (nt_gfR rfl hP.1.1) k
      have k := ly_revb 1 (c' := (54, [(0, .ref B)], [.ref B, .ref Tb], me_w M J)) rfl k
      have k := lz_get (a := B) (g := 1115) (M := me_w M J) (v := .int (nI q)) rfl (congrArg Value.int (hS.1)) k
      have k := me_bald (q := q) (v := f q) rfl (rfl) (by omega) (md_f hP hS q) k
      have k := ly_revb 3 (c' := (66, [(0, .ref B)], [.int ((f q) &&& (Int32.ofInt 255))], me_w M J)) rfl k
      have k := lz_ri rfl (by decide) k
      rw [k, lb_s0 (by intro c; exact h22 c.2), me_ui hS.1]
      unfold lb_g
      rw [if_pos (by omega)]
theorem md_see {X : nt_X} {d t x B Tb Sg Ln q m : Nat} {f : Nat → Int32} {M : nt_M} {J0 J : Nat → Nat → Int32} {o : Option Value × nt_M} {wr : Int32} {e : Nat × (Nat → Int32)} (hP : md_P M J0 f t x B Tb Sg Ln) (hS : md_S J0 B Sg Ln x q wr m e J) (hp : q ≤ t) (k : nt_ev X d 136 [.ref B] (me_w M J) o) : o = (some (.int (lb_g f t (lb_s f t q))), me_w M (nt_u J B 15 (nI (lb_s f t q)))) := md_seel hP (t - q) q J (by omega) hS k
theorem md_fails {X : nt_X} {d t x B Tb Sg Ln q m : Nat} {f : Nat → Int32} {M : nt_M} {J0 J : Nat → Nat → Int32} {o : Option Value × nt_M} {wr : Int32} {e : Nat × (Nat → Int32)} {y : Int32} {a : Nat} (hP : md_P M J0 f t x B Tb Sg Ln) (hS : md_S J0 B Sg Ln x q wr m e J) (hp : q ≤ t) (k : nt_ev X d 139 [.ref B, .int (y), .int (nI a)] (me_w M J) o) : wr = 0 ∧ o = (some (.int (Int32.ofInt 0)), me_w M (nt_u J B 16 (lb_c a y))) ∨ ¬ wr = 0 ∧ o = (some (.int (Int32.ofInt 0)), me_w M J) := by
  have k : nt_rn X d 139 (0, [(0, .ref B), (1, .int (y)), (2, .int (nI a))], [], me_w M J) o := k
  have t4 : t ≤ 400 := hP.2.2.2.2.2.1
  have k := ly_revb 1 (c' := (1, [(0, .ref B), (1, .int (y)), (2, .int (nI a))], [.ref B], me_w M J)) rfl k
  have k := lz_get (a := B) (g := 1116) (M := me_w M J) (v := .int (wr)) rfl (congrArg Value.int (hS.2.1)) k
  have k := ly_revb 1 (c' := (if wr = 0 then 7 else 19, [(0, .ref B), (1, .int (y)), (2, .int (nI a))], [], me_w M J)) rfl k
  by_cases h4 : wr = 0
  · rw [if_pos (show wr = 0 from h4)] at k
    have k := ly_revb 8 (c' := (16, [(0, .ref B), (1, .int (y)), (2, .int (nI a))], [.int (((Int32.ofInt 1) + ((Int32.ofInt 8) * (nI a))) + y), .ref B], me_w M J)) rfl k
    have k := me_put rfl (by decide) k
    have k : nt_rn X _ 139 (19, [(0, .ref B), (1, .int (y)), (2, .int (nI a))], [], me_w M (nt_u J B 16 (((Int32.ofInt 1) + ((Int32.ofInt 8) * (nI a))) + y))) _ := k
    have k := ly_revb 1 (c' := (20, [(0, .ref B), (1, .int (y)), (2, .int (nI a))], [.int (Int32.ofInt 0)], me_w M (nt_u J B 16 (((Int32.ofInt 1) + ((Int32.ofInt 8) * (nI a))) + y)))) rfl k
    have k := lz_ri rfl (by decide) k
    exact Or.inl ⟨h4, k⟩
  · rw [if_neg (show ¬ (wr = 0) from h4)] at k
    have k := ly_revb 1 (c' := (20, [(0, .ref B), (1, .int (y)), (2, .int (nI a))], [.int (Int32.ofInt 0)], me_w M J)) rfl k
    have k := lz_ri rfl (by decide) k
    exact Or.inr ⟨h4, k⟩
def lb_ln (f : Nat → Int32) (t : Nat) : Nat → Nat → Nat
  | 0, _ => 0
  | n + 1, p => @ite _ (p < t ∧ Int32.ofInt 97 ≤ f p ∧ f p ≤ Int32.ofInt 122) instDecidableAnd (lb_ln f t n (p + 1) + 1) 0
def lb_l (f : Nat → Int32) (t p : Nat) : Nat := lb_ln f t (t - p) p
theorem lb_l0 {f : Nat → Int32} {t p : Nat} (h : ¬ lb_let f t p) : lb_l f t p = 0 := by
  unfold lb_l
  cases hn : t - p with
  | zero => rfl
  | succ n =>
    unfold lb_ln
    rw [if_neg (show ¬ (p < t ∧ Int32.ofInt 97 ≤ f p ∧ f p ≤ Int32.ofInt 122) from h)]
theorem lb_l1 {f : Nat → Int32} {t p : Nat} (h : lb_let f t p) : lb_l f t p = lb_l f t (p + 1) + 1 := by
  have hp : p < t := h.1
  unfold lb_l
  rw [show t - p = t - (p + 1) + 1 from by omega]
  show (if p < t ∧ Int32.ofInt 97 ≤ f p ∧ f p ≤ Int32.ofInt 122 then lb_ln f t (t - (p + 1)) (p + 1) + 1 else 0) = _
  rw [if_pos (show (p < t ∧ Int32.ofInt 97 ≤ f p ∧ f p ≤ Int32.ofInt 122) from h)]
theorem lb_l_le {f : Nat → Int32} {t : Nat} : ∀ (n p : Nat), p + n = t → p + lb_l f t p ≤ t := by
  intro n
  induction n with
  | zero =>
    intro p h
    rw [lb_l0 (fun c => by have := c.1; omega)]
    omega
  | succ n ih =>
    intro p h
    by_cases c : lb_let f t p
    · rw [lb_l1 c]
      have := ih (p + 1) (by omega)
      omega
    · rw [lb_l0 c]
      omega
theorem md_pwl {X : nt_X} {d t x B Tb Sg Ln m : Nat} {f : Nat → Int32} {M : nt_M} {J0 : Nat → Nat → Int32} {o : Option Value × nt_M} {wr : Int32} {e : Nat × (Nat → Int32)} (hP : md_P M J0 f t x B Tb Sg Ln) : ∀ (c q : Nat) (J : Nat → Nat → Int32), q + c = t → md_S J0 B Sg Ln x q wr m e J → nt_rn X d 142 (0, [(0, .ref B)], [], me_w M J) o → o = (none, me_w M (nt_u J B 15 (nI (q + lb_l f t q)))) := by
  have t4 : t ≤ 400 := hP.2.2.2.2.2.1
  intro c
  induction c with
  | zero =>
    intro q J hc hS k
    have k := ly_revb 2 (c' := (2, [(0, .ref B)], [.ref B, .ref B], me_w M J)) rfl k
    have k := lz_get (a := B) (g := 1115) (M := me_w M J) (v := .int (nI q)) rfl (congrArg Value.int (hS.1)) k
    obtain ⟨d1, o1, ed, kc, k⟩ := lz_c (g := 138) (q := 1) (vs := [.ref B, .int (nI q)]) (rest := []) rfl rfl (by decide) (Or.inr (Or.inl ⟨_, rfl, rfl⟩)) rfl k
    obtain ⟨r, e1, hr⟩ := md_isLetter hP hS (by omega) (by omega) kc
    subst e1
    rcases hr with ⟨rfl, hr⟩ | ⟨rfl, hr⟩
    · have k : nt_rn X _ 142 (8, [(0, .ref B)], [.int (Int32.ofInt 1)], me_w M J) _ := k
      exact absurd hr.1 (by omega)
    · have k : nt_rn X _ 142 (8, [(0, .ref B)], [.int (Int32.ofInt 0)], me_w M J) _ := k
      have k := ly_revb 1 (c' := (if (Int32.ofInt 0) = 0 then 24 else 11, [(0, .ref B)], [], me_w M J)) rfl k
      rw [if_pos (show (Int32.ofInt 0) = 0 from by decide)] at k
      have k := lz_rv rfl rfl k
      rw [k, lb_l0 hr, me_ui (show J B 15 = nI (q + 0) from hS.1)]
  | succ c ih =>
    intro q J hc hS k
    have k := ly_revb 2 (c' := (2, [(0, .ref B)], [.ref B, .ref B], me_w M J)) rfl k
    have k := lz_get (a := B) (g := 1115) (M := me_w M J) (v := .int (nI q)) rfl (congrArg Value.int (hS.1)) k
    obtain ⟨d1, o1, ed, kc, k⟩ := lz_c (g := 138) (q := 1) (vs := [.ref B, .int (nI q)]) (rest := []) rfl rfl (by decide) (Or.inr (Or.inl ⟨_, rfl, rfl⟩)) rfl k
    obtain ⟨r, e1, hr⟩ := md_isLetter hP hS (by omega) (by omega) kc
    subst e1
    rcases hr with ⟨rfl, hr⟩ | ⟨rfl, hr⟩
    · have k : nt_rn X _ 142 (8, [(0, .ref B)], [.int (Int32.ofInt 1)], me_w M J) _ := k
      have k := ly_revb 1 (c' := (if (Int32.ofInt 1) = 0 then 24 else 11, [(0, .ref B)], [], me_w M J)) rfl k
      rw [if_neg (show ¬ ((Int32.ofInt 1) = 0) from by decide)] at k
      have k := ly_revb 2 (c' := (13, [(0, .ref B)], [.ref B, .ref B], me_w M J)) rfl k
      have k := lz_get (a := B) (g := 1115) (M := me_w M J) (v := .int (nI q)) rfl (congrArg Value.int (hS.1)) k
      have k := ly_revb 2 (c' := (18, [(0, .ref B)], [.int ((nI q) + (Int32.ofInt 1)), .ref B], me_w M J)) rfl k
      rw [show ((nI q) + (Int32.ofInt 1) : Int32) = nI (q + 1) from me_add (k := 1)] at k
      have k := me_put rfl (by decide) k
      have k : nt_rn X _ 142 (21, [(0, .ref B)], [], me_w M (nt_u J B 15 (nI (q + 1)))) _ := k
      have k := ly_revb 1 (c' := (0, [(0, .ref B)], [], me_w M (nt_u J B 15 (nI (q + 1))))) rfl k
      have k := ih (q + 1) _ (by omega) (md_Sq hP hS) k
      rw [k, lb_l1 hr, me_uu, show q + 1 + lb_l f t (q + 1) = q + (lb_l f t (q + 1) + 1) from by omega]
    · have k : nt_rn X _ 142 (8, [(0, .ref B)], [.int (Int32.ofInt 0)], me_w M J) _ := k
      have k := ly_revb 1 (c' := (if (Int32.ofInt 0) = 0 then 24 else 11, [(0, .ref B)], [], me_w M J)) rfl k
      rw [if_pos (show (Int32.ofInt 0) = 0 from by decide)] at k
      have k := lz_rv rfl rfl k
      rw [k, lb_l0 hr, me_ui (show J B 15 = nI (q + 0) from hS.1)]
theorem md_pass {X : nt_X} {d t x B Tb Sg Ln q m : Nat} {f : Nat → Int32} {M : nt_M} {J0 J : Nat → Nat → Int32} {o : Option Value × nt_M} {wr : Int32} {e : Nat × (Nat → Int32)} (hP : md_P M J0 f t x B Tb Sg Ln) (hS : md_S J0 B Sg Ln x q wr m e J) (hp : q ≤ t) (k : nt_ev X d 142 [.ref B] (me_w M J) o) : o = (none, me_w M (nt_u J B 15 (nI (q + lb_l f t q)))) := md_pwl hP (t - q) q J (by omega) hS k
end
section
/-! words, packed into a number -/
def lb_pk (f : Nat → Int32) (p : Nat) : Nat → Int64
  | 0 => Int64.ofNat 0
  | n + 1 => if n < 8 then (lb_pk f p n <<< ((Int32.ofInt 8).toInt64 &&& 63)) ||| (f (p + n)).toInt64 else lb_pk f p n
def lb_iw (f : Nat → Int32) (t p : Nat) (w : Int64) : Prop := 0 < lb_l f t p ∧ lb_l f t p < 8 ∧ lg_cmp (lb_pk f p (lb_l f t p)) w = 0
theorem md_iwl {X : nt_X} {d t x B Tb Sg Ln q m : Nat} {f : Nat → Int32} {M : nt_M} {J0 J : Nat → Nat → Int32} {o : Option Value × nt_M} {wr : Int32} {e : Nat × (Nat → Int32)} {w : Int64} (hP : md_P M J0 f t x B Tb Sg Ln) (hS : md_S J0 B Sg Ln x q wr m e J) (hp : q ≤ t) : ∀ (c n : Nat), lb_l f t (q + n) = c → n + c = lb_l f t q → nt_rn X d 137 (10, [(5, .int (nI n)), (3, .long (lb_pk f q n)), (0, .ref B), (1, .long w)], [], me_w M J) o → ∃ r, o = (some (.int r), me_w M J) ∧ (r = Int32.ofInt 1 ∧ lb_iw f t q w ∨ r = Int32.ofInt 0 ∧ ¬ lb_iw f t q w) := by
  have t4 : t ≤ 400 := hP.2.2.2.2.2.1
  have hl := lb_l_le (f := f) (t := t) (t - q) q (by omega)
  intro c
  induction c with
  | zero =>
    intro n hc hn k
    have hn : n = lb_l f t q := by omega
    have k := ly_revb 2 (c' := (12, [(5, .int (nI n)), (3, .long (lb_pk f q n)), (0, .ref B), (1, .long (w))], [.ref B, .ref B], me_w M J)) rfl k
    have k := lz_get (a := B) (g := 1115) (M := me_w M J) (v := .int (nI q)) rfl (congrArg Value.int (hS.1)) k
    have k := ly_revb 2 (c' := (18, [(5, .int (nI n)), (3, .long (lb_pk f q n)), (0, .ref B), (1, .long (w))], [.int ((nI q) + (nI n)), .ref B], me_w M J)) rfl k
    rw [show ((nI q) + (nI n) : Int32) = nI (q + n) from me_addn] at k
    obtain ⟨d1, o1, ed, kc, k⟩ := lz_c (g := 138) (q := 1) (vs := [.ref B, .int (nI (q + n))]) (rest := []) rfl rfl (by decide) (Or.inr (Or.inl ⟨_, rfl, rfl⟩)) rfl k
    obtain ⟨r, e1, hr⟩ := md_isLetter hP hS hp (by omega) kc
    subst e1
    rcases hr with ⟨rfl, hr⟩ | ⟨rfl, hr⟩
    · have k : nt_rn X _ 137 (21, [(5, .int (nI n)), (3, .long (lb_pk f q n)), (0, .ref B), (1, .long (w))], [.int (Int32.ofInt 1)], me_w M J) _ := k
      rw [lb_l1 hr] at hc
      omega
    · have k : nt_rn X _ 137 (21, [(5, .int (nI n)), (3, .long (lb_pk f q n)), (0, .ref B), (1, .long (w))], [.int (Int32.ofInt 0)], me_w M J) _ := k
      have k := ly_revb 1 (c' := (if (Int32.ofInt 0) = 0 then 56 else 24, [(5, .int (nI n)), (3, .long (lb_pk f q n)), (0, .ref B), (1, .long (w))], [], me_w M J)) rfl k
      rw [if_pos (show (Int32.ofInt 0) = 0 from by decide)] at k
      have k := ly_revb 2 (c' := (if (nI n) ≤ 0 then 78 else 61, [(5, .int (nI n)), (3, .long (lb_pk f q n)), (0, .ref B), (1, .long (w))], [], me_w M J)) rfl k
      by_cases h58 : n = 0
      · rw [if_pos (show (nI n) ≤ 0 from by rw [h58]; decide)] at k
        have k := ly_revb 1 (c' := (79, [(5, .int (nI n)), (3, .long (lb_pk f q n)), (0, .ref B), (1, .long (w))], [.int (Int32.ofInt 0)], me_w M J)) rfl k
        have k := lz_ri rfl (by decide) k
        exact ⟨_, k, Or.inr ⟨rfl, fun c => absurd c.1 (by omega)⟩⟩
      · rw [if_neg (show ¬ ((nI n) ≤ 0) from nI_nle (Nat.pos_of_ne_zero h58) (by omega))] at k
        have k := ly_revb 3 (c' := (if (Int32.ofInt 8) ≤ (nI n) then 78 else 68, [(5, .int (nI n)), (3, .long (lb_pk f q n)), (0, .ref B), (1, .long (w))], [], me_w M J)) rfl k
        by_cases h65 : 8 ≤ n
        · rw [if_pos (show (Int32.ofInt 8) ≤ (nI n) from show nI 8 ≤ nI n from nI_le h65 (by omega))] at k
          have k := ly_revb 1 (c' := (79, [(5, .int (nI n)), (3, .long (lb_pk f q n)), (0, .ref B), (1, .long (w))], [.int (Int32.ofInt 0)], me_w M J)) rfl k
          have k := lz_ri rfl (by decide) k
          exact ⟨_, k, Or.inr ⟨rfl, fun c => absurd c.2.1 (by omega)⟩⟩
        · rw [if_neg (show ¬ ((Int32.ofInt 8) ≤ (nI n)) from show ¬ nI 8 ≤ nI n from nI_ge (Nat.not_le.mp h65) (by omega))] at k
          have k := ly_revb 4 (c' := (if (lg_cmp (lb_pk f q n) w) = 0 then 74 else 78, [(5, .int (nI n)), (3, .long (lb_pk f q n)), (0, .ref B), (1, .long (w))], [], me_w M J)) rfl k
          by_cases h71 : (lg_cmp (lb_pk f q n) w) = 0
          · rw [if_pos (show (lg_cmp (lb_pk f q n) w) = 0 from h71)] at k
            have k := ly_revb 2 (c' := (79, [(5, .int (nI n)), (3, .long (lb_pk f q n)), (0, .ref B), (1, .long (w))], [.int (Int32.ofInt 1)], me_w M J)) rfl k
            have k := lz_ri rfl (by decide) k
            exact ⟨_, k, Or.inl ⟨rfl, by omega, by omega, hn ▸ h71⟩⟩
          · rw [if_neg (show ¬ ((lg_cmp (lb_pk f q n) w) = 0) from h71)] at k
            have k := ly_revb 1 (c' := (79, [(5, .int (nI n)), (3, .long (lb_pk f q n)), (0, .ref B), (1, .long (w))], [.int (Int32.ofInt 0)], me_w M J)) rfl k
            have k := lz_ri rfl (by decide) k
            exact ⟨_, k, Or.inr ⟨rfl, fun c => h71 (hn.symm ▸ c.2.2)⟩⟩
  | succ c ih =>
    intro n hc hn k
    have k := ly_revb 2 (c' := (12, [(5, .int (nI n)), (3, .long (lb_pk f q n)), (0, .ref B), (1, .long (w))], [.ref B, .ref B], me_w M J)) rfl k
    have k := lz_get (a := B) (g := 1115) (M := me_w M J) (v := .int (nI q)) rfl (congrArg Value.int (hS.1)) k
    have k := ly_revb 2 (c' := (18, [(5, .int (nI n)), (3, .long (lb_pk f q n)), (0, .ref B), (1, .long (w))], [.int ((nI q) + (nI n)), .ref B], me_w M J)) rfl k
    rw [show ((nI q) + (nI n) : Int32) = nI (q + n) from me_addn] at k
    obtain ⟨d1, o1, ed, kc, k⟩ := lz_c (g := 138) (q := 1) (vs := [.ref B, .int (nI (q + n))]) (rest := []) rfl rfl (by decide) (Or.inr (Or.inl ⟨_, rfl, rfl⟩)) rfl k
    obtain ⟨r, e1, hr⟩ := md_isLetter hP hS hp (by omega) kc
    subst e1
    rcases hr with ⟨rfl, hr⟩ | ⟨rfl, hr⟩
    · have k : nt_rn X _ 137 (21, [(5, .int (nI n)), (3, .long (lb_pk f q n)), (0, .ref B), (1, .long (w))], [.int (Int32.ofInt 1)], me_w M J) _ := k
      have k := ly_revb 1 (c' := (if (Int32.ofInt 1) = 0 then 56 else 24, [(5, .int (nI n)), (3, .long (lb_pk f q n)), (0, .ref B), (1, .long (w))], [], me_w M J)) rfl k
      rw [if_neg (show ¬ ((Int32.ofInt 1) = 0) from by decide)] at k
      have k := ly_revb 3 (c' := (if (Int32.ofInt 8) ≤ (nI n) then 50 else 31, [(5, .int (nI n)), (3, .long (lb_pk f q n)), (0, .ref B), (1, .long (w))], [], me_w M J)) rfl k
      by_cases h28 : 8 ≤ n
      · rw [if_pos (show (Int32.ofInt 8) ≤ (nI n) from show nI 8 ≤ nI n from nI_le h28 (by omega))] at k
        have k := ly_revb 1 (c' := (53, [(5, .int ((nI n) + Int32.ofInt 1)), (3, .long (lb_pk f q n)), (0, .ref B), (1, .long (w))], [], me_w M J)) rfl k
        rw [show ((nI n) + Int32.ofInt 1 : Int32) = nI (n + 1) from me_add (k := 1)] at k
        have k := ly_revb 1 (c' := (10, [(5, .int (nI (n + 1))), (3, .long (lb_pk f q n)), (0, .ref B), (1, .long (w))], [], me_w M J)) rfl k
        have ep : lb_pk f q (n + 1) = lb_pk f q n := if_neg (by omega)
        rw [← ep] at k
        exact ih (n + 1) (by rw [lb_l1 hr] at hc; exact Nat.succ.inj hc) (by omega) k
      · rw [if_neg (show ¬ ((Int32.ofInt 8) ≤ (nI n)) from show ¬ nI 8 ≤ nI n from nI_ge (Nat.not_le.mp h28) (by omega))] at k
        have k := ly_revb 4 (c' := (36, [(5, .int (nI n)), (3, .long (lb_pk f q n)), (0, .ref B), (1, .long (w))], [.ref B, .long ((lb_pk f q n) <<< ((Int32.ofInt 8).toInt64 &&& 63))], me_w M J)) rfl k
        have k := lz_get (a := B) (g := 1100) (M := me_w M J) (v := .ref Tb) rfl (nt_gfR rfl hP.1.1) k
        have k := ly_revb 1 (c' := (40, [(5, .int (nI n)), (3, .long (lb_pk f q n)), (0, .ref B), (1, .long (w))], [.ref B, .ref Tb, .long ((lb_pk f q n) <<< ((Int32.ofInt 8).toInt64 &&& 63))], me_w M J)) rfl k
        have k := lz_get (a := B) (g := 1115) (M := me_w M J) (v := .int (nI q)) rfl (congrArg Value.int (hS.1)) k
        have k := ly_revb 2 (c' := (46, [(5, .int (nI n)), (3, .long (lb_pk f q n)), (0, .ref B), (1, .long (w))], [.int ((nI q) + (nI n)), .ref Tb, .long ((lb_pk f q n) <<< ((Int32.ofInt 8).toInt64 &&& 63))], me_w M J)) rfl k
        rw [show ((nI q) + (nI n) : Int32) = nI (q + n) from me_addn] at k
        have k := me_bald (q := (q + n)) (v := f ((q + n))) rfl (rfl) (by omega) (md_f hP hS ((q + n))) k
        have k := ly_revb 4 (c' := (53, [(5, .int ((nI n) + Int32.ofInt 1)), (3, .long (((lb_pk f q n) <<< ((Int32.ofInt 8).toInt64 &&& 63)) ||| ((f ((q + n))).toInt64))), (0, .ref B), (1, .long (w))], [], me_w M J)) rfl k
        rw [show ((nI n) + Int32.ofInt 1 : Int32) = nI (n + 1) from me_add (k := 1)] at k
        have k := ly_revb 1 (c' := (10, [(5, .int (nI (n + 1))), (3, .long (((lb_pk f q n) <<< ((Int32.ofInt 8).toInt64 &&& 63)) ||| ((f ((q + n))).toInt64))), (0, .ref B), (1, .long (w))], [], me_w M J)) rfl k
        have ep : lb_pk f q (n + 1) = ((lb_pk f q n) <<< ((Int32.ofInt 8).toInt64 &&& 63)) ||| ((f ((q + n))).toInt64) := if_pos (by omega)
        rw [← ep] at k
        exact ih (n + 1) (by rw [lb_l1 hr] at hc; exact Nat.succ.inj hc) (by omega) k
    · have k : nt_rn X _ 137 (21, [(5, .int (nI n)), (3, .long (lb_pk f q n)), (0, .ref B), (1, .long (w))], [.int (Int32.ofInt 0)], me_w M J) _ := k
      rw [lb_l0 hr] at hc
      omega
theorem md_isWord {X : nt_X} {d t x B Tb Sg Ln q m : Nat} {f : Nat → Int32} {M : nt_M} {J0 J : Nat → Nat → Int32} {o : Option Value × nt_M} {wr : Int32} {e : Nat × (Nat → Int32)} {w : Int64} (hP : md_P M J0 f t x B Tb Sg Ln) (hS : md_S J0 B Sg Ln x q wr m e J) (hp : q ≤ t) (k : nt_ev X d 137 [.ref B, .long (w)] (me_w M J) o) : ∃ r, o = (some (.int r), me_w M (nt_u J B 15 (nI (lb_s f t q)))) ∧ (r = Int32.ofInt 1 ∧ lb_iw f t (lb_s f t q) w ∨ r = Int32.ofInt 0 ∧ ¬ lb_iw f t (lb_s f t q) w) := by
  have k : nt_rn X d 137 (0, [(0, .ref B), (1, .long (w))], [], me_w M J) o := k
  have t4 : t ≤ 400 := hP.2.2.2.2.2.1
  have k := ly_revb 1 (c' := (1, [(0, .ref B), (1, .long (w))], [.ref B], me_w M J)) rfl k
  obtain ⟨d1, o1, ed, kc, k⟩ := lz_c (g := 136) (q := 1) (vs := [.ref B]) (rest := []) rfl rfl (by decide) (Or.inr (Or.inl ⟨_, rfl, rfl⟩)) rfl k
  have e1 := md_see hP hS hp kc
  subst e1
  have hS1 := md_Sq (y := lb_s f t q) hP hS
  have hp1 : lb_s f t q ≤ t := (lb_s_le (t - q) q (by omega)).2
  have k : nt_rn X _ 137 (4, [(0, .ref B), (1, .long (w))], [.int (lb_g f t (lb_s f t q))], me_w M (nt_u J B 15 (nI (lb_s f t q)))) _ := k
  have k := ly_revb 5 (c' := (10, [(5, .int (Int32.ofInt 0)), (3, .long (Int64.ofNat 0)), (0, .ref B), (1, .long (w))], [], me_w M (nt_u J B 15 (nI (lb_s f t q))))) rfl k
  exact md_iwl hP hS1 hp1 _ 0 rfl (by rw [Nat.add_zero]; omega) k
end
section
/-! what a packed number says of the letters -/
theorem lb_l_let {f : Nat → Int32} {t : Nat} : ∀ (n p : Nat), lb_l f t p = n → (∀ i, i < n → lb_let f t (p + i)) ∧ ¬ lb_let f t (p + n) := by
  intro n
  induction n with
  | zero =>
    intro p h
    refine ⟨fun i hi => absurd hi (Nat.not_lt_zero i), fun c => ?_⟩
    rw [Nat.add_zero] at c
    rw [lb_l1 c] at h
    omega
  | succ n ih =>
    intro p h
    by_cases c : lb_let f t p
    · rw [lb_l1 c] at h
      obtain ⟨a, b⟩ := ih (p + 1) (by omega)
      refine ⟨fun i hi => ?_, ?_⟩
      · by_cases e : i = 0
        · rw [e]; exact c
        · have q := a (i - 1) (by omega)
          rw [show p + 1 + (i - 1) = p + i from by omega] at q
          exact q
      · rw [show p + (n + 1) = p + 1 + n from by omega]; exact b
    · rw [lb_l0 c] at h
      omega
theorem lb_l_eq {f : Nat → Int32} {t : Nat} : ∀ (n p : Nat), (∀ i, i < n → lb_let f t (p + i)) → ¬ lb_let f t (p + n) → lb_l f t p = n := by
  intro n
  induction n with
  | zero =>
    intro p _ h
    exact lb_l0 h
  | succ n ih =>
    intro p h1 h2
    have c : lb_let f t p := h1 0 (by omega)
    rw [lb_l1 c, ih (p + 1) (fun i hi => by rw [show p + 1 + i = p + (i + 1) from by omega]; exact h1 (i + 1) (by omega)) (by rw [show p + 1 + n = p + (n + 1) from by omega]; exact h2)]
/-- the letters as a number -/
def lb_pn (f : Nat → Int32) (p : Nat) : Nat → Nat
  | 0 => 0
  | n + 1 => lb_pn f p n * 256 + (f (p + n)).toInt.toNat
theorem lb_let_b {f : Nat → Int32} {t k : Nat} (h : lb_let f t k) : 97 ≤ (f k).toInt ∧ (f k).toInt ≤ 122 := by
  have a := Int32.le_iff_toInt_le.mp h.2.1
  have b := Int32.le_iff_toInt_le.mp h.2.2
  exact ⟨a, b⟩
theorem lb_pk1 {x : Int64} {c : Int32} {X : Nat} (hx : x.toBitVec.toNat = X) (hX : X < 2 ^ 48) (h0 : 0 ≤ c.toInt) (h1 : c.toInt < 256) : ((x <<< ((Int32.ofInt 8).toInt64 &&& 63)) ||| c.toInt64).toBitVec.toNat = X * 256 + c.toInt.toNat := by
  have e8 : ((Int32.ofInt 8).toInt64 &&& 63) = 8 := by decide
  have ec : c.toInt64.toBitVec.toNat = c.toInt.toNat := by
    have q : c.toInt64.toInt = c.toInt := Int32.toInt_toInt64 c
    have q2 : c.toInt64.toBitVec.toInt = c.toInt := q
    rw [BitVec.toInt_eq_toNat_cond] at q2
    split at q2 <;> omega
  rw [e8, Int64.toBitVec_or, Int64.toBitVec_shiftLeft, BitVec.toNat_or, ec]
  have es : (x.toBitVec <<< (8 : Int64).toBitVec.smod 64).toNat = X * 256 := by
    have e : (8 : Int64).toBitVec.smod 64 = 8#64 := by decide
    rw [e, BitVec.shiftLeft_eq', BitVec.toNat_shiftLeft, hx]
    show (X <<< 8) % 2 ^ 64 = X * 256
    rw [Nat.shiftLeft_eq]
    omega
  rw [es]
  have := Nat.shiftLeft_add_eq_or_of_lt (i := 8) (b := c.toInt.toNat) (by omega) X
  rw [Nat.shiftLeft_eq, show (2 : Nat) ^ 8 = 256 from rfl] at this
  exact this.symm
theorem lb_pkn {f : Nat → Int32} {t p : Nat} : ∀ n, n ≤ 7 → (∀ i, i < n → lb_let f t (p + i)) → (lb_pk f p n).toBitVec.toNat = lb_pn f p n ∧ lb_pn f p n < 256 ^ n := by
  intro n
  induction n with
  | zero => intro _ _; exact ⟨rfl, Nat.one_pos⟩
  | succ n ih =>
    intro hn h
    obtain ⟨a, b⟩ := ih (by omega) (fun i hi => h i (by omega))
    have c := lb_let_b (h n (by omega))
    have e : lb_pk f p (n + 1) = (lb_pk f p n <<< ((Int32.ofInt 8).toInt64 &&& 63)) ||| (f (p + n)).toInt64 := if_pos (by omega)
    have hb : (256 : Nat) ^ n ≤ 256 ^ 6 := Nat.pow_le_pow_right (by decide) (by omega)
    have hb2 : (256 : Nat) ^ 6 = 2 ^ 48 := by decide
    refine ⟨?_, ?_⟩
    · rw [e, lb_pk1 a (by omega) (by omega) (by omega)]
      rfl
    · show lb_pn f p n * 256 + (f (p + n)).toInt.toNat < 256 ^ n * 256
      omega
theorem lg_cmp0 {x y : Int64} (h : lg_cmp x y = 0) : x = y := by
  unfold lg_cmp at h
  split at h
  · exact absurd h (by decide)
  · split at h
    · rename_i q
      first | exact q | exact eq_of_beq q
    · exact absurd h (by decide)
theorem lg_cmp1 {x : Int64} : lg_cmp x x = 0 := by
  unfold lg_cmp
  rw [if_neg (by intro c; have := Int64.lt_iff_toInt_lt.mp c; omega)]
  simp
end
section
/-! a packed word is the word -/
theorem lb_w_kinds {f : Nat → Int32} {t p : Nat} : lb_iw f t p (461330343027 : Int64) ↔ lb_at f t (lb_W (nt_sp + 1 + 0)) p := by
  have hW : lb_W (nt_sp + 1 + 0) = [107, 105, 110, 100, 115] := by decide +kernel
  have hV : (461330343027 : Int64).toBitVec.toNat = 461330343027 := by decide +kernel
  constructor
  · intro ⟨h0, h8, hc⟩
    obtain ⟨hl, hn⟩ := lb_l_let (f := f) (t := t) _ p rfl
    have e := lg_cmp0 hc
    obtain ⟨a, _⟩ := lb_pkn (lb_l f t p) (by omega) hl
    rw [e, hV] at a
    clear e hc
    generalize lb_l f t p = n at *
    rcases (by omega : n = 1 ∨ n = 2 ∨ n = 3 ∨ n = 4 ∨ n = 5 ∨ n = 6 ∨ n = 7) with rfl | rfl | rfl | rfl | rfl | rfl | rfl
    · have b0 := lb_let_b (hl 0 (by omega))
      simp only [lb_pn] at a
      omega
    · have b0 := lb_let_b (hl 0 (by omega))
      have b1 := lb_let_b (hl 1 (by omega))
      simp only [lb_pn] at a
      omega
    · have b0 := lb_let_b (hl 0 (by omega))
      have b1 := lb_let_b (hl 1 (by omega))
      have b2 := lb_let_b (hl 2 (by omega))
      simp only [lb_pn] at a
      omega
    · have b0 := lb_let_b (hl 0 (by omega))
      have b1 := lb_let_b (hl 1 (by omega))
      have b2 := lb_let_b (hl 2 (by omega))
      have b3 := lb_let_b (hl 3 (by omega))
      simp only [lb_pn] at a
      omega
    · have b0 := lb_let_b (hl 0 (by omega))
      have b1 := lb_let_b (hl 1 (by omega))
      have b2 := lb_let_b (hl 2 (by omega))
      have b3 := lb_let_b (hl 3 (by omega))
      have b4 := lb_let_b (hl 4 (by omega))
      simp only [lb_pn] at a
      have v0 : (f (p + 0)).toInt = 107 := by omega
      have v1 : (f (p + 1)).toInt = 105 := by omega
      have v2 : (f (p + 2)).toInt = 110 := by omega
      have v3 : (f (p + 3)).toInt = 100 := by omega
      have v4 : (f (p + 4)).toInt = 115 := by omega
      have hq := (hl 4 (by omega)).1
      rw [hW]
      refine ⟨by show p + 5 ≤ t; omega, fun i hi => ?_, hn⟩
      have hi : i < 5 := hi
      rcases (by omega : i = 0 ∨ i = 1 ∨ i = 2 ∨ i = 3 ∨ i = 4) with rfl | rfl | rfl | rfl | rfl
      · exact Int32.toInt_inj.mp v0
      · exact Int32.toInt_inj.mp v1
      · exact Int32.toInt_inj.mp v2
      · exact Int32.toInt_inj.mp v3
      · exact Int32.toInt_inj.mp v4
    · have b0 := lb_let_b (hl 0 (by omega))
      have b1 := lb_let_b (hl 1 (by omega))
      have b2 := lb_let_b (hl 2 (by omega))
      have b3 := lb_let_b (hl 3 (by omega))
      have b4 := lb_let_b (hl 4 (by omega))
      have b5 := lb_let_b (hl 5 (by omega))
      simp only [lb_pn] at a
      omega
    · have b0 := lb_let_b (hl 0 (by omega))
      have b1 := lb_let_b (hl 1 (by omega))
      have b2 := lb_let_b (hl 2 (by omega))
      have b3 := lb_let_b (hl 3 (by omega))
      have b4 := lb_let_b (hl 4 (by omega))
      have b5 := lb_let_b (hl 5 (by omega))
      have b6 := lb_let_b (hl 6 (by omega))
      simp only [lb_pn] at a
      omega
  · intro h
    rw [hW] at h
    obtain ⟨h1, h2, h3⟩ := h
    have h1 : p + 5 ≤ t := h1
    have v0 : f (p + 0) = 107 := h2 0 (by decide)
    have v1 : f (p + 1) = 105 := h2 1 (by decide)
    have v2 : f (p + 2) = 110 := h2 2 (by decide)
    have v3 : f (p + 3) = 100 := h2 3 (by decide)
    have v4 : f (p + 4) = 115 := h2 4 (by decide)
    have hl : ∀ i, i < 5 → lb_let f t (p + i) := by
      intro i hi
      refine ⟨by omega, ?_⟩
      rcases (by omega : i = 0 ∨ i = 1 ∨ i = 2 ∨ i = 3 ∨ i = 4) with rfl | rfl | rfl | rfl | rfl
      · rw [v0]; decide
      · rw [v1]; decide
      · rw [v2]; decide
      · rw [v3]; decide
      · rw [v4]; decide
    have el := lb_l_eq (f := f) (t := t) 5 p hl h3
    unfold lb_iw
    rw [el]
    refine ⟨by decide, by decide, ?_⟩
    obtain ⟨a, _⟩ := lb_pkn 5 (by decide) hl
    have e : lb_pn f p 5 = 461330343027 := by
      simp only [lb_pn, v0, v1, v2, v3, v4]
      decide +kernel
    have e2 : lb_pk f p 5 = (461330343027 : Int64) := by
      apply Int64.toBitVec_inj.mp
      apply BitVec.eq_of_toNat_eq
      rw [a, e, hV]
    rw [e2]
    exact lg_cmp1
theorem lb_w_ship {f : Nat → Int32} {t p : Nat} : lb_iw f t p (1936222576 : Int64) ↔ lb_at f t (lb_W (nt_sp + 1 + 1)) p := by
  have hW : lb_W (nt_sp + 1 + 1) = [115, 104, 105, 112] := by decide +kernel
  have hV : (1936222576 : Int64).toBitVec.toNat = 1936222576 := by decide +kernel
  constructor
  · intro ⟨h0, h8, hc⟩
    obtain ⟨hl, hn⟩ := lb_l_let (f := f) (t := t) _ p rfl
    have e := lg_cmp0 hc
    obtain ⟨a, _⟩ := lb_pkn (lb_l f t p) (by omega) hl
    rw [e, hV] at a
    clear e hc
    generalize lb_l f t p = n at *
    rcases (by omega : n = 1 ∨ n = 2 ∨ n = 3 ∨ n = 4 ∨ n = 5 ∨ n = 6 ∨ n = 7) with rfl | rfl | rfl | rfl | rfl | rfl | rfl
    · have b0 := lb_let_b (hl 0 (by omega))
      simp only [lb_pn] at a
      omega
    · have b0 := lb_let_b (hl 0 (by omega))
      have b1 := lb_let_b (hl 1 (by omega))
      simp only [lb_pn] at a
      omega
    · have b0 := lb_let_b (hl 0 (by omega))
      have b1 := lb_let_b (hl 1 (by omega))
      have b2 := lb_let_b (hl 2 (by omega))
      simp only [lb_pn] at a
      omega
    · have b0 := lb_let_b (hl 0 (by omega))
      have b1 := lb_let_b (hl 1 (by omega))
      have b2 := lb_let_b (hl 2 (by omega))
      have b3 := lb_let_b (hl 3 (by omega))
      simp only [lb_pn] at a
      have v0 : (f (p + 0)).toInt = 115 := by omega
      have v1 : (f (p + 1)).toInt = 104 := by omega
      have v2 : (f (p + 2)).toInt = 105 := by omega
      have v3 : (f (p + 3)).toInt = 112 := by omega
      have hq := (hl 3 (by omega)).1
      rw [hW]
      refine ⟨by show p + 4 ≤ t; omega, fun i hi => ?_, hn⟩
      have hi : i < 4 := hi
      rcases (by omega : i = 0 ∨ i = 1 ∨ i = 2 ∨ i = 3) with rfl | rfl | rfl | rfl
      · exact Int32.toInt_inj.mp v0
      · exact Int32.toInt_inj.mp v1
      · exact Int32.toInt_inj.mp v2
      · exact Int32.toInt_inj.mp v3
    · have b0 := lb_let_b (hl 0 (by omega))
      have b1 := lb_let_b (hl 1 (by omega))
      have b2 := lb_let_b (hl 2 (by omega))
      have b3 := lb_let_b (hl 3 (by omega))
      have b4 := lb_let_b (hl 4 (by omega))
      simp only [lb_pn] at a
      omega
    · have b0 := lb_let_b (hl 0 (by omega))
      have b1 := lb_let_b (hl 1 (by omega))
      have b2 := lb_let_b (hl 2 (by omega))
      have b3 := lb_let_b (hl 3 (by omega))
      have b4 := lb_let_b (hl 4 (by omega))
      have b5 := lb_let_b (hl 5 (by omega))
      simp only [lb_pn] at a
      omega
    · have b0 := lb_let_b (hl 0 (by omega))
      have b1 := lb_let_b (hl 1 (by omega))
      have b2 := lb_let_b (hl 2 (by omega))
      have b3 := lb_let_b (hl 3 (by omega))
      have b4 := lb_let_b (hl 4 (by omega))
      have b5 := lb_let_b (hl 5 (by omega))
      have b6 := lb_let_b (hl 6 (by omega))
      simp only [lb_pn] at a
      omega
  · intro h
    rw [hW] at h
    obtain ⟨h1, h2, h3⟩ := h
    have h1 : p + 4 ≤ t := h1
    have v0 : f (p + 0) = 115 := h2 0 (by decide)
    have v1 : f (p + 1) = 104 := h2 1 (by decide)
    have v2 : f (p + 2) = 105 := h2 2 (by decide)
    have v3 : f (p + 3) = 112 := h2 3 (by decide)
    have hl : ∀ i, i < 4 → lb_let f t (p + i) := by
      intro i hi
      refine ⟨by omega, ?_⟩
      rcases (by omega : i = 0 ∨ i = 1 ∨ i = 2 ∨ i = 3) with rfl | rfl | rfl | rfl
      · rw [v0]; decide
      · rw [v1]; decide
      · rw [v2]; decide
      · rw [v3]; decide
    have el := lb_l_eq (f := f) (t := t) 4 p hl h3
    unfold lb_iw
    rw [el]
    refine ⟨by decide, by decide, ?_⟩
    obtain ⟨a, _⟩ := lb_pkn 4 (by decide) hl
    have e : lb_pn f p 4 = 1936222576 := by
      simp only [lb_pn, v0, v1, v2, v3]
      decide +kernel
    have e2 : lb_pk f p 4 = (1936222576 : Int64) := by
      apply Int64.toBitVec_inj.mp
      apply BitVec.eq_of_toNat_eq
      rw [a, e, hV]
    rw [e2]
    exact lg_cmp1
theorem lb_w_plank {f : Nat → Int32} {t p : Nat} : lb_iw f t p (482854661739 : Int64) ↔ lb_at f t (lb_W (nt_sp + 1 + 2)) p := by
  have hW : lb_W (nt_sp + 1 + 2) = [112, 108, 97, 110, 107] := by decide +kernel
  have hV : (482854661739 : Int64).toBitVec.toNat = 482854661739 := by decide +kernel
  constructor
  · intro ⟨h0, h8, hc⟩
    obtain ⟨hl, hn⟩ := lb_l_let (f := f) (t := t) _ p rfl
    have e := lg_cmp0 hc
    obtain ⟨a, _⟩ := lb_pkn (lb_l f t p) (by omega) hl
    rw [e, hV] at a
    clear e hc
    generalize lb_l f t p = n at *
    rcases (by omega : n = 1 ∨ n = 2 ∨ n = 3 ∨ n = 4 ∨ n = 5 ∨ n = 6 ∨ n = 7) with rfl | rfl | rfl | rfl | rfl | rfl | rfl
    · have b0 := lb_let_b (hl 0 (by omega))
      simp only [lb_pn] at a
      omega
    · have b0 := lb_let_b (hl 0 (by omega))
      have b1 := lb_let_b (hl 1 (by omega))
      simp only [lb_pn] at a
      omega
    · have b0 := lb_let_b (hl 0 (by omega))
      have b1 := lb_let_b (hl 1 (by omega))
      have b2 := lb_let_b (hl 2 (by omega))
      simp only [lb_pn] at a
      omega
    · have b0 := lb_let_b (hl 0 (by omega))
      have b1 := lb_let_b (hl 1 (by omega))
      have b2 := lb_let_b (hl 2 (by omega))
      have b3 := lb_let_b (hl 3 (by omega))
      simp only [lb_pn] at a
      omega
    · have b0 := lb_let_b (hl 0 (by omega))
      have b1 := lb_let_b (hl 1 (by omega))
      have b2 := lb_let_b (hl 2 (by omega))
      have b3 := lb_let_b (hl 3 (by omega))
      have b4 := lb_let_b (hl 4 (by omega))
      simp only [lb_pn] at a
      have v0 : (f (p + 0)).toInt = 112 := by omega
      have v1 : (f (p + 1)).toInt = 108 := by omega
      have v2 : (f (p + 2)).toInt = 97 := by omega
      have v3 : (f (p + 3)).toInt = 110 := by omega
      have v4 : (f (p + 4)).toInt = 107 := by omega
      have hq := (hl 4 (by omega)).1
      rw [hW]
      refine ⟨by show p + 5 ≤ t; omega, fun i hi => ?_, hn⟩
      have hi : i < 5 := hi
      rcases (by omega : i = 0 ∨ i = 1 ∨ i = 2 ∨ i = 3 ∨ i = 4) with rfl | rfl | rfl | rfl | rfl
      · exact Int32.toInt_inj.mp v0
      · exact Int32.toInt_inj.mp v1
      · exact Int32.toInt_inj.mp v2
      · exact Int32.toInt_inj.mp v3
      · exact Int32.toInt_inj.mp v4
    · have b0 := lb_let_b (hl 0 (by omega))
      have b1 := lb_let_b (hl 1 (by omega))
      have b2 := lb_let_b (hl 2 (by omega))
      have b3 := lb_let_b (hl 3 (by omega))
      have b4 := lb_let_b (hl 4 (by omega))
      have b5 := lb_let_b (hl 5 (by omega))
      simp only [lb_pn] at a
      omega
    · have b0 := lb_let_b (hl 0 (by omega))
      have b1 := lb_let_b (hl 1 (by omega))
      have b2 := lb_let_b (hl 2 (by omega))
      have b3 := lb_let_b (hl 3 (by omega))
      have b4 := lb_let_b (hl 4 (by omega))
      have b5 := lb_let_b (hl 5 (by omega))
      have b6 := lb_let_b (hl 6 (by omega))
      simp only [lb_pn] at a
      omega
  · intro h
    rw [hW] at h
    obtain ⟨h1, h2, h3⟩ := h
    have h1 : p + 5 ≤ t := h1
    have v0 : f (p + 0) = 112 := h2 0 (by decide)
    have v1 : f (p + 1) = 108 := h2 1 (by decide)
    have v2 : f (p + 2) = 97 := h2 2 (by decide)
    have v3 : f (p + 3) = 110 := h2 3 (by decide)
    have v4 : f (p + 4) = 107 := h2 4 (by decide)
    have hl : ∀ i, i < 5 → lb_let f t (p + i) := by
      intro i hi
      refine ⟨by omega, ?_⟩
      rcases (by omega : i = 0 ∨ i = 1 ∨ i = 2 ∨ i = 3 ∨ i = 4) with rfl | rfl | rfl | rfl | rfl
      · rw [v0]; decide
      · rw [v1]; decide
      · rw [v2]; decide
      · rw [v3]; decide
      · rw [v4]; decide
    have el := lb_l_eq (f := f) (t := t) 5 p hl h3
    unfold lb_iw
    rw [el]
    refine ⟨by decide, by decide, ?_⟩
    obtain ⟨a, _⟩ := lb_pkn 5 (by decide) hl
    have e : lb_pn f p 5 = 482854661739 := by
      simp only [lb_pn, v0, v1, v2, v3, v4]
      decide +kernel
    have e2 : lb_pk f p 5 = (482854661739 : Int64) := by
      apply Int64.toBitVec_inj.mp
      apply BitVec.eq_of_toNat_eq
      rw [a, e, hV]
    rw [e2]
    exact lg_cmp1
theorem lb_w_voyage {f : Nat → Int32} {t p : Nat} : lb_iw f t p (130221149874021 : Int64) ↔ lb_at f t (lb_W (nt_sp + 1 + 3)) p := by
  have hW : lb_W (nt_sp + 1 + 3) = [118, 111, 121, 97, 103, 101] := by decide +kernel
  have hV : (130221149874021 : Int64).toBitVec.toNat = 130221149874021 := by decide +kernel
  constructor
  · intro ⟨h0, h8, hc⟩
    obtain ⟨hl, hn⟩ := lb_l_let (f := f) (t := t) _ p rfl
    have e := lg_cmp0 hc
    obtain ⟨a, _⟩ := lb_pkn (lb_l f t p) (by omega) hl
    rw [e, hV] at a
    clear e hc
    generalize lb_l f t p = n at *
    rcases (by omega : n = 1 ∨ n = 2 ∨ n = 3 ∨ n = 4 ∨ n = 5 ∨ n = 6 ∨ n = 7) with rfl | rfl | rfl | rfl | rfl | rfl | rfl
    · have b0 := lb_let_b (hl 0 (by omega))
      simp only [lb_pn] at a
      omega
    · have b0 := lb_let_b (hl 0 (by omega))
      have b1 := lb_let_b (hl 1 (by omega))
      simp only [lb_pn] at a
      omega
    · have b0 := lb_let_b (hl 0 (by omega))
      have b1 := lb_let_b (hl 1 (by omega))
      have b2 := lb_let_b (hl 2 (by omega))
      simp only [lb_pn] at a
      omega
    · have b0 := lb_let_b (hl 0 (by omega))
      have b1 := lb_let_b (hl 1 (by omega))
      have b2 := lb_let_b (hl 2 (by omega))
      have b3 := lb_let_b (hl 3 (by omega))
      simp only [lb_pn] at a
      omega
    · have b0 := lb_let_b (hl 0 (by omega))
      have b1 := lb_let_b (hl 1 (by omega))
      have b2 := lb_let_b (hl 2 (by omega))
      have b3 := lb_let_b (hl 3 (by omega))
      have b4 := lb_let_b (hl 4 (by omega))
      simp only [lb_pn] at a
      omega
    · have b0 := lb_let_b (hl 0 (by omega))
      have b1 := lb_let_b (hl 1 (by omega))
      have b2 := lb_let_b (hl 2 (by omega))
      have b3 := lb_let_b (hl 3 (by omega))
      have b4 := lb_let_b (hl 4 (by omega))
      have b5 := lb_let_b (hl 5 (by omega))
      simp only [lb_pn] at a
      have v0 : (f (p + 0)).toInt = 118 := by omega
      have v1 : (f (p + 1)).toInt = 111 := by omega
      have v2 : (f (p + 2)).toInt = 121 := by omega
      have v3 : (f (p + 3)).toInt = 97 := by omega
      have v4 : (f (p + 4)).toInt = 103 := by omega
      have v5 : (f (p + 5)).toInt = 101 := by omega
      have hq := (hl 5 (by omega)).1
      rw [hW]
      refine ⟨by show p + 6 ≤ t; omega, fun i hi => ?_, hn⟩
      have hi : i < 6 := hi
      rcases (by omega : i = 0 ∨ i = 1 ∨ i = 2 ∨ i = 3 ∨ i = 4 ∨ i = 5) with rfl | rfl | rfl | rfl | rfl | rfl
      · exact Int32.toInt_inj.mp v0
      · exact Int32.toInt_inj.mp v1
      · exact Int32.toInt_inj.mp v2
      · exact Int32.toInt_inj.mp v3
      · exact Int32.toInt_inj.mp v4
      · exact Int32.toInt_inj.mp v5
    · have b0 := lb_let_b (hl 0 (by omega))
      have b1 := lb_let_b (hl 1 (by omega))
      have b2 := lb_let_b (hl 2 (by omega))
      have b3 := lb_let_b (hl 3 (by omega))
      have b4 := lb_let_b (hl 4 (by omega))
      have b5 := lb_let_b (hl 5 (by omega))
      have b6 := lb_let_b (hl 6 (by omega))
      simp only [lb_pn] at a
      omega
  · intro h
    rw [hW] at h
    obtain ⟨h1, h2, h3⟩ := h
    have h1 : p + 6 ≤ t := h1
    have v0 : f (p + 0) = 118 := h2 0 (by decide)
    have v1 : f (p + 1) = 111 := h2 1 (by decide)
    have v2 : f (p + 2) = 121 := h2 2 (by decide)
    have v3 : f (p + 3) = 97 := h2 3 (by decide)
    have v4 : f (p + 4) = 103 := h2 4 (by decide)
    have v5 : f (p + 5) = 101 := h2 5 (by decide)
    have hl : ∀ i, i < 6 → lb_let f t (p + i) := by
      intro i hi
      refine ⟨by omega, ?_⟩
      rcases (by omega : i = 0 ∨ i = 1 ∨ i = 2 ∨ i = 3 ∨ i = 4 ∨ i = 5) with rfl | rfl | rfl | rfl | rfl | rfl
      · rw [v0]; decide
      · rw [v1]; decide
      · rw [v2]; decide
      · rw [v3]; decide
      · rw [v4]; decide
      · rw [v5]; decide
    have el := lb_l_eq (f := f) (t := t) 6 p hl h3
    unfold lb_iw
    rw [el]
    refine ⟨by decide, by decide, ?_⟩
    obtain ⟨a, _⟩ := lb_pkn 6 (by decide) hl
    have e : lb_pn f p 6 = 130221149874021 := by
      simp only [lb_pn, v0, v1, v2, v3, v4, v5]
      decide +kernel
    have e2 : lb_pk f p 6 = (130221149874021 : Int64) := by
      apply Int64.toBitVec_inj.mp
      apply BitVec.eq_of_toNat_eq
      rw [a, e, hV]
    rw [e2]
    exact lg_cmp1
theorem lb_w_hands {f : Nat → Int32} {t p : Nat} : lb_iw f t p (448311223411 : Int64) ↔ lb_at f t (lb_W (nt_sp + 1 + 4)) p := by
  have hW : lb_W (nt_sp + 1 + 4) = [104, 97, 110, 100, 115] := by decide +kernel
  have hV : (448311223411 : Int64).toBitVec.toNat = 448311223411 := by decide +kernel
  constructor
  · intro ⟨h0, h8, hc⟩
    obtain ⟨hl, hn⟩ := lb_l_let (f := f) (t := t) _ p rfl
    have e := lg_cmp0 hc
    obtain ⟨a, _⟩ := lb_pkn (lb_l f t p) (by omega) hl
    rw [e, hV] at a
    clear e hc
    generalize lb_l f t p = n at *
    rcases (by omega : n = 1 ∨ n = 2 ∨ n = 3 ∨ n = 4 ∨ n = 5 ∨ n = 6 ∨ n = 7) with rfl | rfl | rfl | rfl | rfl | rfl | rfl
    · have b0 := lb_let_b (hl 0 (by omega))
      simp only [lb_pn] at a
      omega
    · have b0 := lb_let_b (hl 0 (by omega))
      have b1 := lb_let_b (hl 1 (by omega))
      simp only [lb_pn] at a
      omega
    · have b0 := lb_let_b (hl 0 (by omega))
      have b1 := lb_let_b (hl 1 (by omega))
      have b2 := lb_let_b (hl 2 (by omega))
      simp only [lb_pn] at a
      omega
    · have b0 := lb_let_b (hl 0 (by omega))
      have b1 := lb_let_b (hl 1 (by omega))
      have b2 := lb_let_b (hl 2 (by omega))
      have b3 := lb_let_b (hl 3 (by omega))
      simp only [lb_pn] at a
      omega
    · have b0 := lb_let_b (hl 0 (by omega))
      have b1 := lb_let_b (hl 1 (by omega))
      have b2 := lb_let_b (hl 2 (by omega))
      have b3 := lb_let_b (hl 3 (by omega))
      have b4 := lb_let_b (hl 4 (by omega))
      simp only [lb_pn] at a
      have v0 : (f (p + 0)).toInt = 104 := by omega
      have v1 : (f (p + 1)).toInt = 97 := by omega
      have v2 : (f (p + 2)).toInt = 110 := by omega
      have v3 : (f (p + 3)).toInt = 100 := by omega
      have v4 : (f (p + 4)).toInt = 115 := by omega
      have hq := (hl 4 (by omega)).1
      rw [hW]
      refine ⟨by show p + 5 ≤ t; omega, fun i hi => ?_, hn⟩
      have hi : i < 5 := hi
      rcases (by omega : i = 0 ∨ i = 1 ∨ i = 2 ∨ i = 3 ∨ i = 4) with rfl | rfl | rfl | rfl | rfl
      · exact Int32.toInt_inj.mp v0
      · exact Int32.toInt_inj.mp v1
      · exact Int32.toInt_inj.mp v2
      · exact Int32.toInt_inj.mp v3
      · exact Int32.toInt_inj.mp v4
    · have b0 := lb_let_b (hl 0 (by omega))
      have b1 := lb_let_b (hl 1 (by omega))
      have b2 := lb_let_b (hl 2 (by omega))
      have b3 := lb_let_b (hl 3 (by omega))
      have b4 := lb_let_b (hl 4 (by omega))
      have b5 := lb_let_b (hl 5 (by omega))
      simp only [lb_pn] at a
      omega
    · have b0 := lb_let_b (hl 0 (by omega))
      have b1 := lb_let_b (hl 1 (by omega))
      have b2 := lb_let_b (hl 2 (by omega))
      have b3 := lb_let_b (hl 3 (by omega))
      have b4 := lb_let_b (hl 4 (by omega))
      have b5 := lb_let_b (hl 5 (by omega))
      have b6 := lb_let_b (hl 6 (by omega))
      simp only [lb_pn] at a
      omega
  · intro h
    rw [hW] at h
    obtain ⟨h1, h2, h3⟩ := h
    have h1 : p + 5 ≤ t := h1
    have v0 : f (p + 0) = 104 := h2 0 (by decide)
    have v1 : f (p + 1) = 97 := h2 1 (by decide)
    have v2 : f (p + 2) = 110 := h2 2 (by decide)
    have v3 : f (p + 3) = 100 := h2 3 (by decide)
    have v4 : f (p + 4) = 115 := h2 4 (by decide)
    have hl : ∀ i, i < 5 → lb_let f t (p + i) := by
      intro i hi
      refine ⟨by omega, ?_⟩
      rcases (by omega : i = 0 ∨ i = 1 ∨ i = 2 ∨ i = 3 ∨ i = 4) with rfl | rfl | rfl | rfl | rfl
      · rw [v0]; decide
      · rw [v1]; decide
      · rw [v2]; decide
      · rw [v3]; decide
      · rw [v4]; decide
    have el := lb_l_eq (f := f) (t := t) 5 p hl h3
    unfold lb_iw
    rw [el]
    refine ⟨by decide, by decide, ?_⟩
    obtain ⟨a, _⟩ := lb_pkn 5 (by decide) hl
    have e : lb_pn f p 5 = 448311223411 := by
      simp only [lb_pn, v0, v1, v2, v3, v4]
      decide +kernel
    have e2 : lb_pk f p 5 = (448311223411 : Int64) := by
      apply Int64.toBitVec_inj.mp
      apply BitVec.eq_of_toNat_eq
      rw [a, e, hV]
    rw [e2]
    exact lg_cmp1
theorem lb_w_take {f : Nat → Int32} {t p : Nat} : lb_iw f t p (1952541541 : Int64) ↔ lb_at f t (lb_W (nt_sp + 1 + 5)) p := by
  have hW : lb_W (nt_sp + 1 + 5) = [116, 97, 107, 101] := by decide +kernel
  have hV : (1952541541 : Int64).toBitVec.toNat = 1952541541 := by decide +kernel
  constructor
  · intro ⟨h0, h8, hc⟩
    obtain ⟨hl, hn⟩ := lb_l_let (f := f) (t := t) _ p rfl
    have e := lg_cmp0 hc
    obtain ⟨a, _⟩ := lb_pkn (lb_l f t p) (by omega) hl
    rw [e, hV] at a
    clear e hc
    generalize lb_l f t p = n at *
    rcases (by omega : n = 1 ∨ n = 2 ∨ n = 3 ∨ n = 4 ∨ n = 5 ∨ n = 6 ∨ n = 7) with rfl | rfl | rfl | rfl | rfl | rfl | rfl
    · have b0 := lb_let_b (hl 0 (by omega))
      simp only [lb_pn] at a
      omega
    · have b0 := lb_let_b (hl 0 (by omega))
      have b1 := lb_let_b (hl 1 (by omega))
      simp only [lb_pn] at a
      omega
    · have b0 := lb_let_b (hl 0 (by omega))
      have b1 := lb_let_b (hl 1 (by omega))
      have b2 := lb_let_b (hl 2 (by omega))
      simp only [lb_pn] at a
      omega
    · have b0 := lb_let_b (hl 0 (by omega))
      have b1 := lb_let_b (hl 1 (by omega))
      have b2 := lb_let_b (hl 2 (by omega))
      have b3 := lb_let_b (hl 3 (by omega))
      simp only [lb_pn] at a
      have v0 : (f (p + 0)).toInt = 116 := by omega
      have v1 : (f (p + 1)).toInt = 97 := by omega
      have v2 : (f (p + 2)).toInt = 107 := by omega
      have v3 : (f (p + 3)).toInt = 101 := by omega
      have hq := (hl 3 (by omega)).1
      rw [hW]
      refine ⟨by show p + 4 ≤ t; omega, fun i hi => ?_, hn⟩
      have hi : i < 4 := hi
      rcases (by omega : i = 0 ∨ i = 1 ∨ i = 2 ∨ i = 3) with rfl | rfl | rfl | rfl
      · exact Int32.toInt_inj.mp v0
      · exact Int32.toInt_inj.mp v1
      · exact Int32.toInt_inj.mp v2
      · exact Int32.toInt_inj.mp v3
    · have b0 := lb_let_b (hl 0 (by omega))
      have b1 := lb_let_b (hl 1 (by omega))
      have b2 := lb_let_b (hl 2 (by omega))
      have b3 := lb_let_b (hl 3 (by omega))
      have b4 := lb_let_b (hl 4 (by omega))
      simp only [lb_pn] at a
      omega
    · have b0 := lb_let_b (hl 0 (by omega))
      have b1 := lb_let_b (hl 1 (by omega))
      have b2 := lb_let_b (hl 2 (by omega))
      have b3 := lb_let_b (hl 3 (by omega))
      have b4 := lb_let_b (hl 4 (by omega))
      have b5 := lb_let_b (hl 5 (by omega))
      simp only [lb_pn] at a
      omega
    · have b0 := lb_let_b (hl 0 (by omega))
      have b1 := lb_let_b (hl 1 (by omega))
      have b2 := lb_let_b (hl 2 (by omega))
      have b3 := lb_let_b (hl 3 (by omega))
      have b4 := lb_let_b (hl 4 (by omega))
      have b5 := lb_let_b (hl 5 (by omega))
      have b6 := lb_let_b (hl 6 (by omega))
      simp only [lb_pn] at a
      omega
  · intro h
    rw [hW] at h
    obtain ⟨h1, h2, h3⟩ := h
    have h1 : p + 4 ≤ t := h1
    have v0 : f (p + 0) = 116 := h2 0 (by decide)
    have v1 : f (p + 1) = 97 := h2 1 (by decide)
    have v2 : f (p + 2) = 107 := h2 2 (by decide)
    have v3 : f (p + 3) = 101 := h2 3 (by decide)
    have hl : ∀ i, i < 4 → lb_let f t (p + i) := by
      intro i hi
      refine ⟨by omega, ?_⟩
      rcases (by omega : i = 0 ∨ i = 1 ∨ i = 2 ∨ i = 3) with rfl | rfl | rfl | rfl
      · rw [v0]; decide
      · rw [v1]; decide
      · rw [v2]; decide
      · rw [v3]; decide
    have el := lb_l_eq (f := f) (t := t) 4 p hl h3
    unfold lb_iw
    rw [el]
    refine ⟨by decide, by decide, ?_⟩
    obtain ⟨a, _⟩ := lb_pkn 4 (by decide) hl
    have e : lb_pn f p 4 = 1952541541 := by
      simp only [lb_pn, v0, v1, v2, v3]
      decide +kernel
    have e2 : lb_pk f p 4 = (1952541541 : Int64) := by
      apply Int64.toBitVec_inj.mp
      apply BitVec.eq_of_toNat_eq
      rw [a, e, hV]
    rw [e2]
    exact lg_cmp1
theorem lb_w_kind {f : Nat → Int32} {t p : Nat} : lb_iw f t p (1802071652 : Int64) ↔ lb_at f t (lb_W (nt_sp + 1 + 6)) p := by
  have hW : lb_W (nt_sp + 1 + 6) = [107, 105, 110, 100] := by decide +kernel
  have hV : (1802071652 : Int64).toBitVec.toNat = 1802071652 := by decide +kernel
  constructor
  · intro ⟨h0, h8, hc⟩
    obtain ⟨hl, hn⟩ := lb_l_let (f := f) (t := t) _ p rfl
    have e := lg_cmp0 hc
    obtain ⟨a, _⟩ := lb_pkn (lb_l f t p) (by omega) hl
    rw [e, hV] at a
    clear e hc
    generalize lb_l f t p = n at *
    rcases (by omega : n = 1 ∨ n = 2 ∨ n = 3 ∨ n = 4 ∨ n = 5 ∨ n = 6 ∨ n = 7) with rfl | rfl | rfl | rfl | rfl | rfl | rfl
    · have b0 := lb_let_b (hl 0 (by omega))
      simp only [lb_pn] at a
      omega
    · have b0 := lb_let_b (hl 0 (by omega))
      have b1 := lb_let_b (hl 1 (by omega))
      simp only [lb_pn] at a
      omega
    · have b0 := lb_let_b (hl 0 (by omega))
      have b1 := lb_let_b (hl 1 (by omega))
      have b2 := lb_let_b (hl 2 (by omega))
      simp only [lb_pn] at a
      omega
    · have b0 := lb_let_b (hl 0 (by omega))
      have b1 := lb_let_b (hl 1 (by omega))
      have b2 := lb_let_b (hl 2 (by omega))
      have b3 := lb_let_b (hl 3 (by omega))
      simp only [lb_pn] at a
      have v0 : (f (p + 0)).toInt = 107 := by omega
      have v1 : (f (p + 1)).toInt = 105 := by omega
      have v2 : (f (p + 2)).toInt = 110 := by omega
      have v3 : (f (p + 3)).toInt = 100 := by omega
      have hq := (hl 3 (by omega)).1
      rw [hW]
      refine ⟨by show p + 4 ≤ t; omega, fun i hi => ?_, hn⟩
      have hi : i < 4 := hi
      rcases (by omega : i = 0 ∨ i = 1 ∨ i = 2 ∨ i = 3) with rfl | rfl | rfl | rfl
      · exact Int32.toInt_inj.mp v0
      · exact Int32.toInt_inj.mp v1
      · exact Int32.toInt_inj.mp v2
      · exact Int32.toInt_inj.mp v3
    · have b0 := lb_let_b (hl 0 (by omega))
      have b1 := lb_let_b (hl 1 (by omega))
      have b2 := lb_let_b (hl 2 (by omega))
      have b3 := lb_let_b (hl 3 (by omega))
      have b4 := lb_let_b (hl 4 (by omega))
      simp only [lb_pn] at a
      omega
    · have b0 := lb_let_b (hl 0 (by omega))
      have b1 := lb_let_b (hl 1 (by omega))
      have b2 := lb_let_b (hl 2 (by omega))
      have b3 := lb_let_b (hl 3 (by omega))
      have b4 := lb_let_b (hl 4 (by omega))
      have b5 := lb_let_b (hl 5 (by omega))
      simp only [lb_pn] at a
      omega
    · have b0 := lb_let_b (hl 0 (by omega))
      have b1 := lb_let_b (hl 1 (by omega))
      have b2 := lb_let_b (hl 2 (by omega))
      have b3 := lb_let_b (hl 3 (by omega))
      have b4 := lb_let_b (hl 4 (by omega))
      have b5 := lb_let_b (hl 5 (by omega))
      have b6 := lb_let_b (hl 6 (by omega))
      simp only [lb_pn] at a
      omega
  · intro h
    rw [hW] at h
    obtain ⟨h1, h2, h3⟩ := h
    have h1 : p + 4 ≤ t := h1
    have v0 : f (p + 0) = 107 := h2 0 (by decide)
    have v1 : f (p + 1) = 105 := h2 1 (by decide)
    have v2 : f (p + 2) = 110 := h2 2 (by decide)
    have v3 : f (p + 3) = 100 := h2 3 (by decide)
    have hl : ∀ i, i < 4 → lb_let f t (p + i) := by
      intro i hi
      refine ⟨by omega, ?_⟩
      rcases (by omega : i = 0 ∨ i = 1 ∨ i = 2 ∨ i = 3) with rfl | rfl | rfl | rfl
      · rw [v0]; decide
      · rw [v1]; decide
      · rw [v2]; decide
      · rw [v3]; decide
    have el := lb_l_eq (f := f) (t := t) 4 p hl h3
    unfold lb_iw
    rw [el]
    refine ⟨by decide, by decide, ?_⟩
    obtain ⟨a, _⟩ := lb_pkn 4 (by decide) hl
    have e : lb_pn f p 4 = 1802071652 := by
      simp only [lb_pn, v0, v1, v2, v3]
      decide +kernel
    have e2 : lb_pk f p 4 = (1802071652 : Int64) := by
      apply Int64.toBitVec_inj.mp
      apply BitVec.eq_of_toNat_eq
      rw [a, e, hV]
    rw [e2]
    exact lg_cmp1
theorem lb_w_rot {f : Nat → Int32} {t p : Nat} : lb_iw f t p (7499636 : Int64) ↔ lb_at f t (lb_W (nt_sp + 1 + 7)) p := by
  have hW : lb_W (nt_sp + 1 + 7) = [114, 111, 116] := by decide +kernel
  have hV : (7499636 : Int64).toBitVec.toNat = 7499636 := by decide +kernel
  constructor
  · intro ⟨h0, h8, hc⟩
    obtain ⟨hl, hn⟩ := lb_l_let (f := f) (t := t) _ p rfl
    have e := lg_cmp0 hc
    obtain ⟨a, _⟩ := lb_pkn (lb_l f t p) (by omega) hl
    rw [e, hV] at a
    clear e hc
    generalize lb_l f t p = n at *
    rcases (by omega : n = 1 ∨ n = 2 ∨ n = 3 ∨ n = 4 ∨ n = 5 ∨ n = 6 ∨ n = 7) with rfl | rfl | rfl | rfl | rfl | rfl | rfl
    · have b0 := lb_let_b (hl 0 (by omega))
      simp only [lb_pn] at a
      omega
    · have b0 := lb_let_b (hl 0 (by omega))
      have b1 := lb_let_b (hl 1 (by omega))
      simp only [lb_pn] at a
      omega
    · have b0 := lb_let_b (hl 0 (by omega))
      have b1 := lb_let_b (hl 1 (by omega))
      have b2 := lb_let_b (hl 2 (by omega))
      simp only [lb_pn] at a
      have v0 : (f (p + 0)).toInt = 114 := by omega
      have v1 : (f (p + 1)).toInt = 111 := by omega
      have v2 : (f (p + 2)).toInt = 116 := by omega
      have hq := (hl 2 (by omega)).1
      rw [hW]
      refine ⟨by show p + 3 ≤ t; omega, fun i hi => ?_, hn⟩
      have hi : i < 3 := hi
      rcases (by omega : i = 0 ∨ i = 1 ∨ i = 2) with rfl | rfl | rfl
      · exact Int32.toInt_inj.mp v0
      · exact Int32.toInt_inj.mp v1
      · exact Int32.toInt_inj.mp v2
    · have b0 := lb_let_b (hl 0 (by omega))
      have b1 := lb_let_b (hl 1 (by omega))
      have b2 := lb_let_b (hl 2 (by omega))
      have b3 := lb_let_b (hl 3 (by omega))
      simp only [lb_pn] at a
      omega
    · have b0 := lb_let_b (hl 0 (by omega))
      have b1 := lb_let_b (hl 1 (by omega))
      have b2 := lb_let_b (hl 2 (by omega))
      have b3 := lb_let_b (hl 3 (by omega))
      have b4 := lb_let_b (hl 4 (by omega))
      simp only [lb_pn] at a
      omega
    · have b0 := lb_let_b (hl 0 (by omega))
      have b1 := lb_let_b (hl 1 (by omega))
      have b2 := lb_let_b (hl 2 (by omega))
      have b3 := lb_let_b (hl 3 (by omega))
      have b4 := lb_let_b (hl 4 (by omega))
      have b5 := lb_let_b (hl 5 (by omega))
      simp only [lb_pn] at a
      omega
    · have b0 := lb_let_b (hl 0 (by omega))
      have b1 := lb_let_b (hl 1 (by omega))
      have b2 := lb_let_b (hl 2 (by omega))
      have b3 := lb_let_b (hl 3 (by omega))
      have b4 := lb_let_b (hl 4 (by omega))
      have b5 := lb_let_b (hl 5 (by omega))
      have b6 := lb_let_b (hl 6 (by omega))
      simp only [lb_pn] at a
      omega
  · intro h
    rw [hW] at h
    obtain ⟨h1, h2, h3⟩ := h
    have h1 : p + 3 ≤ t := h1
    have v0 : f (p + 0) = 114 := h2 0 (by decide)
    have v1 : f (p + 1) = 111 := h2 1 (by decide)
    have v2 : f (p + 2) = 116 := h2 2 (by decide)
    have hl : ∀ i, i < 3 → lb_let f t (p + i) := by
      intro i hi
      refine ⟨by omega, ?_⟩
      rcases (by omega : i = 0 ∨ i = 1 ∨ i = 2) with rfl | rfl | rfl
      · rw [v0]; decide
      · rw [v1]; decide
      · rw [v2]; decide
    have el := lb_l_eq (f := f) (t := t) 3 p hl h3
    unfold lb_iw
    rw [el]
    refine ⟨by decide, by decide, ?_⟩
    obtain ⟨a, _⟩ := lb_pkn 3 (by decide) hl
    have e : lb_pn f p 3 = 7499636 := by
      simp only [lb_pn, v0, v1, v2]
      decide +kernel
    have e2 : lb_pk f p 3 = (7499636 : Int64) := by
      apply Int64.toBitVec_inj.mp
      apply BitVec.eq_of_toNat_eq
      rw [a, e, hV]
    rw [e2]
    exact lg_cmp1
theorem lb_w_owner {f : Nat → Int32} {t p : Nat} : lb_iw f t p (478745093490 : Int64) ↔ lb_at f t (lb_W (nt_sp + 1 + 8)) p := by
  have hW : lb_W (nt_sp + 1 + 8) = [111, 119, 110, 101, 114] := by decide +kernel
  have hV : (478745093490 : Int64).toBitVec.toNat = 478745093490 := by decide +kernel
  constructor
  · intro ⟨h0, h8, hc⟩
    obtain ⟨hl, hn⟩ := lb_l_let (f := f) (t := t) _ p rfl
    have e := lg_cmp0 hc
    obtain ⟨a, _⟩ := lb_pkn (lb_l f t p) (by omega) hl
    rw [e, hV] at a
    clear e hc
    generalize lb_l f t p = n at *
    rcases (by omega : n = 1 ∨ n = 2 ∨ n = 3 ∨ n = 4 ∨ n = 5 ∨ n = 6 ∨ n = 7) with rfl | rfl | rfl | rfl | rfl | rfl | rfl
    · have b0 := lb_let_b (hl 0 (by omega))
      simp only [lb_pn] at a
      omega
    · have b0 := lb_let_b (hl 0 (by omega))
      have b1 := lb_let_b (hl 1 (by omega))
      simp only [lb_pn] at a
      omega
    · have b0 := lb_let_b (hl 0 (by omega))
      have b1 := lb_let_b (hl 1 (by omega))
      have b2 := lb_let_b (hl 2 (by omega))
      simp only [lb_pn] at a
      omega
    · have b0 := lb_let_b (hl 0 (by omega))
      have b1 := lb_let_b (hl 1 (by omega))
      have b2 := lb_let_b (hl 2 (by omega))
      have b3 := lb_let_b (hl 3 (by omega))
      simp only [lb_pn] at a
      omega
    · have b0 := lb_let_b (hl 0 (by omega))
      have b1 := lb_let_b (hl 1 (by omega))
      have b2 := lb_let_b (hl 2 (by omega))
      have b3 := lb_let_b (hl 3 (by omega))
      have b4 := lb_let_b (hl 4 (by omega))
      simp only [lb_pn] at a
      have v0 : (f (p + 0)).toInt = 111 := by omega
      have v1 : (f (p + 1)).toInt = 119 := by omega
      have v2 : (f (p + 2)).toInt = 110 := by omega
      have v3 : (f (p + 3)).toInt = 101 := by omega
      have v4 : (f (p + 4)).toInt = 114 := by omega
      have hq := (hl 4 (by omega)).1
      rw [hW]
      refine ⟨by show p + 5 ≤ t; omega, fun i hi => ?_, hn⟩
      have hi : i < 5 := hi
      rcases (by omega : i = 0 ∨ i = 1 ∨ i = 2 ∨ i = 3 ∨ i = 4) with rfl | rfl | rfl | rfl | rfl
      · exact Int32.toInt_inj.mp v0
      · exact Int32.toInt_inj.mp v1
      · exact Int32.toInt_inj.mp v2
      · exact Int32.toInt_inj.mp v3
      · exact Int32.toInt_inj.mp v4
    · have b0 := lb_let_b (hl 0 (by omega))
      have b1 := lb_let_b (hl 1 (by omega))
      have b2 := lb_let_b (hl 2 (by omega))
      have b3 := lb_let_b (hl 3 (by omega))
      have b4 := lb_let_b (hl 4 (by omega))
      have b5 := lb_let_b (hl 5 (by omega))
      simp only [lb_pn] at a
      omega
    · have b0 := lb_let_b (hl 0 (by omega))
      have b1 := lb_let_b (hl 1 (by omega))
      have b2 := lb_let_b (hl 2 (by omega))
      have b3 := lb_let_b (hl 3 (by omega))
      have b4 := lb_let_b (hl 4 (by omega))
      have b5 := lb_let_b (hl 5 (by omega))
      have b6 := lb_let_b (hl 6 (by omega))
      simp only [lb_pn] at a
      omega
  · intro h
    rw [hW] at h
    obtain ⟨h1, h2, h3⟩ := h
    have h1 : p + 5 ≤ t := h1
    have v0 : f (p + 0) = 111 := h2 0 (by decide)
    have v1 : f (p + 1) = 119 := h2 1 (by decide)
    have v2 : f (p + 2) = 110 := h2 2 (by decide)
    have v3 : f (p + 3) = 101 := h2 3 (by decide)
    have v4 : f (p + 4) = 114 := h2 4 (by decide)
    have hl : ∀ i, i < 5 → lb_let f t (p + i) := by
      intro i hi
      refine ⟨by omega, ?_⟩
      rcases (by omega : i = 0 ∨ i = 1 ∨ i = 2 ∨ i = 3 ∨ i = 4) with rfl | rfl | rfl | rfl | rfl
      · rw [v0]; decide
      · rw [v1]; decide
      · rw [v2]; decide
      · rw [v3]; decide
      · rw [v4]; decide
    have el := lb_l_eq (f := f) (t := t) 5 p hl h3
    unfold lb_iw
    rw [el]
    refine ⟨by decide, by decide, ?_⟩
    obtain ⟨a, _⟩ := lb_pkn 5 (by decide) hl
    have e : lb_pn f p 5 = 478745093490 := by
      simp only [lb_pn, v0, v1, v2, v3, v4]
      decide +kernel
    have e2 : lb_pk f p 5 = (478745093490 : Int64) := by
      apply Int64.toBitVec_inj.mp
      apply BitVec.eq_of_toNat_eq
      rw [a, e, hV]
    rw [e2]
    exact lg_cmp1
theorem lb_w_from {f : Nat → Int32} {t p : Nat} : lb_iw f t p (1718775661 : Int64) ↔ lb_at f t (lb_W (nt_sp + 1 + 9)) p := by
  have hW : lb_W (nt_sp + 1 + 9) = [102, 114, 111, 109] := by decide +kernel
  have hV : (1718775661 : Int64).toBitVec.toNat = 1718775661 := by decide +kernel
  constructor
  · intro ⟨h0, h8, hc⟩
    obtain ⟨hl, hn⟩ := lb_l_let (f := f) (t := t) _ p rfl
    have e := lg_cmp0 hc
    obtain ⟨a, _⟩ := lb_pkn (lb_l f t p) (by omega) hl
    rw [e, hV] at a
    clear e hc
    generalize lb_l f t p = n at *
    rcases (by omega : n = 1 ∨ n = 2 ∨ n = 3 ∨ n = 4 ∨ n = 5 ∨ n = 6 ∨ n = 7) with rfl | rfl | rfl | rfl | rfl | rfl | rfl
    · have b0 := lb_let_b (hl 0 (by omega))
      simp only [lb_pn] at a
      omega
    · have b0 := lb_let_b (hl 0 (by omega))
      have b1 := lb_let_b (hl 1 (by omega))
      simp only [lb_pn] at a
      omega
    · have b0 := lb_let_b (hl 0 (by omega))
      have b1 := lb_let_b (hl 1 (by omega))
      have b2 := lb_let_b (hl 2 (by omega))
      simp only [lb_pn] at a
      omega
    · have b0 := lb_let_b (hl 0 (by omega))
      have b1 := lb_let_b (hl 1 (by omega))
      have b2 := lb_let_b (hl 2 (by omega))
      have b3 := lb_let_b (hl 3 (by omega))
      simp only [lb_pn] at a
      have v0 : (f (p + 0)).toInt = 102 := by omega
      have v1 : (f (p + 1)).toInt = 114 := by omega
      have v2 : (f (p + 2)).toInt = 111 := by omega
      have v3 : (f (p + 3)).toInt = 109 := by omega
      have hq := (hl 3 (by omega)).1
      rw [hW]
      refine ⟨by show p + 4 ≤ t; omega, fun i hi => ?_, hn⟩
      have hi : i < 4 := hi
      rcases (by omega : i = 0 ∨ i = 1 ∨ i = 2 ∨ i = 3) with rfl | rfl | rfl | rfl
      · exact Int32.toInt_inj.mp v0
      · exact Int32.toInt_inj.mp v1
      · exact Int32.toInt_inj.mp v2
      · exact Int32.toInt_inj.mp v3
    · have b0 := lb_let_b (hl 0 (by omega))
      have b1 := lb_let_b (hl 1 (by omega))
      have b2 := lb_let_b (hl 2 (by omega))
      have b3 := lb_let_b (hl 3 (by omega))
      have b4 := lb_let_b (hl 4 (by omega))
      simp only [lb_pn] at a
      omega
    · have b0 := lb_let_b (hl 0 (by omega))
      have b1 := lb_let_b (hl 1 (by omega))
      have b2 := lb_let_b (hl 2 (by omega))
      have b3 := lb_let_b (hl 3 (by omega))
      have b4 := lb_let_b (hl 4 (by omega))
      have b5 := lb_let_b (hl 5 (by omega))
      simp only [lb_pn] at a
      omega
    · have b0 := lb_let_b (hl 0 (by omega))
      have b1 := lb_let_b (hl 1 (by omega))
      have b2 := lb_let_b (hl 2 (by omega))
      have b3 := lb_let_b (hl 3 (by omega))
      have b4 := lb_let_b (hl 4 (by omega))
      have b5 := lb_let_b (hl 5 (by omega))
      have b6 := lb_let_b (hl 6 (by omega))
      simp only [lb_pn] at a
      omega
  · intro h
    rw [hW] at h
    obtain ⟨h1, h2, h3⟩ := h
    have h1 : p + 4 ≤ t := h1
    have v0 : f (p + 0) = 102 := h2 0 (by decide)
    have v1 : f (p + 1) = 114 := h2 1 (by decide)
    have v2 : f (p + 2) = 111 := h2 2 (by decide)
    have v3 : f (p + 3) = 109 := h2 3 (by decide)
    have hl : ∀ i, i < 4 → lb_let f t (p + i) := by
      intro i hi
      refine ⟨by omega, ?_⟩
      rcases (by omega : i = 0 ∨ i = 1 ∨ i = 2 ∨ i = 3) with rfl | rfl | rfl | rfl
      · rw [v0]; decide
      · rw [v1]; decide
      · rw [v2]; decide
      · rw [v3]; decide
    have el := lb_l_eq (f := f) (t := t) 4 p hl h3
    unfold lb_iw
    rw [el]
    refine ⟨by decide, by decide, ?_⟩
    obtain ⟨a, _⟩ := lb_pkn 4 (by decide) hl
    have e : lb_pn f p 4 = 1718775661 := by
      simp only [lb_pn, v0, v1, v2, v3]
      decide +kernel
    have e2 : lb_pk f p 4 = (1718775661 : Int64) := by
      apply Int64.toBitVec_inj.mp
      apply BitVec.eq_of_toNat_eq
      rw [a, e, hV]
    rw [e2]
    exact lg_cmp1
theorem lb_w_own {f : Nat → Int32} {t p : Nat} : lb_iw f t p (7305070 : Int64) ↔ lb_at f t (lb_W (nt_sp + 1 + 10)) p := by
  have hW : lb_W (nt_sp + 1 + 10) = [111, 119, 110] := by decide +kernel
  have hV : (7305070 : Int64).toBitVec.toNat = 7305070 := by decide +kernel
  constructor
  · intro ⟨h0, h8, hc⟩
    obtain ⟨hl, hn⟩ := lb_l_let (f := f) (t := t) _ p rfl
    have e := lg_cmp0 hc
    obtain ⟨a, _⟩ := lb_pkn (lb_l f t p) (by omega) hl
    rw [e, hV] at a
    clear e hc
    generalize lb_l f t p = n at *
    rcases (by omega : n = 1 ∨ n = 2 ∨ n = 3 ∨ n = 4 ∨ n = 5 ∨ n = 6 ∨ n = 7) with rfl | rfl | rfl | rfl | rfl | rfl | rfl
    · have b0 := lb_let_b (hl 0 (by omega))
      simp only [lb_pn] at a
      omega
    · have b0 := lb_let_b (hl 0 (by omega))
      have b1 := lb_let_b (hl 1 (by omega))
      simp only [lb_pn] at a
      omega
    · have b0 := lb_let_b (hl 0 (by omega))
      have b1 := lb_let_b (hl 1 (by omega))
      have b2 := lb_let_b (hl 2 (by omega))
      simp only [lb_pn] at a
      have v0 : (f (p + 0)).toInt = 111 := by omega
      have v1 : (f (p + 1)).toInt = 119 := by omega
      have v2 : (f (p + 2)).toInt = 110 := by omega
      have hq := (hl 2 (by omega)).1
      rw [hW]
      refine ⟨by show p + 3 ≤ t; omega, fun i hi => ?_, hn⟩
      have hi : i < 3 := hi
      rcases (by omega : i = 0 ∨ i = 1 ∨ i = 2) with rfl | rfl | rfl
      · exact Int32.toInt_inj.mp v0
      · exact Int32.toInt_inj.mp v1
      · exact Int32.toInt_inj.mp v2
    · have b0 := lb_let_b (hl 0 (by omega))
      have b1 := lb_let_b (hl 1 (by omega))
      have b2 := lb_let_b (hl 2 (by omega))
      have b3 := lb_let_b (hl 3 (by omega))
      simp only [lb_pn] at a
      omega
    · have b0 := lb_let_b (hl 0 (by omega))
      have b1 := lb_let_b (hl 1 (by omega))
      have b2 := lb_let_b (hl 2 (by omega))
      have b3 := lb_let_b (hl 3 (by omega))
      have b4 := lb_let_b (hl 4 (by omega))
      simp only [lb_pn] at a
      omega
    · have b0 := lb_let_b (hl 0 (by omega))
      have b1 := lb_let_b (hl 1 (by omega))
      have b2 := lb_let_b (hl 2 (by omega))
      have b3 := lb_let_b (hl 3 (by omega))
      have b4 := lb_let_b (hl 4 (by omega))
      have b5 := lb_let_b (hl 5 (by omega))
      simp only [lb_pn] at a
      omega
    · have b0 := lb_let_b (hl 0 (by omega))
      have b1 := lb_let_b (hl 1 (by omega))
      have b2 := lb_let_b (hl 2 (by omega))
      have b3 := lb_let_b (hl 3 (by omega))
      have b4 := lb_let_b (hl 4 (by omega))
      have b5 := lb_let_b (hl 5 (by omega))
      have b6 := lb_let_b (hl 6 (by omega))
      simp only [lb_pn] at a
      omega
  · intro h
    rw [hW] at h
    obtain ⟨h1, h2, h3⟩ := h
    have h1 : p + 3 ≤ t := h1
    have v0 : f (p + 0) = 111 := h2 0 (by decide)
    have v1 : f (p + 1) = 119 := h2 1 (by decide)
    have v2 : f (p + 2) = 110 := h2 2 (by decide)
    have hl : ∀ i, i < 3 → lb_let f t (p + i) := by
      intro i hi
      refine ⟨by omega, ?_⟩
      rcases (by omega : i = 0 ∨ i = 1 ∨ i = 2) with rfl | rfl | rfl
      · rw [v0]; decide
      · rw [v1]; decide
      · rw [v2]; decide
    have el := lb_l_eq (f := f) (t := t) 3 p hl h3
    unfold lb_iw
    rw [el]
    refine ⟨by decide, by decide, ?_⟩
    obtain ⟨a, _⟩ := lb_pkn 3 (by decide) hl
    have e : lb_pn f p 3 = 7305070 := by
      simp only [lb_pn, v0, v1, v2]
      decide +kernel
    have e2 : lb_pk f p 3 = (7305070 : Int64) := by
      apply Int64.toBitVec_inj.mp
      apply BitVec.eq_of_toNat_eq
      rw [a, e, hV]
    rw [e2]
    exact lg_cmp1
theorem lb_w_day {f : Nat → Int32} {t p : Nat} : lb_iw f t p (6578553 : Int64) ↔ lb_at f t (lb_W (nt_sp + 1 + 11)) p := by
  have hW : lb_W (nt_sp + 1 + 11) = [100, 97, 121] := by decide +kernel
  have hV : (6578553 : Int64).toBitVec.toNat = 6578553 := by decide +kernel
  constructor
  · intro ⟨h0, h8, hc⟩
    obtain ⟨hl, hn⟩ := lb_l_let (f := f) (t := t) _ p rfl
    have e := lg_cmp0 hc
    obtain ⟨a, _⟩ := lb_pkn (lb_l f t p) (by omega) hl
    rw [e, hV] at a
    clear e hc
    generalize lb_l f t p = n at *
    rcases (by omega : n = 1 ∨ n = 2 ∨ n = 3 ∨ n = 4 ∨ n = 5 ∨ n = 6 ∨ n = 7) with rfl | rfl | rfl | rfl | rfl | rfl | rfl
    · have b0 := lb_let_b (hl 0 (by omega))
      simp only [lb_pn] at a
      omega
    · have b0 := lb_let_b (hl 0 (by omega))
      have b1 := lb_let_b (hl 1 (by omega))
      simp only [lb_pn] at a
      omega
    · have b0 := lb_let_b (hl 0 (by omega))
      have b1 := lb_let_b (hl 1 (by omega))
      have b2 := lb_let_b (hl 2 (by omega))
      simp only [lb_pn] at a
      have v0 : (f (p + 0)).toInt = 100 := by omega
      have v1 : (f (p + 1)).toInt = 97 := by omega
      have v2 : (f (p + 2)).toInt = 121 := by omega
      have hq := (hl 2 (by omega)).1
      rw [hW]
      refine ⟨by show p + 3 ≤ t; omega, fun i hi => ?_, hn⟩
      have hi : i < 3 := hi
      rcases (by omega : i = 0 ∨ i = 1 ∨ i = 2) with rfl | rfl | rfl
      · exact Int32.toInt_inj.mp v0
      · exact Int32.toInt_inj.mp v1
      · exact Int32.toInt_inj.mp v2
    · have b0 := lb_let_b (hl 0 (by omega))
      have b1 := lb_let_b (hl 1 (by omega))
      have b2 := lb_let_b (hl 2 (by omega))
      have b3 := lb_let_b (hl 3 (by omega))
      simp only [lb_pn] at a
      omega
    · have b0 := lb_let_b (hl 0 (by omega))
      have b1 := lb_let_b (hl 1 (by omega))
      have b2 := lb_let_b (hl 2 (by omega))
      have b3 := lb_let_b (hl 3 (by omega))
      have b4 := lb_let_b (hl 4 (by omega))
      simp only [lb_pn] at a
      omega
    · have b0 := lb_let_b (hl 0 (by omega))
      have b1 := lb_let_b (hl 1 (by omega))
      have b2 := lb_let_b (hl 2 (by omega))
      have b3 := lb_let_b (hl 3 (by omega))
      have b4 := lb_let_b (hl 4 (by omega))
      have b5 := lb_let_b (hl 5 (by omega))
      simp only [lb_pn] at a
      omega
    · have b0 := lb_let_b (hl 0 (by omega))
      have b1 := lb_let_b (hl 1 (by omega))
      have b2 := lb_let_b (hl 2 (by omega))
      have b3 := lb_let_b (hl 3 (by omega))
      have b4 := lb_let_b (hl 4 (by omega))
      have b5 := lb_let_b (hl 5 (by omega))
      have b6 := lb_let_b (hl 6 (by omega))
      simp only [lb_pn] at a
      omega
  · intro h
    rw [hW] at h
    obtain ⟨h1, h2, h3⟩ := h
    have h1 : p + 3 ≤ t := h1
    have v0 : f (p + 0) = 100 := h2 0 (by decide)
    have v1 : f (p + 1) = 97 := h2 1 (by decide)
    have v2 : f (p + 2) = 121 := h2 2 (by decide)
    have hl : ∀ i, i < 3 → lb_let f t (p + i) := by
      intro i hi
      refine ⟨by omega, ?_⟩
      rcases (by omega : i = 0 ∨ i = 1 ∨ i = 2) with rfl | rfl | rfl
      · rw [v0]; decide
      · rw [v1]; decide
      · rw [v2]; decide
    have el := lb_l_eq (f := f) (t := t) 3 p hl h3
    unfold lb_iw
    rw [el]
    refine ⟨by decide, by decide, ?_⟩
    obtain ⟨a, _⟩ := lb_pkn 3 (by decide) hl
    have e : lb_pn f p 3 = 6578553 := by
      simp only [lb_pn, v0, v1, v2]
      decide +kernel
    have e2 : lb_pk f p 3 = (6578553 : Int64) := by
      apply Int64.toBitVec_inj.mp
      apply BitVec.eq_of_toNat_eq
      rw [a, e, hV]
    rw [e2]
    exact lg_cmp1
theorem lb_w_moves {f : Nat → Int32} {t p : Nat} : lb_iw f t p (470021465459 : Int64) ↔ lb_at f t (lb_W (nt_sp + 1 + 12)) p := by
  have hW : lb_W (nt_sp + 1 + 12) = [109, 111, 118, 101, 115] := by decide +kernel
  have hV : (470021465459 : Int64).toBitVec.toNat = 470021465459 := by decide +kernel
  constructor
  · intro ⟨h0, h8, hc⟩
    obtain ⟨hl, hn⟩ := lb_l_let (f := f) (t := t) _ p rfl
    have e := lg_cmp0 hc
    obtain ⟨a, _⟩ := lb_pkn (lb_l f t p) (by omega) hl
    rw [e, hV] at a
    clear e hc
    generalize lb_l f t p = n at *
    rcases (by omega : n = 1 ∨ n = 2 ∨ n = 3 ∨ n = 4 ∨ n = 5 ∨ n = 6 ∨ n = 7) with rfl | rfl | rfl | rfl | rfl | rfl | rfl
    · have b0 := lb_let_b (hl 0 (by omega))
      simp only [lb_pn] at a
      omega
    · have b0 := lb_let_b (hl 0 (by omega))
      have b1 := lb_let_b (hl 1 (by omega))
      simp only [lb_pn] at a
      omega
    · have b0 := lb_let_b (hl 0 (by omega))
      have b1 := lb_let_b (hl 1 (by omega))
      have b2 := lb_let_b (hl 2 (by omega))
      simp only [lb_pn] at a
      omega
    · have b0 := lb_let_b (hl 0 (by omega))
      have b1 := lb_let_b (hl 1 (by omega))
      have b2 := lb_let_b (hl 2 (by omega))
      have b3 := lb_let_b (hl 3 (by omega))
      simp only [lb_pn] at a
      omega
    · have b0 := lb_let_b (hl 0 (by omega))
      have b1 := lb_let_b (hl 1 (by omega))
      have b2 := lb_let_b (hl 2 (by omega))
      have b3 := lb_let_b (hl 3 (by omega))
      have b4 := lb_let_b (hl 4 (by omega))
      simp only [lb_pn] at a
      have v0 : (f (p + 0)).toInt = 109 := by omega
      have v1 : (f (p + 1)).toInt = 111 := by omega
      have v2 : (f (p + 2)).toInt = 118 := by omega
      have v3 : (f (p + 3)).toInt = 101 := by omega
      have v4 : (f (p + 4)).toInt = 115 := by omega
      have hq := (hl 4 (by omega)).1
      rw [hW]
      refine ⟨by show p + 5 ≤ t; omega, fun i hi => ?_, hn⟩
      have hi : i < 5 := hi
      rcases (by omega : i = 0 ∨ i = 1 ∨ i = 2 ∨ i = 3 ∨ i = 4) with rfl | rfl | rfl | rfl | rfl
      · exact Int32.toInt_inj.mp v0
      · exact Int32.toInt_inj.mp v1
      · exact Int32.toInt_inj.mp v2
      · exact Int32.toInt_inj.mp v3
      · exact Int32.toInt_inj.mp v4
    · have b0 := lb_let_b (hl 0 (by omega))
      have b1 := lb_let_b (hl 1 (by omega))
      have b2 := lb_let_b (hl 2 (by omega))
      have b3 := lb_let_b (hl 3 (by omega))
      have b4 := lb_let_b (hl 4 (by omega))
      have b5 := lb_let_b (hl 5 (by omega))
      simp only [lb_pn] at a
      omega
    · have b0 := lb_let_b (hl 0 (by omega))
      have b1 := lb_let_b (hl 1 (by omega))
      have b2 := lb_let_b (hl 2 (by omega))
      have b3 := lb_let_b (hl 3 (by omega))
      have b4 := lb_let_b (hl 4 (by omega))
      have b5 := lb_let_b (hl 5 (by omega))
      have b6 := lb_let_b (hl 6 (by omega))
      simp only [lb_pn] at a
      omega
  · intro h
    rw [hW] at h
    obtain ⟨h1, h2, h3⟩ := h
    have h1 : p + 5 ≤ t := h1
    have v0 : f (p + 0) = 109 := h2 0 (by decide)
    have v1 : f (p + 1) = 111 := h2 1 (by decide)
    have v2 : f (p + 2) = 118 := h2 2 (by decide)
    have v3 : f (p + 3) = 101 := h2 3 (by decide)
    have v4 : f (p + 4) = 115 := h2 4 (by decide)
    have hl : ∀ i, i < 5 → lb_let f t (p + i) := by
      intro i hi
      refine ⟨by omega, ?_⟩
      rcases (by omega : i = 0 ∨ i = 1 ∨ i = 2 ∨ i = 3 ∨ i = 4) with rfl | rfl | rfl | rfl | rfl
      · rw [v0]; decide
      · rw [v1]; decide
      · rw [v2]; decide
      · rw [v3]; decide
      · rw [v4]; decide
    have el := lb_l_eq (f := f) (t := t) 5 p hl h3
    unfold lb_iw
    rw [el]
    refine ⟨by decide, by decide, ?_⟩
    obtain ⟨a, _⟩ := lb_pkn 5 (by decide) hl
    have e : lb_pn f p 5 = 470021465459 := by
      simp only [lb_pn, v0, v1, v2, v3, v4]
      decide +kernel
    have e2 : lb_pk f p 5 = (470021465459 : Int64) := by
      apply Int64.toBitVec_inj.mp
      apply BitVec.eq_of_toNat_eq
      rw [a, e, hV]
    rw [e2]
    exact lg_cmp1
theorem lb_w_length {f : Nat → Int32} {t p : Nat} : lb_iw f t p (119182899770472 : Int64) ↔ lb_at f t (lb_W (nt_sp + 1 + 13)) p := by
  have hW : lb_W (nt_sp + 1 + 13) = [108, 101, 110, 103, 116, 104] := by decide +kernel
  have hV : (119182899770472 : Int64).toBitVec.toNat = 119182899770472 := by decide +kernel
  constructor
  · intro ⟨h0, h8, hc⟩
    obtain ⟨hl, hn⟩ := lb_l_let (f := f) (t := t) _ p rfl
    have e := lg_cmp0 hc
    obtain ⟨a, _⟩ := lb_pkn (lb_l f t p) (by omega) hl
    rw [e, hV] at a
    clear e hc
    generalize lb_l f t p = n at *
    rcases (by omega : n = 1 ∨ n = 2 ∨ n = 3 ∨ n = 4 ∨ n = 5 ∨ n = 6 ∨ n = 7) with rfl | rfl | rfl | rfl | rfl | rfl | rfl
    · have b0 := lb_let_b (hl 0 (by omega))
      simp only [lb_pn] at a
      omega
    · have b0 := lb_let_b (hl 0 (by omega))
      have b1 := lb_let_b (hl 1 (by omega))
      simp only [lb_pn] at a
      omega
    · have b0 := lb_let_b (hl 0 (by omega))
      have b1 := lb_let_b (hl 1 (by omega))
      have b2 := lb_let_b (hl 2 (by omega))
      simp only [lb_pn] at a
      omega
    · have b0 := lb_let_b (hl 0 (by omega))
      have b1 := lb_let_b (hl 1 (by omega))
      have b2 := lb_let_b (hl 2 (by omega))
      have b3 := lb_let_b (hl 3 (by omega))
      simp only [lb_pn] at a
      omega
    · have b0 := lb_let_b (hl 0 (by omega))
      have b1 := lb_let_b (hl 1 (by omega))
      have b2 := lb_let_b (hl 2 (by omega))
      have b3 := lb_let_b (hl 3 (by omega))
      have b4 := lb_let_b (hl 4 (by omega))
      simp only [lb_pn] at a
      omega
    · have b0 := lb_let_b (hl 0 (by omega))
      have b1 := lb_let_b (hl 1 (by omega))
      have b2 := lb_let_b (hl 2 (by omega))
      have b3 := lb_let_b (hl 3 (by omega))
      have b4 := lb_let_b (hl 4 (by omega))
      have b5 := lb_let_b (hl 5 (by omega))
      simp only [lb_pn] at a
      have v0 : (f (p + 0)).toInt = 108 := by omega
      have v1 : (f (p + 1)).toInt = 101 := by omega
      have v2 : (f (p + 2)).toInt = 110 := by omega
      have v3 : (f (p + 3)).toInt = 103 := by omega
      have v4 : (f (p + 4)).toInt = 116 := by omega
      have v5 : (f (p + 5)).toInt = 104 := by omega
      have hq := (hl 5 (by omega)).1
      rw [hW]
      refine ⟨by show p + 6 ≤ t; omega, fun i hi => ?_, hn⟩
      have hi : i < 6 := hi
      rcases (by omega : i = 0 ∨ i = 1 ∨ i = 2 ∨ i = 3 ∨ i = 4 ∨ i = 5) with rfl | rfl | rfl | rfl | rfl | rfl
      · exact Int32.toInt_inj.mp v0
      · exact Int32.toInt_inj.mp v1
      · exact Int32.toInt_inj.mp v2
      · exact Int32.toInt_inj.mp v3
      · exact Int32.toInt_inj.mp v4
      · exact Int32.toInt_inj.mp v5
    · have b0 := lb_let_b (hl 0 (by omega))
      have b1 := lb_let_b (hl 1 (by omega))
      have b2 := lb_let_b (hl 2 (by omega))
      have b3 := lb_let_b (hl 3 (by omega))
      have b4 := lb_let_b (hl 4 (by omega))
      have b5 := lb_let_b (hl 5 (by omega))
      have b6 := lb_let_b (hl 6 (by omega))
      simp only [lb_pn] at a
      omega
  · intro h
    rw [hW] at h
    obtain ⟨h1, h2, h3⟩ := h
    have h1 : p + 6 ≤ t := h1
    have v0 : f (p + 0) = 108 := h2 0 (by decide)
    have v1 : f (p + 1) = 101 := h2 1 (by decide)
    have v2 : f (p + 2) = 110 := h2 2 (by decide)
    have v3 : f (p + 3) = 103 := h2 3 (by decide)
    have v4 : f (p + 4) = 116 := h2 4 (by decide)
    have v5 : f (p + 5) = 104 := h2 5 (by decide)
    have hl : ∀ i, i < 6 → lb_let f t (p + i) := by
      intro i hi
      refine ⟨by omega, ?_⟩
      rcases (by omega : i = 0 ∨ i = 1 ∨ i = 2 ∨ i = 3 ∨ i = 4 ∨ i = 5) with rfl | rfl | rfl | rfl | rfl | rfl
      · rw [v0]; decide
      · rw [v1]; decide
      · rw [v2]; decide
      · rw [v3]; decide
      · rw [v4]; decide
      · rw [v5]; decide
    have el := lb_l_eq (f := f) (t := t) 6 p hl h3
    unfold lb_iw
    rw [el]
    refine ⟨by decide, by decide, ?_⟩
    obtain ⟨a, _⟩ := lb_pkn 6 (by decide) hl
    have e : lb_pn f p 6 = 119182899770472 := by
      simp only [lb_pn, v0, v1, v2, v3, v4, v5]
      decide +kernel
    have e2 : lb_pk f p 6 = (119182899770472 : Int64) := by
      apply Int64.toBitVec_inj.mp
      apply BitVec.eq_of_toNat_eq
      rw [a, e, hV]
    rw [e2]
    exact lg_cmp1
theorem lb_w_if {f : Nat → Int32} {t p : Nat} : lb_iw f t p (26982 : Int64) ↔ lb_at f t (lb_W (nt_sp + 1 + 14)) p := by
  have hW : lb_W (nt_sp + 1 + 14) = [105, 102] := by decide +kernel
  have hV : (26982 : Int64).toBitVec.toNat = 26982 := by decide +kernel
  constructor
  · intro ⟨h0, h8, hc⟩
    obtain ⟨hl, hn⟩ := lb_l_let (f := f) (t := t) _ p rfl
    have e := lg_cmp0 hc
    obtain ⟨a, _⟩ := lb_pkn (lb_l f t p) (by omega) hl
    rw [e, hV] at a
    clear e hc
    generalize lb_l f t p = n at *
    rcases (by omega : n = 1 ∨ n = 2 ∨ n = 3 ∨ n = 4 ∨ n = 5 ∨ n = 6 ∨ n = 7) with rfl | rfl | rfl | rfl | rfl | rfl | rfl
    · have b0 := lb_let_b (hl 0 (by omega))
      simp only [lb_pn] at a
      omega
    · have b0 := lb_let_b (hl 0 (by omega))
      have b1 := lb_let_b (hl 1 (by omega))
      simp only [lb_pn] at a
      have v0 : (f (p + 0)).toInt = 105 := by omega
      have v1 : (f (p + 1)).toInt = 102 := by omega
      have hq := (hl 1 (by omega)).1
      rw [hW]
      refine ⟨by show p + 2 ≤ t; omega, fun i hi => ?_, hn⟩
      have hi : i < 2 := hi
      rcases (by omega : i = 0 ∨ i = 1) with rfl | rfl
      · exact Int32.toInt_inj.mp v0
      · exact Int32.toInt_inj.mp v1
    · have b0 := lb_let_b (hl 0 (by omega))
      have b1 := lb_let_b (hl 1 (by omega))
      have b2 := lb_let_b (hl 2 (by omega))
      simp only [lb_pn] at a
      omega
    · have b0 := lb_let_b (hl 0 (by omega))
      have b1 := lb_let_b (hl 1 (by omega))
      have b2 := lb_let_b (hl 2 (by omega))
      have b3 := lb_let_b (hl 3 (by omega))
      simp only [lb_pn] at a
      omega
    · have b0 := lb_let_b (hl 0 (by omega))
      have b1 := lb_let_b (hl 1 (by omega))
      have b2 := lb_let_b (hl 2 (by omega))
      have b3 := lb_let_b (hl 3 (by omega))
      have b4 := lb_let_b (hl 4 (by omega))
      simp only [lb_pn] at a
      omega
    · have b0 := lb_let_b (hl 0 (by omega))
      have b1 := lb_let_b (hl 1 (by omega))
      have b2 := lb_let_b (hl 2 (by omega))
      have b3 := lb_let_b (hl 3 (by omega))
      have b4 := lb_let_b (hl 4 (by omega))
      have b5 := lb_let_b (hl 5 (by omega))
      simp only [lb_pn] at a
      omega
    · have b0 := lb_let_b (hl 0 (by omega))
      have b1 := lb_let_b (hl 1 (by omega))
      have b2 := lb_let_b (hl 2 (by omega))
      have b3 := lb_let_b (hl 3 (by omega))
      have b4 := lb_let_b (hl 4 (by omega))
      have b5 := lb_let_b (hl 5 (by omega))
      have b6 := lb_let_b (hl 6 (by omega))
      simp only [lb_pn] at a
      omega
  · intro h
    rw [hW] at h
    obtain ⟨h1, h2, h3⟩ := h
    have h1 : p + 2 ≤ t := h1
    have v0 : f (p + 0) = 105 := h2 0 (by decide)
    have v1 : f (p + 1) = 102 := h2 1 (by decide)
    have hl : ∀ i, i < 2 → lb_let f t (p + i) := by
      intro i hi
      refine ⟨by omega, ?_⟩
      rcases (by omega : i = 0 ∨ i = 1) with rfl | rfl
      · rw [v0]; decide
      · rw [v1]; decide
    have el := lb_l_eq (f := f) (t := t) 2 p hl h3
    unfold lb_iw
    rw [el]
    refine ⟨by decide, by decide, ?_⟩
    obtain ⟨a, _⟩ := lb_pkn 2 (by decide) hl
    have e : lb_pn f p 2 = 26982 := by
      simp only [lb_pn, v0, v1]
      decide +kernel
    have e2 : lb_pk f p 2 = (26982 : Int64) := by
      apply Int64.toBitVec_inj.mp
      apply BitVec.eq_of_toNat_eq
      rw [a, e, hV]
    rw [e2]
    exact lg_cmp1
theorem lb_w_not {f : Nat → Int32} {t p : Nat} : lb_iw f t p (7237492 : Int64) ↔ lb_at f t (lb_W (nt_sp + 1 + 15)) p := by
  have hW : lb_W (nt_sp + 1 + 15) = [110, 111, 116] := by decide +kernel
  have hV : (7237492 : Int64).toBitVec.toNat = 7237492 := by decide +kernel
  constructor
  · intro ⟨h0, h8, hc⟩
    obtain ⟨hl, hn⟩ := lb_l_let (f := f) (t := t) _ p rfl
    have e := lg_cmp0 hc
    obtain ⟨a, _⟩ := lb_pkn (lb_l f t p) (by omega) hl
    rw [e, hV] at a
    clear e hc
    generalize lb_l f t p = n at *
    rcases (by omega : n = 1 ∨ n = 2 ∨ n = 3 ∨ n = 4 ∨ n = 5 ∨ n = 6 ∨ n = 7) with rfl | rfl | rfl | rfl | rfl | rfl | rfl
    · have b0 := lb_let_b (hl 0 (by omega))
      simp only [lb_pn] at a
      omega
    · have b0 := lb_let_b (hl 0 (by omega))
      have b1 := lb_let_b (hl 1 (by omega))
      simp only [lb_pn] at a
      omega
    · have b0 := lb_let_b (hl 0 (by omega))
      have b1 := lb_let_b (hl 1 (by omega))
      have b2 := lb_let_b (hl 2 (by omega))
      simp only [lb_pn] at a
      have v0 : (f (p + 0)).toInt = 110 := by omega
      have v1 : (f (p + 1)).toInt = 111 := by omega
      have v2 : (f (p + 2)).toInt = 116 := by omega
      have hq := (hl 2 (by omega)).1
      rw [hW]
      refine ⟨by show p + 3 ≤ t; omega, fun i hi => ?_, hn⟩
      have hi : i < 3 := hi
      rcases (by omega : i = 0 ∨ i = 1 ∨ i = 2) with rfl | rfl | rfl
      · exact Int32.toInt_inj.mp v0
      · exact Int32.toInt_inj.mp v1
      · exact Int32.toInt_inj.mp v2
    · have b0 := lb_let_b (hl 0 (by omega))
      have b1 := lb_let_b (hl 1 (by omega))
      have b2 := lb_let_b (hl 2 (by omega))
      have b3 := lb_let_b (hl 3 (by omega))
      simp only [lb_pn] at a
      omega
    · have b0 := lb_let_b (hl 0 (by omega))
      have b1 := lb_let_b (hl 1 (by omega))
      have b2 := lb_let_b (hl 2 (by omega))
      have b3 := lb_let_b (hl 3 (by omega))
      have b4 := lb_let_b (hl 4 (by omega))
      simp only [lb_pn] at a
      omega
    · have b0 := lb_let_b (hl 0 (by omega))
      have b1 := lb_let_b (hl 1 (by omega))
      have b2 := lb_let_b (hl 2 (by omega))
      have b3 := lb_let_b (hl 3 (by omega))
      have b4 := lb_let_b (hl 4 (by omega))
      have b5 := lb_let_b (hl 5 (by omega))
      simp only [lb_pn] at a
      omega
    · have b0 := lb_let_b (hl 0 (by omega))
      have b1 := lb_let_b (hl 1 (by omega))
      have b2 := lb_let_b (hl 2 (by omega))
      have b3 := lb_let_b (hl 3 (by omega))
      have b4 := lb_let_b (hl 4 (by omega))
      have b5 := lb_let_b (hl 5 (by omega))
      have b6 := lb_let_b (hl 6 (by omega))
      simp only [lb_pn] at a
      omega
  · intro h
    rw [hW] at h
    obtain ⟨h1, h2, h3⟩ := h
    have h1 : p + 3 ≤ t := h1
    have v0 : f (p + 0) = 110 := h2 0 (by decide)
    have v1 : f (p + 1) = 111 := h2 1 (by decide)
    have v2 : f (p + 2) = 116 := h2 2 (by decide)
    have hl : ∀ i, i < 3 → lb_let f t (p + i) := by
      intro i hi
      refine ⟨by omega, ?_⟩
      rcases (by omega : i = 0 ∨ i = 1 ∨ i = 2) with rfl | rfl | rfl
      · rw [v0]; decide
      · rw [v1]; decide
      · rw [v2]; decide
    have el := lb_l_eq (f := f) (t := t) 3 p hl h3
    unfold lb_iw
    rw [el]
    refine ⟨by decide, by decide, ?_⟩
    obtain ⟨a, _⟩ := lb_pkn 3 (by decide) hl
    have e : lb_pn f p 3 = 7237492 := by
      simp only [lb_pn, v0, v1, v2]
      decide +kernel
    have e2 : lb_pk f p 3 = (7237492 : Int64) := by
      apply Int64.toBitVec_inj.mp
      apply BitVec.eq_of_toNat_eq
      rw [a, e, hV]
    rw [e2]
    exact lg_cmp1
theorem lb_w_and {f : Nat → Int32} {t p : Nat} : lb_iw f t p (6385252 : Int64) ↔ lb_at f t (lb_W (nt_sp + 1 + 16)) p := by
  have hW : lb_W (nt_sp + 1 + 16) = [97, 110, 100] := by decide +kernel
  have hV : (6385252 : Int64).toBitVec.toNat = 6385252 := by decide +kernel
  constructor
  · intro ⟨h0, h8, hc⟩
    obtain ⟨hl, hn⟩ := lb_l_let (f := f) (t := t) _ p rfl
    have e := lg_cmp0 hc
    obtain ⟨a, _⟩ := lb_pkn (lb_l f t p) (by omega) hl
    rw [e, hV] at a
    clear e hc
    generalize lb_l f t p = n at *
    rcases (by omega : n = 1 ∨ n = 2 ∨ n = 3 ∨ n = 4 ∨ n = 5 ∨ n = 6 ∨ n = 7) with rfl | rfl | rfl | rfl | rfl | rfl | rfl
    · have b0 := lb_let_b (hl 0 (by omega))
      simp only [lb_pn] at a
      omega
    · have b0 := lb_let_b (hl 0 (by omega))
      have b1 := lb_let_b (hl 1 (by omega))
      simp only [lb_pn] at a
      omega
    · have b0 := lb_let_b (hl 0 (by omega))
      have b1 := lb_let_b (hl 1 (by omega))
      have b2 := lb_let_b (hl 2 (by omega))
      simp only [lb_pn] at a
      have v0 : (f (p + 0)).toInt = 97 := by omega
      have v1 : (f (p + 1)).toInt = 110 := by omega
      have v2 : (f (p + 2)).toInt = 100 := by omega
      have hq := (hl 2 (by omega)).1
      rw [hW]
      refine ⟨by show p + 3 ≤ t; omega, fun i hi => ?_, hn⟩
      have hi : i < 3 := hi
      rcases (by omega : i = 0 ∨ i = 1 ∨ i = 2) with rfl | rfl | rfl
      · exact Int32.toInt_inj.mp v0
      · exact Int32.toInt_inj.mp v1
      · exact Int32.toInt_inj.mp v2
    · have b0 := lb_let_b (hl 0 (by omega))
      have b1 := lb_let_b (hl 1 (by omega))
      have b2 := lb_let_b (hl 2 (by omega))
      have b3 := lb_let_b (hl 3 (by omega))
      simp only [lb_pn] at a
      omega
    · have b0 := lb_let_b (hl 0 (by omega))
      have b1 := lb_let_b (hl 1 (by omega))
      have b2 := lb_let_b (hl 2 (by omega))
      have b3 := lb_let_b (hl 3 (by omega))
      have b4 := lb_let_b (hl 4 (by omega))
      simp only [lb_pn] at a
      omega
    · have b0 := lb_let_b (hl 0 (by omega))
      have b1 := lb_let_b (hl 1 (by omega))
      have b2 := lb_let_b (hl 2 (by omega))
      have b3 := lb_let_b (hl 3 (by omega))
      have b4 := lb_let_b (hl 4 (by omega))
      have b5 := lb_let_b (hl 5 (by omega))
      simp only [lb_pn] at a
      omega
    · have b0 := lb_let_b (hl 0 (by omega))
      have b1 := lb_let_b (hl 1 (by omega))
      have b2 := lb_let_b (hl 2 (by omega))
      have b3 := lb_let_b (hl 3 (by omega))
      have b4 := lb_let_b (hl 4 (by omega))
      have b5 := lb_let_b (hl 5 (by omega))
      have b6 := lb_let_b (hl 6 (by omega))
      simp only [lb_pn] at a
      omega
  · intro h
    rw [hW] at h
    obtain ⟨h1, h2, h3⟩ := h
    have h1 : p + 3 ≤ t := h1
    have v0 : f (p + 0) = 97 := h2 0 (by decide)
    have v1 : f (p + 1) = 110 := h2 1 (by decide)
    have v2 : f (p + 2) = 100 := h2 2 (by decide)
    have hl : ∀ i, i < 3 → lb_let f t (p + i) := by
      intro i hi
      refine ⟨by omega, ?_⟩
      rcases (by omega : i = 0 ∨ i = 1 ∨ i = 2) with rfl | rfl | rfl
      · rw [v0]; decide
      · rw [v1]; decide
      · rw [v2]; decide
    have el := lb_l_eq (f := f) (t := t) 3 p hl h3
    unfold lb_iw
    rw [el]
    refine ⟨by decide, by decide, ?_⟩
    obtain ⟨a, _⟩ := lb_pkn 3 (by decide) hl
    have e : lb_pn f p 3 = 6385252 := by
      simp only [lb_pn, v0, v1, v2]
      decide +kernel
    have e2 : lb_pk f p 3 = (6385252 : Int64) := by
      apply Int64.toBitVec_inj.mp
      apply BitVec.eq_of_toNat_eq
      rw [a, e, hV]
    rw [e2]
    exact lg_cmp1
theorem lb_w_or {f : Nat → Int32} {t p : Nat} : lb_iw f t p (28530 : Int64) ↔ lb_at f t (lb_W (nt_sp + 1 + 17)) p := by
  have hW : lb_W (nt_sp + 1 + 17) = [111, 114] := by decide +kernel
  have hV : (28530 : Int64).toBitVec.toNat = 28530 := by decide +kernel
  constructor
  · intro ⟨h0, h8, hc⟩
    obtain ⟨hl, hn⟩ := lb_l_let (f := f) (t := t) _ p rfl
    have e := lg_cmp0 hc
    obtain ⟨a, _⟩ := lb_pkn (lb_l f t p) (by omega) hl
    rw [e, hV] at a
    clear e hc
    generalize lb_l f t p = n at *
    rcases (by omega : n = 1 ∨ n = 2 ∨ n = 3 ∨ n = 4 ∨ n = 5 ∨ n = 6 ∨ n = 7) with rfl | rfl | rfl | rfl | rfl | rfl | rfl
    · have b0 := lb_let_b (hl 0 (by omega))
      simp only [lb_pn] at a
      omega
    · have b0 := lb_let_b (hl 0 (by omega))
      have b1 := lb_let_b (hl 1 (by omega))
      simp only [lb_pn] at a
      have v0 : (f (p + 0)).toInt = 111 := by omega
      have v1 : (f (p + 1)).toInt = 114 := by omega
      have hq := (hl 1 (by omega)).1
      rw [hW]
      refine ⟨by show p + 2 ≤ t; omega, fun i hi => ?_, hn⟩
      have hi : i < 2 := hi
      rcases (by omega : i = 0 ∨ i = 1) with rfl | rfl
      · exact Int32.toInt_inj.mp v0
      · exact Int32.toInt_inj.mp v1
    · have b0 := lb_let_b (hl 0 (by omega))
      have b1 := lb_let_b (hl 1 (by omega))
      have b2 := lb_let_b (hl 2 (by omega))
      simp only [lb_pn] at a
      omega
    · have b0 := lb_let_b (hl 0 (by omega))
      have b1 := lb_let_b (hl 1 (by omega))
      have b2 := lb_let_b (hl 2 (by omega))
      have b3 := lb_let_b (hl 3 (by omega))
      simp only [lb_pn] at a
      omega
    · have b0 := lb_let_b (hl 0 (by omega))
      have b1 := lb_let_b (hl 1 (by omega))
      have b2 := lb_let_b (hl 2 (by omega))
      have b3 := lb_let_b (hl 3 (by omega))
      have b4 := lb_let_b (hl 4 (by omega))
      simp only [lb_pn] at a
      omega
    · have b0 := lb_let_b (hl 0 (by omega))
      have b1 := lb_let_b (hl 1 (by omega))
      have b2 := lb_let_b (hl 2 (by omega))
      have b3 := lb_let_b (hl 3 (by omega))
      have b4 := lb_let_b (hl 4 (by omega))
      have b5 := lb_let_b (hl 5 (by omega))
      simp only [lb_pn] at a
      omega
    · have b0 := lb_let_b (hl 0 (by omega))
      have b1 := lb_let_b (hl 1 (by omega))
      have b2 := lb_let_b (hl 2 (by omega))
      have b3 := lb_let_b (hl 3 (by omega))
      have b4 := lb_let_b (hl 4 (by omega))
      have b5 := lb_let_b (hl 5 (by omega))
      have b6 := lb_let_b (hl 6 (by omega))
      simp only [lb_pn] at a
      omega
  · intro h
    rw [hW] at h
    obtain ⟨h1, h2, h3⟩ := h
    have h1 : p + 2 ≤ t := h1
    have v0 : f (p + 0) = 111 := h2 0 (by decide)
    have v1 : f (p + 1) = 114 := h2 1 (by decide)
    have hl : ∀ i, i < 2 → lb_let f t (p + i) := by
      intro i hi
      refine ⟨by omega, ?_⟩
      rcases (by omega : i = 0 ∨ i = 1) with rfl | rfl
      · rw [v0]; decide
      · rw [v1]; decide
    have el := lb_l_eq (f := f) (t := t) 2 p hl h3
    unfold lb_iw
    rw [el]
    refine ⟨by decide, by decide, ?_⟩
    obtain ⟨a, _⟩ := lb_pkn 2 (by decide) hl
    have e : lb_pn f p 2 = 28530 := by
      simp only [lb_pn, v0, v1]
      decide +kernel
    have e2 : lb_pk f p 2 = (28530 : Int64) := by
      apply Int64.toBitVec_inj.mp
      apply BitVec.eq_of_toNat_eq
      rw [a, e, hV]
    rw [e2]
    exact lg_cmp1
end
section
/-! digits and the words of a value -/
def lb_dig (f : Nat → Int32) (t k : Nat) : Prop := k < t ∧ Int32.ofInt 48 ≤ f k ∧ f k ≤ Int32.ofInt 57
theorem md_isDigit {X : nt_X} {d t x B Tb Sg Ln q m : Nat} {f : Nat → Int32} {M : nt_M} {J0 J : Nat → Nat → Int32} {o : Option Value × nt_M} {wr : Int32} {e : Nat × (Nat → Int32)} {y : Nat} (hP : md_P M J0 f t x B Tb Sg Ln) (hS : md_S J0 B Sg Ln x q wr m e J) (hp : q ≤ t) (hy : y ≤ 1000) (k : nt_ev X d 144 [.ref B, .int (nI y)] (me_w M J) o) : ∃ r, o = (some (.int r), me_w M J) ∧ (r = Int32.ofInt 1 ∧ lb_dig f t y ∨ r = Int32.ofInt 0 ∧ ¬ lb_dig f t y) := by
  have k : nt_rn X d 144 (0, [(0, .ref B), (1, .int (nI y))], [], me_w M J) o := k
  have t4 : t ≤ 400 := hP.2.2.2.2.2.1
  have k := ly_revb 2 (c' := (2, [(0, .ref B), (1, .int (nI y))], [.ref B, .int (nI y)], me_w M J)) rfl k
  have k := lz_get (a := B) (g := 1101) (M := me_w M J) (v := .int (nI t)) rfl (congrArg Value.int (md_t hP hS)) k
  have k := ly_revb 1 (c' := (if (nI t) ≤ (nI y) then 34 else 8, [(0, .ref B), (1, .int (nI y))], [], me_w M J)) rfl k
  by_cases h5 : t ≤ y
  · rw [if_pos (show (nI t) ≤ (nI y) from show nI t ≤ nI y from nI_le h5 (by omega))] at k
    have k := ly_revb 1 (c' := (35, [(0, .ref B), (1, .int (nI y))], [.int (Int32.ofInt 0)], me_w M J)) rfl k
    have k := lz_ri rfl (by decide) k
    exact ⟨_, k, Or.inr ⟨rfl, fun c => absurd c.1 (by omega)⟩⟩
  · rw [if_neg (show ¬ ((nI t) ≤ (nI y)) from show ¬ nI t ≤ nI y from nI_ge (Nat.not_le.mp h5) (by omega))] at k
    have k := ly_revb 1 (c' := (9, [(0, .ref B), (1, .int (nI y))], [.ref B], me_w M J)) rfl k
    have k := lz_get (a := B) (g := 1100) (M := me_w M J) (v := .ref Tb) rfl (nt_gfR rfl hP.1.1) k
    have k := ly_revb 1 (c' := (13, [(0, .ref B), (1, .int (nI y))], [.int (nI y), .ref Tb], me_w M J)) rfl k
    have k := me_bald (q := y) (v := f y) rfl (rfl) (by omega) (md_f hP hS y) k
    have k := ly_revb 2 (c' := (if (f y) < (Int32.ofInt 48) then 34 else 19, [(0, .ref B), (1, .int (nI y))], [], me_w M J)) rfl k
    by_cases h16 : (f y) < (Int32.ofInt 48)
    · rw [if_pos (show (f y) < (Int32.ofInt 48) from h16)] at k
      have k := ly_revb 1 (c' := (35, [(0, .ref B), (1, .int (nI y))], [.int (Int32.ofInt 0)], me_w M J)) rfl k
      have k := lz_ri rfl (by decide) k
      exact ⟨_, k, Or.inr ⟨rfl, fun c => absurd c.2.1 (me_nle h16)⟩⟩
    · rw [if_neg (show ¬ ((f y) < (Int32.ofInt 48)) from h16)] at k
      have k := ly_revb 1 (c' := (20, [(0, .ref B), (1, .int (nI y))], [.ref B], me_w M J)) rfl k
      have k := lz_get (a := B) (g := 1100) (M := me_w M J) (v := .ref Tb) rfl (nt_gfR rfl hP.1.1) k
      have k := ly_revb 1 (c' := (24, [(0, .ref B), (1, .int (nI y))], [.int (nI y), .ref Tb], me_w M J)) rfl k
      have k := me_bald (q := y) (v := f y) rfl (rfl) (by omega) (md_f hP hS y) k
      have k := ly_revb 2 (c' := (if (Int32.ofInt 57) < (f y) then 34 else 30, [(0, .ref B), (1, .int (nI y))], [], me_w M J)) rfl k
      by_cases h27 : (Int32.ofInt 57) < (f y)
      · rw [if_pos (show (Int32.ofInt 57) < (f y) from h27)] at k
        have k := ly_revb 1 (c' := (35, [(0, .ref B), (1, .int (nI y))], [.int (Int32.ofInt 0)], me_w M J)) rfl k
        have k := lz_ri rfl (by decide) k
        exact ⟨_, k, Or.inr ⟨rfl, fun c => absurd c.2.2 (me_nle h27)⟩⟩
      · rw [if_neg (show ¬ ((Int32.ofInt 57) < (f y)) from h27)] at k
        have k := ly_revb 2 (c' := (35, [(0, .ref B), (1, .int (nI y))], [.int (Int32.ofInt 1)], me_w M J)) rfl k
        have k := lz_ri rfl (by decide) k
        exact ⟨_, k, Or.inl ⟨rfl, by omega, me_le h16, me_le h27⟩⟩
end
section
/-! a number here -/
theorem lb_d_dig {f : Nat → Int32} {t p n : Nat} (h : lb_d f t p = n + 1) : lb_dig f t p ∧ lb_d f t (p + 1) = n := by
  by_cases c : lb_dig f t p
  · rw [lb_d1 c] at h
    exact ⟨c, by omega⟩
  · rw [lb_d0 c] at h
    omega
theorem md_nhl {X : nt_X} {d t x B Tb Sg Ln m p D : Nat} {f : Nat → Int32} {M : nt_M} {J0 : Nat → Nat → Int32} {o : Option Value × nt_M} {wr lo hi : Int32} {e : Nat × (Nat → Int32)} (hP : md_P M J0 f t x B Tb Sg Ln) (hD : p + D ≤ t) : ∀ (c n : Nat) (J : Nat → Nat → Int32), lb_d f t (p + n) = c → n + c = D → md_S J0 B Sg Ln x (p + n) wr m e J → nt_rn X d 143 (34, [(4, .int (lb_v f p (min n 5))), (3, .int (nI p)), (0, .ref B), (1, .int lo), (2, .int hi)], [], me_w M J) o → nt_rn X d 143 (88, [(4, .int (lb_v f p (min D 5))), (3, .int (nI p)), (0, .ref B), (1, .int lo), (2, .int hi)], [], me_w M (nt_u J B 15 (nI (p + D)))) o := by
  have t4 : t ≤ 400 := hP.2.2.2.2.2.1
  intro c
  induction c with
  | zero =>
    intro n J hc hn hS k
    have hn : n = D := by omega
    subst hn
    have k := ly_revb 2 (c' := (36, [(4, .int (lb_v f p (min n 5))), (3, .int (nI p)), (0, .ref B), (1, .int (lo)), (2, .int (hi))], [.ref B, .ref B], me_w M J)) rfl k
    have k := lz_get (a := B) (g := 1115) (M := me_w M J) (v := .int (nI (p + n))) rfl (congrArg Value.int (hS.1)) k
    obtain ⟨d1, o1, ed, kc, k⟩ := lz_c (g := 144) (q := 1) (vs := [.ref B, .int (nI (p + n))]) (rest := []) rfl rfl (by decide) (Or.inr (Or.inl ⟨_, rfl, rfl⟩)) rfl k
    obtain ⟨r, e1, hr⟩ := md_isDigit hP hS (by omega) (by omega) kc
    subst e1
    rcases hr with ⟨rfl, hr⟩ | ⟨rfl, hr⟩
    · have k : nt_rn X _ 143 (42, [(4, .int (lb_v f p (min n 5))), (3, .int (nI p)), (0, .ref B), (1, .int (lo)), (2, .int (hi))], [.int (Int32.ofInt 1)], me_w M J) _ := k
      rw [lb_d1 hr] at hc
      omega
    · have k : nt_rn X _ 143 (42, [(4, .int (lb_v f p (min n 5))), (3, .int (nI p)), (0, .ref B), (1, .int (lo)), (2, .int (hi))], [.int (Int32.ofInt 0)], me_w M J) _ := k
      have k := ly_revb 1 (c' := (if (Int32.ofInt 0) = 0 then 88 else 45, [(4, .int (lb_v f p (min n 5))), (3, .int (nI p)), (0, .ref B), (1, .int (lo)), (2, .int (hi))], [], me_w M J)) rfl k
      rw [if_pos (show (Int32.ofInt 0) = 0 from by decide)] at k
      rw [me_ui hS.1]
      exact k
  | succ c ih =>
    intro n J hc hn hS k
    obtain ⟨hdg, hc1⟩ := lb_d_dig hc
    have k := ly_revb 2 (c' := (36, [(4, .int (lb_v f p (min n 5))), (3, .int (nI p)), (0, .ref B), (1, .int (lo)), (2, .int (hi))], [.ref B, .ref B], me_w M J)) rfl k
    have k := lz_get (a := B) (g := 1115) (M := me_w M J) (v := .int (nI (p + n))) rfl (congrArg Value.int (hS.1)) k
    obtain ⟨d1, o1, ed, kc, k⟩ := lz_c (g := 144) (q := 1) (vs := [.ref B, .int (nI (p + n))]) (rest := []) rfl rfl (by decide) (Or.inr (Or.inl ⟨_, rfl, rfl⟩)) rfl k
    obtain ⟨r, e1, hr⟩ := md_isDigit hP hS (by omega) (by omega) kc
    subst e1
    rcases hr with ⟨rfl, hr⟩ | ⟨rfl, hr⟩
    · have k : nt_rn X _ 143 (42, [(4, .int (lb_v f p (min n 5))), (3, .int (nI p)), (0, .ref B), (1, .int (lo)), (2, .int (hi))], [.int (Int32.ofInt 1)], me_w M J) _ := k
      have k := ly_revb 1 (c' := (if (Int32.ofInt 1) = 0 then 88 else 45, [(4, .int (lb_v f p (min n 5))), (3, .int (nI p)), (0, .ref B), (1, .int (lo)), (2, .int (hi))], [], me_w M J)) rfl k
      rw [if_neg (show ¬ ((Int32.ofInt 1) = 0) from by decide)] at k
      have k := ly_revb 1 (c' := (46, [(4, .int (lb_v f p (min n 5))), (3, .int (nI p)), (0, .ref B), (1, .int (lo)), (2, .int (hi))], [.ref B], me_w M J)) rfl k
      have k := lz_get (a := B) (g := 1115) (M := me_w M J) (v := .int (nI (p + n))) rfl (congrArg Value.int (hS.1)) k
      have k := ly_revb 2 (c' := (51, [(4, .int (lb_v f p (min n 5))), (3, .int (nI p)), (0, .ref B), (1, .int (lo)), (2, .int (hi))], [.int ((nI (p + n)) - (nI p))], me_w M J)) rfl k
      rw [show ((nI (p + n)) - (nI p) : Int32) = nI n from (me_subn (by omega)).trans (congrArg nI (by omega))] at k
      have k := ly_revb 2 (c' := (if (Int32.ofInt 5) ≤ (nI n) then 75 else 55, [(4, .int (lb_v f p (min n 5))), (3, .int (nI p)), (0, .ref B), (1, .int (lo)), (2, .int (hi))], [], me_w M J)) rfl k
      by_cases h52 : 5 ≤ n
      · rw [if_pos (show (Int32.ofInt 5) ≤ (nI n) from show nI 5 ≤ nI n from nI_le h52 (by omega))] at k
        have k := ly_revb 2 (c' := (77, [(4, .int (lb_v f p (min n 5))), (3, .int (nI p)), (0, .ref B), (1, .int (lo)), (2, .int (hi))], [.ref B, .ref B], me_w M J)) rfl k
        have k := lz_get (a := B) (g := 1115) (M := me_w M J) (v := .int (nI (p + n))) rfl (congrArg Value.int (hS.1)) k
        have k := ly_revb 2 (c' := (82, [(4, .int (lb_v f p (min n 5))), (3, .int (nI p)), (0, .ref B), (1, .int (lo)), (2, .int (hi))], [.int ((nI (p + n)) + (Int32.ofInt 1)), .ref B], me_w M J)) rfl k
        rw [show ((nI (p + n)) + (Int32.ofInt 1) : Int32) = nI (p + (n + 1)) from me_add (k := 1)] at k
        have k := me_put rfl (by decide) k
        have k : nt_rn X _ 143 (85, [(4, .int (lb_v f p (min n 5))), (3, .int (nI p)), (0, .ref B), (1, .int (lo)), (2, .int (hi))], [], me_w M (nt_u J B 15 (nI (p + (n + 1))))) _ := k
        have k := ly_revb 1 (c' := (34, [(4, .int (lb_v f p (min n 5))), (3, .int (nI p)), (0, .ref B), (1, .int (lo)), (2, .int (hi))], [], me_w M (nt_u J B 15 (nI (p + (n + 1)))))) rfl k
        have ev : lb_v f p (min n 5) = lb_v f p (min (n + 1) 5) := by rw [show min n 5 = 5 from by omega, show min (n + 1) 5 = 5 from by omega]
        rw [ev] at k
        have k := ih (n + 1) _ hc1 (by omega) (md_Sq (y := p + (n + 1)) hP hS) k
        rw [me_uu] at k
        exact k
      · rw [if_neg (show ¬ ((Int32.ofInt 5) ≤ (nI n)) from show ¬ nI 5 ≤ nI n from nI_ge (Nat.not_le.mp h52) (by omega))] at k
        have k := ly_revb 4 (c' := (61, [(4, .int (lb_v f p (min n 5))), (3, .int (nI p)), (0, .ref B), (1, .int (lo)), (2, .int (hi))], [.ref B, .int ((Int32.ofInt 10) * (lb_v f p (min n 5)))], me_w M J)) rfl k
        have k := lz_get (a := B) (g := 1100) (M := me_w M J) (v := .ref Tb) rfl (nt_gfR rfl hP.1.1) k
        have k := ly_revb 1 (c' := (65, [(4, .int (lb_v f p (min n 5))), (3, .int (nI p)), (0, .ref B), (1, .int (lo)), (2, .int (hi))], [.ref B, .ref Tb, .int ((Int32.ofInt 10) * (lb_v f p (min n 5)))], me_w M J)) rfl k
        have k := lz_get (a := B) (g := 1115) (M := me_w M J) (v := .int (nI (p + n))) rfl (congrArg Value.int (hS.1)) k
        have k := me_bald (q := (p + n)) (v := f ((p + n))) rfl (rfl) (by omega) (md_f hP hS ((p + n))) k
        have k := ly_revb 6 (c' := (77, [(4, .int ((((Int32.ofInt 10) * (lb_v f p (min n 5))) + (f ((p + n)))) - (Int32.ofInt 48))), (3, .int (nI p)), (0, .ref B), (1, .int (lo)), (2, .int (hi))], [.ref B, .ref B], me_w M J)) rfl k
        have k := lz_get (a := B) (g := 1115) (M := me_w M J) (v := .int (nI (p + n))) rfl (congrArg Value.int (hS.1)) k
        have k := ly_revb 2 (c' := (82, [(4, .int ((((Int32.ofInt 10) * (lb_v f p (min n 5))) + (f ((p + n)))) - (Int32.ofInt 48))), (3, .int (nI p)), (0, .ref B), (1, .int (lo)), (2, .int (hi))], [.int ((nI (p + n)) + (Int32.ofInt 1)), .ref B], me_w M J)) rfl k
        rw [show ((nI (p + n)) + (Int32.ofInt 1) : Int32) = nI (p + (n + 1)) from me_add (k := 1)] at k
        have k := me_put rfl (by decide) k
        have k : nt_rn X _ 143 (85, [(4, .int ((((Int32.ofInt 10) * (lb_v f p (min n 5))) + (f ((p + n)))) - (Int32.ofInt 48))), (3, .int (nI p)), (0, .ref B), (1, .int (lo)), (2, .int (hi))], [], me_w M (nt_u J B 15 (nI (p + (n + 1))))) _ := k
        have k := ly_revb 1 (c' := (34, [(4, .int ((((Int32.ofInt 10) * (lb_v f p (min n 5))) + (f ((p + n)))) - (Int32.ofInt 48))), (3, .int (nI p)), (0, .ref B), (1, .int (lo)), (2, .int (hi))], [], me_w M (nt_u J B 15 (nI (p + (n + 1)))))) rfl k
        have ev : (((Int32.ofInt 10) * (lb_v f p (min n 5))) + (f ((p + n)))) - (Int32.ofInt 48) = lb_v f p (min (n + 1) 5) := by
          rw [show min n 5 = n from by omega, show min (n + 1) 5 = n + 1 from by omega, Int32.mul_comm]
          rfl
        rw [ev] at k
        have k := ih (n + 1) _ hc1 (by omega) (md_Sq (y := p + (n + 1)) hP hS) k
        rw [me_uu] at k
        exact k
    · have k : nt_rn X _ 143 (42, [(4, .int (lb_v f p (min n 5))), (3, .int (nI p)), (0, .ref B), (1, .int (lo)), (2, .int (hi))], [.int (Int32.ofInt 0)], me_w M J) _ := k
      exact absurd hdg hr
end
section
/-! a number here, the whole -/
theorem lg_lt {a b : Int32} : lg_cmp a.toInt64 b.toInt64 < 0 ↔ a.toInt < b.toInt := by
  unfold lg_cmp
  by_cases h1 : a.toInt64 > b.toInt64
  · rw [if_pos h1]
    have q := Int64.lt_iff_toInt_lt.mp h1
    rw [Int32.toInt_toInt64, Int32.toInt_toInt64] at q
    exact ⟨fun c => absurd c (by decide), fun c => by omega⟩
  · rw [if_neg h1]
    have q : ¬ b.toInt64.toInt < a.toInt64.toInt := fun c => h1 (Int64.lt_iff_toInt_lt.mpr c)
    rw [Int32.toInt_toInt64, Int32.toInt_toInt64] at q
    by_cases h2 : a.toInt64 = b.toInt64
    · rw [if_pos h2]
      have q2 := congrArg Int64.toInt h2
      rw [Int32.toInt_toInt64, Int32.toInt_toInt64] at q2
      exact ⟨fun c => absurd c (by decide), fun c => by omega⟩
    · rw [if_neg h2]
      refine ⟨fun _ => ?_, fun _ => by decide⟩
      have q3 : a.toInt ≠ b.toInt := fun c => h2 (Int64.toInt_inj.mp (by rw [Int32.toInt_toInt64, Int32.toInt_toInt64]; exact c))
      omega
theorem lg_gt {a b : Int32} : 0 < lg_cmp a.toInt64 b.toInt64 ↔ b.toInt < a.toInt := by
  unfold lg_cmp
  by_cases h1 : a.toInt64 > b.toInt64
  · rw [if_pos h1]
    have q := Int64.lt_iff_toInt_lt.mp h1
    rw [Int32.toInt_toInt64, Int32.toInt_toInt64] at q
    exact ⟨fun _ => q, fun _ => by decide⟩
  · rw [if_neg h1]
    have q : ¬ b.toInt64.toInt < a.toInt64.toInt := fun c => h1 (Int64.lt_iff_toInt_lt.mpr c)
    rw [Int32.toInt_toInt64, Int32.toInt_toInt64] at q
    refine ⟨fun c => ?_, fun c => absurd c q⟩
    by_cases h2 : a.toInt64 = b.toInt64
    · rw [if_pos h2] at c; exact absurd c (by decide)
    · rw [if_neg h2] at c; exact absurd c (by decide)
theorem md_in {X : nt_X} {d : Nat} {v lo hi : Int32} {M : nt_M} {J : Nat → Nat → Int32} {o : Option Value × nt_M} (k : nt_ev X d 145 [.long v.toInt64, .long lo.toInt64, .long hi.toInt64] (me_w M J) o) : ∃ r, o = (some (.int r), me_w M J) ∧ (r = Int32.ofInt 1 ∧ (lo.toInt ≤ v.toInt ∧ v.toInt ≤ hi.toInt) ∨ r = Int32.ofInt 0 ∧ ¬ (lo.toInt ≤ v.toInt ∧ v.toInt ≤ hi.toInt)) := by
  have k : nt_rn X d 145 (0, [(0, .long v.toInt64), (2, .long lo.toInt64), (4, .long hi.toInt64)], [], me_w M J) o := k
  have k := ly_revb 4 (c' := (if (lg_cmp v.toInt64 lo.toInt64) < 0 then 17 else 6, [(0, .long (v.toInt64)), (2, .long (lo.toInt64)), (4, .long (hi.toInt64))], [], me_w M J)) rfl k
  by_cases h3 : v.toInt < lo.toInt
  · rw [if_pos (show (lg_cmp v.toInt64 lo.toInt64) < 0 from lg_lt.mpr h3)] at k
    have k := ly_revb 1 (c' := (18, [(0, .long (v.toInt64)), (2, .long (lo.toInt64)), (4, .long (hi.toInt64))], [.int (Int32.ofInt 0)], me_w M J)) rfl k
    have k := lz_ri rfl (by decide) k
    exact ⟨_, k, Or.inr ⟨rfl, fun c => absurd c.1 (by omega)⟩⟩
  · rw [if_neg (show ¬ ((lg_cmp v.toInt64 lo.toInt64) < 0) from fun c => h3 (lg_lt.mp c))] at k
    have k := ly_revb 4 (c' := (if 0 < (lg_cmp v.toInt64 hi.toInt64) then 17 else 13, [(0, .long (v.toInt64)), (2, .long (lo.toInt64)), (4, .long (hi.toInt64))], [], me_w M J)) rfl k
    by_cases h10 : hi.toInt < v.toInt
    · rw [if_pos (show 0 < (lg_cmp v.toInt64 hi.toInt64) from lg_gt.mpr h10)] at k
      have k := ly_revb 1 (c' := (18, [(0, .long (v.toInt64)), (2, .long (lo.toInt64)), (4, .long (hi.toInt64))], [.int (Int32.ofInt 0)], me_w M J)) rfl k
      have k := lz_ri rfl (by decide) k
      exact ⟨_, k, Or.inr ⟨rfl, fun c => absurd c.2 (by omega)⟩⟩
    · rw [if_neg (show ¬ (0 < (lg_cmp v.toInt64 hi.toInt64)) from fun c => h10 (lg_gt.mp c))] at k
      have k := ly_revb 2 (c' := (18, [(0, .long (v.toInt64)), (2, .long (lo.toInt64)), (4, .long (hi.toInt64))], [.int (Int32.ofInt 1)], me_w M J)) rfl k
      have k := lz_ri rfl (by decide) k
      exact ⟨_, k, Or.inl ⟨rfl, by omega, by omega⟩⟩
theorem md_num {X : nt_X} {d t x B Tb Sg Ln q m : Nat} {f : Nat → Int32} {M : nt_M} {J0 J : Nat → Nat → Int32} {o : Option Value × nt_M} {e : Nat × (Nat → Int32)} {lo hi : Int32} (hP : md_P M J0 f t x B Tb Sg Ln) (hS : md_S J0 B Sg Ln x q 0 m e J) (hp : q ≤ t) (k : nt_ev X d 143 [.ref B, .int (lo), .int (hi)] (me_w M J) o) : ∃ r J', o = (some (.int r), me_w M J') ∧ ((lb_d f t (lb_s f t q) = 0 ∧ r = Int32.ofInt 0 ∧ md_S J0 B Sg Ln x (lb_s f t q) (lb_c (lb_s f t q) (Int32.ofInt 0)) m e J') ∨ (0 < lb_d f t (lb_s f t q) ∧ (5 < lb_d f t (lb_s f t q) ∨ ¬ (lo.toInt ≤ (lb_v f (lb_s f t q) (lb_d f t (lb_s f t q))).toInt ∧ (lb_v f (lb_s f t q) (lb_d f t (lb_s f t q))).toInt ≤ hi.toInt)) ∧ r = Int32.ofInt 0 ∧ md_S J0 B Sg Ln x (lb_s f t q + lb_d f t (lb_s f t q)) (lb_c (lb_s f t q) (Int32.ofInt 1)) m e J') ∨ (0 < lb_d f t (lb_s f t q) ∧ lb_d f t (lb_s f t q) ≤ 5 ∧ (lo.toInt ≤ (lb_v f (lb_s f t q) (lb_d f t (lb_s f t q))).toInt ∧ (lb_v f (lb_s f t q) (lb_d f t (lb_s f t q))).toInt ≤ hi.toInt) ∧ r = Int32.ofInt 1 ∧ md_S J0 B Sg Ln x (lb_s f t q + lb_d f t (lb_s f t q)) 0 m e J' ∧ J' B 17 = lb_v f (lb_s f t q) (lb_d f t (lb_s f t q)))) := by
  have k : nt_rn X d 143 (0, [(0, .ref B), (1, .int (lo)), (2, .int (hi))], [], me_w M J) o := k
  have t4 : t ≤ 400 := hP.2.2.2.2.2.1
  have hp1 : lb_s f t q ≤ t := (lb_s_le (t - q) q (by omega)).2
  have hD : lb_s f t q + lb_d f t (lb_s f t q) ≤ t := lb_d_le (t - lb_s f t q) (lb_s f t q) (by omega)
  have k := ly_revb 1 (c' := (1, [(0, .ref B), (1, .int (lo)), (2, .int (hi))], [.ref B], me_w M J)) rfl k
  obtain ⟨d1, o1, ed, kc, k⟩ := lz_c (g := 136) (q := 1) (vs := [.ref B]) (rest := []) rfl rfl (by decide) (Or.inr (Or.inl ⟨_, rfl, rfl⟩)) rfl k
  have e1 := md_see hP hS hp kc
  subst e1
  have hS1 := md_Sq (y := lb_s f t q) hP hS
  have hp1 : lb_s f t q ≤ t := (lb_s_le (t - q) q (by omega)).2
  have k : nt_rn X _ 143 (4, [(0, .ref B), (1, .int (lo)), (2, .int (hi))], [.int (lb_g f t (lb_s f t q))], me_w M (nt_u J B 15 (nI (lb_s f t q)))) _ := k
  have k := ly_revb 3 (c' := (7, [(0, .ref B), (1, .int (lo)), (2, .int (hi))], [.ref B, .ref B], me_w M (nt_u J B 15 (nI (lb_s f t q))))) rfl k
  have k := lz_get (a := B) (g := 1115) (M := me_w M (nt_u J B 15 (nI (lb_s f t q)))) (v := .int (nI (lb_s f t q))) rfl (congrArg Value.int (hS1.1)) k
  obtain ⟨d1, o1, ed, kc, k⟩ := lz_c (g := 144) (q := 1) (vs := [.ref B, .int (nI (lb_s f t q))]) (rest := []) rfl rfl (by decide) (Or.inr (Or.inl ⟨_, rfl, rfl⟩)) rfl k
  obtain ⟨r, e1, hr⟩ := md_isDigit hP hS1 hp1 (by omega) kc
  subst e1
  rcases hr with ⟨rfl, hr⟩ | ⟨rfl, hr⟩
  · have k : nt_rn X _ 143 (13, [(0, .ref B), (1, .int (lo)), (2, .int (hi))], [.int (Int32.ofInt 1)], me_w M (nt_u J B 15 (nI (lb_s f t q)))) _ := k
    have k := ly_revb 1 (c' := (if (Int32.ofInt 1) = 0 then 16 else 26, [(0, .ref B), (1, .int (lo)), (2, .int (hi))], [], me_w M (nt_u J B 15 (nI (lb_s f t q))))) rfl k
    rw [if_neg (show ¬ ((Int32.ofInt 1) = 0) from by decide)] at k
    have k := ly_revb 1 (c' := (27, [(0, .ref B), (1, .int (lo)), (2, .int (hi))], [.ref B], me_w M (nt_u J B 15 (nI (lb_s f t q))))) rfl k
    have k := lz_get (a := B) (g := 1115) (M := me_w M (nt_u J B 15 (nI (lb_s f t q)))) (v := .int (nI (lb_s f t q))) rfl (congrArg Value.int (hS1.1)) k
    have k := ly_revb 3 (c' := (34, [(4, .int (Int32.ofInt 0)), (3, .int (nI (lb_s f t q))), (0, .ref B), (1, .int (lo)), (2, .int (hi))], [], me_w M (nt_u J B 15 (nI (lb_s f t q))))) rfl k
    have hd0 : 0 < lb_d f t (lb_s f t q) := by rw [lb_d1 hr]; omega
    have k := md_nhl (p := lb_s f t q) (D := lb_d f t (lb_s f t q)) hP hD (lb_d f t (lb_s f t q)) 0 _ rfl (by omega) hS1 k
    rw [me_uu] at k
    have hS2 := md_Sq (y := lb_s f t q + lb_d f t (lb_s f t q)) hP hS
    have k : nt_rn X _ 143 (88, [(4, .int (lb_v f (lb_s f t q) (min (lb_d f t (lb_s f t q)) 5))), (3, .int (nI (lb_s f t q))), (0, .ref B), (1, .int (lo)), (2, .int (hi))], [], me_w M (nt_u J B 15 (nI (lb_s f t q + lb_d f t (lb_s f t q))))) _ := k
    have hS3 := md_Sn (y := lb_v f (lb_s f t q) (min (lb_d f t (lb_s f t q)) 5)) hP hS2
    have k := ly_revb 2 (c' := (91, [(4, .int (lb_v f (lb_s f t q) (min (lb_d f t (lb_s f t q)) 5))), (3, .int (nI (lb_s f t q))), (0, .ref B), (1, .int (lo)), (2, .int (hi))], [.int (lb_v f (lb_s f t q) (min (lb_d f t (lb_s f t q)) 5)), .ref B], me_w M (nt_u J B 15 (nI (lb_s f t q + lb_d f t (lb_s f t q)))))) rfl k
    have k := me_put rfl (by decide) k
    have k : nt_rn X _ 143 (94, [(4, .int (lb_v f (lb_s f t q) (min (lb_d f t (lb_s f t q)) 5))), (3, .int (nI (lb_s f t q))), (0, .ref B), (1, .int (lo)), (2, .int (hi))], [], me_w M (nt_u (nt_u J B 15 (nI (lb_s f t q + lb_d f t (lb_s f t q)))) B 17 (lb_v f (lb_s f t q) (min (lb_d f t (lb_s f t q)) 5)))) _ := k
    have k := ly_revb 1 (c' := (95, [(4, .int (lb_v f (lb_s f t q) (min (lb_d f t (lb_s f t q)) 5))), (3, .int (nI (lb_s f t q))), (0, .ref B), (1, .int (lo)), (2, .int (hi))], [.ref B], me_w M (nt_u (nt_u J B 15 (nI (lb_s f t q + lb_d f t (lb_s f t q)))) B 17 (lb_v f (lb_s f t q) (min (lb_d f t (lb_s f t q)) 5))))) rfl k
    have k := lz_get (a := B) (g := 1115) (M := me_w M (nt_u (nt_u J B 15 (nI (lb_s f t q + lb_d f t (lb_s f t q)))) B 17 (lb_v f (lb_s f t q) (min (lb_d f t (lb_s f t q)) 5)))) (v := .int (nI (lb_s f t q + lb_d f t (lb_s f t q)))) rfl (congrArg Value.int ((me_uk (by decide)).trans (hS2.1))) k
    have k := ly_revb 2 (c' := (100, [(4, .int (lb_v f (lb_s f t q) (min (lb_d f t (lb_s f t q)) 5))), (3, .int (nI (lb_s f t q))), (0, .ref B), (1, .int (lo)), (2, .int (hi))], [.int ((nI (lb_s f t q + lb_d f t (lb_s f t q))) - (nI (lb_s f t q)))], me_w M (nt_u (nt_u J B 15 (nI (lb_s f t q + lb_d f t (lb_s f t q)))) B 17 (lb_v f (lb_s f t q) (min (lb_d f t (lb_s f t q)) 5))))) rfl k
    rw [show ((nI (lb_s f t q + lb_d f t (lb_s f t q))) - (nI (lb_s f t q)) : Int32) = nI (lb_d f t (lb_s f t q)) from (me_subn (by omega)).trans (congrArg nI (by omega))] at k
    have k := ly_revb 2 (c' := (if (Int32.ofInt 5) < (nI (lb_d f t (lb_s f t q))) then 117 else 104, [(4, .int (lb_v f (lb_s f t q) (min (lb_d f t (lb_s f t q)) 5))), (3, .int (nI (lb_s f t q))), (0, .ref B), (1, .int (lo)), (2, .int (hi))], [], me_w M (nt_u (nt_u J B 15 (nI (lb_s f t q + lb_d f t (lb_s f t q)))) B 17 (lb_v f (lb_s f t q) (min (lb_d f t (lb_s f t q)) 5))))) rfl k
    by_cases h101 : 5 < lb_d f t (lb_s f t q)
    · rw [if_pos (show (Int32.ofInt 5) < (nI (lb_d f t (lb_s f t q))) from show nI 5 < nI (lb_d f t (lb_s f t q)) from nI_lt h101 (by omega))] at k
      have k := ly_revb 3 (c' := (120, [(4, .int (lb_v f (lb_s f t q) (min (lb_d f t (lb_s f t q)) 5))), (3, .int (nI (lb_s f t q))), (0, .ref B), (1, .int (lo)), (2, .int (hi))], [.int (nI (lb_s f t q)), .int (Int32.ofInt 1), .ref B], me_w M (nt_u (nt_u J B 15 (nI (lb_s f t q + lb_d f t (lb_s f t q)))) B 17 (lb_v f (lb_s f t q) (min (lb_d f t (lb_s f t q)) 5))))) rfl k
      obtain ⟨d1, o1, ed, kc, k⟩ := lz_c (g := 139) (q := 1) (vs := [.ref B, .int (Int32.ofInt 1), .int (nI (lb_s f t q))]) (rest := []) rfl rfl (by decide) (Or.inr (Or.inl ⟨_, rfl, rfl⟩)) rfl k
      obtain ⟨hf, e1⟩ := (md_fails (a := lb_s f t q) hP hS3 hD kc).resolve_right (fun c => c.1 rfl)
      subst e1
      have hS9 := md_Sw (y := lb_c (lb_s f t q) (Int32.ofInt 1)) hP hS3
      have k : nt_rn X _ 143 (123, [(4, .int (lb_v f (lb_s f t q) (min (lb_d f t (lb_s f t q)) 5))), (3, .int (nI (lb_s f t q))), (0, .ref B), (1, .int (lo)), (2, .int (hi))], [.int (Int32.ofInt 0)], me_w M (nt_u (nt_u (nt_u J B 15 (nI (lb_s f t q + lb_d f t (lb_s f t q)))) B 17 (lb_v f (lb_s f t q) (min (lb_d f t (lb_s f t q)) 5))) B 16 (lb_c (lb_s f t q) (Int32.ofInt 1)))) _ := k
      have k := ly_revb 1 (c' := (if (Int32.ofInt 0) = 0 then 130 else 126, [(4, .int (lb_v f (lb_s f t q) (min (lb_d f t (lb_s f t q)) 5))), (3, .int (nI (lb_s f t q))), (0, .ref B), (1, .int (lo)), (2, .int (hi))], [], me_w M (nt_u (nt_u (nt_u J B 15 (nI (lb_s f t q + lb_d f t (lb_s f t q)))) B 17 (lb_v f (lb_s f t q) (min (lb_d f t (lb_s f t q)) 5))) B 16 (lb_c (lb_s f t q) (Int32.ofInt 1))))) rfl k
      rw [if_pos (show (Int32.ofInt 0) = 0 from by decide)] at k
      have k := ly_revb 1 (c' := (131, [(4, .int (lb_v f (lb_s f t q) (min (lb_d f t (lb_s f t q)) 5))), (3, .int (nI (lb_s f t q))), (0, .ref B), (1, .int (lo)), (2, .int (hi))], [.int (Int32.ofInt 0)], me_w M (nt_u (nt_u (nt_u J B 15 (nI (lb_s f t q + lb_d f t (lb_s f t q)))) B 17 (lb_v f (lb_s f t q) (min (lb_d f t (lb_s f t q)) 5))) B 16 (lb_c (lb_s f t q) (Int32.ofInt 1))))) rfl k
      have k := lz_ri rfl (by decide) k
      exact ⟨_, _, k, Or.inr (Or.inl ⟨hd0, Or.inl h101, rfl, hS9⟩)⟩
    · rw [if_neg (show ¬ ((Int32.ofInt 5) < (nI (lb_d f t (lb_s f t q)))) from show ¬ nI 5 < nI (lb_d f t (lb_s f t q)) from nI_nlt (Nat.not_lt.mp h101) (by omega))] at k
      have k := ly_revb 6 (c' := (111, [(4, .int (lb_v f (lb_s f t q) (min (lb_d f t (lb_s f t q)) 5))), (3, .int (nI (lb_s f t q))), (0, .ref B), (1, .int (lo)), (2, .int (hi))], [.long (hi.toInt64), .long (lo.toInt64), .long ((lb_v f (lb_s f t q) (min (lb_d f t (lb_s f t q)) 5)).toInt64)], me_w M (nt_u (nt_u J B 15 (nI (lb_s f t q + lb_d f t (lb_s f t q)))) B 17 (lb_v f (lb_s f t q) (min (lb_d f t (lb_s f t q)) 5))))) rfl k
      obtain ⟨d1, o1, ed, kc, k⟩ := lz_c (g := 145) (q := 0) (vs := [.long ((lb_v f (lb_s f t q) (min (lb_d f t (lb_s f t q)) 5)).toInt64), .long (lo.toInt64), .long (hi.toInt64)]) (rest := []) rfl rfl (by decide) (Or.inl ⟨_, rfl, rfl⟩) rfl k
      obtain ⟨r, e1, hi9⟩ := md_in kc
      subst e1
      rcases hi9 with ⟨rfl, hi9⟩ | ⟨rfl, hi9⟩
      · have k : nt_rn X _ 143 (114, [(4, .int (lb_v f (lb_s f t q) (min (lb_d f t (lb_s f t q)) 5))), (3, .int (nI (lb_s f t q))), (0, .ref B), (1, .int (lo)), (2, .int (hi))], [.int (Int32.ofInt 1)], me_w M (nt_u (nt_u J B 15 (nI (lb_s f t q + lb_d f t (lb_s f t q)))) B 17 (lb_v f (lb_s f t q) (min (lb_d f t (lb_s f t q)) 5)))) _ := k
        have k := ly_revb 1 (c' := (if (Int32.ofInt 1) = 0 then 117 else 126, [(4, .int (lb_v f (lb_s f t q) (min (lb_d f t (lb_s f t q)) 5))), (3, .int (nI (lb_s f t q))), (0, .ref B), (1, .int (lo)), (2, .int (hi))], [], me_w M (nt_u (nt_u J B 15 (nI (lb_s f t q + lb_d f t (lb_s f t q)))) B 17 (lb_v f (lb_s f t q) (min (lb_d f t (lb_s f t q)) 5))))) rfl k
        rw [if_neg (show ¬ ((Int32.ofInt 1) = 0) from by decide)] at k
        have k := ly_revb 2 (c' := (131, [(4, .int (lb_v f (lb_s f t q) (min (lb_d f t (lb_s f t q)) 5))), (3, .int (nI (lb_s f t q))), (0, .ref B), (1, .int (lo)), (2, .int (hi))], [.int (Int32.ofInt 1)], me_w M (nt_u (nt_u J B 15 (nI (lb_s f t q + lb_d f t (lb_s f t q)))) B 17 (lb_v f (lb_s f t q) (min (lb_d f t (lb_s f t q)) 5))))) rfl k
        have k := lz_ri rfl (by decide) k
        rw [show min (lb_d f t (lb_s f t q)) 5 = lb_d f t (lb_s f t q) from by omega] at hi9
        refine ⟨_, _, k, Or.inr (Or.inr ⟨hd0, by omega, hi9, rfl, hS3, ?_⟩)⟩
        rw [me_us, show min (lb_d f t (lb_s f t q)) 5 = lb_d f t (lb_s f t q) from by omega]
      · have k : nt_rn X _ 143 (114, [(4, .int (lb_v f (lb_s f t q) (min (lb_d f t (lb_s f t q)) 5))), (3, .int (nI (lb_s f t q))), (0, .ref B), (1, .int (lo)), (2, .int (hi))], [.int (Int32.ofInt 0)], me_w M (nt_u (nt_u J B 15 (nI (lb_s f t q + lb_d f t (lb_s f t q)))) B 17 (lb_v f (lb_s f t q) (min (lb_d f t (lb_s f t q)) 5)))) _ := k
        have k := ly_revb 1 (c' := (if (Int32.ofInt 0) = 0 then 117 else 126, [(4, .int (lb_v f (lb_s f t q) (min (lb_d f t (lb_s f t q)) 5))), (3, .int (nI (lb_s f t q))), (0, .ref B), (1, .int (lo)), (2, .int (hi))], [], me_w M (nt_u (nt_u J B 15 (nI (lb_s f t q + lb_d f t (lb_s f t q)))) B 17 (lb_v f (lb_s f t q) (min (lb_d f t (lb_s f t q)) 5))))) rfl k
        rw [if_pos (show (Int32.ofInt 0) = 0 from by decide)] at k
        have k := ly_revb 3 (c' := (120, [(4, .int (lb_v f (lb_s f t q) (min (lb_d f t (lb_s f t q)) 5))), (3, .int (nI (lb_s f t q))), (0, .ref B), (1, .int (lo)), (2, .int (hi))], [.int (nI (lb_s f t q)), .int (Int32.ofInt 1), .ref B], me_w M (nt_u (nt_u J B 15 (nI (lb_s f t q + lb_d f t (lb_s f t q)))) B 17 (lb_v f (lb_s f t q) (min (lb_d f t (lb_s f t q)) 5))))) rfl k
        obtain ⟨d1, o1, ed, kc, k⟩ := lz_c (g := 139) (q := 1) (vs := [.ref B, .int (Int32.ofInt 1), .int (nI (lb_s f t q))]) (rest := []) rfl rfl (by decide) (Or.inr (Or.inl ⟨_, rfl, rfl⟩)) rfl k
        obtain ⟨hf, e1⟩ := (md_fails (a := lb_s f t q) hP hS3 hD kc).resolve_right (fun c => c.1 rfl)
        subst e1
        have hS9 := md_Sw (y := lb_c (lb_s f t q) (Int32.ofInt 1)) hP hS3
        have k : nt_rn X _ 143 (123, [(4, .int (lb_v f (lb_s f t q) (min (lb_d f t (lb_s f t q)) 5))), (3, .int (nI (lb_s f t q))), (0, .ref B), (1, .int (lo)), (2, .int (hi))], [.int (Int32.ofInt 0)], me_w M (nt_u (nt_u (nt_u J B 15 (nI (lb_s f t q + lb_d f t (lb_s f t q)))) B 17 (lb_v f (lb_s f t q) (min (lb_d f t (lb_s f t q)) 5))) B 16 (lb_c (lb_s f t q) (Int32.ofInt 1)))) _ := k
        have k := ly_revb 1 (c' := (if (Int32.ofInt 0) = 0 then 130 else 126, [(4, .int (lb_v f (lb_s f t q) (min (lb_d f t (lb_s f t q)) 5))), (3, .int (nI (lb_s f t q))), (0, .ref B), (1, .int (lo)), (2, .int (hi))], [], me_w M (nt_u (nt_u (nt_u J B 15 (nI (lb_s f t q + lb_d f t (lb_s f t q)))) B 17 (lb_v f (lb_s f t q) (min (lb_d f t (lb_s f t q)) 5))) B 16 (lb_c (lb_s f t q) (Int32.ofInt 1))))) rfl k
        rw [if_pos (show (Int32.ofInt 0) = 0 from by decide)] at k
        have k := ly_revb 1 (c' := (131, [(4, .int (lb_v f (lb_s f t q) (min (lb_d f t (lb_s f t q)) 5))), (3, .int (nI (lb_s f t q))), (0, .ref B), (1, .int (lo)), (2, .int (hi))], [.int (Int32.ofInt 0)], me_w M (nt_u (nt_u (nt_u J B 15 (nI (lb_s f t q + lb_d f t (lb_s f t q)))) B 17 (lb_v f (lb_s f t q) (min (lb_d f t (lb_s f t q)) 5))) B 16 (lb_c (lb_s f t q) (Int32.ofInt 1))))) rfl k
        have k := lz_ri rfl (by decide) k
        rw [show min (lb_d f t (lb_s f t q)) 5 = lb_d f t (lb_s f t q) from by omega] at hi9
        exact ⟨_, _, k, Or.inr (Or.inl ⟨hd0, Or.inr hi9, rfl, hS9⟩)⟩
  · have k : nt_rn X _ 143 (13, [(0, .ref B), (1, .int (lo)), (2, .int (hi))], [.int (Int32.ofInt 0)], me_w M (nt_u J B 15 (nI (lb_s f t q)))) _ := k
    have k := ly_revb 1 (c' := (if (Int32.ofInt 0) = 0 then 16 else 26, [(0, .ref B), (1, .int (lo)), (2, .int (hi))], [], me_w M (nt_u J B 15 (nI (lb_s f t q))))) rfl k
    rw [if_pos (show (Int32.ofInt 0) = 0 from by decide)] at k
    have k := ly_revb 3 (c' := (19, [(0, .ref B), (1, .int (lo)), (2, .int (hi))], [.ref B, .int (Int32.ofInt 0), .ref B], me_w M (nt_u J B 15 (nI (lb_s f t q))))) rfl k
    have k := lz_get (a := B) (g := 1115) (M := me_w M (nt_u J B 15 (nI (lb_s f t q)))) (v := .int (nI (lb_s f t q))) rfl (congrArg Value.int (hS1.1)) k
    obtain ⟨d1, o1, ed, kc, k⟩ := lz_c (g := 139) (q := 1) (vs := [.ref B, .int (Int32.ofInt 0), .int (nI (lb_s f t q))]) (rest := []) rfl rfl (by decide) (Or.inr (Or.inl ⟨_, rfl, rfl⟩)) rfl k
    obtain ⟨hf, e1⟩ := (md_fails (a := lb_s f t q) hP hS1 hp1 kc).resolve_right (fun c => c.1 rfl)
    subst e1
    have hS9 := md_Sw (y := lb_c (lb_s f t q) (Int32.ofInt 0)) hP hS1
    have k : nt_rn X _ 143 (25, [(0, .ref B), (1, .int (lo)), (2, .int (hi))], [.int (Int32.ofInt 0)], me_w M (nt_u (nt_u J B 15 (nI (lb_s f t q))) B 16 (lb_c (lb_s f t q) (Int32.ofInt 0)))) _ := k
    have k := lz_ri rfl (by decide) k
    exact ⟨_, _, k, Or.inl ⟨lb_d0 hr, rfl, hS9⟩⟩
end
section
/-! a value, the other side -/
theorem lb_d_all {f : Nat → Int32} {t : Nat} : ∀ (n p : Nat), lb_d f t p = n → ∀ i, i < n → lb_dig f t (p + i) := by
  intro n
  induction n with
  | zero => intro p h i hi; omega
  | succ n ih =>
    intro p h i hi
    obtain ⟨a, b⟩ := lb_d_dig h
    by_cases c : i = 0
    · rw [c]; exact a
    · have q := ih (p + 1) b (i - 1) (by omega)
      rw [show p + 1 + (i - 1) = p + i from by omega] at q
      exact q
theorem lb_v_s {v c : Int32} {X : Nat} (hv : v = nI X) (hX : X < 100000) (h0 : 48 ≤ c.toInt) (h1 : c.toInt ≤ 57) : v * Int32.ofInt 10 + c - Int32.ofInt 48 = nI (X * 10 + (c.toInt.toNat - 48)) := by
  have ec : c = nI c.toInt.toNat := by
    apply Int32.toInt_inj.mp
    rw [nI_toInt (by omega)]
    omega
  have e10 : v * Int32.ofInt 10 = nI (X * 10) := by
    rw [hv]
    exact (Int32.ofNat_mul X 10).symm
  rw [e10]
  have e2 : nI (X * 10) + c = nI (X * 10 + c.toInt.toNat) := by
    rw [← me_addn, ← ec]
  rw [e2]
  have e3 : nI (X * 10 + c.toInt.toNat) - nI 48 = nI (X * 10 + c.toInt.toNat - 48) := me_subn (by omega)
  rw [show Int32.ofInt 48 = nI 48 from rfl, e3]
  congr 1
  omega
theorem lb_v_b {f : Nat → Int32} {t p : Nat} : ∀ n, n ≤ 5 → (∀ i, i < n → lb_dig f t (p + i)) → ∃ X, lb_v f p n = nI X ∧ X < 10 ^ n := by
  intro n
  induction n with
  | zero => intro _ _; exact ⟨0, rfl, by decide⟩
  | succ n ih =>
    intro hn h
    obtain ⟨X, a, b⟩ := ih (by omega) (fun i hi => h i (by omega))
    have c := h n (by omega)
    have c1 : (48 : Int) ≤ (f (p + n)).toInt := Int32.le_iff_toInt_le.mp c.2.1
    have c2 : (f (p + n)).toInt ≤ 57 := Int32.le_iff_toInt_le.mp c.2.2
    have hb : (10 : Nat) ^ n ≤ 10 ^ 4 := Nat.pow_le_pow_right (by decide) (by omega)
    have hb2 : (10 : Nat) ^ 4 = 10000 := by decide
    refine ⟨X * 10 + ((f (p + n)).toInt.toNat - 48), lb_v_s a (by omega) c1 c2, ?_⟩
    rw [Nat.pow_succ]
    omega
theorem lb_v_in {f : Nat → Int32} {t p : Nat} (h : lb_d f t p ≤ 5) : (Int32.ofInt 0).toInt ≤ (lb_v f p (lb_d f t p)).toInt ∧ (lb_v f p (lb_d f t p)).toInt ≤ (Int32.ofInt 99999).toInt := by
  obtain ⟨X, a, b⟩ := lb_v_b (lb_d f t p) h (lb_d_all _ p rfl)
  have hb : (10 : Nat) ^ (lb_d f t p) ≤ 10 ^ 5 := Nat.pow_le_pow_right (by decide) h
  have hb2 : (10 : Nat) ^ 5 = 100000 := by decide
  rw [a, nI_toInt (by omega)]
  have e0 : (Int32.ofInt 0).toInt = 0 := by decide
  have e9 : (Int32.ofInt 99999).toInt = 99999 := by decide
  rw [e0, e9]
  omega
theorem lb_W_lets : nt_SB.all (fun l => l.all (fun c => decide (Int32.ofInt 97 ≤ c ∧ c ≤ Int32.ofInt 122))) = true := by decide +kernel
theorem lb_at_l {f : Nat → Int32} {t p a : Nat} (h : lb_at f t (lb_W a) p) : lb_l f t p = (lb_W a).length := by
  refine lb_l_eq _ p (fun i hi => ?_) h.2.2
  have h1 := h.1
  refine ⟨by omega, ?_⟩
  rw [h.2.1 i hi]
  have hm : lb_W a ∈ nt_SB := by
    unfold lb_W at hi ⊢
    rw [List.getD_eq_getElem?_getD] at hi ⊢
    cases hc : nt_SB[nt_si a]? with
    | none => rw [hc] at hi; exact absurd hi (Nat.not_lt_zero _)
    | some l => exact List.mem_of_getElem? hc
  have q := List.all_eq_true.mp lb_W_lets _ hm
  have q2 := List.all_eq_true.mp q ((lb_W a).getD i 0) (by rw [List.getD_eq_getElem?_getD, List.getElem?_eq_getElem hi]; exact List.getElem_mem hi)
  exact of_decide_eq_true q2
end
section
/-! one result -/
theorem lb_val_det {f : Nat → Int32} {t : Nat} {z : lb_Z} {r r' : lb_Y} (h : lb_val f t z r) (h' : lb_val f t z r') : r = r' := by
  unfold lb_val at h h'
  rcases h with ⟨a, h⟩ | ⟨a, b, c, h⟩ | ⟨a, b, c, h⟩ | ⟨a, b, h⟩ | ⟨a, w, hw, hat, hbe, h⟩ <;> rcases h' with ⟨a', h'⟩ | ⟨a', b', c', h'⟩ | ⟨a', b', c', h'⟩ | ⟨a', b', h'⟩ | ⟨a', w', hw', hat', hbe', h'⟩
  all_goals first
    | (rw [h, h']; done)
    | (exfalso; omega)
    | skip
  · exact absurd hat' (b w' hw')
  · exact absurd hat (b' w hw)
  · have e : w = w' := by
      rcases Nat.lt_trichotomy w w' with q | q | q
      · exact absurd hat (hbe' w q)
      · exact q
      · exact absurd hat' (hbe w' q)
    subst e
    rcases h with ⟨c, h⟩ | ⟨c, h⟩ <;> rcases h' with ⟨c', h'⟩ | ⟨c', h'⟩
    · rw [h, h']
    · omega
    · omega
    · rw [h, h']
theorem lb_sr_det {f : Nat → Int32} {t : Nat} : ∀ (k k' : Nat) (w : Int32) (z : lb_Z) (r r' : lb_Y), lb_sr f t k w z r → lb_sr f t k' w z r' → r = r' := by
  intro k
  induction k with
  | zero => intro k' w z r r' h _; exact h.elim
  | succ k ih =>
    intro k' w z r r' h h'
    cases k' with
    | zero => exact h'.elim
    | succ k' =>
      rcases h with ⟨a, h⟩ | ⟨a, r1, hv, h⟩ | ⟨a, r1, hv, h⟩ <;> rcases h' with ⟨a', h'⟩ | ⟨a', r1', hv', h'⟩ | ⟨a', r1', hv', h'⟩
      · rw [h, h']
      · rw [a] at a'; exact absurd a' (by decide)
      · rw [a] at a'; exact absurd a' (by decide)
      · rw [a'] at a; exact absurd a (by decide)
      · have e := lb_val_det hv hv'
        subst e
        rcases h with ⟨c, e1, e2⟩ | ⟨z1, e1, h⟩ <;> rcases h' with ⟨c', e1', e2'⟩ | ⟨z1', e1', h'⟩
        · rw [e2, e2']; rw [e1] at e1'; cases e1'; rfl
        · rw [e1] at e1'; cases e1'
        · rw [e1] at e1'; cases e1'
        · rw [e1] at e1'; cases e1'; exact ih _ _ _ _ _ h h'
      · rcases a with a | a <;> rw [a] at a' <;> exact absurd a' (by decide)
      · rw [a'] at a; exact absurd a (by decide)
      · rcases a with a | a <;> rw [a] at a' <;> exact absurd a' (by decide)
      · have e := lb_val_det hv hv'
        subst e
        rcases h with ⟨c, e1, e2⟩ | ⟨z1, e1, h⟩ <;> rcases h' with ⟨c', e1', e2'⟩ | ⟨z1', e1', h'⟩
        · rw [e2, e2']; rw [e1] at e1'; cases e1'; rfl
        · rw [e1] at e1'; cases e1'
        · rw [e1] at e1'; cases e1'
        · rw [e1] at e1'; cases e1'; exact ih _ _ _ _ _ h h'
theorem lb_sum_det {f : Nat → Int32} {t : Nat} {z : lb_Z} {r r' : lb_Y} (h : lb_sum f t z r) (h' : lb_sum f t z r') : r = r' := by
  obtain ⟨r1, hv, h⟩ := h
  obtain ⟨r1', hv', h'⟩ := h'
  have e := lb_val_det hv hv'
  subst e
  rcases h with ⟨c, e1, e2⟩ | ⟨z1, k, e1, h⟩ <;> rcases h' with ⟨c', e1', e2'⟩ | ⟨z1', k', e1', h'⟩
  · rw [e2, e2']; rw [e1] at e1'; cases e1'; rfl
  · rw [e1] at e1'; cases e1'
  · rw [e1] at e1'; cases e1'
  · rw [e1] at e1'; cases e1'; exact lb_sr_det _ _ _ _ _ _ h h'
end
section
/-! terms and sums, the other side -/
def lb_by (f : Nat → Int32) (t : Nat) : Prop := ∀ j, j < t → -128 ≤ (f j).toInt ∧ (f j).toInt ≤ 127
theorem lb_by_all : ∀ i : Fin 256, (Int32.ofInt ((i.val : Int) - 128) &&& Int32.ofInt 255).toInt = if 128 ≤ i.val then (i.val : Int) - 128 else (i.val : Int) + 128 := by decide +kernel
theorem lb_gb {f : Nat → Int32} {t p : Nat} (hb : lb_by f t) (hp : p < t) : (lb_g f t p).toInt = if 0 ≤ (f p).toInt then (f p).toInt else (f p).toInt + 256 := by
  obtain ⟨a, b⟩ := hb p hp
  unfold lb_g
  rw [if_pos hp]
  have q := lb_by_all ⟨((f p).toInt + 128).toNat, by omega⟩
  have e : (((⟨((f p).toInt + 128).toNat, by omega⟩ : Fin 256).val : Int) - 128) = (f p).toInt := by
    show (((f p).toInt + 128).toNat : Int) - 128 = _
    omega
  rw [e, Int32.ofInt_toInt] at q
  rw [q]
  by_cases c : 0 ≤ (f p).toInt
  · rw [if_pos c, if_pos (show 128 ≤ ((f p).toInt + 128).toNat by omega)]
  · rw [if_neg c, if_neg (show ¬ 128 ≤ ((f p).toInt + 128).toNat by omega)]
    show (((f p).toInt + 128).toNat : Int) + 128 = _
    omega
theorem lb_g1 {f : Nat → Int32} {t p : Nat} {c : Int32} (hb : lb_by f t) (hp : p < t) (h0 : 0 ≤ c.toInt) (h1 : c.toInt ≤ 127) (h : lb_g f t p = c) : f p = c := by
  have q := lb_gb hb hp
  obtain ⟨a, b⟩ := hb p hp
  rw [h] at q
  apply Int32.toInt_inj.mp
  by_cases k : 0 ≤ (f p).toInt
  · rw [if_pos k] at q
    omega
  · rw [if_neg k] at q
    omega
theorem lb_g2 {f : Nat → Int32} {t p : Nat} {c : Int32} (hb : lb_by f t) (hp : p < t) (h0 : 0 ≤ c.toInt) (h : f p = c) : lb_g f t p = c := by
  have q := lb_gb hb hp
  rw [h, if_pos h0] at q
  exact Int32.toInt_inj.mp q
theorem lb_op_i {g : Int32} : (lb_op g = Int32.ofInt 10 → g = Int32.ofInt 43) ∧ (lb_op g = Int32.ofInt 11 → g = Int32.ofInt 45) ∧ (lb_op g = Int32.ofInt 12 → g = Int32.ofInt 42) ∧ (lb_op g = Int32.ofInt 13 → g = Int32.ofInt 47) := by
  unfold lb_op
  by_cases h1 : g = Int32.ofInt 43
  · rw [if_pos h1]; exact ⟨fun _ => h1, fun c => absurd c (by decide), fun c => absurd c (by decide), fun c => absurd c (by decide)⟩
  rw [if_neg h1]
  by_cases h2 : g = Int32.ofInt 45
  · rw [if_pos h2]; exact ⟨fun c => absurd c (by decide), fun _ => h2, fun c => absurd c (by decide), fun c => absurd c (by decide)⟩
  rw [if_neg h2]
  by_cases h3 : g = Int32.ofInt 42
  · rw [if_pos h3]; exact ⟨fun c => absurd c (by decide), fun c => absurd c (by decide), fun _ => h3, fun c => absurd c (by decide)⟩
  rw [if_neg h3]
  by_cases h4 : g = Int32.ofInt 47
  · rw [if_pos h4]; exact ⟨fun c => absurd c (by decide), fun c => absurd c (by decide), fun c => absurd c (by decide), fun _ => h4⟩
  rw [if_neg h4]
  exact ⟨fun c => absurd c (by decide), fun c => absurd c (by decide), fun c => absurd c (by decide), fun c => absurd c (by decide)⟩
def lb_lp (f : Nat → Int32) (t : Nat) (R : lb_Z → lb_Y → Prop) (a b : Int32) : Nat → lb_Z → lb_Y → Prop
  | 0, _, _ => False
  | k + 1, z, r =>
    (¬ (lb_op (lb_g f t z.1) = a ∨ lb_op (lb_g f t z.1) = b) ∧ r = .inr z) ∨
    ((lb_op (lb_g f t z.1) = a ∨ lb_op (lb_g f t z.1) = b) ∧ ∃ r1, R (lb_s f t (z.1 + 1), z.2.1, z.2.2) r1 ∧ lb_th r1 r (fun z1 => lb_lp f t R a b k (z1.1, z1.2.1, lb_ew z1.2.2 (lb_op (lb_g f t z.1))) r))
def lb_te (f : Nat → Int32) (t : Nat) (z : lb_Z) (r : lb_Y) : Prop := ∃ r1, lb_val f t z r1 ∧ lb_th r1 r (fun z1 => ∃ k, lb_lp f t (lb_val f t) (Int32.ofInt 12) (Int32.ofInt 13) k z1 r)
def lb_su (f : Nat → Int32) (t : Nat) (z : lb_Z) (r : lb_Y) : Prop := ∃ r1, lb_te f t z r1 ∧ lb_th r1 r (fun z1 => ∃ k, lb_lp f t (lb_te f t) (Int32.ofInt 10) (Int32.ofInt 11) k z1 r)
theorem lb_lp_up {f : Nat → Int32} {t : Nat} {R : lb_Z → lb_Y → Prop} {a b : Int32} (ha : a ≠ Int32.ofInt (-1)) (hb : b ≠ Int32.ofInt (-1)) (hR : ∀ z z1, z.1 ≤ t → R z (.inr z1) → z.1 < z1.1 ∧ z1.1 ≤ t) : ∀ (k : Nat) (z z1 : lb_Z), z.1 ≤ t → lb_lp f t R a b k z (.inr z1) → z.1 ≤ z1.1 ∧ z1.1 ≤ t ∧ ¬ (lb_op (lb_g f t z1.1) = a ∨ lb_op (lb_g f t z1.1) = b) := by
  intro k
  induction k with
  | zero => intro z z1 _ h; exact h.elim
  | succ k ih =>
    intro z z1 hz h
    rcases h with ⟨h1, h⟩ | ⟨h1, r1, h2, h⟩
    · have e := Sum.inr.inj h
      subst e
      exact ⟨Nat.le_refl _, hz, h1⟩
    · have hlt : z.1 < t := lb_op_lt (by rcases h1 with q | q <;> (rw [q]; assumption))
      have hs := lb_s_le (f := f) (t := t) (t - (z.1 + 1)) (z.1 + 1) (by omega)
      rcases h with ⟨c, e1, e2⟩ | ⟨z2, e1, h⟩
      · cases e2
      · subst e1
        have q := hR _ _ hs.2 h2
        have i := ih (z2.1, z2.2.1, lb_ew z2.2.2 (lb_op (lb_g f t z.1))) _ q.2 h
        dsimp only at i q
        exact ⟨by omega, i.2⟩
theorem lb_te_up {f : Nat → Int32} {t : Nat} {z z1 : lb_Z} (hz : z.1 ≤ t) (h : lb_te f t z (.inr z1)) : z.1 < z1.1 ∧ z1.1 ≤ t := by
  obtain ⟨r1, hv, h⟩ := h
  rcases h with ⟨c, e1, e2⟩ | ⟨z2, e1, k, h⟩
  · cases e2
  · subst e1
    have q := lb_val_up hz hv
    have a := lb_lp_up (by decide) (by decide) (fun _ _ => lb_val_up) _ _ _ q.2 h
    exact ⟨by omega, a.2.1⟩
theorem lb_tl_sr {f : Nat → Int32} {t : Nat} {w : Int32} : ∀ (k : Nat) (z : lb_Z) (r1 r : lb_Y), lb_lp f t (lb_val f t) (Int32.ofInt 12) (Int32.ofInt 13) k z r1 → lb_th r1 r (fun z1 => ∃ j, lb_sr f t j w z1 r) → ∃ j, lb_sr f t j w z r := by
  intro k
  induction k with
  | zero => intro z r1 r h _; exact h.elim
  | succ k ih =>
    intro z r1 r h h2
    rcases h with ⟨h1, h⟩ | ⟨h1, r0, hv, h⟩
    · subst h
      rcases h2 with ⟨c, e1, e2⟩ | ⟨z1, e1, h2⟩
      · cases e1
      · cases e1
        exact h2
    · rcases h with ⟨c, e1, e2⟩ | ⟨z2, e1, h⟩
      · subst e1
        subst e2
        rcases h2 with ⟨c2, e1, e2⟩ | ⟨z1, e1, h2⟩
        · cases e1
          exact ⟨1, Or.inr (Or.inl ⟨h1, _, hv, Or.inl ⟨c, rfl, e2⟩⟩)⟩
        · cases e1
      · obtain ⟨j, q⟩ := ih _ _ _ h h2
        exact ⟨j + 1, Or.inr (Or.inl ⟨h1, _, hv, Or.inr ⟨z2, e1, q⟩⟩)⟩
theorem lb_sl_sr {f : Nat → Int32} {t : Nat} : ∀ (k : Nat) (w : Int32) (z : lb_Z) (r : lb_Y), z.1 ≤ t → ¬ (lb_op (lb_g f t z.1) = Int32.ofInt 12 ∨ lb_op (lb_g f t z.1) = Int32.ofInt 13) → lb_lp f t (lb_te f t) (Int32.ofInt 10) (Int32.ofInt 11) k (z.1, z.2.1, lb_ew z.2.2 w) r → ∃ j, lb_sr f t j w z r := by
  intro k
  induction k with
  | zero => intro w z r _ _ h; exact h.elim
  | succ k ih =>
    intro w z r hz hn h
    rcases h with ⟨h1, h⟩ | ⟨h1, r0, hv, h⟩
    · dsimp only at h1
      have q := lb_op_in (lb_g f t z.1)
      have q : lb_op (lb_g f t z.1) = Int32.ofInt (-1) := by
        rcases q with q | q | q | q | q
        · exact absurd (Or.inl q) h1
        · exact absurd (Or.inr q) h1
        · exact absurd (Or.inl q) hn
        · exact absurd (Or.inr q) hn
        · exact q
      exact ⟨1, Or.inl ⟨q, h⟩⟩
    · dsimp only at h1 hv h
      have hlt : z.1 < t := lb_op_lt (by rcases h1 with q | q <;> (rw [q]; decide))
      have hs := lb_s_le (f := f) (t := t) (t - (z.1 + 1)) (z.1 + 1) (by omega)
      obtain ⟨r2, hv2, hv⟩ := hv
      rcases hv with ⟨c, e1, e2⟩ | ⟨z2, e1, k2, hv⟩
      · subst e2
        rcases h with ⟨c2, e3, e4⟩ | ⟨z1, e3, h⟩
        · cases e3
          exact ⟨1, Or.inr (Or.inr ⟨h1, _, hv2, Or.inl ⟨c, e1, e4⟩⟩)⟩
        · cases e3
      · subst e1
        have q := lb_val_up hs.2 hv2
        have key : ∃ j, lb_sr f t j (lb_op (lb_g f t z.1)) z2 r := by
          refine lb_tl_sr k2 z2 r0 r hv ?_
          rcases h with h | ⟨z1, e3, h⟩
          · exact Or.inl h
          · subst e3
            have u := lb_lp_up (by decide) (by decide) (fun _ _ => lb_val_up) _ _ _ q.2 hv
            exact Or.inr ⟨z1, rfl, ih _ _ _ u.2.1 u.2.2 h⟩
        obtain ⟨j, key⟩ := key
        exact ⟨j + 1, Or.inr (Or.inr ⟨h1, _, hv2, Or.inr ⟨z2, rfl, key⟩⟩)⟩
theorem lb_su_sum {f : Nat → Int32} {t : Nat} {z : lb_Z} {r : lb_Y} (hz : z.1 ≤ t) (h : lb_su f t z r) : lb_sum f t z r := by
  obtain ⟨r1, hv, h⟩ := h
  obtain ⟨r2, hv2, hv⟩ := hv
  rcases hv with ⟨c, e1, e2⟩ | ⟨z2, e1, k2, hv⟩
  · subst e2
    rcases h with ⟨c2, e3, e4⟩ | ⟨z1, e3, h⟩
    · cases e3
      exact ⟨_, hv2, Or.inl ⟨c, e1, e4⟩⟩
    · cases e3
  · subst e1
    have q := lb_val_up hz hv2
    have key : ∃ j, lb_sr f t j (Int32.ofInt (-1)) z2 r := by
      refine lb_tl_sr k2 z2 r1 r hv ?_
      rcases h with h | ⟨z1, e3, k, h⟩
      · exact Or.inl h
      · subst e3
        have u := lb_lp_up (by decide) (by decide) (fun _ _ => lb_val_up) _ _ _ q.2 hv
        refine Or.inr ⟨z1, rfl, lb_sl_sr k _ _ _ u.2.1 u.2.2 ?_⟩
        have e : lb_ew z1.2.2 (Int32.ofInt (-1)) = z1.2.2 := if_pos rfl
        rw [e]
        exact h
    obtain ⟨j, key⟩ := key
    exact ⟨_, hv2, Or.inr ⟨z2, j, rfl, key⟩⟩
theorem lb_ew_c {e : lb_E} {w y : Int32} (h : ¬ w = Int32.ofInt (-1)) (hy : y = w - Int32.ofInt 8) : lb_ew e w = (lb_e e.1 w, lb_a e.2 y) := by
  unfold lb_ew
  rw [if_neg h, hy]
  rfl
end
section
/-! the other side's tests, told purely: a stack of what waits -/
theorem lb_cm_det {f : Nat → Int32} {t p : Nat} {x x' : Int32} (h : lb_cm f t p x) (h' : lb_cm f t p x') : x = x' := by
  unfold lb_cm at h h'
  rcases h with ⟨g, n, e⟩ | ⟨g, n, e⟩ | ⟨g, e⟩ | ⟨g, n, e⟩ | ⟨g, n, e⟩ | ⟨g, e⟩ <;> rcases h' with ⟨g', n', e'⟩ | ⟨g', n', e'⟩ | ⟨g', e'⟩ | ⟨g', n', e'⟩ | ⟨g', n', e'⟩ | ⟨g', e'⟩
  all_goals first
    | (rw [e, e']; done)
    | (exact absurd n' n)
    | (exact absurd n n')
    | (exact absurd g g'.1)
    | (exact absurd g g'.2.1)
    | (exact absurd g g'.2.2)
    | (exact absurd g' g.1)
    | (exact absurd g' g.2.1)
    | (exact absurd g' g.2.2)
    | (rw [g] at g'; exact absurd g' (by decide))
theorem lb_cp_det {f : Nat → Int32} {t : Nat} {z : lb_Z} {x x' : Int32} {r r' : lb_Y} (h : lb_cp f t z x r) (h' : lb_cp f t z x' r') : x = x' ∧ r = r' := by
  obtain ⟨a, h⟩ := h
  obtain ⟨a', h'⟩ := h'
  have e := lb_cm_det a a'
  subst e
  refine ⟨rfl, ?_⟩
  rcases h with ⟨p, h⟩ | ⟨p, q, h⟩ | ⟨p, q, h⟩ <;> rcases h' with ⟨p', h'⟩ | ⟨p', q', h'⟩ | ⟨p', q', h'⟩
  all_goals first
    | (rw [h, h']; done)
    | (exact absurd p p')
    | (exact absurd p' p)
    | omega
theorem lb_fa_det {f : Nat → Int32} {t : Nat} {z : lb_Z} {r r' : lb_Y} (h : lb_fa f t z r) (h' : lb_fa f t z r') : r = r' := by
  obtain ⟨r1, a, h⟩ := h
  obtain ⟨r1', a', h'⟩ := h'
  have e := lb_sum_det a a'
  subst e
  rcases h with ⟨c, e1, e2⟩ | ⟨z1, e1, x, r2, b, h⟩ <;> rcases h' with ⟨c', e1', e2'⟩ | ⟨z1', e1', x', r2', b', h'⟩ <;> rw [e1] at e1' <;> cases e1'
  · rw [e2, e2']
  · obtain ⟨ex, er⟩ := lb_cp_det b b'
    subst ex
    subst er
    rcases h with ⟨c, e2, e3⟩ | ⟨z2, e2, r3, b, h⟩ <;> rcases h' with ⟨c', e2', e3'⟩ | ⟨z2', e2', r3', b', h'⟩ <;> rw [e2] at e2' <;> cases e2'
    · rw [e3, e3']
    · have e := lb_sum_det b b'
      subst e
      rcases h with ⟨c, e4, e5⟩ | ⟨z3, e4, h⟩ <;> rcases h' with ⟨c', e4', e5'⟩ | ⟨z3', e4', h'⟩ <;> rw [e4] at e4' <;> cases e4'
      · rw [e5, e5']
      · rw [h, h']
def lb_sg (s : Int32) : Nat := if s = Int32.ofInt 13 then 1 else if s = Int32.ofInt 12 then 2 else if s = Int32.ofInt 11 then 3 else 0
/-- what the one side puts where the other puts s -/
def lb_tw (s : Int32) : Int32 := if s = Int32.ofInt 13 then Int32.ofInt 20 else if s = Int32.ofInt 12 then Int32.ofInt 19 else Int32.ofInt 21
def lb_st (l : Nat) : List Int32 → Int32 → lb_E → Int32 × List Int32 × lb_E
  | [], d, e => (d, [], e)
  | s :: S, d, e => if l ≤ lb_sg s then lb_st l S (if s = Int32.ofInt 11 then d - Int32.ofInt 1 else d) (lb_em e (lb_tw s) s) else (d, s :: S, e)
/-- 0: at a fact; 1: behind a fact; 2: settled; 3: behind brackets -/
def lb_ma (f : Nat → Int32) (t : Nat) : Nat → Nat → Int32 → List Int32 → lb_Z → lb_Y → Prop
  | 0, _, _, _, _, _ => False
  | k + 1, 0, d, S, z, r =>
    (lb_at f t (lb_W (nt_sp + 1 + 15)) z.1 ∧ d = Int32.ofInt 10 ∧ r = .inl (lb_c z.1 (Int32.ofInt 2))) ∨
    (lb_at f t (lb_W (nt_sp + 1 + 15)) z.1 ∧ ¬ d = Int32.ofInt 10 ∧ lb_ma f t k 0 (d + Int32.ofInt 1) (Int32.ofInt 11 :: S) (lb_s f t (z.1 + (lb_W (nt_sp + 1 + 15)).length), z.2.1, z.2.2) r) ∨
    (¬ lb_at f t (lb_W (nt_sp + 1 + 15)) z.1 ∧ lb_g f t z.1 = Int32.ofInt 91 ∧ d = Int32.ofInt 10 ∧ r = .inl (lb_c z.1 (Int32.ofInt 2))) ∨
    (¬ lb_at f t (lb_W (nt_sp + 1 + 15)) z.1 ∧ lb_g f t z.1 = Int32.ofInt 91 ∧ ¬ d = Int32.ofInt 10 ∧ lb_ma f t k 0 (d + Int32.ofInt 1) (Int32.ofInt 91 :: S) (lb_s f t (z.1 + 1), z.2.1, z.2.2) r) ∨
    (¬ lb_at f t (lb_W (nt_sp + 1 + 15)) z.1 ∧ ¬ lb_g f t z.1 = Int32.ofInt 91 ∧ ∃ r1, lb_fa f t z r1 ∧ lb_th r1 r (fun z1 => lb_ma f t k 1 d S z1 r))
  | k + 1, 1, d, S, z, r => lb_ma f t k 2 (lb_st 3 S d z.2.2).1 (lb_st 3 S d z.2.2).2.1 (z.1, z.2.1, (lb_st 3 S d z.2.2).2.2) r
  | k + 1, 2, d, S, z, r =>
    ((lb_g f t z.1 = Int32.ofInt 93 ∧ Int32.ofInt 91 ∈ S) ∧ lb_ma f t k 1 ((lb_st 1 S d z.2.2).1 - Int32.ofInt 1) (lb_st 1 S d z.2.2).2.1.tail (lb_s f t (z.1 + 1), z.2.1, (lb_st 1 S d z.2.2).2.2) r) ∨
    (¬ (lb_g f t z.1 = Int32.ofInt 93 ∧ Int32.ofInt 91 ∈ S) ∧ lb_ma f t k 3 d S z r)
  | k + 1, _ + 3, d, S, z, r =>
    (lb_at f t (lb_W (nt_sp + 1 + 16)) z.1 ∧ lb_ma f t k 0 (lb_st 2 S d z.2.2).1 (Int32.ofInt 12 :: (lb_st 2 S d z.2.2).2.1) (lb_s f t (z.1 + (lb_W (nt_sp + 1 + 16)).length), z.2.1, (lb_st 2 S d z.2.2).2.2) r) ∨
    (¬ lb_at f t (lb_W (nt_sp + 1 + 16)) z.1 ∧ lb_at f t (lb_W (nt_sp + 1 + 17)) z.1 ∧ lb_ma f t k 0 (lb_st 1 S d z.2.2).1 (Int32.ofInt 13 :: (lb_st 1 S d z.2.2).2.1) (lb_s f t (z.1 + (lb_W (nt_sp + 1 + 17)).length), z.2.1, (lb_st 1 S d z.2.2).2.2) r) ∨
    (¬ lb_at f t (lb_W (nt_sp + 1 + 16)) z.1 ∧ ¬ lb_at f t (lb_W (nt_sp + 1 + 17)) z.1 ∧ Int32.ofInt 91 ∈ S ∧ r = .inl (lb_c z.1 (Int32.ofInt 0))) ∨
    (¬ lb_at f t (lb_W (nt_sp + 1 + 16)) z.1 ∧ ¬ lb_at f t (lb_W (nt_sp + 1 + 17)) z.1 ∧ ¬ Int32.ofInt 91 ∈ S ∧ r = .inr (z.1, z.2.1, (lb_st 1 S d z.2.2).2.2))
def lb_tp (a w : Bool) (S : List Int32) : List Int32 := (if a = true then [Int32.ofInt 12] else []) ++ ((if w = true then [Int32.ofInt 13] else []) ++ S)
def lb_ae (e : lb_E) : Bool → lb_E
  | true => lb_em e (Int32.ofInt 19) (Int32.ofInt 12)
  | false => e
def lb_b0 (S : List Int32) : Prop := S = [] ∨ ∃ S', S = Int32.ofInt 91 :: S'
theorem lb_st_b {S : List Int32} {l : Nat} {d : Int32} {e : lb_E} (hS : lb_b0 S) (hl : 1 ≤ l) : lb_st l S d e = (d, S, e) := by
  rcases hS with h | ⟨S', h⟩
  · subst h; rfl
  · subst h
    unfold lb_st
    rw [if_neg (show ¬ l ≤ lb_sg (Int32.ofInt 91) from by rw [show lb_sg (Int32.ofInt 91) = 0 from by decide]; omega)]
theorem lb_st_12 {S : List Int32} {l : Nat} {d : Int32} {e : lb_E} (hl : l ≤ 2) : lb_st l (Int32.ofInt 12 :: S) d e = lb_st l S d (lb_em e (Int32.ofInt 19) (Int32.ofInt 12)) := by
  show (if l ≤ lb_sg (Int32.ofInt 12) then lb_st l S (if Int32.ofInt 12 = Int32.ofInt 11 then d - Int32.ofInt 1 else d) (lb_em e (lb_tw (Int32.ofInt 12)) (Int32.ofInt 12)) else (d, Int32.ofInt 12 :: S, e)) = _
  rw [show lb_sg (Int32.ofInt 12) = 2 from by decide, if_pos hl, if_neg (by decide), show lb_tw (Int32.ofInt 12) = Int32.ofInt 19 from by decide]
theorem lb_st_13 {S : List Int32} {d : Int32} {e : lb_E} : lb_st 1 (Int32.ofInt 13 :: S) d e = lb_st 1 S d (lb_em e (Int32.ofInt 20) (Int32.ofInt 13)) := by
  show (if 1 ≤ lb_sg (Int32.ofInt 13) then lb_st 1 S (if Int32.ofInt 13 = Int32.ofInt 11 then d - Int32.ofInt 1 else d) (lb_em e (lb_tw (Int32.ofInt 13)) (Int32.ofInt 13)) else (d, Int32.ofInt 13 :: S, e)) = _
  rw [show lb_sg (Int32.ofInt 13) = 1 from by decide, if_pos (by decide), if_neg (by decide), show lb_tw (Int32.ofInt 13) = Int32.ofInt 20 from by decide]
theorem lb_st_no {S : List Int32} {l : Nat} {d s : Int32} {e : lb_E} (hl : lb_sg s < l) : lb_st l (s :: S) d e = (d, s :: S, e) := if_neg (by omega)
theorem lb_st_11 {S : List Int32} {d : Int32} {e : lb_E} : lb_st 3 (Int32.ofInt 11 :: S) d e = lb_st 3 S (d - Int32.ofInt 1) (lb_em e (Int32.ofInt 21) (Int32.ofInt 11)) := by
  show (if 3 ≤ lb_sg (Int32.ofInt 11) then lb_st 3 S (if Int32.ofInt 11 = Int32.ofInt 11 then d - Int32.ofInt 1 else d) (lb_em e (lb_tw (Int32.ofInt 11)) (Int32.ofInt 11)) else (d, Int32.ofInt 11 :: S, e)) = _
  rw [show lb_sg (Int32.ofInt 11) = 3 from by decide, if_pos (by decide), if_pos rfl, show lb_tw (Int32.ofInt 11) = Int32.ofInt 21 from by decide]
theorem lb_st_1 {S : List Int32} {a w : Bool} {d : Int32} {e : lb_E} (hS : lb_b0 S) : lb_st 1 (lb_tp a w S) d e = (d, S, lb_oe (lb_ae e a) w) := by
  cases a <;> cases w
  · exact lb_st_b hS (by decide)
  · exact lb_st_13.trans (lb_st_b hS (by decide))
  · exact (lb_st_12 (by decide)).trans (lb_st_b hS (by decide))
  · exact (lb_st_12 (by decide)).trans (lb_st_13.trans (lb_st_b hS (by decide)))
theorem lb_st_2 {S : List Int32} {a w : Bool} {d : Int32} {e : lb_E} (hS : lb_b0 S) : lb_st 2 (lb_tp a w S) d e = (d, lb_tp false w S, lb_ae e a) := by
  cases a <;> cases w
  · exact lb_st_b hS (by decide)
  · exact lb_st_no (by decide)
  · exact (lb_st_12 (by decide)).trans (lb_st_b hS (by decide))
  · exact (lb_st_12 (by decide)).trans (lb_st_no (by decide))
theorem lb_st_3 {S : List Int32} {a w : Bool} {d : Int32} {e : lb_E} (hS : lb_b0 S) : lb_st 3 (lb_tp a w S) d e = (d, lb_tp a w S, e) := by
  cases a <;> cases w
  · exact lb_st_b hS (by decide)
  · exact lb_st_no (by decide)
  · exact lb_st_no (by decide)
  · exact lb_st_no (by decide)
theorem lb_at_g {f : Nat → Int32} {t p a : Nat} {c : Int32} (ha : (lb_W a).getD 0 0 = c) (h0 : 0 < (lb_W a).length) (h : lb_at f t (lb_W a) p) : lb_g f t p = c &&& Int32.ofInt 255 := by
  have h1 := h.1
  unfold lb_g
  rw [if_pos (by omega)]
  have q := h.2.1 0 h0
  rw [ha] at q
  rw [show f p = c from q]
theorem lb_and_g {f : Nat → Int32} {t p : Nat} (h : lb_at f t (lb_W (nt_sp + 1 + 16)) p) : ¬ lb_g f t p = Int32.ofInt 93 := by
  rw [lb_at_g (c := Int32.ofInt 97) (by decide +kernel) (lb_Wp 16 (by decide)) h]
  decide
theorem lb_or_g {f : Nat → Int32} {t p : Nat} (h : lb_at f t (lb_W (nt_sp + 1 + 17)) p) : ¬ lb_g f t p = Int32.ofInt 93 := by
  rw [lb_at_g (c := Int32.ofInt 111) (by decide +kernel) (lb_Wp 17 (by decide)) h]
  decide
/-- where no more is to be settled behind a fact -/
theorem lb_ma_1 {f : Nat → Int32} {t n : Nat} {d : Int32} {S : List Int32} {z : lb_Z} {r : lb_Y} (hS : lb_st 3 S d z.2.2 = (d, S, z.2.2)) (h : lb_ma f t n 1 d S z r) : ∃ n', lb_ma f t n' 2 d S z r := by
  cases n with
  | zero => exact h.elim
  | succ n =>
    have h : lb_ma f t n 2 (lb_st 3 S d z.2.2).1 (lb_st 3 S d z.2.2).2.1 (z.1, z.2.1, (lb_st 3 S d z.2.2).2.2) r := h
    rw [hS] at h
    exact ⟨n, h⟩
theorem lb_in_91 {a w : Bool} {S : List Int32} : Int32.ofInt 91 ∈ lb_tp a w (Int32.ofInt 91 :: S) := by
  unfold lb_tp
  exact List.mem_append.mpr (Or.inr (List.mem_append.mpr (Or.inr (List.mem_cons_self ..))))
theorem lb_nin_91 {a w : Bool} : ¬ Int32.ofInt 91 ∈ lb_tp a w [] := by
  cases a <;> cases w <;> decide
/-- a fact, or what follows one: read by the one side, and by the other -/
theorem lb_ft_ma {f : Nat → Int32} {t : Nat} : ∀ (k : Nat) (b : Bool) (d : Nat) (w : Bool) (z : lb_Z) (r1 : lb_Y), lb_ft f t k b d w z r1 → d ≤ 10 →
    (b = true → ∀ (n : Nat) (S : List Int32) (r : lb_Y), lb_ma f t n 0 (nI d) S z r → (∃ c, r1 = .inl c ∧ r = .inl c) ∨ ∃ z1 n', r1 = .inr z1 ∧ lb_ma f t n' 1 (nI d) S z1 r) ∧
    (b = false → ∀ (n : Nat) (S : List Int32) (a : Bool) (z0 : lb_Z) (r : lb_Y), lb_b0 S → z = (z0.1, z0.2.1, lb_ae z0.2.2 a) → lb_ma f t n 2 (nI d) (lb_tp a w S) z0 r → (∃ c, r1 = .inl c ∧ r = .inl c) ∨ ∃ (z1 z0' : lb_Z) (a' w' : Bool) (n' : Nat), r1 = .inr z1 ∧ ¬ lb_at f t (lb_W (nt_sp + 1 + 16)) z1.1 ∧ ¬ lb_at f t (lb_W (nt_sp + 1 + 17)) z1.1 ∧ z1 = (z0'.1, z0'.2.1, lb_oe (lb_ae z0'.2.2 a') w') ∧ lb_ma f t n' 2 (nI d) (lb_tp a' w' S) z0' r) := by
  intro k
  induction k with
  | zero => intro b d w z r1 h; exact h.elim
  | succ k ih =>
    intro b d w z r1 h hd
    cases b with
    | true =>
      refine ⟨fun _ n S r hm => ?_, fun h => (by cases h)⟩
      cases n with
      | zero => exact hm.elim
      | succ n =>
        rcases h with ⟨h1, h2, h⟩ | ⟨h1, h2, r2, h3, h4⟩ | ⟨h1, h2, h3, r2, h4, h5⟩ | ⟨h1, h2, h⟩
        · have e10 : d = 10 := by omega
          subst e10
          rcases hm with ⟨_, _, q⟩ | ⟨_, q, _⟩ | ⟨_, _, _, q⟩ | ⟨_, _, q, _⟩ | ⟨q1, q2, _⟩
          · exact Or.inl ⟨_, h, q⟩
          · exact absurd rfl q
          · exact Or.inl ⟨_, h, q⟩
          · exact absurd rfl q
          · exact absurd h1 (fun c => c.elim q1 q2)
        · have ne10 : ¬ nI d = Int32.ofInt 10 := me_ne (b := 10) (by omega) (by omega) (by omega)
          rcases hm with ⟨_, q, _⟩ | ⟨_, _, hm⟩ | ⟨q, _⟩ | ⟨q, _⟩ | ⟨q, _⟩
          · exact absurd q ne10
          · rw [show nI d + Int32.ofInt 1 = nI (d + 1) from me_add (k := 1)] at hm
            rcases (ih _ _ _ _ _ h3 (by omega)).1 rfl _ _ _ hm with ⟨c, e1, e2⟩ | ⟨z1, n', e1, hm⟩
            · subst e1
              rcases h4 with ⟨c', e3, e4⟩ | ⟨z1, e3, _⟩
              · cases e3
                exact Or.inl ⟨_, e4, e2⟩
              · cases e3
            · subst e1
              rcases h4 with ⟨c', e3, e4⟩ | ⟨z2, e3, h4⟩
              · cases e3
              · cases e3
                refine Or.inr ⟨_, n', h4, ?_⟩
                cases n' with
                | zero => exact hm.elim
                | succ n' =>
                  have hm : lb_ma f t n' 2 (lb_st 3 (Int32.ofInt 11 :: S) (nI (d + 1)) z1.2.2).1 (lb_st 3 (Int32.ofInt 11 :: S) (nI (d + 1)) z1.2.2).2.1 (z1.1, z1.2.1, (lb_st 3 (Int32.ofInt 11 :: S) (nI (d + 1)) z1.2.2).2.2) r := hm
                  rw [lb_st_11, show nI (d + 1) - Int32.ofInt 1 = nI d from (me_subn (b := 1) (by omega)).trans (congrArg nI (by omega))] at hm
                  exact hm
          · exact absurd h1 q
          · exact absurd h1 q
          · exact absurd h1 q
        · have ne10 : ¬ nI d = Int32.ofInt 10 := me_ne (b := 10) (by omega) (by omega) (by omega)
          rcases hm with ⟨q, _⟩ | ⟨q, _⟩ | ⟨_, _, q, _⟩ | ⟨_, _, _, hm⟩ | ⟨_, q, _⟩
          · exact absurd q h1
          · exact absurd q h1
          · exact absurd q ne10
          · rw [show nI d + Int32.ofInt 1 = nI (d + 1) from me_add (k := 1)] at hm
            rcases (ih _ _ _ _ _ h4 (by omega)).1 rfl _ _ _ hm with ⟨c, e1, e2⟩ | ⟨z1, n', e1, hm⟩
            · subst e1
              rcases h5 with ⟨c', e3, e4⟩ | ⟨z1, e3, _⟩
              · cases e3
                exact Or.inl ⟨_, e4, e2⟩
              · cases e3
            · subst e1
              rcases h5 with ⟨c', e3, e4⟩ | ⟨z2, e3, r3, h6, h7⟩
              · cases e3
              · cases e3
                have hb : lb_b0 (Int32.ofInt 91 :: S) := Or.inr ⟨S, rfl⟩
                obtain ⟨n2, hm⟩ := lb_ma_1 (lb_st_b hb (by decide)) hm
                rcases (ih _ _ _ _ _ h6 (by omega)).2 rfl n2 _ false z1 r hb rfl hm with ⟨c, e1, e2⟩ | ⟨z3, z0', a', w', n3, e1, na, no, ez, hm⟩
                · subst e1
                  rcases h7 with ⟨c', e3, e4⟩ | ⟨z1, e3, _⟩
                  · cases e3
                    exact Or.inl ⟨_, e4, e2⟩
                  · cases e3
                · subst e1
                  rcases h7 with ⟨c', e3, e4⟩ | ⟨z4, e3, h7⟩
                  · cases e3
                  · cases e3
                    have ez1 : z3.1 = z0'.1 := by rw [ez]
                    have ez2 : z3.2.1 = z0'.2.1 := by rw [ez]
                    have ez3 : z3.2.2 = lb_oe (lb_ae z0'.2.2 a') w' := by rw [ez]
                    cases n3 with
                    | zero => exact hm.elim
                    | succ n3 =>
                      rcases h7 with ⟨h93, h7⟩ | ⟨h93, h7⟩
                      · rcases hm with ⟨_, hm⟩ | ⟨q, _⟩
                        · rw [lb_st_1 hb] at hm
                          dsimp only at hm
                          rw [show nI (d + 1) - Int32.ofInt 1 = nI d from (me_subn (b := 1) (by omega)).trans (congrArg nI (by omega)), ← ez1, ← ez2, ← ez3] at hm
                          exact Or.inr ⟨_, n3, h7, hm⟩
                        · exact absurd ⟨ez1 ▸ h93, lb_in_91⟩ q
                      · rcases hm with ⟨⟨q, _⟩, _⟩ | ⟨_, hm⟩
                        · exact absurd (by rw [ez1]; exact q) h93
                        · cases n3 with
                          | zero => exact hm.elim
                          | succ n3 =>
                            rw [ez1] at na no
                            rcases hm with ⟨q, _⟩ | ⟨_, q, _⟩ | ⟨_, _, _, q⟩ | ⟨_, _, q, _⟩
                            · exact absurd q na
                            · exact absurd q no
                            · rw [ez1] at h7
                              exact Or.inl ⟨_, h7, q⟩
                            · exact absurd lb_in_91 q
          · exact absurd h2 q
        · rcases hm with ⟨q, _⟩ | ⟨q, _⟩ | ⟨_, q, _⟩ | ⟨_, q, _⟩ | ⟨_, _, r2, hf, hm⟩
          · exact absurd q h1
          · exact absurd q h1
          · exact absurd q h2
          · exact absurd q h2
          · have e := lb_fa_det h hf
            subst e
            rcases hm with h | ⟨z1, e1, hm⟩
            · exact Or.inl h
            · exact Or.inr ⟨z1, n, e1, hm⟩
    | false =>
      refine ⟨fun h => (by cases h), fun _ n S a z0 r hb ez hm => ?_⟩
      have ez1 : z.1 = z0.1 := by rw [ez]
      have ez2 : z.2.1 = z0.2.1 := by rw [ez]
      have ez3 : z.2.2 = lb_ae z0.2.2 a := by rw [ez]
      cases n with
      | zero => exact hm.elim
      | succ n =>
        rcases h with ⟨h1, r2, h3, h4⟩ | ⟨h1, h2, r2, h3, h4⟩ | ⟨h1, h2, h⟩
        · rw [ez1] at h1
          rcases hm with ⟨⟨q, _⟩, _⟩ | ⟨_, hm⟩
          · exact absurd q (lb_and_g h1)
          cases n with
          | zero => exact hm.elim
          | succ n =>
            rcases hm with ⟨_, hm⟩ | ⟨q, _⟩ | ⟨q, _⟩ | ⟨q, _⟩
            · rw [lb_st_2 hb] at hm
              dsimp only at hm
              rw [← ez1, ← ez2, ← ez3] at hm
              have hm : lb_ma f t n 0 (nI d) (lb_tp true w S) (lb_s f t (z.1 + (lb_W (nt_sp + 1 + 16)).length), z.2.1, z.2.2) r := hm
              rcases (ih _ _ _ _ _ h3 hd).1 rfl _ _ _ hm with ⟨c, e1, e2⟩ | ⟨z1, n', e1, hm⟩
              · subst e1
                rcases h4 with ⟨c', e3, e4⟩ | ⟨z1, e3, _⟩
                · cases e3
                  exact Or.inl ⟨_, e4, e2⟩
                · cases e3
              · subst e1
                rcases h4 with ⟨c', e3, e4⟩ | ⟨z2, e3, h4⟩
                · cases e3
                · cases e3
                  obtain ⟨n2, hm⟩ := lb_ma_1 (lb_st_3 hb) hm
                  exact (ih _ _ _ _ _ h4 hd).2 rfl n2 S true z1 r hb rfl hm
            · exact absurd h1 q
            · exact absurd h1 q
            · exact absurd h1 q
        · rw [ez1] at h1 h2
          rcases hm with ⟨⟨q, _⟩, _⟩ | ⟨_, hm⟩
          · exact absurd q (lb_or_g h2)
          cases n with
          | zero => exact hm.elim
          | succ n =>
            rcases hm with ⟨q, _⟩ | ⟨_, _, hm⟩ | ⟨_, q, _⟩ | ⟨_, q, _⟩
            · exact absurd q h1
            · rw [lb_st_1 hb] at hm
              dsimp only at hm
              rw [← ez1, ← ez2, ← ez3] at hm
              have hm : lb_ma f t n 0 (nI d) (lb_tp false true S) (lb_s f t (z.1 + (lb_W (nt_sp + 1 + 17)).length), z.2.1, lb_oe z.2.2 w) r := hm
              rcases (ih _ _ _ _ _ h3 hd).1 rfl _ _ _ hm with ⟨c, e1, e2⟩ | ⟨z1, n', e1, hm⟩
              · subst e1
                rcases h4 with ⟨c', e3, e4⟩ | ⟨z1, e3, _⟩
                · cases e3
                  exact Or.inl ⟨_, e4, e2⟩
                · cases e3
              · subst e1
                rcases h4 with ⟨c', e3, e4⟩ | ⟨z2, e3, h4⟩
                · cases e3
                · cases e3
                  obtain ⟨n2, hm⟩ := lb_ma_1 (lb_st_3 hb) hm
                  exact (ih _ _ _ _ _ h4 hd).2 rfl n2 S false z1 r hb rfl hm
            · exact absurd h2 q
            · exact absurd h2 q
        · refine Or.inr ⟨_, z0, a, w, n + 1, h, ?_, ?_, ?_, hm⟩
          · exact h1
          · exact h2
          · rw [ez1, ez2, ez3]
/-- a test -/
theorem lb_test_ma {f : Nat → Int32} {t k n : Nat} {z : lb_Z} {r1 r2 r : lb_Y} (h1 : lb_ft f t k true 0 false z r1) (h2 : lb_th r1 r2 (fun z1 => lb_ft f t k false 0 false z1 r2)) (hm : lb_ma f t n 0 (Int32.ofInt 0) [] z r) : r = r2 := by
  have hb : lb_b0 [] := Or.inl rfl
  rcases (lb_ft_ma _ _ _ _ _ _ h1 (by decide)).1 rfl _ _ _ hm with ⟨c, e1, e2⟩ | ⟨z1, n', e1, hm⟩
  · subst e1
    rcases h2 with ⟨c', e3, e4⟩ | ⟨z1, e3, _⟩
    · cases e3
      rw [e2, e4]
    · cases e3
  · subst e1
    rcases h2 with ⟨c', e3, e4⟩ | ⟨z2, e3, h2⟩
    · cases e3
    · cases e3
      obtain ⟨n2, hm⟩ := lb_ma_1 (lb_st_b hb (by decide)) hm
      rcases (lb_ft_ma _ _ _ _ _ _ h2 (by decide)).2 rfl n2 _ false z1 r hb rfl hm with ⟨c, e1, e2⟩ | ⟨z3, z0', a', w', n3, e1, na, no, ez, hm⟩
      · rw [e1, e2]
      · have ez1 : z3.1 = z0'.1 := by rw [ez]
        rw [ez1] at na no
        cases n3 with
        | zero => exact hm.elim
        | succ n3 =>
          rcases hm with ⟨⟨_, q⟩, _⟩ | ⟨_, hm⟩
          · exact absurd q lb_nin_91
          cases n3 with
          | zero => exact hm.elim
          | succ n3 =>
            rcases hm with ⟨q, _⟩ | ⟨_, q, _⟩ | ⟨_, _, q, _⟩ | ⟨_, _, _, q⟩
            · exact absurd q na
            · exact absurd q no
            · exact absurd q lb_nin_91
            · rw [lb_st_1 hb] at q
              rw [q, e1, ez]
end
section
/-! the stack of the other side -/
def lb_stk (g : Nat → Int32) : List Int32 → Prop
  | [] => True
  | s :: S => g S.length = s ∧ lb_stk g S
theorem lb_stk_eq {g h : Nat → Int32} : ∀ (S : List Int32), (∀ j, j < S.length → h j = g j) → lb_stk g S → lb_stk h S := by
  intro S
  induction S with
  | nil => intro _ _; exact trivial
  | cons s S ih =>
    intro hj hs
    exact ⟨(hj S.length (by show S.length < S.length + 1; omega)).trans hs.1, ih (fun j hj2 => hj j (by show j < S.length + 1; omega)) hs.2⟩
theorem lb_stk_mem {g : Nat → Int32} {c : Int32} : ∀ (S : List Int32), lb_stk g S → (c ∈ S ↔ ∃ j, j < S.length ∧ g j = c) := by
  intro S
  induction S with
  | nil => intro _; exact ⟨fun h => (by cases h), fun ⟨j, h, _⟩ => absurd h (Nat.not_lt_zero _)⟩
  | cons s S ih =>
    intro hs
    constructor
    · intro h
      rcases List.mem_cons.mp h with h | h
      · exact ⟨S.length, by show S.length < S.length + 1; omega, hs.1.trans h.symm⟩
      · obtain ⟨j, a, b⟩ := (ih hs.2).mp h
        exact ⟨j, by show j < S.length + 1; omega, b⟩
    · intro ⟨j, a, b⟩
      have a : j < S.length + 1 := a
      by_cases c2 : j = S.length
      · rw [c2, hs.1] at b
        exact List.mem_cons.mpr (Or.inl b.symm)
      · exact List.mem_cons.mpr (Or.inr ((ih hs.2).mpr ⟨j, by omega, b⟩))
def md_O (M : nt_M) (B Tb Sg Ln Op : Nat) : Prop := nt_R M B 22 = some Op ∧ (Op ≠ B ∧ Op ≠ Tb ∧ Op ≠ Sg ∧ Op ≠ Ln) ∧ nt_l M Op = 400 ∧ Op ≠ nt_sp
theorem md_Sself {J0 J : Nat → Nat → Int32} {x B Sg Ln q m : Nat} {wr : Int32} {e : Nat × (Nat → Int32)} (hS : md_S J0 B Sg Ln x q wr m e J) : md_S J B Sg Ln x q wr m e J := by
  obtain ⟨a1, a2, a3, a4, a5, a6, a7, a8⟩ := hS
  exact ⟨a1, a2, a3, a4, a5, fun _ _ _ _ _ => rfl, fun _ _ _ _ => rfl, a8⟩
theorem me_p0 {s : Int32} : s + Int32.ofInt 16 * Int32.ofInt 0 = s := by
  rw [show Int32.ofInt 16 * Int32.ofInt 0 = 0 from by decide, Int32.add_zero]
theorem md_strength {X : nt_X} {d : Nat} {s : Int32} {M : nt_M} {J : Nat → Nat → Int32} {o : Option Value × nt_M} (k : nt_ev X d 164 [.int s] (me_w M J) o) : o = (some (.int (nI (lb_sg s))), me_w M J) := by
  have k : nt_rn X d 164 (0, [(0, .int s)], [], me_w M J) o := k
  have k := ly_revb 3 (c' := (if s = (Int32.ofInt 13) then 6 else 10, [(0, .int (s))], [], me_w M J)) rfl k
  by_cases h3 : s = (Int32.ofInt 13)
  · rw [if_pos (show s = (Int32.ofInt 13) from h3)] at k
    have k := ly_revb 2 (c' := (31, [(0, .int (s))], [.int (Int32.ofInt 1)], me_w M J)) rfl k
    have k := lz_ri rfl (by decide) k
    have e2 : lb_sg s = 1 := by
      unfold lb_sg
      rw [if_pos h3]
    rw [k, e2]
    rfl
  · rw [if_neg (show ¬ (s = (Int32.ofInt 13)) from h3)] at k
    have k := ly_revb 3 (c' := (if s = (Int32.ofInt 12) then 16 else 20, [(0, .int (s))], [], me_w M J)) rfl k
    by_cases h13 : s = (Int32.ofInt 12)
    · rw [if_pos (show s = (Int32.ofInt 12) from h13)] at k
      have k := ly_revb 2 (c' := (31, [(0, .int (s))], [.int (Int32.ofInt 2)], me_w M J)) rfl k
      have k := lz_ri rfl (by decide) k
      have e2 : lb_sg s = 2 := by
        unfold lb_sg
        rw [if_neg h3, if_pos h13]
      rw [k, e2]
      rfl
    · rw [if_neg (show ¬ (s = (Int32.ofInt 12)) from h13)] at k
      have k := ly_revb 3 (c' := (if s = (Int32.ofInt 11) then 26 else 30, [(0, .int (s))], [], me_w M J)) rfl k
      by_cases h23 : s = (Int32.ofInt 11)
      · rw [if_pos (show s = (Int32.ofInt 11) from h23)] at k
        have k := ly_revb 2 (c' := (31, [(0, .int (s))], [.int (Int32.ofInt 3)], me_w M J)) rfl k
        have k := lz_ri rfl (by decide) k
        have e2 : lb_sg s = 3 := by
          unfold lb_sg
          rw [if_neg h3, if_neg h13, if_pos h23]
        rw [k, e2]
        rfl
      · rw [if_neg (show ¬ (s = (Int32.ofInt 11)) from h23)] at k
        have k := ly_revb 1 (c' := (31, [(0, .int (s))], [.int (Int32.ofInt 0)], me_w M J)) rfl k
        have k := lz_ri rfl (by decide) k
        have e2 : lb_sg s = 0 := by
          unfold lb_sg
          rw [if_neg h3, if_neg h13, if_neg h23]
        rw [k, e2]
        rfl
theorem lb_sg_le {s : Int32} : lb_sg s ≤ 3 := by
  unfold lb_sg
  by_cases h1 : s = Int32.ofInt 13
  · rw [if_pos h1]; decide
  rw [if_neg h1]
  by_cases h2 : s = Int32.ofInt 12
  · rw [if_pos h2]; decide
  rw [if_neg h2]
  by_cases h3 : s = Int32.ofInt 11
  · rw [if_pos h3]; decide
  rw [if_neg h3]
  decide
end
section
/-! tests, the other side -/
theorem lb_st_ne {l : Nat} (hl : 1 ≤ l) : ∀ (S : List Int32) (d : Int32) (e : lb_E), Int32.ofInt 91 ∈ S → ∃ y S', (lb_st l S d e).2.1 = y :: S' := by
  intro S
  induction S with
  | nil => intro d e h; cases h
  | cons s S ih =>
    intro d e h
    by_cases c : l ≤ lb_sg s
    · have es : lb_st l (s :: S) d e = lb_st l S (if s = Int32.ofInt 11 then d - Int32.ofInt 1 else d) (lb_em e (lb_tw s) s) := if_pos c
      rw [es]
      refine ih _ _ ((List.mem_cons.mp h).resolve_left (fun e => ?_))
      rw [← e, show lb_sg (Int32.ofInt 91) = 0 from by decide] at c
      omega
    · rw [lb_st_no (by omega)]
      exact ⟨s, S, rfl⟩
end
section
/-! clauses and rules, the other side -/
def lb_i2 (f : Nat → Int32) (t : Nat) (z : lb_Z) (r : lb_Y) : Prop := (lb_at f t (lb_W (nt_sp + 1 + 14)) z.1 ∧ ∃ k r2, lb_ma f t k 0 (Int32.ofInt 0) [] (lb_s f t (z.1 + (lb_W (nt_sp + 1 + 14)).length), z.2.1, z.2.2) r2 ∧ lb_th r2 r (fun z2 => r = .inr (z2.1, z2.2.1, (lb_e z2.2.2.1 (Int32.ofInt 23), z2.2.2.2)))) ∨ (¬ lb_at f t (lb_W (nt_sp + 1 + 14)) z.1 ∧ r = .inr (z.1, z.2.1, (lb_e z.2.2.1 (Int32.ofInt 22), z.2.2.2)))
def lb_tk (f : Nat → Int32) (t : Nat) (z : lb_Z) (r : lb_Y) : Prop := ∃ r1, lb_sum f t (lb_s f t (z.1 + (lb_W (nt_sp + 1 + 5)).length), z.2.1, z.2.2) r1 ∧ lb_th r1 r (fun z1 => lb_i2 f t z1 r)
def lb_c1 (f : Nat → Int32) (t i : Nat) (z : lb_Z) (r : lb_Y) : Prop :=
  (¬ lb_at f t (lb_W (nt_sp + 1 + 5)) z.1 ∧ r = .inl (lb_c z.1 (Int32.ofInt 0))) ∨
  (lb_at f t (lb_W (nt_sp + 1 + 5)) z.1 ∧ i = 12 ∧ r = .inl (lb_c z.1 (Int32.ofInt 4))) ∨
  (lb_at f t (lb_W (nt_sp + 1 + 5)) z.1 ∧ i < 12 ∧ lb_tk f t z r)
def lb_c2 (f : Nat → Int32) (t : Nat) : Nat → Nat → lb_Z → lb_Y → Prop
  | 0, _, _, _ => False
  | k + 1, i, z, r => (lb_g f t z.1 = Int32.ofInt 59 ∧ ∃ r1, lb_c1 f t i (lb_s f t (z.1 + 1), z.2.1, z.2.2) r1 ∧ lb_th r1 r (fun z1 => lb_c2 f t k (i + 1) z1 r)) ∨ (lb_g f t z.1 = Int32.ofInt (-1) ∧ r = .inr z) ∨ (¬ lb_g f t z.1 = Int32.ofInt 59 ∧ ¬ lb_g f t z.1 = Int32.ofInt (-1) ∧ r = .inl (lb_c z.1 (Int32.ofInt 0)))
theorem lb_if_det {f : Nat → Int32} {t : Nat} {z : lb_Z} {r r' : lb_Y} (h : lb_if f t z r) (h' : lb_i2 f t z r') : r = r' := by
  rcases h with ⟨a, k, r1, r2, h1, h2, h⟩ | ⟨a, h⟩ <;> rcases h' with ⟨a', k', r2', hm, h'⟩ | ⟨a', h'⟩
  · have e := lb_test_ma h1 h2 hm
    subst e
    rcases h with ⟨c, e1, e2⟩ | ⟨z1, e1, h⟩ <;> rcases h' with ⟨c', e1', e2'⟩ | ⟨z1', e1', h'⟩ <;> rw [e1] at e1' <;> cases e1'
    · rw [e2, e2']
    · rw [h, h']
  · exact absurd a a'
  · exact absurd a' a
  · rw [h, h']
theorem lb_cs_det {f : Nat → Int32} {t : Nat} : ∀ (k i : Nat) (z : lb_Z) (r r' r1 : lb_Y), lb_cs f t k i z r → lb_c1 f t i z r1 → lb_th r1 r' (fun z1 => ∃ k, lb_c2 f t k (i + 1) z1 r') → r = r' := by
  intro k
  induction k with
  | zero => intro i z r r' r1 h; exact h.elim
  | succ k ih =>
    intro i z r r' r1 h h1 h2
    rcases h with ⟨a, h⟩ | ⟨a, b, h⟩ | ⟨a, b, ra, hs, h⟩ <;> rcases h1 with ⟨a', h1⟩ | ⟨a', b', h1⟩ | ⟨a', b', ra', hs', h1⟩
    · subst h1
      rcases h2 with ⟨c, e1, e2⟩ | ⟨z1, e1, _⟩ <;> cases e1
      rw [h, e2]
    · exact absurd a' a
    · exact absurd a' a
    · exact absurd a a'
    · subst h1
      rcases h2 with ⟨c, e1, e2⟩ | ⟨z1, e1, _⟩ <;> cases e1
      rw [h, e2]
    · omega
    · exact absurd a a'
    · omega
    · have e := lb_sum_det hs hs'
      subst e
      rcases h with ⟨c, e1, e2⟩ | ⟨z1, e1, rb, hi, h⟩ <;> rcases h1 with ⟨c', e1', e2'⟩ | ⟨z1', e1', h1⟩ <;> rw [e1] at e1' <;> cases e1'
      · subst e2'
        rcases h2 with ⟨c2, e3, e4⟩ | ⟨z1, e3, _⟩ <;> cases e3
        rw [e2, e4]
      · have e := lb_if_det hi h1
        subst e
        rcases h with ⟨c, e2, e3⟩ | ⟨z2, e2, h⟩ <;> rcases h2 with ⟨c', e2', e3'⟩ | ⟨z2', e2', k2, h2⟩ <;> rw [e2] at e2' <;> cases e2'
        · rw [e3, e3']
        · cases k2 with
          | zero => exact h2.elim
          | succ k2 =>
            rcases h with ⟨g, h⟩ | ⟨g, h⟩ | ⟨g, g2, h⟩ <;> rcases h2 with ⟨g', rc, h3, h2⟩ | ⟨g', h2⟩ | ⟨g', g2', h2⟩
            · exact ih _ _ _ _ _ h h3 (lb_th_up (fun z1 q => ⟨k2, q⟩) h2)
            · rw [g] at g'; exact absurd g' (by decide)
            · exact absurd g g'
            · rw [g] at g'; exact absurd g' (by decide)
            · rw [h, h2]
            · exact absurd g g2'
            · exact absurd g' g
            · exact absurd g' g2
            · rw [h, h2]
def md_K (M : nt_M) (B Tb Sg Ln Cl Cs : Nat) : Prop := nt_R M B 5 = some Cl ∧ nt_R M B 6 = some Cs ∧ (Cl ≠ B ∧ Cl ≠ Tb ∧ Cl ≠ Sg ∧ Cl ≠ Ln) ∧ (Cs ≠ B ∧ Cs ≠ Tb ∧ Cs ≠ Sg ∧ Cs ≠ Ln) ∧ Cl ≠ nt_sp ∧ Cs ≠ nt_sp
theorem me_iastx {X : nt_X} {d mi pc a g t : Nat} {ls : nt_V} {st : List Value} {M : nt_M} {J : Nat → Nat → Int32} {o : Option Value × nt_M} {i x : Int32} (hat : nt_at mi pc = some (pc, .iastore, g, t)) (k : nt_rn X d mi (pc, ls, .int x :: .int i :: .ref a :: st, me_w M J) o) : nt_rn X d mi (pc + 1, ls, st, me_w M (nt_u J a i.toNatClampNeg x)) o := lz_iast hat k
end
