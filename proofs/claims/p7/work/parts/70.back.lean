/-! runs read backwards: a run that comes to an answer says what its steps were -/
theorem lz_s {X : nt_X} {d mi : Nat} {c : nt_C} {o : Option Value × nt_M} {e : Nat × Instr × Nat × Nat} (hat : nt_at mi c.1 = some e) (hp : nt_pl e.2.1 = true) (k : nt_rn X d mi c o) : ∃ c', nt_sx X mi e.2.2.1 e.2.2.2 e.2.1 c.1 c.2.1 c.2.2.1 c.2.2.2 = some c' ∧ nt_rn X d mi c' o := by
  obtain ⟨f, hf⟩ := k
  cases f with
  | zero => cases hf
  | succ f =>
    unfold nt_ex at hf
    rw [hat] at hf
    have hf : nt_ei (nt_ex X f) X d mi e c = some o := hf
    cases hs : nt_sx X mi e.2.2.1 e.2.2.2 e.2.1 c.1 c.2.1 c.2.2.1 c.2.2.2 with
    | none =>
      exfalso
      unfold nt_ei at hf
      split at hf
      · rename_i q; rw [q] at hp; cases hp
      · rename_i q; rw [q] at hp; cases hp
      · rename_i q; rw [q] at hp; cases hp
      · rename_i q; rw [q] at hp; cases hp
      · rename_i q; rw [q] at hp; cases hp
      · rename_i q; rw [q] at hp; cases hp
      · rename_i q; rw [q] at hp; cases hp
      · rw [hs] at hf
        cases hf
    | some c' =>
      rw [nt_ei_pl hp hs] at hf
      exact ⟨c', rfl, f, hf⟩
theorem lz_get {X : nt_X} {d mi pc a g t i : Nat} {ls : nt_V} {st : List Value} {M : nt_M} {o : Option Value × nt_M} {v : Value} (hat : nt_at mi pc = some (pc, .getfield i, g, t)) (hv : nt_gf M a (g / 100) (g % 100) = v) (k : nt_rn X d mi (pc, ls, .ref a :: st, M) o) : nt_rn X d mi (pc + 3, ls, v :: st, M) o := by
  obtain ⟨c', hs, k⟩ := lz_s hat rfl k
  have hs : (if a < nt_n M ∧ nt_k M a = g / 100 ∧ g / 100 < 12 ∧ g % 100 < nt_N (g / 100) then some (pc + 3, ls, nt_gf M a (g / 100) (g % 100) :: st, M) else none) = some c' := hs
  obtain ⟨_, e⟩ := nt_if_some hs
  rw [hv] at e
  cases e
  exact k
theorem lz_put {X : nt_X} {d mi pc a g t i : Nat} {ls : nt_V} {st : List Value} {M : nt_M} {o : Option Value × nt_M} {x : Int32} (hat : nt_at mi pc = some (pc, .putfield i, g, t)) (ht : nt_tg (g / 100) (g % 100) = 0 ∨ nt_tg (g / 100) (g % 100) = 3) (k : nt_rn X d mi (pc, ls, .int x :: .ref a :: st, M) o) : nt_rn X d mi (pc + 3, ls, st, nt_sI M a (g % 100) x) o := by
  obtain ⟨c', hs, k⟩ := lz_s hat rfl k
  have hs : (if a < nt_n M ∧ nt_k M a = g / 100 ∧ g / 100 < 12 ∧ g % 100 < nt_N (g / 100) ∧ ((nt_T (g / 100) (g % 100)).2.2.2 = false ∨ (nt_m mi).2.2.2.2.2.2.1 = 2 ∧ (nt_m mi).2.2.2.2.1 = g / 100) then nt_pf M a (g / 100) (g % 100) (.int x) (fun M' => some (pc + 3, ls, st, M')) else none) = some c' := hs
  obtain ⟨_, e⟩ := nt_if_some hs
  unfold nt_pf at e
  rcases ht with ht | ht
  · rw [ht] at e
    have e : some (pc + 3, ls, st, nt_sI M a (g % 100) x) = some c' := e
    cases e
    exact k
  · rw [ht] at e
    have e : (if x = 0 ∨ x = 1 then some (pc + 3, ls, st, nt_sI M a (g % 100) x) else none) = some c' := e
    obtain ⟨_, e⟩ := nt_if_some e
    cases e
    exact k
theorem lz_in {α : Type} {M : nt_M} {a kd : Nat} {i : Int32} {x y : Option α} {z : α} (h : nt_in M a kd i x = some z) : x = some z := by
  unfold nt_in at h
  exact (nt_if_some h).2
theorem lz_iald {X : nt_X} {d mi pc a g t : Nat} {ls : nt_V} {st : List Value} {M : nt_M} {o : Option Value × nt_M} {i : Int32} (hat : nt_at mi pc = some (pc, .iaload, g, t)) (ha : a ≠ nt_sp) (k : nt_rn X d mi (pc, ls, .int i :: .ref a :: st, M) o) : nt_rn X d mi (pc + 1, ls, .int (nt_I M a i.toNatClampNeg) :: st, M) o := by
  obtain ⟨c', hs, k⟩ := lz_s hat rfl k
  have hs : (if a = nt_sp then (if i < 0 ∨ X.1 ≤ i.toNatClampNeg then none else some (pc + 1, ls, Value.int (X.2 i.toNatClampNeg) :: st, M)) else nt_in M a 13 i (some (pc + 1, ls, Value.int (nt_I M a i.toNatClampNeg) :: st, M))) = some c' := hs
  rw [if_neg ha] at hs
  have e := lz_in (y := none) hs
  cases e
  exact k
theorem lz_bald {X : nt_X} {d mi pc a g t : Nat} {ls : nt_V} {st : List Value} {M : nt_M} {o : Option Value × nt_M} {i : Int32} (hat : nt_at mi pc = some (pc, .baload, g, t)) (k : nt_rn X d mi (pc, ls, .int i :: .ref a :: st, M) o) : nt_rn X d mi (pc + 1, ls, .int (nt_I M a i.toNatClampNeg) :: st, M) o := by
  obtain ⟨c', hs, k⟩ := lz_s hat rfl k
  have hs : (if nt_k M a = 15 then nt_in M a 15 i (some (pc + 1, ls, Value.int (nt_I M a i.toNatClampNeg) :: st, M)) else nt_in M a 12 i (some (pc + 1, ls, Value.int (nt_I M a i.toNatClampNeg) :: st, M))) = some c' := hs
  by_cases c : nt_k M a = 15
  · rw [if_pos c] at hs
    have e := lz_in (y := none) hs
    cases e
    exact k
  · rw [if_neg c] at hs
    have e := lz_in (y := none) hs
    cases e
    exact k
theorem lz_iast {X : nt_X} {d mi pc a g t : Nat} {ls : nt_V} {st : List Value} {M : nt_M} {o : Option Value × nt_M} {i x : Int32} (hat : nt_at mi pc = some (pc, .iastore, g, t)) (k : nt_rn X d mi (pc, ls, .int x :: .int i :: .ref a :: st, M) o) : nt_rn X d mi (pc + 1, ls, st, nt_sI M a i.toNatClampNeg x) o := by
  obtain ⟨c', hs, k⟩ := lz_s hat rfl k
  have hs : nt_in M a 13 i (some (pc + 1, ls, st, nt_sI M a i.toNatClampNeg x)) = some c' := hs
  have e := lz_in (y := none) hs
  cases e
  exact k
theorem lz_len {X : nt_X} {d mi pc a g t : Nat} {ls : nt_V} {st : List Value} {M : nt_M} {o : Option Value × nt_M} (hat : nt_at mi pc = some (pc, .arraylength, g, t)) (ha : a ≠ nt_sp) (k : nt_rn X d mi (pc, ls, .ref a :: st, M) o) : nt_rn X d mi (pc + 1, ls, .int (Int32.ofNat (nt_l M a)) :: st, M) o := by
  obtain ⟨c', hs, k⟩ := lz_s hat rfl k
  have hs : (if a = nt_sp then some (pc + 1, ls, Value.int (Int32.ofNat X.1) :: st, M) else if a < nt_n M ∧ 12 ≤ nt_k M a ∧ nt_k M a < 18 then some (pc + 1, ls, Value.int (Int32.ofNat (nt_l M a)) :: st, M) else none) = some c' := hs
  rw [if_neg ha] at hs
  obtain ⟨_, e⟩ := nt_if_some hs
  cases e
  exact k
/-- a call -/
theorem lz_c {X : nt_X} {d mi g q : Nat} {c : nt_C} {o : Option Value × nt_M} {vs rest : List Value} {e : Nat × Instr × Nat × Nat} (hat : nt_at mi c.1 = some e) (hg : e.2.2.1 = g) (hg2 : g < 1000) (hq : (∃ i, e.2.1 = .invokestatic i ∧ q = 0) ∨ (∃ i, e.2.1 = .invokevirtual i ∧ q = 1) ∨ (∃ i, e.2.1 = .invokespecial i ∧ q = 2)) (hc : nt_cq g q c.2.2.1 = some (vs, rest)) (k : nt_rn X d mi c o) : ∃ d' o1, d = d' + 1 ∧ nt_ev X d' g vs c.2.2.2 o1 ∧ nt_rn X d mi (c.1 + 3, c.2.1, o1.1.toList ++ rest, o1.2) o := by
  obtain ⟨f, hf⟩ := k
  unfold nt_cq at hc
  obtain ⟨hcc, hc⟩ := nt_if_some hc
  cases hc
  cases f with
  | zero => cases hf
  | succ f =>
    unfold nt_ex at hf
    rw [hat] at hf
    have hf : nt_ei (nt_ex X f) X d mi e c = some o := hf
    have key : nt_ca (nt_ex X f) d mi g q c = some o := by
      unfold nt_ei at hf
      rcases hq with ⟨i, hi, rfl⟩ | ⟨i, hi, rfl⟩ | ⟨i, hi, rfl⟩ <;> rw [hi, hg] at hf <;> exact hf
    unfold nt_ca at key
    rw [if_neg (by omega)] at key
    cases d with
    | zero => cases key
    | succ d' =>
      dsimp only at key
      obtain ⟨_, key⟩ := nt_if_some key
      split at key
      · rename_i o1 h1
        exact ⟨d', o1, rfl, ⟨f, h1⟩, ⟨f, key⟩⟩
      · cases key
/-- a native call -/
theorem lz_n {X : nt_X} {d mi g q : Nat} {c : nt_C} {o : Option Value × nt_M} {e : Nat × Instr × Nat × Nat} (hat : nt_at mi c.1 = some e) (hg : e.2.2.1 = g) (hg2 : 1000 ≤ g) (hq : (∃ i, e.2.1 = .invokestatic i ∧ q = 0) ∨ (∃ i, e.2.1 = .invokevirtual i ∧ q = 1) ∨ (∃ i, e.2.1 = .invokespecial i ∧ q = 2)) (k : nt_rn X d mi c o) : ∃ c', nt_nx d g q c.1 c.2.1 c.2.2.1 c.2.2.2 = some c' ∧ nt_rn X d mi c' o := by
  obtain ⟨f, hf⟩ := k
  cases f with
  | zero => cases hf
  | succ f =>
    unfold nt_ex at hf
    rw [hat] at hf
    have hf : nt_ei (nt_ex X f) X d mi e c = some o := hf
    have key : nt_ca (nt_ex X f) d mi g q c = some o := by
      unfold nt_ei at hf
      rcases hq with ⟨i, hi, rfl⟩ | ⟨i, hi, rfl⟩ | ⟨i, hi, rfl⟩ <;> rw [hi, hg] at hf <;> exact hf
    unfold nt_ca at key
    rw [if_pos hg2] at key
    split at key
    · rename_i c' h
      exact ⟨c', h, f, key⟩
    · cases key
/-- an answer -/
theorem lz_ret {X : nt_X} {d mi : Nat} {c : nt_C} {o : Option Value × nt_M} {e : Nat × Instr × Nat × Nat} (hat : nt_at mi c.1 = some e) (hp : e.2.1 = .ireturn ∨ e.2.1 = .lreturn ∨ e.2.1 = .areturn ∨ e.2.1 = .return_) (k : nt_rn X d mi c o) : nt_re mi e.2.1 c.2.2.1 c.2.2.2 = some o := by
  obtain ⟨f, hf⟩ := k
  cases f with
  | zero => cases hf
  | succ f =>
    unfold nt_ex at hf
    rw [hat] at hf
    have hf : nt_ei (nt_ex X f) X d mi e c = some o := hf
    unfold nt_ei at hf
    rcases hp with h | h | h | h <;> rw [h] at hf ⊢ <;> exact hf
theorem lz_ri {X : nt_X} {d mi pc g t : Nat} {ls : nt_V} {x : Int32} {M : nt_M} {o : Option Value × nt_M} (hat : nt_at mi pc = some (pc, .ireturn, g, t)) (hm : (nt_m mi).2.2.2.1 = some .int ∨ (nt_m mi).2.2.2.1 = some .boolean) (k : nt_rn X d mi (pc, ls, [.int x], M) o) : o = (some (.int x), M) := by
  have h := lz_ret hat (Or.inl rfl) k
  unfold nt_re at h
  rcases hm with hm | hm
  · rw [hm] at h
    have h : some (some (Value.int x), M) = some o := h
    cases h
    rfl
  · rw [hm] at h
    have h : (if x = 0 ∨ x = 1 then some (some (Value.int x), M) else none) = some o := h
    obtain ⟨_, h⟩ := nt_if_some h
    cases h
    rfl
theorem lz_rv {X : nt_X} {d mi pc g t : Nat} {ls : nt_V} {M : nt_M} {o : Option Value × nt_M} (hat : nt_at mi pc = some (pc, .return_, g, t)) (hm : (nt_m mi).2.2.2.1 = none) (k : nt_rn X d mi (pc, ls, [], M) o) : o = (none, M) := by
  have h := lz_ret hat (Or.inr (Or.inr (Or.inr rfl))) k
  unfold nt_re at h
  rw [hm] at h
  have h : some (none, M) = some o := h
  cases h
  rfl
/-- fewer locals, in another order -/
theorem lz_w {X : nt_X} {d mi pc : Nat} {a b : nt_V} {st : List Value} {M : nt_M} {o : Option Value × nt_M} (hex : ∃ o', nt_rn X d mi (pc, a, st, M) o') (hs : nt_sb a b) (hn : nt_nk a = true) (k : nt_rn X d mi (pc, b, st, M) o) : nt_rn X d mi (pc, a, st, M) o := by
  obtain ⟨o', k'⟩ := hex
  have k2 := nt_rn_w hs hn k'
  obtain ⟨f1, h1⟩ := k
  obtain ⟨f2, h2⟩ := k2
  have h1 := nt_ex_up X h1 f2
  have h2 := nt_ex_up X h2 f1
  rw [Nat.add_comm f2 f1, h1] at h2
  cases h2
  exact k'
/-- two runs come to the same -/
theorem lz_det {X : nt_X} {d mi : Nat} {c : nt_C} {o o' : Option Value × nt_M} (k : nt_rn X d mi c o) (k' : nt_rn X d mi c o') : o = o' := by
  obtain ⟨f1, h1⟩ := k
  obtain ⟨f2, h2⟩ := k'
  have h1 := nt_ex_up X h1 f2
  have h2 := nt_ex_up X h2 f1
  rw [Nat.add_comm f2 f1, h1] at h2
  cases h2
  rfl
/-! memories that differ in ints alone -/
def me_w (M : nt_M) (J : Nat → Nat → Int32) : nt_M := (M.1, M.2.1, M.2.2.1, J, M.2.2.2.2)
theorem me_self (M : nt_M) : me_w M (nt_I M) = M := rfl
theorem me_us {J : Nat → Nat → Int32} {a k : Nat} {v : Int32} : nt_u J a k v a k = v := by
  show (if a = a then (if k = k then v else J a k) else J a k) = v
  rw [if_pos rfl, if_pos rfl]
theorem me_uk {J : Nat → Nat → Int32} {a k j : Nat} {v : Int32} (h : j ≠ k) : nt_u J a k v a j = J a j := by
  show (if a = a then (if j = k then v else J a j) else J a j) = _
  rw [if_pos rfl, if_neg h]
theorem me_uo {J : Nat → Nat → Int32} {a b k : Nat} {v : Int32} (h : b ≠ a) : nt_u J a k v b = J b := by
  funext j
  show (if b = a then (if j = k then v else J b j) else J b j) = _
  rw [if_neg h]
theorem me_uj {J : Nat → Nat → Int32} {a b k j : Nat} {v : Int32} (h : b ≠ a) : nt_u J a k v b j = J b j := by rw [me_uo h]
theorem me_uu {J : Nat → Nat → Int32} {a k : Nat} {u v : Int32} : nt_u (nt_u J a k u) a k v = nt_u J a k v := by
  funext b j
  show (if b = a then (if j = k then v else nt_u J a k u b j) else nt_u J a k u b j) = (if b = a then (if j = k then v else J b j) else J b j)
  by_cases h1 : b = a
  · rw [if_pos h1, if_pos h1]
    by_cases h2 : j = k
    · rw [if_pos h2, if_pos h2]
    · rw [if_neg h2, if_neg h2, h1, me_uk h2]
  · rw [if_neg h1, if_neg h1, me_uo h1]
theorem me_ui {J : Nat → Nat → Int32} {a k : Nat} {v : Int32} (h : J a k = v) : nt_u J a k v = J := by
  funext b j
  show (if b = a then (if j = k then v else J b j) else J b j) = _
  by_cases h1 : b = a
  · rw [if_pos h1]
    by_cases h2 : j = k
    · rw [if_pos h2, h1, h2, h]
    · rw [if_neg h2]
  · rw [if_neg h1]
theorem me_put {X : nt_X} {d mi pc a g t i : Nat} {ls : nt_V} {st : List Value} {M : nt_M} {J : Nat → Nat → Int32} {o : Option Value × nt_M} {x : Int32} (hat : nt_at mi pc = some (pc, .putfield i, g, t)) (ht : nt_tg (g / 100) (g % 100) = 0 ∨ nt_tg (g / 100) (g % 100) = 3) (k : nt_rn X d mi (pc, ls, .int x :: .ref a :: st, me_w M J) o) : nt_rn X d mi (pc + 3, ls, st, me_w M (nt_u J a (g % 100) x)) o := lz_put hat ht k
theorem me_bald {X : nt_X} {d mi pc a g t q : Nat} {ls : nt_V} {st : List Value} {M : nt_M} {J : Nat → Nat → Int32} {o : Option Value × nt_M} {i v : Int32} (hat : nt_at mi pc = some (pc, .baload, g, t)) (hi : i = nI q) (hq : q < 2 ^ 31) (hv : J a q = v) (k : nt_rn X d mi (pc, ls, .int i :: .ref a :: st, me_w M J) o) : nt_rn X d mi (pc + 1, ls, .int v :: st, me_w M J) o := by
  have k := lz_bald hat k
  have k : nt_rn X d mi (pc + 1, ls, .int (J a i.toNatClampNeg) :: st, me_w M J) o := k
  rw [hi, nI_clamp hq, hv] at k
  exact k
theorem me_iald {X : nt_X} {d mi pc a g t q : Nat} {ls : nt_V} {st : List Value} {M : nt_M} {J : Nat → Nat → Int32} {o : Option Value × nt_M} {i v : Int32} (hat : nt_at mi pc = some (pc, .iaload, g, t)) (ha : a ≠ nt_sp) (hi : i = nI q) (hq : q < 2 ^ 31) (hv : J a q = v) (k : nt_rn X d mi (pc, ls, .int i :: .ref a :: st, me_w M J) o) : nt_rn X d mi (pc + 1, ls, .int v :: st, me_w M J) o := by
  have k := lz_iald hat ha k
  have k : nt_rn X d mi (pc + 1, ls, .int (J a i.toNatClampNeg) :: st, me_w M J) o := k
  rw [hi, nI_clamp hq, hv] at k
  exact k
theorem me_iast {X : nt_X} {d mi pc a g t q : Nat} {ls : nt_V} {st : List Value} {M : nt_M} {J : Nat → Nat → Int32} {o : Option Value × nt_M} {i x : Int32} (hat : nt_at mi pc = some (pc, .iastore, g, t)) (hi : i = nI q) (hq : q < 2 ^ 31) (k : nt_rn X d mi (pc, ls, .int x :: .int i :: .ref a :: st, me_w M J) o) : nt_rn X d mi (pc + 1, ls, st, me_w M (nt_u J a q x)) o := by
  have k := lz_iast hat k
  rw [hi, nI_clamp hq] at k
  exact k
