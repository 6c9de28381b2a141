/-! pure runs of the small machine: rules -/
def nt_pl : Instr → Bool
  | .ireturn => false
  | .lreturn => false
  | .areturn => false
  | .return_ => false
  | .invokevirtual _ => false
  | .invokestatic _ => false
  | .invokespecial _ => false
  | _ => true
theorem nt_ei_pl {rec : Nat → Nat → nt_C → Option (Option Value × nt_M)} {X : nt_X} {d mi : Nat} {e : Nat × Instr × Nat × Nat} {c c' : nt_C} (hp : nt_pl e.2.1 = true) (hs : nt_sx X mi e.2.2.1 e.2.2.2 e.2.1 c.1 c.2.1 c.2.2.1 c.2.2.2 = some c') : nt_ei rec X d mi e c = rec d mi c' := by
  unfold nt_ei
  split
  · rename_i q; rw [q] at hp; cases hp
  · rename_i q; rw [q] at hp; cases hp
  · rename_i q; rw [q] at hp; cases hp
  · rename_i q; rw [q] at hp; cases hp
  · rename_i q; rw [q] at hp; cases hp
  · rename_i q; rw [q] at hp; cases hp
  · rename_i q; rw [q] at hp; cases hp
  · rw [hs]
theorem nt_ei_up {rec rec' : Nat → Nat → nt_C → Option (Option Value × nt_M)} (hr : ∀ d mi c o, rec d mi c = some o → rec' d mi c = some o) {X : nt_X} {d mi : Nat} {e : Nat × Instr × Nat × Nat} {c : nt_C} {o : Option Value × nt_M} (h : nt_ei rec X d mi e c = some o) : nt_ei rec' X d mi e c = some o := by
  have hca : ∀ g q, nt_ca rec d mi g q c = some o → nt_ca rec' d mi g q c = some o := by
    intro g q h
    unfold nt_ca at h ⊢
    split at h
    · rename_i hg
      rw [if_pos hg]
      split at h
      · rename_i x' e1
        exact hr _ _ _ _ h
      · cases h
    · rename_i hg
      rw [if_neg hg]
      split at h
      · cases h
      · obtain ⟨hc, h⟩ := nt_if_some h
        rw [if_pos hc]
        split at h
        · rename_i o1 e1
          rw [hr _ _ _ _ e1]
          exact hr _ _ _ _ h
        · cases h
  unfold nt_ei at h ⊢
  split at h
  · exact h
  · exact h
  · exact h
  · exact h
  · exact hca _ _ h
  · exact hca _ _ h
  · exact hca _ _ h
  · split at h
    · exact hr _ _ _ _ h
    · cases h
theorem nt_ex_up1 (X : nt_X) : ∀ (f d mi : Nat) (c : nt_C) (o : Option Value × nt_M), nt_ex X f d mi c = some o → nt_ex X (f + 1) d mi c = some o
  | 0, _, _, _, _, h => by cases h
  | f + 1, d, mi, c, o, h => by
    unfold nt_ex at h ⊢
    split at h
    · cases h
    · rename_i e he
      exact nt_ei_up (fun d mi c o => nt_ex_up1 X f d mi c o) h
theorem nt_ex_up (X : nt_X) {f d mi : Nat} {c : nt_C} {o : Option Value × nt_M} (h : nt_ex X f d mi c = some o) : ∀ k, nt_ex X (f + k) d mi c = some o
  | 0 => h
  | k + 1 => nt_ex_up1 X (f + k) d mi c o (nt_ex_up X h k)
/-- a run comes to an answer -/
def nt_rn (X : nt_X) (d mi : Nat) (c : nt_C) (o : Option Value × nt_M) : Prop := ∃ f, nt_ex X f d mi c = some o
/-- a method comes to an answer -/
def nt_ev (X : nt_X) (d g : Nat) (vs : List Value) (M : nt_M) (o : Option Value × nt_M) : Prop := nt_rn X d g (0, lv_args 0 vs, [], M) o
theorem nt_rn_s {X : nt_X} {d mi : Nat} {c c' : nt_C} {o : Option Value × nt_M} {e : Nat × Instr × Nat × Nat} (hat : nt_at mi c.1 = some e) (hp : nt_pl e.2.1 = true) (hs : nt_sx X mi e.2.2.1 e.2.2.2 e.2.1 c.1 c.2.1 c.2.2.1 c.2.2.2 = some c') (k : nt_rn X d mi c' o) : nt_rn X d mi c o := by
  obtain ⟨f, hf⟩ := k
  refine ⟨f + 1, ?_⟩
  unfold nt_ex
  rw [hat]
  show nt_ei (nt_ex X f) X d mi e c = some o
  rw [nt_ei_pl hp hs]
  exact hf
/-- n plain steps -/
def nt_bk (X : nt_X) (mi : Nat) : Nat → nt_C → Option nt_C
  | 0, c => some c
  | n + 1, c => match nt_at mi c.1 with
    | some e => bif nt_pl e.2.1 then (match nt_sx X mi e.2.2.1 e.2.2.2 e.2.1 c.1 c.2.1 c.2.2.1 c.2.2.2 with
      | some c' => nt_bk X mi n c'
      | none => none) else none
    | none => none
theorem nt_rn_b {X : nt_X} {d mi : Nat} {o : Option Value × nt_M} : ∀ (n : Nat) {c c' : nt_C}, nt_bk X mi n c = some c' → nt_rn X d mi c' o → nt_rn X d mi c o
  | 0, c, c', h, k => by cases h; exact k
  | n + 1, c, c', h, k => by
    unfold nt_bk at h
    split at h
    · rename_i e he
      cases hp : nt_pl e.2.1 with
      | false => rw [hp] at h; cases h
      | true =>
        rw [hp] at h
        have h : (match nt_sx X mi e.2.2.1 e.2.2.2 e.2.1 c.1 c.2.1 c.2.2.1 c.2.2.2 with
          | some c' => nt_bk X mi n c'
          | none => none) = some c' := h
        split at h
        · rename_i c1 hs
          exact nt_rn_s he hp hs (nt_rn_b n h k)
        · cases h
    · cases h
theorem nt_rn_if {X : nt_X} {d mi : Nat} {p : Prop} [Decidable p] {a b : Nat} {r : nt_V × List Value × nt_M} {o : Option Value × nt_M} (ha : p → nt_rn X d mi (a, r) o) (hb : ¬ p → nt_rn X d mi (b, r) o) : nt_rn X d mi (if p then a else b, r) o := by
  by_cases h : p
  · rw [if_pos h]; exact ha h
  · rw [if_neg h]; exact hb h
theorem nt_rn_r {X : nt_X} {d mi : Nat} {c : nt_C} {o : Option Value × nt_M} {e : Nat × Instr × Nat × Nat} (hat : nt_at mi c.1 = some e) (hp : e.2.1 = .ireturn ∨ e.2.1 = .lreturn ∨ e.2.1 = .areturn ∨ e.2.1 = .return_) (hr : nt_re mi e.2.1 c.2.2.1 c.2.2.2 = some o) : nt_rn X d mi c o := by
  refine ⟨1, ?_⟩
  unfold nt_ex
  rw [hat]
  show nt_ei (nt_ex X 0) X d mi e c = some o
  unfold nt_ei
  rcases hp with h | h | h | h <;> rw [h] at hr ⊢ <;> exact hr
/-- a call's arguments off the stack, as far as they don't hang on the memory -/
def nt_cq (g q : Nat) (st : List Value) : Option (List Value × List Value) :=
  if g < 239 ∧ (nt_m g).2.2.2.2.2.2.1 = q ∧ (nt_m g).2.2.2.2.2.1 + (if q = 0 then 0 else 1) ≤ st.length ∧ (lg_sl (st.take ((nt_m g).2.2.2.2.2.1 + (if q = 0 then 0 else 1))).reverse).length ≤ (nt_m g).2.2.1 ∧ nt_ct (st.drop ((nt_m g).2.2.2.2.2.1 + (if q = 0 then 0 else 1))) ≤ 8 then some ((st.take ((nt_m g).2.2.2.2.2.1 + (if q = 0 then 0 else 1))).reverse, st.drop ((nt_m g).2.2.2.2.2.1 + (if q = 0 then 0 else 1))) else none
theorem nt_rn_c {X : nt_X} {d mi g q : Nat} {c : nt_C} {o o1 : Option Value × nt_M} {vs rest : List Value} {e : Nat × Instr × Nat × Nat} (hat : nt_at mi c.1 = some e) (hg : e.2.2.1 = g) (hq : (∃ i, e.2.1 = .invokestatic i ∧ q = 0) ∨ (∃ i, e.2.1 = .invokevirtual i ∧ q = 1) ∨ (∃ i, e.2.1 = .invokespecial i ∧ q = 2)) (hc : nt_cq g q c.2.2.1 = some (vs, rest)) (h1 : q = 1 → nt_rc c.2.2.2 (nt_m g).2.2.2.2.1 vs = true) (h2 : q = 2 → nt_rf vs = true) (hv : nt_ev X d g vs c.2.2.2 o1) (k : nt_rn X (d + 1) mi (c.1 + 3, c.2.1, o1.1.toList ++ rest, o1.2) o) : nt_rn X (d + 1) mi c o := by
  obtain ⟨f1, hf1⟩ := hv
  obtain ⟨f2, hf2⟩ := k
  have hf1 := nt_ex_up X hf1 f2
  have hf2 := nt_ex_up X hf2 f1
  rw [Nat.add_comm f2 f1] at hf2
  refine ⟨f1 + f2 + 1, ?_⟩
  unfold nt_cq at hc
  obtain ⟨hcc, hc⟩ := nt_if_some hc
  cases hc
  unfold nt_ex
  rw [hat]
  show nt_ei (nt_ex X (f1 + f2)) X (d + 1) mi e c = some o
  have key : nt_ca (nt_ex X (f1 + f2)) (d + 1) mi g q c = some o := by
    unfold nt_ca
    rw [if_neg (by omega)]
    dsimp only
    rw [if_pos ⟨hcc.1, hcc.2.1, hcc.2.2.1, hcc.2.2.2.1, hcc.2.2.2.2, h1, h2⟩, hf1]
    exact hf2
  unfold nt_ei
  rcases hq with ⟨i, hi, rfl⟩ | ⟨i, hi, rfl⟩ | ⟨i, hi, rfl⟩ <;> rw [hi, hg] <;> exact key
theorem nt_rn_n {X : nt_X} {d mi g q : Nat} {c c' : nt_C} {o : Option Value × nt_M} {e : Nat × Instr × Nat × Nat} (hat : nt_at mi c.1 = some e) (hg : e.2.2.1 = g) (hg2 : 1000 ≤ g) (hq : (∃ i, e.2.1 = .invokestatic i ∧ q = 0) ∨ (∃ i, e.2.1 = .invokevirtual i ∧ q = 1) ∨ (∃ i, e.2.1 = .invokespecial i ∧ q = 2)) (hn : nt_nx d g q c.1 c.2.1 c.2.2.1 c.2.2.2 = some c') (k : nt_rn X d mi c' o) : nt_rn X d mi c o := by
  obtain ⟨f, hf⟩ := k
  refine ⟨f + 1, ?_⟩
  unfold nt_ex
  rw [hat]
  show nt_ei (nt_ex X f) X d mi e c = some o
  have key : nt_ca (nt_ex X f) d mi g q c = some o := by
    unfold nt_ca
    rw [if_pos hg2, hn]
    exact hf
  unfold nt_ei
  rcases hq with ⟨i, hi, rfl⟩ | ⟨i, hi, rfl⟩ | ⟨i, hi, rfl⟩ <;> rw [hi, hg] <;> exact key
/-- loops: from each state of a row to the last one -/
theorem nt_loop {X : nt_X} {d mi : Nat} {o : Option Value × nt_M} (C : Nat → nt_C) (N : Nat) (hend : nt_rn X d mi (C N) o) (hstep : ∀ i, i < N → nt_rn X d mi (C (i + 1)) o → nt_rn X d mi (C i) o) : ∀ k i, i + k = N → nt_rn X d mi (C i) o
  | 0, i, h => by
    have e : i = N := by omega
    rw [e]; exact hend
  | k + 1, i, h => hstep i (by omega) (nt_loop C N hend hstep k (i + 1) (by omega))
