/-! a step keeps the references good -/
theorem nt_vv_i (n : Nat) (x : Int32) : nt_vv n (.int x) := fun b h => by cases h
theorem nt_vv_j (n : Nat) (x : Int64) : nt_vv n (.long x) := fun b h => by cases h
theorem nt_vv_0 (n : Nat) : nt_vv n .null := fun b h => by cases h
theorem nt_vv_r {n b : Nat} (h : nt_vl n b) : nt_vv n (.ref b) := fun b' e => by cases e; exact h
theorem nt_vv_up {n n' : Nat} {v : Value} (hn : n ≤ n') (h : nt_vv n v) : nt_vv n' v := fun b e => by
  rcases h b e with q | q
  · exact Or.inl (by omega)
  · exact Or.inr q
theorem nt_vs_c {n : Nat} {v : Value} {r : List Value} (h : nt_vv n v) (hr : ∀ v ∈ r, nt_vv n v) : ∀ w ∈ v :: r, nt_vv n w := fun w hw => by
  rcases List.mem_cons.mp hw with e | e
  · rw [e]; exact h
  · exact hr w e
theorem nt_vs_t {n : Nat} {v : Value} {r : List Value} (h : ∀ w ∈ v :: r, nt_vv n w) : ∀ w ∈ r, nt_vv n w := fun w hw => h w (List.mem_cons_of_mem _ hw)
theorem nt_vs_h {n : Nat} {v : Value} {r : List Value} (h : ∀ w ∈ v :: r, nt_vv n w) : nt_vv n v := h v List.mem_cons_self
theorem nt_vl_s1 {n : Nat} {ls : nt_V} {i : Nat} {v : Value} (h : nt_vv n v) (hl : ∀ q ∈ ls, nt_vv n q.2) : ∀ q ∈ nt_s1 ls i v, nt_vv n q.2 := fun q hq => by
  rcases List.mem_cons.mp hq with e | e
  · rw [e]; exact h
  · exact hl q (List.mem_filter.mp e).1
theorem nt_vl_s2 {n : Nat} {ls : nt_V} {i : Nat} {v : Value} (h : nt_vv n v) (hl : ∀ q ∈ ls, nt_vv n q.2) : ∀ q ∈ nt_s2 ls i v, nt_vv n q.2 := fun q hq => by
  rcases List.mem_cons.mp hq with e | e
  · rw [e]; exact h
  · exact hl q (List.mem_filter.mp e).1
theorem nt_vl_lk {n : Nat} {ls : nt_V} {i : Nat} {v : Value} (hl : ∀ q ∈ ls, nt_vv n q.2) (h : nt_lk ls i = some v) : nt_vv n v := by
  obtain ⟨k, hk⟩ := nt_lk_get h
  exact hl _ (List.mem_of_getElem? hk)
theorem nt_vv_rv {M : nt_M} {a j : Nat} (h : nt_vm M) : nt_vv (nt_n M) (nt_rv (nt_R M a j)) := by
  cases hr : nt_R M a j with
  | none => exact nt_vv_0 _
  | some b => exact nt_vv_r (h.1 a j b hr)
theorem nt_vv_gf {M : nt_M} {a c j : Nat} (h : nt_vm M) : nt_vv (nt_n M) (nt_gf M a c j) := by
  unfold nt_gf
  split
  · exact nt_vv_j _ _
  · exact nt_vv_rv h
  · exact nt_vv_i _ _
theorem nt_vm_sI {M : nt_M} {a k : Nat} {x : Int32} (h : nt_vm M) (hk : nt_k M a ≠ 15) : nt_vm (nt_sI M a k x) := ⟨h.1, fun b hb j => by
  have e : b ≠ a := fun q => hk (by rw [← q]; exact hb)
  rw [nt_sI_Ib M a k x e]
  exact h.2 b hb j⟩
theorem nt_vm_sZ {M : nt_M} {a k : Nat} {x : Int32} (h : nt_vm M) (hx : fits .boolean (.int x) = true) : nt_vm (nt_sI M a k x) := ⟨h.1, fun b hb j => by
  rw [nt_sI_I]
  split
  · split
    · exact hx
    · exact h.2 b hb j
  · exact h.2 b hb j⟩
theorem nt_vm_sJ {M : nt_M} {a k : Nat} {x : Int64} (h : nt_vm M) : nt_vm (nt_sJ M a k x) := h
theorem nt_vm_sR {M : nt_M} {a k b : Nat} (h : nt_vm M) (hb : nt_vl (nt_n M) b) : nt_vm (nt_sR M a k (some b)) := ⟨fun a' j b' e => by
  rw [nt_sR_R] at e
  split at e
  · split at e
    · cases e; exact hb
    · exact h.1 a' j b' e
  · exact h.1 a' j b' e, h.2⟩
theorem nt_vm_nw {M : nt_M} {kd len sl : Nat} (h : nt_vm M) : nt_vm (nt_nw M kd len sl) := ⟨fun a j b e => by
  by_cases ha : a = nt_n M
  · subst ha
    rw [nt_nw_R0] at e
    cases e
  · rw [nt_nw_R ha] at e
    rcases h.1 a j b e with q | q
    · exact Or.inl (Nat.lt_succ_of_lt q)
    · exact Or.inr q, fun a hk j => by
  by_cases ha : a = nt_n M
  · subst ha
    rw [nt_nw_I0]
    rfl
  · rw [nt_nw_k ha] at hk
    rw [nt_nw_I ha]
    exact h.2 a hk j⟩
theorem nt_narz (x : Int32) : fits .boolean (.int (vp_nar .boolean x)) = true := by
  have h : vp_nar .boolean x = x &&& 1 := rfl
  rw [h]
  obtain ⟨j, hj, e⟩ := pk_andE x (m := 1) 1 (by decide)
  rw [e]
  rcases (by omega : j = 0 ∨ j = 1) with rfl | rfl <;> rfl
/-- what is kept by a step -/
def nt_kp (M : nt_M) (x : nt_C) : Prop := nt_vd x ∧ nt_n M ≤ nt_n x.2.2.2 ∧ nt_z M ≤ nt_z x.2.2.2
theorem nt_v_aconst_null  {X : nt_X} {mi g t pc : Nat} {ls : nt_V} {st : List Value} {M : nt_M} {x' : nt_C} (hs : nt_sx X mi g t .aconst_null pc ls st M = some x') (hv : nt_vd (pc, ls, st, M)) : nt_kp M x' := by
  cases hs
  exact ⟨⟨hv.1, nt_vs_c (nt_vv_0 _) (hv.2.1), hv.2.2⟩, Nat.le_refl _, Nat.le_refl _⟩
theorem nt_v_iconst {n : Int} {X : nt_X} {mi g t pc : Nat} {ls : nt_V} {st : List Value} {M : nt_M} {x' : nt_C} (hs : nt_sx X mi g t (.iconst n) pc ls st M = some x') (hv : nt_vd (pc, ls, st, M)) : nt_kp M x' := by
  cases hs
  exact ⟨⟨hv.1, nt_vs_c (nt_vv_i _ _) (hv.2.1), hv.2.2⟩, Nat.le_refl _, Nat.le_refl _⟩
theorem nt_v_bipush {n : Int} {X : nt_X} {mi g t pc : Nat} {ls : nt_V} {st : List Value} {M : nt_M} {x' : nt_C} (hs : nt_sx X mi g t (.bipush n) pc ls st M = some x') (hv : nt_vd (pc, ls, st, M)) : nt_kp M x' := by
  cases hs
  exact ⟨⟨hv.1, nt_vs_c (nt_vv_i _ _) (hv.2.1), hv.2.2⟩, Nat.le_refl _, Nat.le_refl _⟩
theorem nt_v_sipush {n : Int} {X : nt_X} {mi g t pc : Nat} {ls : nt_V} {st : List Value} {M : nt_M} {x' : nt_C} (hs : nt_sx X mi g t (.sipush n) pc ls st M = some x') (hv : nt_vd (pc, ls, st, M)) : nt_kp M x' := by
  cases hs
  exact ⟨⟨hv.1, nt_vs_c (nt_vv_i _ _) (hv.2.1), hv.2.2⟩, Nat.le_refl _, Nat.le_refl _⟩
theorem nt_v_lconst {n : Fin 2} {X : nt_X} {mi g t pc : Nat} {ls : nt_V} {st : List Value} {M : nt_M} {x' : nt_C} (hs : nt_sx X mi g t (.lconst n) pc ls st M = some x') (hv : nt_vd (pc, ls, st, M)) : nt_kp M x' := by
  cases hs
  exact ⟨⟨hv.1, nt_vs_c (nt_vv_j _ _) (hv.2.1), hv.2.2⟩, Nat.le_refl _, Nat.le_refl _⟩
theorem nt_v_goto {n : Int} {X : nt_X} {mi g t pc : Nat} {ls : nt_V} {st : List Value} {M : nt_M} {x' : nt_C} (hs : nt_sx X mi g t (.goto n) pc ls st M = some x') (hv : nt_vd (pc, ls, st, M)) : nt_kp M x' := by
  cases hs
  exact ⟨hv, Nat.le_refl _, Nat.le_refl _⟩
theorem nt_v_ldc {i : Nat} {X : nt_X} {mi g t pc : Nat} {ls : nt_V} {st : List Value} {M : nt_M} {x' : nt_C} (hs : nt_sx X mi g t (.ldc i) pc ls st M = some x') (hv : nt_vd (pc, ls, st, M)) : nt_kp M x' := by
  simp only [nt_sx] at hs
  split at hs
  · split at hs
    · cases hs
      exact ⟨⟨hv.1, nt_vs_c (nt_vv_i _ _) (hv.2.1), hv.2.2⟩, Nat.le_refl _, Nat.le_refl _⟩
    · cases hs
  · split at hs
    · cases hs
      exact ⟨⟨hv.1, nt_vs_c (nt_vv_r (Or.inr (by show nt_sp ≤ nt_sp + 1 + _; omega))) (hv.2.1), hv.2.2⟩, Nat.le_refl _, Nat.le_refl _⟩
    · cases hs
theorem nt_v_ldc_w {i : Nat} {X : nt_X} {mi g t pc : Nat} {ls : nt_V} {st : List Value} {M : nt_M} {x' : nt_C} (hs : nt_sx X mi g t (.ldc_w i) pc ls st M = some x') (hv : nt_vd (pc, ls, st, M)) : nt_kp M x' := by
  have hs : (match nt_KI[g]? with | some q => some (pc + 3, ls, Value.int q.2.2.1 :: st, M) | none => none) = some x' := hs
  split at hs
  · cases hs
    exact ⟨⟨hv.1, nt_vs_c (nt_vv_i _ _) (hv.2.1), hv.2.2⟩, Nat.le_refl _, Nat.le_refl _⟩
  · cases hs
theorem nt_v_ldc2_w {i : Nat} {X : nt_X} {mi g t pc : Nat} {ls : nt_V} {st : List Value} {M : nt_M} {x' : nt_C} (hs : nt_sx X mi g t (.ldc2_w i) pc ls st M = some x') (hv : nt_vd (pc, ls, st, M)) : nt_kp M x' := by
  have hs : (match nt_KL[g]? with | some q => some (pc + 3, ls, Value.long q.2.2.1 :: st, M) | none => none) = some x' := hs
  split at hs
  · cases hs
    exact ⟨⟨hv.1, nt_vs_c (nt_vv_j _ _) (hv.2.1), hv.2.2⟩, Nat.le_refl _, Nat.le_refl _⟩
  · cases hs
theorem nt_v_iload {i : Nat} {X : nt_X} {mi g t pc : Nat} {ls : nt_V} {st : List Value} {M : nt_M} {x' : nt_C} (hs : nt_sx X mi g t (.iload i) pc ls st M = some x') (hv : nt_vd (pc, ls, st, M)) : nt_kp M x' := by
  obtain ⟨x, hk, hs⟩ := nt_lkI_some hs
  cases hs
  exact ⟨⟨hv.1, nt_vs_c (nt_vv_i _ _) (hv.2.1), hv.2.2⟩, Nat.le_refl _, Nat.le_refl _⟩
theorem nt_v_iload_n {i : Fin 4} {X : nt_X} {mi g t pc : Nat} {ls : nt_V} {st : List Value} {M : nt_M} {x' : nt_C} (hs : nt_sx X mi g t (.iload_n i) pc ls st M = some x') (hv : nt_vd (pc, ls, st, M)) : nt_kp M x' := by
  obtain ⟨x, hk, hs⟩ := nt_lkI_some hs
  cases hs
  exact ⟨⟨hv.1, nt_vs_c (nt_vv_i _ _) (hv.2.1), hv.2.2⟩, Nat.le_refl _, Nat.le_refl _⟩
theorem nt_v_lload {i : Nat} {X : nt_X} {mi g t pc : Nat} {ls : nt_V} {st : List Value} {M : nt_M} {x' : nt_C} (hs : nt_sx X mi g t (.lload i) pc ls st M = some x') (hv : nt_vd (pc, ls, st, M)) : nt_kp M x' := by
  obtain ⟨x, hk, hs⟩ := nt_lkJ_some hs
  cases hs
  exact ⟨⟨hv.1, nt_vs_c (nt_vv_j _ _) (hv.2.1), hv.2.2⟩, Nat.le_refl _, Nat.le_refl _⟩
theorem nt_v_lload_n {i : Fin 4} {X : nt_X} {mi g t pc : Nat} {ls : nt_V} {st : List Value} {M : nt_M} {x' : nt_C} (hs : nt_sx X mi g t (.lload_n i) pc ls st M = some x') (hv : nt_vd (pc, ls, st, M)) : nt_kp M x' := by
  obtain ⟨x, hk, hs⟩ := nt_lkJ_some hs
  cases hs
  exact ⟨⟨hv.1, nt_vs_c (nt_vv_j _ _) (hv.2.1), hv.2.2⟩, Nat.le_refl _, Nat.le_refl _⟩
theorem nt_v_aload {i : Nat} {X : nt_X} {mi g t pc : Nat} {ls : nt_V} {st : List Value} {M : nt_M} {x' : nt_C} (hs : nt_sx X mi g t (.aload i) pc ls st M = some x') (hv : nt_vd (pc, ls, st, M)) : nt_kp M x' := by
  have hs : nt_lkA ls i (fun x => some (pc + 2, ls, x :: st, M)) = some x' := hs
  rcases nt_lkA_some hs with ⟨x, hk, hs⟩ | ⟨hk, hs⟩
  · cases hs
    exact ⟨⟨hv.1, nt_vs_c (nt_vl_lk hv.1 hk) (hv.2.1), hv.2.2⟩, Nat.le_refl _, Nat.le_refl _⟩
  · cases hs
    exact ⟨⟨hv.1, nt_vs_c (nt_vv_0 _) (hv.2.1), hv.2.2⟩, Nat.le_refl _, Nat.le_refl _⟩
theorem nt_v_aload_n {i : Fin 4} {X : nt_X} {mi g t pc : Nat} {ls : nt_V} {st : List Value} {M : nt_M} {x' : nt_C} (hs : nt_sx X mi g t (.aload_n i) pc ls st M = some x') (hv : nt_vd (pc, ls, st, M)) : nt_kp M x' := by
  have hs : nt_lkA ls i (fun x => some (pc + 1, ls, x :: st, M)) = some x' := hs
  rcases nt_lkA_some hs with ⟨x, hk, hs⟩ | ⟨hk, hs⟩
  · cases hs
    exact ⟨⟨hv.1, nt_vs_c (nt_vl_lk hv.1 hk) (hv.2.1), hv.2.2⟩, Nat.le_refl _, Nat.le_refl _⟩
  · cases hs
    exact ⟨⟨hv.1, nt_vs_c (nt_vv_0 _) (hv.2.1), hv.2.2⟩, Nat.le_refl _, Nat.le_refl _⟩
theorem nt_v_istore {i : Nat} {X : nt_X} {mi g t pc : Nat} {ls : nt_V} {st : List Value} {M : nt_M} {x' : nt_C} (hs : nt_sx X mi g t (.istore i) pc ls st M = some x') (hv : nt_vd (pc, ls, st, M)) : nt_kp M x' := by
  obtain ⟨x, r, e0, hq⟩ := nt_i1_some hs
  clear hs
  subst e0
  have hs := hq
  cases hs
  exact ⟨⟨nt_vl_s1 (nt_vv_i _ _) hv.1, nt_vs_t hv.2.1, hv.2.2⟩, Nat.le_refl _, Nat.le_refl _⟩
theorem nt_v_istore_n {i : Fin 4} {X : nt_X} {mi g t pc : Nat} {ls : nt_V} {st : List Value} {M : nt_M} {x' : nt_C} (hs : nt_sx X mi g t (.istore_n i) pc ls st M = some x') (hv : nt_vd (pc, ls, st, M)) : nt_kp M x' := by
  obtain ⟨x, r, e0, hq⟩ := nt_i1_some hs
  clear hs
  subst e0
  have hs := hq
  cases hs
  exact ⟨⟨nt_vl_s1 (nt_vv_i _ _) hv.1, nt_vs_t hv.2.1, hv.2.2⟩, Nat.le_refl _, Nat.le_refl _⟩
theorem nt_v_lstore {i : Nat} {X : nt_X} {mi g t pc : Nat} {ls : nt_V} {st : List Value} {M : nt_M} {x' : nt_C} (hs : nt_sx X mi g t (.lstore i) pc ls st M = some x') (hv : nt_vd (pc, ls, st, M)) : nt_kp M x' := by
  obtain ⟨x, r, e0, hq⟩ := nt_j1_some hs
  clear hs
  subst e0
  have hs := hq
  cases hs
  exact ⟨⟨nt_vl_s2 (nt_vv_j _ _) hv.1, nt_vs_t hv.2.1, hv.2.2⟩, Nat.le_refl _, Nat.le_refl _⟩
theorem nt_v_lstore_n {i : Fin 4} {X : nt_X} {mi g t pc : Nat} {ls : nt_V} {st : List Value} {M : nt_M} {x' : nt_C} (hs : nt_sx X mi g t (.lstore_n i) pc ls st M = some x') (hv : nt_vd (pc, ls, st, M)) : nt_kp M x' := by
  obtain ⟨x, r, e0, hq⟩ := nt_j1_some hs
  clear hs
  subst e0
  have hs := hq
  cases hs
  exact ⟨⟨nt_vl_s2 (nt_vv_j _ _) hv.1, nt_vs_t hv.2.1, hv.2.2⟩, Nat.le_refl _, Nat.le_refl _⟩
theorem nt_v_astore {i : Nat} {X : nt_X} {mi g t pc : Nat} {ls : nt_V} {st : List Value} {M : nt_M} {x' : nt_C} (hs : nt_sx X mi g t (.astore i) pc ls st M = some x') (hv : nt_vd (pc, ls, st, M)) : nt_kp M x' := by
  have hs : nt_stA st (fun x r => some (pc + 2, nt_s1 ls i x, r, M)) = some x' := hs
  rcases nt_stA_some hs with ⟨x, r, rfl, hs⟩ | ⟨r, rfl, hs⟩
  · cases hs
    exact ⟨⟨nt_vl_s1 (nt_vs_h hv.2.1) hv.1, nt_vs_t hv.2.1, hv.2.2⟩, Nat.le_refl _, Nat.le_refl _⟩
  · cases hs
    exact ⟨⟨nt_vl_s1 (nt_vv_0 _) hv.1, nt_vs_t hv.2.1, hv.2.2⟩, Nat.le_refl _, Nat.le_refl _⟩
theorem nt_v_astore_n {i : Fin 4} {X : nt_X} {mi g t pc : Nat} {ls : nt_V} {st : List Value} {M : nt_M} {x' : nt_C} (hs : nt_sx X mi g t (.astore_n i) pc ls st M = some x') (hv : nt_vd (pc, ls, st, M)) : nt_kp M x' := by
  have hs : nt_stA st (fun x r => some (pc + 1, nt_s1 ls i x, r, M)) = some x' := hs
  rcases nt_stA_some hs with ⟨x, r, rfl, hs⟩ | ⟨r, rfl, hs⟩
  · cases hs
    exact ⟨⟨nt_vl_s1 (nt_vs_h hv.2.1) hv.1, nt_vs_t hv.2.1, hv.2.2⟩, Nat.le_refl _, Nat.le_refl _⟩
  · cases hs
    exact ⟨⟨nt_vl_s1 (nt_vv_0 _) hv.1, nt_vs_t hv.2.1, hv.2.2⟩, Nat.le_refl _, Nat.le_refl _⟩
theorem nt_v_iinc {i : Nat} {n : Int} {X : nt_X} {mi g t pc : Nat} {ls : nt_V} {st : List Value} {M : nt_M} {x' : nt_C} (hs : nt_sx X mi g t (.iinc i n) pc ls st M = some x') (hv : nt_vd (pc, ls, st, M)) : nt_kp M x' := by
  obtain ⟨x, hk, hs⟩ := nt_lkI_some hs
  cases hs
  exact ⟨⟨nt_vl_s1 (nt_vv_i _ _) hv.1, hv.2.1, hv.2.2⟩, Nat.le_refl _, Nat.le_refl _⟩
theorem nt_v_iadd  {X : nt_X} {mi g t pc : Nat} {ls : nt_V} {st : List Value} {M : nt_M} {x' : nt_C} (hs : nt_sx X mi g t .iadd pc ls st M = some x') (hv : nt_vd (pc, ls, st, M)) : nt_kp M x' := by
  obtain ⟨x, y, r, e0, hq⟩ := nt_i2_some hs
  clear hs
  subst e0
  have hs := hq
  cases hs
  exact ⟨⟨hv.1, nt_vs_c (nt_vv_i _ _) (nt_vs_t (nt_vs_t hv.2.1)), hv.2.2⟩, Nat.le_refl _, Nat.le_refl _⟩
theorem nt_v_isub  {X : nt_X} {mi g t pc : Nat} {ls : nt_V} {st : List Value} {M : nt_M} {x' : nt_C} (hs : nt_sx X mi g t .isub pc ls st M = some x') (hv : nt_vd (pc, ls, st, M)) : nt_kp M x' := by
  obtain ⟨x, y, r, e0, hq⟩ := nt_i2_some hs
  clear hs
  subst e0
  have hs := hq
  cases hs
  exact ⟨⟨hv.1, nt_vs_c (nt_vv_i _ _) (nt_vs_t (nt_vs_t hv.2.1)), hv.2.2⟩, Nat.le_refl _, Nat.le_refl _⟩
theorem nt_v_imul  {X : nt_X} {mi g t pc : Nat} {ls : nt_V} {st : List Value} {M : nt_M} {x' : nt_C} (hs : nt_sx X mi g t .imul pc ls st M = some x') (hv : nt_vd (pc, ls, st, M)) : nt_kp M x' := by
  obtain ⟨x, y, r, e0, hq⟩ := nt_i2_some hs
  clear hs
  subst e0
  have hs := hq
  cases hs
  exact ⟨⟨hv.1, nt_vs_c (nt_vv_i _ _) (nt_vs_t (nt_vs_t hv.2.1)), hv.2.2⟩, Nat.le_refl _, Nat.le_refl _⟩
theorem nt_v_iand  {X : nt_X} {mi g t pc : Nat} {ls : nt_V} {st : List Value} {M : nt_M} {x' : nt_C} (hs : nt_sx X mi g t .iand pc ls st M = some x') (hv : nt_vd (pc, ls, st, M)) : nt_kp M x' := by
  obtain ⟨x, y, r, e0, hq⟩ := nt_i2_some hs
  clear hs
  subst e0
  have hs := hq
  cases hs
  exact ⟨⟨hv.1, nt_vs_c (nt_vv_i _ _) (nt_vs_t (nt_vs_t hv.2.1)), hv.2.2⟩, Nat.le_refl _, Nat.le_refl _⟩
theorem nt_v_ior  {X : nt_X} {mi g t pc : Nat} {ls : nt_V} {st : List Value} {M : nt_M} {x' : nt_C} (hs : nt_sx X mi g t .ior pc ls st M = some x') (hv : nt_vd (pc, ls, st, M)) : nt_kp M x' := by
  obtain ⟨x, y, r, e0, hq⟩ := nt_i2_some hs
  clear hs
  subst e0
  have hs := hq
  cases hs
  exact ⟨⟨hv.1, nt_vs_c (nt_vv_i _ _) (nt_vs_t (nt_vs_t hv.2.1)), hv.2.2⟩, Nat.le_refl _, Nat.le_refl _⟩
theorem nt_v_ishl  {X : nt_X} {mi g t pc : Nat} {ls : nt_V} {st : List Value} {M : nt_M} {x' : nt_C} (hs : nt_sx X mi g t .ishl pc ls st M = some x') (hv : nt_vd (pc, ls, st, M)) : nt_kp M x' := by
  obtain ⟨x, y, r, e0, hq⟩ := nt_i2_some hs
  clear hs
  subst e0
  have hs := hq
  cases hs
  exact ⟨⟨hv.1, nt_vs_c (nt_vv_i _ _) (nt_vs_t (nt_vs_t hv.2.1)), hv.2.2⟩, Nat.le_refl _, Nat.le_refl _⟩
theorem nt_v_ishr  {X : nt_X} {mi g t pc : Nat} {ls : nt_V} {st : List Value} {M : nt_M} {x' : nt_C} (hs : nt_sx X mi g t .ishr pc ls st M = some x') (hv : nt_vd (pc, ls, st, M)) : nt_kp M x' := by
  obtain ⟨x, y, r, e0, hq⟩ := nt_i2_some hs
  clear hs
  subst e0
  have hs := hq
  cases hs
  exact ⟨⟨hv.1, nt_vs_c (nt_vv_i _ _) (nt_vs_t (nt_vs_t hv.2.1)), hv.2.2⟩, Nat.le_refl _, Nat.le_refl _⟩
theorem nt_v_iushr  {X : nt_X} {mi g t pc : Nat} {ls : nt_V} {st : List Value} {M : nt_M} {x' : nt_C} (hs : nt_sx X mi g t .iushr pc ls st M = some x') (hv : nt_vd (pc, ls, st, M)) : nt_kp M x' := by
  obtain ⟨x, y, r, e0, hq⟩ := nt_i2_some hs
  clear hs
  subst e0
  have hs := hq
  cases hs
  exact ⟨⟨hv.1, nt_vs_c (nt_vv_i _ _) (nt_vs_t (nt_vs_t hv.2.1)), hv.2.2⟩, Nat.le_refl _, Nat.le_refl _⟩
theorem nt_v_idiv  {X : nt_X} {mi g t pc : Nat} {ls : nt_V} {st : List Value} {M : nt_M} {x' : nt_C} (hs : nt_sx X mi g t .idiv pc ls st M = some x') (hv : nt_vd (pc, ls, st, M)) : nt_kp M x' := by
  obtain ⟨x, y, r, e0, hq⟩ := nt_i2_some hs
  clear hs
  subst e0
  have hs := hq
  obtain ⟨h0, hs⟩ := nt_ifn_some hs
  cases hs
  exact ⟨⟨hv.1, nt_vs_c (nt_vv_i _ _) (nt_vs_t (nt_vs_t hv.2.1)), hv.2.2⟩, Nat.le_refl _, Nat.le_refl _⟩
theorem nt_v_irem  {X : nt_X} {mi g t pc : Nat} {ls : nt_V} {st : List Value} {M : nt_M} {x' : nt_C} (hs : nt_sx X mi g t .irem pc ls st M = some x') (hv : nt_vd (pc, ls, st, M)) : nt_kp M x' := by
  obtain ⟨x, y, r, e0, hq⟩ := nt_i2_some hs
  clear hs
  subst e0
  have hs := hq
  obtain ⟨h0, hs⟩ := nt_ifn_some hs
  cases hs
  exact ⟨⟨hv.1, nt_vs_c (nt_vv_i _ _) (nt_vs_t (nt_vs_t hv.2.1)), hv.2.2⟩, Nat.le_refl _, Nat.le_refl _⟩
theorem nt_v_ladd  {X : nt_X} {mi g t pc : Nat} {ls : nt_V} {st : List Value} {M : nt_M} {x' : nt_C} (hs : nt_sx X mi g t .ladd pc ls st M = some x') (hv : nt_vd (pc, ls, st, M)) : nt_kp M x' := by
  obtain ⟨x, y, r, e0, hq⟩ := nt_j2_some hs
  clear hs
  subst e0
  have hs := hq
  cases hs
  exact ⟨⟨hv.1, nt_vs_c (nt_vv_j _ _) (nt_vs_t (nt_vs_t hv.2.1)), hv.2.2⟩, Nat.le_refl _, Nat.le_refl _⟩
theorem nt_v_lsub  {X : nt_X} {mi g t pc : Nat} {ls : nt_V} {st : List Value} {M : nt_M} {x' : nt_C} (hs : nt_sx X mi g t .lsub pc ls st M = some x') (hv : nt_vd (pc, ls, st, M)) : nt_kp M x' := by
  obtain ⟨x, y, r, e0, hq⟩ := nt_j2_some hs
  clear hs
  subst e0
  have hs := hq
  cases hs
  exact ⟨⟨hv.1, nt_vs_c (nt_vv_j _ _) (nt_vs_t (nt_vs_t hv.2.1)), hv.2.2⟩, Nat.le_refl _, Nat.le_refl _⟩
theorem nt_v_lmul  {X : nt_X} {mi g t pc : Nat} {ls : nt_V} {st : List Value} {M : nt_M} {x' : nt_C} (hs : nt_sx X mi g t .lmul pc ls st M = some x') (hv : nt_vd (pc, ls, st, M)) : nt_kp M x' := by
  obtain ⟨x, y, r, e0, hq⟩ := nt_j2_some hs
  clear hs
  subst e0
  have hs := hq
  cases hs
  exact ⟨⟨hv.1, nt_vs_c (nt_vv_j _ _) (nt_vs_t (nt_vs_t hv.2.1)), hv.2.2⟩, Nat.le_refl _, Nat.le_refl _⟩
theorem nt_v_land  {X : nt_X} {mi g t pc : Nat} {ls : nt_V} {st : List Value} {M : nt_M} {x' : nt_C} (hs : nt_sx X mi g t .land pc ls st M = some x') (hv : nt_vd (pc, ls, st, M)) : nt_kp M x' := by
  obtain ⟨x, y, r, e0, hq⟩ := nt_j2_some hs
  clear hs
  subst e0
  have hs := hq
  cases hs
  exact ⟨⟨hv.1, nt_vs_c (nt_vv_j _ _) (nt_vs_t (nt_vs_t hv.2.1)), hv.2.2⟩, Nat.le_refl _, Nat.le_refl _⟩
theorem nt_v_lor  {X : nt_X} {mi g t pc : Nat} {ls : nt_V} {st : List Value} {M : nt_M} {x' : nt_C} (hs : nt_sx X mi g t .lor pc ls st M = some x') (hv : nt_vd (pc, ls, st, M)) : nt_kp M x' := by
  obtain ⟨x, y, r, e0, hq⟩ := nt_j2_some hs
  clear hs
  subst e0
  have hs := hq
  cases hs
  exact ⟨⟨hv.1, nt_vs_c (nt_vv_j _ _) (nt_vs_t (nt_vs_t hv.2.1)), hv.2.2⟩, Nat.le_refl _, Nat.le_refl _⟩
theorem nt_v_ldiv  {X : nt_X} {mi g t pc : Nat} {ls : nt_V} {st : List Value} {M : nt_M} {x' : nt_C} (hs : nt_sx X mi g t .ldiv pc ls st M = some x') (hv : nt_vd (pc, ls, st, M)) : nt_kp M x' := by
  obtain ⟨x, y, r, e0, hq⟩ := nt_j2_some hs
  clear hs
  subst e0
  have hs := hq
  obtain ⟨h0, hs⟩ := nt_ifn_some hs
  cases hs
  exact ⟨⟨hv.1, nt_vs_c (nt_vv_j _ _) (nt_vs_t (nt_vs_t hv.2.1)), hv.2.2⟩, Nat.le_refl _, Nat.le_refl _⟩
theorem nt_v_lrem  {X : nt_X} {mi g t pc : Nat} {ls : nt_V} {st : List Value} {M : nt_M} {x' : nt_C} (hs : nt_sx X mi g t .lrem pc ls st M = some x') (hv : nt_vd (pc, ls, st, M)) : nt_kp M x' := by
  obtain ⟨x, y, r, e0, hq⟩ := nt_j2_some hs
  clear hs
  subst e0
  have hs := hq
  obtain ⟨h0, hs⟩ := nt_ifn_some hs
  cases hs
  exact ⟨⟨hv.1, nt_vs_c (nt_vv_j _ _) (nt_vs_t (nt_vs_t hv.2.1)), hv.2.2⟩, Nat.le_refl _, Nat.le_refl _⟩
theorem nt_v_lcmp  {X : nt_X} {mi g t pc : Nat} {ls : nt_V} {st : List Value} {M : nt_M} {x' : nt_C} (hs : nt_sx X mi g t .lcmp pc ls st M = some x') (hv : nt_vd (pc, ls, st, M)) : nt_kp M x' := by
  obtain ⟨x, y, r, e0, hq⟩ := nt_j2_some hs
  clear hs
  subst e0
  have hs := hq
  cases hs
  exact ⟨⟨hv.1, nt_vs_c (nt_vv_i _ _) (nt_vs_t (nt_vs_t hv.2.1)), hv.2.2⟩, Nat.le_refl _, Nat.le_refl _⟩
theorem nt_v_lshl  {X : nt_X} {mi g t pc : Nat} {ls : nt_V} {st : List Value} {M : nt_M} {x' : nt_C} (hs : nt_sx X mi g t .lshl pc ls st M = some x') (hv : nt_vd (pc, ls, st, M)) : nt_kp M x' := by
  have hs : (match (generalizing := false) st with | .int y :: .long x :: r => some (pc + 1, ls, Value.long (x <<< (y.toInt64 &&& 63)) :: r, M) | _ => none) = some x' := hs
  split at hs
  · cases hs
    exact ⟨⟨hv.1, nt_vs_c (nt_vv_j _ _) (nt_vs_t (nt_vs_t hv.2.1)), hv.2.2⟩, Nat.le_refl _, Nat.le_refl _⟩
  · cases hs
theorem nt_v_i2l  {X : nt_X} {mi g t pc : Nat} {ls : nt_V} {st : List Value} {M : nt_M} {x' : nt_C} (hs : nt_sx X mi g t .i2l pc ls st M = some x') (hv : nt_vd (pc, ls, st, M)) : nt_kp M x' := by
  obtain ⟨x, r, e0, hq⟩ := nt_i1_some hs
  clear hs
  subst e0
  have hs := hq
  cases hs
  exact ⟨⟨hv.1, nt_vs_c (nt_vv_j _ _) (nt_vs_t hv.2.1), hv.2.2⟩, Nat.le_refl _, Nat.le_refl _⟩
theorem nt_v_l2i  {X : nt_X} {mi g t pc : Nat} {ls : nt_V} {st : List Value} {M : nt_M} {x' : nt_C} (hs : nt_sx X mi g t .l2i pc ls st M = some x') (hv : nt_vd (pc, ls, st, M)) : nt_kp M x' := by
  obtain ⟨x, r, e0, hq⟩ := nt_j1_some hs
  clear hs
  subst e0
  have hs := hq
  cases hs
  exact ⟨⟨hv.1, nt_vs_c (nt_vv_i _ _) (nt_vs_t hv.2.1), hv.2.2⟩, Nat.le_refl _, Nat.le_refl _⟩
theorem nt_v_i2b  {X : nt_X} {mi g t pc : Nat} {ls : nt_V} {st : List Value} {M : nt_M} {x' : nt_C} (hs : nt_sx X mi g t .i2b pc ls st M = some x') (hv : nt_vd (pc, ls, st, M)) : nt_kp M x' := by
  obtain ⟨x, r, e0, hq⟩ := nt_i1_some hs
  clear hs
  subst e0
  have hs := hq
  cases hs
  exact ⟨⟨hv.1, nt_vs_c (nt_vv_i _ _) (nt_vs_t hv.2.1), hv.2.2⟩, Nat.le_refl _, Nat.le_refl _⟩
theorem nt_v_dup  {X : nt_X} {mi g t pc : Nat} {ls : nt_V} {st : List Value} {M : nt_M} {x' : nt_C} (hs : nt_sx X mi g t .dup pc ls st M = some x') (hv : nt_vd (pc, ls, st, M)) : nt_kp M x' := by
  have hs : (match (generalizing := false) st with | v :: r => if v.category = 1 then some (pc + 1, ls, v :: v :: r, M) else none | _ => none) = some x' := hs
  split at hs
  · obtain ⟨hc, hs⟩ := nt_if_some hs
    cases hs
    exact ⟨⟨hv.1, nt_vs_c (nt_vs_h hv.2.1) (hv.2.1), hv.2.2⟩, Nat.le_refl _, Nat.le_refl _⟩
  · cases hs
theorem nt_v_pop  {X : nt_X} {mi g t pc : Nat} {ls : nt_V} {st : List Value} {M : nt_M} {x' : nt_C} (hs : nt_sx X mi g t .pop pc ls st M = some x') (hv : nt_vd (pc, ls, st, M)) : nt_kp M x' := by
  have hs : (match (generalizing := false) st with | v :: r => if v.category = 1 then some (pc + 1, ls, r, M) else none | _ => none) = some x' := hs
  split at hs
  · obtain ⟨hc, hs⟩ := nt_if_some hs
    cases hs
    exact ⟨⟨hv.1, nt_vs_t hv.2.1, hv.2.2⟩, Nat.le_refl _, Nat.le_refl _⟩
  · cases hs
theorem nt_v_dup2  {X : nt_X} {mi g t pc : Nat} {ls : nt_V} {st : List Value} {M : nt_M} {x' : nt_C} (hs : nt_sx X mi g t .dup2 pc ls st M = some x') (hv : nt_vd (pc, ls, st, M)) : nt_kp M x' := by
  have hs : (match (generalizing := false) st with | v :: w :: r => if v.category = 1 ∧ w.category = 1 then some (pc + 1, ls, v :: w :: v :: w :: r, M) else none | _ => none) = some x' := hs
  split at hs
  · obtain ⟨hc, hs⟩ := nt_if_some hs
    cases hs
    exact ⟨⟨hv.1, nt_vs_c (nt_vs_h hv.2.1) (nt_vs_c (nt_vs_h (nt_vs_t hv.2.1)) hv.2.1), hv.2.2⟩, Nat.le_refl _, Nat.le_refl _⟩
  · cases hs
theorem nt_v_if_eq {n : Int} {X : nt_X} {mi g t pc : Nat} {ls : nt_V} {st : List Value} {M : nt_M} {x' : nt_C} (hs : nt_sx X mi g t (.ifCond .eq n) pc ls st M = some x') (hv : nt_vd (pc, ls, st, M)) : nt_kp M x' := by
  obtain ⟨x, r, e0, hq⟩ := nt_i1_some hs
  clear hs
  subst e0
  have hs := hq
  cases hs
  exact ⟨⟨hv.1, nt_vs_t hv.2.1, hv.2.2⟩, Nat.le_refl _, Nat.le_refl _⟩
theorem nt_v_icmp_eq {n : Int} {X : nt_X} {mi g t pc : Nat} {ls : nt_V} {st : List Value} {M : nt_M} {x' : nt_C} (hs : nt_sx X mi g t (.if_icmp .eq n) pc ls st M = some x') (hv : nt_vd (pc, ls, st, M)) : nt_kp M x' := by
  obtain ⟨x, y, r, e0, hq⟩ := nt_i2_some hs
  clear hs
  subst e0
  have hs := hq
  cases hs
  exact ⟨⟨hv.1, nt_vs_t (nt_vs_t hv.2.1), hv.2.2⟩, Nat.le_refl _, Nat.le_refl _⟩
theorem nt_v_if_ne {n : Int} {X : nt_X} {mi g t pc : Nat} {ls : nt_V} {st : List Value} {M : nt_M} {x' : nt_C} (hs : nt_sx X mi g t (.ifCond .ne n) pc ls st M = some x') (hv : nt_vd (pc, ls, st, M)) : nt_kp M x' := by
  obtain ⟨x, r, e0, hq⟩ := nt_i1_some hs
  clear hs
  subst e0
  have hs := hq
  cases hs
  exact ⟨⟨hv.1, nt_vs_t hv.2.1, hv.2.2⟩, Nat.le_refl _, Nat.le_refl _⟩
theorem nt_v_icmp_ne {n : Int} {X : nt_X} {mi g t pc : Nat} {ls : nt_V} {st : List Value} {M : nt_M} {x' : nt_C} (hs : nt_sx X mi g t (.if_icmp .ne n) pc ls st M = some x') (hv : nt_vd (pc, ls, st, M)) : nt_kp M x' := by
  obtain ⟨x, y, r, e0, hq⟩ := nt_i2_some hs
  clear hs
  subst e0
  have hs := hq
  cases hs
  exact ⟨⟨hv.1, nt_vs_t (nt_vs_t hv.2.1), hv.2.2⟩, Nat.le_refl _, Nat.le_refl _⟩
theorem nt_v_if_lt {n : Int} {X : nt_X} {mi g t pc : Nat} {ls : nt_V} {st : List Value} {M : nt_M} {x' : nt_C} (hs : nt_sx X mi g t (.ifCond .lt n) pc ls st M = some x') (hv : nt_vd (pc, ls, st, M)) : nt_kp M x' := by
  obtain ⟨x, r, e0, hq⟩ := nt_i1_some hs
  clear hs
  subst e0
  have hs := hq
  cases hs
  exact ⟨⟨hv.1, nt_vs_t hv.2.1, hv.2.2⟩, Nat.le_refl _, Nat.le_refl _⟩
theorem nt_v_icmp_lt {n : Int} {X : nt_X} {mi g t pc : Nat} {ls : nt_V} {st : List Value} {M : nt_M} {x' : nt_C} (hs : nt_sx X mi g t (.if_icmp .lt n) pc ls st M = some x') (hv : nt_vd (pc, ls, st, M)) : nt_kp M x' := by
  obtain ⟨x, y, r, e0, hq⟩ := nt_i2_some hs
  clear hs
  subst e0
  have hs := hq
  cases hs
  exact ⟨⟨hv.1, nt_vs_t (nt_vs_t hv.2.1), hv.2.2⟩, Nat.le_refl _, Nat.le_refl _⟩
theorem nt_v_if_ge {n : Int} {X : nt_X} {mi g t pc : Nat} {ls : nt_V} {st : List Value} {M : nt_M} {x' : nt_C} (hs : nt_sx X mi g t (.ifCond .ge n) pc ls st M = some x') (hv : nt_vd (pc, ls, st, M)) : nt_kp M x' := by
  obtain ⟨x, r, e0, hq⟩ := nt_i1_some hs
  clear hs
  subst e0
  have hs := hq
  cases hs
  exact ⟨⟨hv.1, nt_vs_t hv.2.1, hv.2.2⟩, Nat.le_refl _, Nat.le_refl _⟩
theorem nt_v_icmp_ge {n : Int} {X : nt_X} {mi g t pc : Nat} {ls : nt_V} {st : List Value} {M : nt_M} {x' : nt_C} (hs : nt_sx X mi g t (.if_icmp .ge n) pc ls st M = some x') (hv : nt_vd (pc, ls, st, M)) : nt_kp M x' := by
  obtain ⟨x, y, r, e0, hq⟩ := nt_i2_some hs
  clear hs
  subst e0
  have hs := hq
  cases hs
  exact ⟨⟨hv.1, nt_vs_t (nt_vs_t hv.2.1), hv.2.2⟩, Nat.le_refl _, Nat.le_refl _⟩
theorem nt_v_if_gt {n : Int} {X : nt_X} {mi g t pc : Nat} {ls : nt_V} {st : List Value} {M : nt_M} {x' : nt_C} (hs : nt_sx X mi g t (.ifCond .gt n) pc ls st M = some x') (hv : nt_vd (pc, ls, st, M)) : nt_kp M x' := by
  obtain ⟨x, r, e0, hq⟩ := nt_i1_some hs
  clear hs
  subst e0
  have hs := hq
  cases hs
  exact ⟨⟨hv.1, nt_vs_t hv.2.1, hv.2.2⟩, Nat.le_refl _, Nat.le_refl _⟩
theorem nt_v_icmp_gt {n : Int} {X : nt_X} {mi g t pc : Nat} {ls : nt_V} {st : List Value} {M : nt_M} {x' : nt_C} (hs : nt_sx X mi g t (.if_icmp .gt n) pc ls st M = some x') (hv : nt_vd (pc, ls, st, M)) : nt_kp M x' := by
  obtain ⟨x, y, r, e0, hq⟩ := nt_i2_some hs
  clear hs
  subst e0
  have hs := hq
  cases hs
  exact ⟨⟨hv.1, nt_vs_t (nt_vs_t hv.2.1), hv.2.2⟩, Nat.le_refl _, Nat.le_refl _⟩
theorem nt_v_if_le {n : Int} {X : nt_X} {mi g t pc : Nat} {ls : nt_V} {st : List Value} {M : nt_M} {x' : nt_C} (hs : nt_sx X mi g t (.ifCond .le n) pc ls st M = some x') (hv : nt_vd (pc, ls, st, M)) : nt_kp M x' := by
  obtain ⟨x, r, e0, hq⟩ := nt_i1_some hs
  clear hs
  subst e0
  have hs := hq
  cases hs
  exact ⟨⟨hv.1, nt_vs_t hv.2.1, hv.2.2⟩, Nat.le_refl _, Nat.le_refl _⟩
theorem nt_v_icmp_le {n : Int} {X : nt_X} {mi g t pc : Nat} {ls : nt_V} {st : List Value} {M : nt_M} {x' : nt_C} (hs : nt_sx X mi g t (.if_icmp .le n) pc ls st M = some x') (hv : nt_vd (pc, ls, st, M)) : nt_kp M x' := by
  obtain ⟨x, y, r, e0, hq⟩ := nt_i2_some hs
  clear hs
  subst e0
  have hs := hq
  cases hs
  exact ⟨⟨hv.1, nt_vs_t (nt_vs_t hv.2.1), hv.2.2⟩, Nat.le_refl _, Nat.le_refl _⟩
theorem nt_v_ifnull {n : Int} {X : nt_X} {mi g t pc : Nat} {ls : nt_V} {st : List Value} {M : nt_M} {x' : nt_C} (hs : nt_sx X mi g t (.ifnull n) pc ls st M = some x') (hv : nt_vd (pc, ls, st, M)) : nt_kp M x' := by
  have hs : (match (generalizing := false) st with | .ref _ :: r => some (pc + 3, ls, r, M) | .null :: r => some (t, ls, r, M) | _ => none) = some x' := hs
  split at hs
  · cases hs
    exact ⟨⟨hv.1, nt_vs_t hv.2.1, hv.2.2⟩, Nat.le_refl _, Nat.le_refl _⟩
  · cases hs
    exact ⟨⟨hv.1, nt_vs_t hv.2.1, hv.2.2⟩, Nat.le_refl _, Nat.le_refl _⟩
  · cases hs
theorem nt_v_ifnonnull {n : Int} {X : nt_X} {mi g t pc : Nat} {ls : nt_V} {st : List Value} {M : nt_M} {x' : nt_C} (hs : nt_sx X mi g t (.ifnonnull n) pc ls st M = some x') (hv : nt_vd (pc, ls, st, M)) : nt_kp M x' := by
  have hs : (match (generalizing := false) st with | .ref _ :: r => some (t, ls, r, M) | .null :: r => some (pc + 3, ls, r, M) | _ => none) = some x' := hs
  split at hs
  · cases hs
    exact ⟨⟨hv.1, nt_vs_t hv.2.1, hv.2.2⟩, Nat.le_refl _, Nat.le_refl _⟩
  · cases hs
    exact ⟨⟨hv.1, nt_vs_t hv.2.1, hv.2.2⟩, Nat.le_refl _, Nat.le_refl _⟩
  · cases hs
theorem nt_v_tableswitch {dflt lo hi : Int} {offs : Array Int} {X : nt_X} {mi g t pc : Nat} {ls : nt_V} {st : List Value} {M : nt_M} {x' : nt_C} (hs : nt_sx X mi g t (.tableswitch dflt lo hi offs) pc ls st M = some x') (hv : nt_vd (pc, ls, st, M)) : nt_kp M x' := by
  obtain ⟨x, r, e0, hq⟩ := nt_i1_some hs
  clear hs
  subst e0
  have hs := hq
  have hs : (if x.toInt < lo ∨ hi < x.toInt then nt_jp pc dflt fun q => some (q, ls, r, M) else (match offs[(x.toInt - lo).toNat]? with | some off => nt_jp pc off fun q => some (q, ls, r, M) | none => none)) = some x' := hs
  split at hs
  · obtain ⟨tg, ht, hs⟩ := nt_jp_some hs
    cases hs
    exact ⟨⟨hv.1, nt_vs_t hv.2.1, hv.2.2⟩, Nat.le_refl _, Nat.le_refl _⟩
  · split at hs
    · obtain ⟨tg, ht, hs⟩ := nt_jp_some hs
      cases hs
      exact ⟨⟨hv.1, nt_vs_t hv.2.1, hv.2.2⟩, Nat.le_refl _, Nat.le_refl _⟩
    · cases hs
theorem nt_v_lookupswitch {dflt : Int} {ps : Array (Int × Int)} {X : nt_X} {mi g t pc : Nat} {ls : nt_V} {st : List Value} {M : nt_M} {x' : nt_C} (hs : nt_sx X mi g t (.lookupswitch dflt ps) pc ls st M = some x') (hv : nt_vd (pc, ls, st, M)) : nt_kp M x' := by
  obtain ⟨x, r, e0, hq⟩ := nt_i1_some hs
  clear hs
  subst e0
  have hs := hq
  obtain ⟨hp, hs⟩ := nt_if_some hs
  obtain ⟨tg, ht, hs⟩ := nt_jp_some hs
  cases hs
  exact ⟨⟨hv.1, nt_vs_t hv.2.1, hv.2.2⟩, Nat.le_refl _, Nat.le_refl _⟩
theorem nt_v_getfield {i : Nat} {X : nt_X} {mi g t pc : Nat} {ls : nt_V} {st : List Value} {M : nt_M} {x' : nt_C} (hs : nt_sx X mi g t (.getfield i) pc ls st M = some x') (hv : nt_vd (pc, ls, st, M)) : nt_kp M x' := by
  obtain ⟨a, r, e0, hq⟩ := nt_a1_some hs
  clear hs
  subst e0
  have hs := hq
  obtain ⟨hc, hs⟩ := nt_if_some hs
  cases hs
  exact ⟨⟨hv.1, nt_vs_c (nt_vv_gf hv.2.2) (nt_vs_t hv.2.1), hv.2.2⟩, Nat.le_refl _, Nat.le_refl _⟩
theorem nt_v_putfield {i : Nat} {X : nt_X} {mi g t pc : Nat} {ls : nt_V} {st : List Value} {M : nt_M} {x' : nt_C} (hs : nt_sx X mi g t (.putfield i) pc ls st M = some x') (hv : nt_vd (pc, ls, st, M)) : nt_kp M x' := by
  have hs : (match (generalizing := false) st with | v :: .ref a :: r => if a < nt_n M ∧ nt_k M a = g / 100 ∧ g / 100 < 12 ∧ g % 100 < nt_N (g / 100) ∧ ((nt_T (g / 100) (g % 100)).2.2.2 = false ∨ (nt_m mi).2.2.2.2.2.2.1 = 2 ∧ (nt_m mi).2.2.2.2.1 = g / 100) then nt_pf M a (g / 100) (g % 100) v fun M' => some (pc + 3, ls, r, M') else none | _ => none) = some x' := hs
  split at hs
  · obtain ⟨⟨ha, hk, hc, hj, hf⟩, hs⟩ := nt_if_some hs
    rcases nt_pf_some hs with ⟨x, e, e0, hq⟩ | ⟨x, e, e0, hq⟩ | ⟨b, e, e0, hq⟩ | ⟨x, e, e0, hx, hq⟩
    · clear hs
      subst e0
      have hs := hq
      cases hs
      exact ⟨⟨hv.1, nt_vs_t (nt_vs_t hv.2.1), nt_vm_sI hv.2.2 (by omega)⟩, Nat.le_refl _, Nat.le_refl _⟩
    · clear hs
      subst e0
      have hs := hq
      cases hs
      exact ⟨⟨hv.1, nt_vs_t (nt_vs_t hv.2.1), hv.2.2⟩, Nat.le_refl _, Nat.le_refl _⟩
    · clear hs
      subst e0
      have hs := hq
      cases hs
      exact ⟨⟨hv.1, nt_vs_t (nt_vs_t hv.2.1), nt_vm_sR hv.2.2 (nt_vs_h hv.2.1 b rfl)⟩, Nat.le_refl _, Nat.le_refl _⟩
    · clear hs
      subst e0
      have hs := hq
      cases hs
      exact ⟨⟨hv.1, nt_vs_t (nt_vs_t hv.2.1), nt_vm_sI hv.2.2 (by omega)⟩, Nat.le_refl _, Nat.le_refl _⟩
  · cases hs
theorem nt_v_iaload  {X : nt_X} {mi g t pc : Nat} {ls : nt_V} {st : List Value} {M : nt_M} {x' : nt_C} (hs : nt_sx X mi g t .iaload pc ls st M = some x') (hv : nt_vd (pc, ls, st, M)) : nt_kp M x' := by
  obtain ⟨i, a, r, e0, hq⟩ := nt_ia_some hs
  clear hs
  subst e0
  have hs := hq
  by_cases ea : a = nt_sp
  · rw [if_pos ea] at hs
    obtain ⟨hin, hs⟩ := nt_ifn_some hs
    cases hs
    exact ⟨⟨hv.1, nt_vs_c (nt_vv_i _ _) (nt_vs_t (nt_vs_t hv.2.1)), hv.2.2⟩, Nat.le_refl _, Nat.le_refl _⟩
  · rw [if_neg ea] at hs
    obtain ⟨ha, hk, hin, hs⟩ := nt_in_some hs
    cases hs
    exact ⟨⟨hv.1, nt_vs_c (nt_vv_i _ _) (nt_vs_t (nt_vs_t hv.2.1)), hv.2.2⟩, Nat.le_refl _, Nat.le_refl _⟩
theorem nt_v_baload  {X : nt_X} {mi g t pc : Nat} {ls : nt_V} {st : List Value} {M : nt_M} {x' : nt_C} (hs : nt_sx X mi g t .baload pc ls st M = some x') (hv : nt_vd (pc, ls, st, M)) : nt_kp M x' := by
  obtain ⟨i, a, r, e0, hq⟩ := nt_ia_some hs
  clear hs
  subst e0
  have hs := hq
  by_cases ea : nt_k M a = 15
  · rw [if_pos ea] at hs
    obtain ⟨ha, hk, hin, hs⟩ := nt_in_some hs
    cases hs
    exact ⟨⟨hv.1, nt_vs_c (nt_vv_i _ _) (nt_vs_t (nt_vs_t hv.2.1)), hv.2.2⟩, Nat.le_refl _, Nat.le_refl _⟩
  · rw [if_neg ea] at hs
    obtain ⟨ha, hk, hin, hs⟩ := nt_in_some hs
    cases hs
    exact ⟨⟨hv.1, nt_vs_c (nt_vv_i _ _) (nt_vs_t (nt_vs_t hv.2.1)), hv.2.2⟩, Nat.le_refl _, Nat.le_refl _⟩
theorem nt_v_aaload  {X : nt_X} {mi g t pc : Nat} {ls : nt_V} {st : List Value} {M : nt_M} {x' : nt_C} (hs : nt_sx X mi g t .aaload pc ls st M = some x') (hv : nt_vd (pc, ls, st, M)) : nt_kp M x' := by
  obtain ⟨i, a, r, e0, hq⟩ := nt_ia_some hs
  clear hs
  subst e0
  have hs := hq
  by_cases ea : nt_k M a = 17
  · rw [if_pos ea] at hs
    obtain ⟨ha, hk, hin, hs⟩ := nt_in_some hs
    cases hs
    exact ⟨⟨hv.1, nt_vs_c (nt_vv_rv hv.2.2) (nt_vs_t (nt_vs_t hv.2.1)), hv.2.2⟩, Nat.le_refl _, Nat.le_refl _⟩
  · rw [if_neg ea] at hs
    obtain ⟨ha, hk, hin, hs⟩ := nt_in_some hs
    cases hs
    exact ⟨⟨hv.1, nt_vs_c (nt_vv_rv hv.2.2) (nt_vs_t (nt_vs_t hv.2.1)), hv.2.2⟩, Nat.le_refl _, Nat.le_refl _⟩
theorem nt_v_laload  {X : nt_X} {mi g t pc : Nat} {ls : nt_V} {st : List Value} {M : nt_M} {x' : nt_C} (hs : nt_sx X mi g t .laload pc ls st M = some x') (hv : nt_vd (pc, ls, st, M)) : nt_kp M x' := by
  obtain ⟨i, a, r, e0, hq⟩ := nt_ia_some hs
  clear hs
  subst e0
  have hs := hq
  obtain ⟨ha, hk, hin, hs⟩ := nt_in_some hs
  cases hs
  exact ⟨⟨hv.1, nt_vs_c (nt_vv_j _ _) (nt_vs_t (nt_vs_t hv.2.1)), hv.2.2⟩, Nat.le_refl _, Nat.le_refl _⟩
theorem nt_v_iastore  {X : nt_X} {mi g t pc : Nat} {ls : nt_V} {st : List Value} {M : nt_M} {x' : nt_C} (hs : nt_sx X mi g t .iastore pc ls st M = some x') (hv : nt_vd (pc, ls, st, M)) : nt_kp M x' := by
  obtain ⟨x, i, a, r, e0, hq⟩ := nt_iia_some hs
  clear hs
  subst e0
  have hs := hq
  obtain ⟨ha, hk, hin, hs⟩ := nt_in_some hs
  cases hs
  exact ⟨⟨hv.1, nt_vs_t (nt_vs_t (nt_vs_t hv.2.1)), nt_vm_sI hv.2.2 (by omega)⟩, Nat.le_refl _, Nat.le_refl _⟩
theorem nt_v_bastore  {X : nt_X} {mi g t pc : Nat} {ls : nt_V} {st : List Value} {M : nt_M} {x' : nt_C} (hs : nt_sx X mi g t .bastore pc ls st M = some x') (hv : nt_vd (pc, ls, st, M)) : nt_kp M x' := by
  obtain ⟨x, i, a, r, e0, hq⟩ := nt_iia_some hs
  clear hs
  subst e0
  have hs := hq
  by_cases ea : nt_k M a = 15
  · rw [if_pos ea] at hs
    obtain ⟨ha, hk, hin, hs⟩ := nt_in_some hs
    cases hs
    exact ⟨⟨hv.1, nt_vs_t (nt_vs_t (nt_vs_t hv.2.1)), nt_vm_sZ hv.2.2 (nt_narz x)⟩, Nat.le_refl _, Nat.le_refl _⟩
  · rw [if_neg ea] at hs
    obtain ⟨ha, hk, hin, hs⟩ := nt_in_some hs
    cases hs
    exact ⟨⟨hv.1, nt_vs_t (nt_vs_t (nt_vs_t hv.2.1)), nt_vm_sI hv.2.2 ea⟩, Nat.le_refl _, Nat.le_refl _⟩
theorem nt_v_lastore  {X : nt_X} {mi g t pc : Nat} {ls : nt_V} {st : List Value} {M : nt_M} {x' : nt_C} (hs : nt_sx X mi g t .lastore pc ls st M = some x') (hv : nt_vd (pc, ls, st, M)) : nt_kp M x' := by
  obtain ⟨x, i, a, r, e0, hq⟩ := nt_jia_some hs
  clear hs
  subst e0
  have hs := hq
  obtain ⟨ha, hk, hin, hs⟩ := nt_in_some hs
  cases hs
  exact ⟨⟨hv.1, nt_vs_t (nt_vs_t (nt_vs_t hv.2.1)), hv.2.2⟩, Nat.le_refl _, Nat.le_refl _⟩
theorem nt_v_aastore  {X : nt_X} {mi g t pc : Nat} {ls : nt_V} {st : List Value} {M : nt_M} {x' : nt_C} (hs : nt_sx X mi g t .aastore pc ls st M = some x') (hv : nt_vd (pc, ls, st, M)) : nt_kp M x' := by
  obtain ⟨x, i, a, r, e0, hq⟩ := nt_aia_some hs
  clear hs
  subst e0
  have hs := hq
  obtain ⟨⟨hvn, hkk⟩, hs⟩ := nt_if_some hs
  obtain ⟨ha, hk, hin, hs⟩ := nt_in_some hs
  cases hs
  exact ⟨⟨hv.1, nt_vs_t (nt_vs_t (nt_vs_t hv.2.1)), nt_vm_sR hv.2.2 (Or.inl hvn)⟩, Nat.le_refl _, Nat.le_refl _⟩
theorem nt_v_arraylength  {X : nt_X} {mi g t pc : Nat} {ls : nt_V} {st : List Value} {M : nt_M} {x' : nt_C} (hs : nt_sx X mi g t .arraylength pc ls st M = some x') (hv : nt_vd (pc, ls, st, M)) : nt_kp M x' := by
  obtain ⟨a, r, e0, hq⟩ := nt_a1_some hs
  clear hs
  subst e0
  have hs := hq
  by_cases ea : a = nt_sp
  · rw [if_pos ea] at hs
    cases hs
    exact ⟨⟨hv.1, nt_vs_c (nt_vv_i _ _) (nt_vs_t hv.2.1), hv.2.2⟩, Nat.le_refl _, Nat.le_refl _⟩
  · rw [if_neg ea] at hs
    obtain ⟨hc, hs⟩ := nt_if_some hs
    cases hs
    exact ⟨⟨hv.1, nt_vs_c (nt_vv_i _ _) (nt_vs_t hv.2.1), hv.2.2⟩, Nat.le_refl _, Nat.le_refl _⟩
theorem nt_v_newarray {ty : ArrayType} {X : nt_X} {mi g t pc : Nat} {ls : nt_V} {st : List Value} {M : nt_M} {x' : nt_C} (hs : nt_sx X mi g t (.newarray ty) pc ls st M = some x') (hv : nt_vd (pc, ls, st, M)) : nt_kp M x' := by
  obtain ⟨n, r, e0, hq⟩ := nt_i1_some hs
  clear hs
  subst e0
  have hs := hq
  obtain ⟨hc, hs⟩ := nt_if_some hs
  cases hs
  exact ⟨⟨fun q hq => nt_vv_up (Nat.le_succ _) (hv.1 q hq), nt_vs_c (nt_vv_r (Or.inl (Nat.lt_succ_self _))) (fun v h => nt_vv_up (Nat.le_succ _) (nt_vs_t hv.2.1 v h)), nt_vm_nw hv.2.2⟩, Nat.le_succ _, Nat.le_add_right _ _⟩
theorem nt_v_anewarray {i : Nat} {X : nt_X} {mi g t pc : Nat} {ls : nt_V} {st : List Value} {M : nt_M} {x' : nt_C} (hs : nt_sx X mi g t (.anewarray i) pc ls st M = some x') (hv : nt_vd (pc, ls, st, M)) : nt_kp M x' := by
  obtain ⟨n, r, e0, hq⟩ := nt_i1_some hs
  clear hs
  subst e0
  have hs := hq
  obtain ⟨hc, hs⟩ := nt_if_some hs
  cases hs
  exact ⟨⟨fun q hq => nt_vv_up (Nat.le_succ _) (hv.1 q hq), nt_vs_c (nt_vv_r (Or.inl (Nat.lt_succ_self _))) (fun v h => nt_vv_up (Nat.le_succ _) (nt_vs_t hv.2.1 v h)), nt_vm_nw hv.2.2⟩, Nat.le_succ _, Nat.le_add_right _ _⟩
theorem nt_v_new {i : Nat} {X : nt_X} {mi g t pc : Nat} {ls : nt_V} {st : List Value} {M : nt_M} {x' : nt_C} (hs : nt_sx X mi g t (.new i) pc ls st M = some x') (hv : nt_vd (pc, ls, st, M)) : nt_kp M x' := by
  obtain ⟨hc, hs⟩ := nt_if_some hs
  cases hs
  exact ⟨⟨fun q hq => nt_vv_up (Nat.le_succ _) (hv.1 q hq), nt_vs_c (nt_vv_r (Or.inl (Nat.lt_succ_self _))) (fun v h => nt_vv_up (Nat.le_succ _) (hv.2.1 v h)), nt_vm_nw hv.2.2⟩, Nat.le_succ _, Nat.le_add_right _ _⟩
