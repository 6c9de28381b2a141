/-! a run looks at its locals by their numbers alone: fewer, in any order, are enough -/
def nt_sb : nt_V → nt_V → Prop
  | [], _ => True
  | q :: t, l => nt_lk l q.1 = some q.2 ∧ nt_sb t l
def nt_nk : nt_V → Bool
  | [] => true
  | q :: t => (t.all fun r => !(Nat.beq r.1 q.1)) && nt_nk t
/-- what is read of the first is read of the second -/
def nt_le (a b : nt_V) : Prop := nt_nk a = true ∧ ∀ i v, nt_lk a i = some v → nt_lk b i = some v
theorem nt_lk_mem : ∀ {l : nt_V} {i : Nat} {v : Value}, nt_lk l i = some v → (i, v) ∈ l
  | [], i, v, h => by cases h
  | q :: t, i, v, h => by
    unfold nt_lk at h
    by_cases e : q.1 = i
    · rw [if_pos e] at h
      cases h
      subst e
      exact List.mem_cons_self
    · rw [if_neg e] at h
      exact List.mem_cons_of_mem _ (nt_lk_mem h)
theorem nt_lk_of : ∀ {l : nt_V} {i : Nat} {v : Value}, nt_nk l = true → (i, v) ∈ l → nt_lk l i = some v
  | [], i, v, _, h => by cases h
  | q :: t, i, v, hn, h => by
    unfold nt_nk at hn
    rw [Bool.and_eq_true, List.all_eq_true] at hn
    unfold nt_lk
    rcases List.mem_cons.mp h with e | e
    · rw [← e, if_pos rfl]
    · have h1 := hn.1 (i, v) e
      rw [if_neg (fun q => by rw [q] at h1; simp at h1)]
      exact nt_lk_of hn.2 e
theorem nt_sb_le : ∀ {a b : nt_V}, nt_sb a b → ∀ q ∈ a, nt_lk b q.1 = some q.2
  | [], _, _, q, h => by cases h
  | p :: t, b, hs, q, h => by
    rcases List.mem_cons.mp h with e | e
    · rw [e]; exact hs.1
    · exact nt_sb_le hs.2 q e
theorem nt_le_of {a b : nt_V} (hn : nt_nk a = true) (hs : nt_sb a b) : nt_le a b := ⟨hn, fun i v h => nt_sb_le hs (i, v) (nt_lk_mem h)⟩
theorem nt_nk_filter {p : Nat × Value → Bool} : ∀ {l : nt_V}, nt_nk l = true → nt_nk (l.filter p) = true
  | [], _ => rfl
  | q :: t, h => by
    unfold nt_nk at h
    rw [Bool.and_eq_true, List.all_eq_true] at h
    rw [List.filter_cons]
    split
    · unfold nt_nk
      rw [Bool.and_eq_true, List.all_eq_true]
      exact ⟨fun r hr => h.1 r (List.mem_filter.mp hr).1, nt_nk_filter h.2⟩
    · exact nt_nk_filter h.2
theorem nt_lk_filter {p : Nat × Value → Bool} : ∀ {l : nt_V} {i : Nat} {v : Value}, nt_lk l i = some v → p (i, v) = true → nt_lk (l.filter p) i = some v
  | [], i, v, h, _ => by cases h
  | q :: t, i, v, h, hp => by
    unfold nt_lk at h
    by_cases e : q.1 = i
    · rw [if_pos e] at h
      cases h
      subst e
      rw [List.filter_cons, if_pos hp]
      unfold nt_lk
      rw [if_pos rfl]
    · rw [if_neg e] at h
      rw [List.filter_cons]
      split
      · unfold nt_lk
        rw [if_neg e]
        exact nt_lk_filter h hp
      · exact nt_lk_filter h hp
theorem nt_le_put {a b : nt_V} {i : Nat} {v : Value} {p : Nat × Value → Bool} (hp : ∀ w, p (i, w) = false) (h : nt_le a b) : nt_le ((i, v) :: a.filter p) ((i, v) :: b.filter p) := by
  refine ⟨?_, fun j w hj => ?_⟩
  · unfold nt_nk
    rw [Bool.and_eq_true, List.all_eq_true]
    refine ⟨fun r hr => ?_, nt_nk_filter h.1⟩
    have h2 := (List.mem_filter.mp hr).2
    cases hb : Nat.beq r.1 i with
    | false => rfl
    | true =>
      have e := Nat.eq_of_beq_eq_true hb
      have h3 := hp r.2
      rw [← e] at h3
      rw [h3] at h2
      cases h2
  · unfold nt_lk at hj ⊢
    by_cases e : i = j
    · rw [if_pos e] at hj ⊢
      exact hj
    · rw [if_neg e] at hj ⊢
      have hm := List.mem_filter.mp (nt_lk_mem hj)
      exact nt_lk_filter (h.2 j w (nt_lk_of h.1 hm.1)) hm.2
theorem nt_le_s1 {a b : nt_V} {i : Nat} {v : Value} (h : nt_le a b) : nt_le (nt_s1 a i v) (nt_s1 b i v) := nt_le_put (fun w => by simp) h
theorem nt_le_s2 {a b : nt_V} {i : Nat} {v : Value} (h : nt_le a b) : nt_le (nt_s2 a i v) (nt_s2 b i v) := nt_le_put (fun w => by simp) h
/-- a step with fewer locals is one with more -/
def nt_ws1 (X : nt_X) (mi g t : Nat) (ins : Instr) : Prop := ∀ (pc : Nat) (a b : nt_V) (st : List Value) (M : nt_M) (c : nt_C), nt_le a b → nt_sx X mi g t ins pc a st M = some c → ∃ b', nt_le c.2.1 b' ∧ nt_sx X mi g t ins pc b st M = some (c.1, b', c.2.2)
theorem nt_o_aconst_null {X : nt_X} {mi g t : Nat}  : nt_ws1 X mi g t .aconst_null := by
  intro pc a b st M c h hs
  cases hs
  exact ⟨b, h, rfl⟩
theorem nt_o_iconst {X : nt_X} {mi g t : Nat} {n : Int} : nt_ws1 X mi g t (.iconst n) := by
  intro pc a b st M c h hs
  cases hs
  exact ⟨b, h, rfl⟩
theorem nt_o_bipush {X : nt_X} {mi g t : Nat} {n : Int} : nt_ws1 X mi g t (.bipush n) := by
  intro pc a b st M c h hs
  cases hs
  exact ⟨b, h, rfl⟩
theorem nt_o_sipush {X : nt_X} {mi g t : Nat} {n : Int} : nt_ws1 X mi g t (.sipush n) := by
  intro pc a b st M c h hs
  cases hs
  exact ⟨b, h, rfl⟩
theorem nt_o_lconst {X : nt_X} {mi g t : Nat} {n : Fin 2} : nt_ws1 X mi g t (.lconst n) := by
  intro pc a b st M c h hs
  cases hs
  exact ⟨b, h, rfl⟩
theorem nt_o_goto {X : nt_X} {mi g t : Nat} {n : Int} : nt_ws1 X mi g t (.goto n) := by
  intro pc a b st M c h hs
  cases hs
  exact ⟨b, h, rfl⟩
theorem nt_o_ldc {X : nt_X} {mi g t : Nat} {i : Nat} : nt_ws1 X mi g t (.ldc i) := by
  intro pc a b st M c h hs
  simp only [nt_sx] at hs ⊢
  split at hs
  · rename_i hg
    rw [if_pos hg]
    split at hs
    · cases hs
      exact ⟨b, h, rfl⟩
    · cases hs
  · rename_i hg
    rw [if_neg hg]
    split at hs
    · cases hs
      exact ⟨b, h, rfl⟩
    · cases hs
theorem nt_o_ldc_w {X : nt_X} {mi g t : Nat} {i : Nat} : nt_ws1 X mi g t (.ldc_w i) := by
  intro pc a b st M c h hs
  simp only [nt_sx] at hs ⊢
  split at hs
  · cases hs
    exact ⟨b, h, rfl⟩
  · cases hs
theorem nt_o_ldc2_w {X : nt_X} {mi g t : Nat} {i : Nat} : nt_ws1 X mi g t (.ldc2_w i) := by
  intro pc a b st M c h hs
  simp only [nt_sx] at hs ⊢
  split at hs
  · cases hs
    exact ⟨b, h, rfl⟩
  · cases hs
theorem nt_o_iload {X : nt_X} {mi g t : Nat} {i : Nat} : nt_ws1 X mi g t (.iload i) := by
  intro pc a b st M c h hs
  obtain ⟨x, hk, hs⟩ := nt_lkI_some hs
  cases hs
  refine ⟨b, h, ?_⟩
  have hb := h.2 _ _ hk
  show nt_lkI b i _ = _
  unfold nt_lkI
  rw [hb]
theorem nt_o_iload_n {X : nt_X} {mi g t : Nat} {i : Fin 4} : nt_ws1 X mi g t (.iload_n i) := by
  intro pc a b st M c h hs
  obtain ⟨x, hk, hs⟩ := nt_lkI_some hs
  cases hs
  refine ⟨b, h, ?_⟩
  have hb := h.2 _ _ hk
  show nt_lkI b i _ = _
  unfold nt_lkI
  rw [hb]
theorem nt_o_lload {X : nt_X} {mi g t : Nat} {i : Nat} : nt_ws1 X mi g t (.lload i) := by
  intro pc a b st M c h hs
  obtain ⟨x, hk, hs⟩ := nt_lkJ_some hs
  cases hs
  refine ⟨b, h, ?_⟩
  have hb := h.2 _ _ hk
  show nt_lkJ b i _ = _
  unfold nt_lkJ
  rw [hb]
theorem nt_o_lload_n {X : nt_X} {mi g t : Nat} {i : Fin 4} : nt_ws1 X mi g t (.lload_n i) := by
  intro pc a b st M c h hs
  obtain ⟨x, hk, hs⟩ := nt_lkJ_some hs
  cases hs
  refine ⟨b, h, ?_⟩
  have hb := h.2 _ _ hk
  show nt_lkJ b i _ = _
  unfold nt_lkJ
  rw [hb]
theorem nt_o_aload {X : nt_X} {mi g t : Nat} {i : Nat} : nt_ws1 X mi g t (.aload i) := by
  intro pc a b st M c h hs
  have hs : nt_lkA a i (fun x => some (pc + 2, a, x :: st, M)) = some c := hs
  rcases nt_lkA_some hs with ⟨x, hk, hq⟩ | ⟨hk, hq⟩
  · cases hq
    refine ⟨b, h, ?_⟩
    have hb := h.2 _ _ hk
    show nt_lkA b i (fun x => some (pc + 2, b, x :: st, M)) = _
    unfold nt_lkA
    rw [hb]
  · cases hq
    refine ⟨b, h, ?_⟩
    have hb := h.2 _ _ hk
    show nt_lkA b i (fun x => some (pc + 2, b, x :: st, M)) = _
    unfold nt_lkA
    rw [hb]
theorem nt_o_aload_n {X : nt_X} {mi g t : Nat} {i : Fin 4} : nt_ws1 X mi g t (.aload_n i) := by
  intro pc a b st M c h hs
  have hs : nt_lkA a i (fun x => some (pc + 1, a, x :: st, M)) = some c := hs
  rcases nt_lkA_some hs with ⟨x, hk, hq⟩ | ⟨hk, hq⟩
  · cases hq
    refine ⟨b, h, ?_⟩
    have hb := h.2 _ _ hk
    show nt_lkA b i (fun x => some (pc + 1, b, x :: st, M)) = _
    unfold nt_lkA
    rw [hb]
  · cases hq
    refine ⟨b, h, ?_⟩
    have hb := h.2 _ _ hk
    show nt_lkA b i (fun x => some (pc + 1, b, x :: st, M)) = _
    unfold nt_lkA
    rw [hb]
theorem nt_o_istore {X : nt_X} {mi g t : Nat} {i : Nat} : nt_ws1 X mi g t (.istore i) := by
  intro pc a b st M c h hs
  obtain ⟨x, r, e0, hq⟩ := nt_i1_some hs
  clear hs
  subst e0
  cases hq
  exact ⟨_, nt_le_s1 h, rfl⟩
theorem nt_o_istore_n {X : nt_X} {mi g t : Nat} {i : Fin 4} : nt_ws1 X mi g t (.istore_n i) := by
  intro pc a b st M c h hs
  obtain ⟨x, r, e0, hq⟩ := nt_i1_some hs
  clear hs
  subst e0
  cases hq
  exact ⟨_, nt_le_s1 h, rfl⟩
theorem nt_o_lstore {X : nt_X} {mi g t : Nat} {i : Nat} : nt_ws1 X mi g t (.lstore i) := by
  intro pc a b st M c h hs
  obtain ⟨x, r, e0, hq⟩ := nt_j1_some hs
  clear hs
  subst e0
  cases hq
  exact ⟨_, nt_le_s2 h, rfl⟩
theorem nt_o_lstore_n {X : nt_X} {mi g t : Nat} {i : Fin 4} : nt_ws1 X mi g t (.lstore_n i) := by
  intro pc a b st M c h hs
  obtain ⟨x, r, e0, hq⟩ := nt_j1_some hs
  clear hs
  subst e0
  cases hq
  exact ⟨_, nt_le_s2 h, rfl⟩
theorem nt_o_astore {X : nt_X} {mi g t : Nat} {i : Nat} : nt_ws1 X mi g t (.astore i) := by
  intro pc a b st M c h hs
  have hs : nt_stA st (fun x r => some (pc + 2, nt_s1 a i x, r, M)) = some c := hs
  rcases nt_stA_some hs with ⟨x, r, e0, hq⟩ | ⟨r, e0, hq⟩
  · clear hs
    subst e0
    cases hq
    exact ⟨_, nt_le_s1 h, rfl⟩
  · clear hs
    subst e0
    cases hq
    exact ⟨_, nt_le_s1 h, rfl⟩
theorem nt_o_astore_n {X : nt_X} {mi g t : Nat} {i : Fin 4} : nt_ws1 X mi g t (.astore_n i) := by
  intro pc a b st M c h hs
  have hs : nt_stA st (fun x r => some (pc + 1, nt_s1 a i x, r, M)) = some c := hs
  rcases nt_stA_some hs with ⟨x, r, e0, hq⟩ | ⟨r, e0, hq⟩
  · clear hs
    subst e0
    cases hq
    exact ⟨_, nt_le_s1 h, rfl⟩
  · clear hs
    subst e0
    cases hq
    exact ⟨_, nt_le_s1 h, rfl⟩
theorem nt_o_iinc {X : nt_X} {mi g t : Nat} {i : Nat} {n : Int} : nt_ws1 X mi g t (.iinc i n) := by
  intro pc a b st M c h hs
  obtain ⟨x, hk, hs⟩ := nt_lkI_some hs
  cases hs
  refine ⟨_, nt_le_s1 h, ?_⟩
  have hb := h.2 _ _ hk
  show nt_lkI b i _ = _
  unfold nt_lkI
  rw [hb]
theorem nt_o_iadd {X : nt_X} {mi g t : Nat}  : nt_ws1 X mi g t .iadd := by
  intro pc a b st M c h hs
  obtain ⟨x, y, r, e0, hq⟩ := nt_i2_some hs
  clear hs
  subst e0
  cases hq
  exact ⟨b, h, rfl⟩
theorem nt_o_isub {X : nt_X} {mi g t : Nat}  : nt_ws1 X mi g t .isub := by
  intro pc a b st M c h hs
  obtain ⟨x, y, r, e0, hq⟩ := nt_i2_some hs
  clear hs
  subst e0
  cases hq
  exact ⟨b, h, rfl⟩
theorem nt_o_imul {X : nt_X} {mi g t : Nat}  : nt_ws1 X mi g t .imul := by
  intro pc a b st M c h hs
  obtain ⟨x, y, r, e0, hq⟩ := nt_i2_some hs
  clear hs
  subst e0
  cases hq
  exact ⟨b, h, rfl⟩
theorem nt_o_iand {X : nt_X} {mi g t : Nat}  : nt_ws1 X mi g t .iand := by
  intro pc a b st M c h hs
  obtain ⟨x, y, r, e0, hq⟩ := nt_i2_some hs
  clear hs
  subst e0
  cases hq
  exact ⟨b, h, rfl⟩
theorem nt_o_ior {X : nt_X} {mi g t : Nat}  : nt_ws1 X mi g t .ior := by
  intro pc a b st M c h hs
  obtain ⟨x, y, r, e0, hq⟩ := nt_i2_some hs
  clear hs
  subst e0
  cases hq
  exact ⟨b, h, rfl⟩
theorem nt_o_ishl {X : nt_X} {mi g t : Nat}  : nt_ws1 X mi g t .ishl := by
  intro pc a b st M c h hs
  obtain ⟨x, y, r, e0, hq⟩ := nt_i2_some hs
  clear hs
  subst e0
  cases hq
  exact ⟨b, h, rfl⟩
theorem nt_o_ishr {X : nt_X} {mi g t : Nat}  : nt_ws1 X mi g t .ishr := by
  intro pc a b st M c h hs
  obtain ⟨x, y, r, e0, hq⟩ := nt_i2_some hs
  clear hs
  subst e0
  cases hq
  exact ⟨b, h, rfl⟩
theorem nt_o_iushr {X : nt_X} {mi g t : Nat}  : nt_ws1 X mi g t .iushr := by
  intro pc a b st M c h hs
  obtain ⟨x, y, r, e0, hq⟩ := nt_i2_some hs
  clear hs
  subst e0
  cases hq
  exact ⟨b, h, rfl⟩
theorem nt_o_ladd {X : nt_X} {mi g t : Nat}  : nt_ws1 X mi g t .ladd := by
  intro pc a b st M c h hs
  obtain ⟨x, y, r, e0, hq⟩ := nt_j2_some hs
  clear hs
  subst e0
  cases hq
  exact ⟨b, h, rfl⟩
theorem nt_o_lsub {X : nt_X} {mi g t : Nat}  : nt_ws1 X mi g t .lsub := by
  intro pc a b st M c h hs
  obtain ⟨x, y, r, e0, hq⟩ := nt_j2_some hs
  clear hs
  subst e0
  cases hq
  exact ⟨b, h, rfl⟩
theorem nt_o_lmul {X : nt_X} {mi g t : Nat}  : nt_ws1 X mi g t .lmul := by
  intro pc a b st M c h hs
  obtain ⟨x, y, r, e0, hq⟩ := nt_j2_some hs
  clear hs
  subst e0
  cases hq
  exact ⟨b, h, rfl⟩
theorem nt_o_land {X : nt_X} {mi g t : Nat}  : nt_ws1 X mi g t .land := by
  intro pc a b st M c h hs
  obtain ⟨x, y, r, e0, hq⟩ := nt_j2_some hs
  clear hs
  subst e0
  cases hq
  exact ⟨b, h, rfl⟩
theorem nt_o_lor {X : nt_X} {mi g t : Nat}  : nt_ws1 X mi g t .lor := by
  intro pc a b st M c h hs
  obtain ⟨x, y, r, e0, hq⟩ := nt_j2_some hs
  clear hs
  subst e0
  cases hq
  exact ⟨b, h, rfl⟩
theorem nt_o_lcmp {X : nt_X} {mi g t : Nat}  : nt_ws1 X mi g t .lcmp := by
  intro pc a b st M c h hs
  obtain ⟨x, y, r, e0, hq⟩ := nt_j2_some hs
  clear hs
  subst e0
  cases hq
  exact ⟨b, h, rfl⟩
theorem nt_o_idiv {X : nt_X} {mi g t : Nat}  : nt_ws1 X mi g t .idiv := by
  intro pc a b st M c h hs
  obtain ⟨x, y, r, e0, hq⟩ := nt_i2_some hs
  clear hs
  subst e0
  obtain ⟨h0, hq⟩ := nt_ifn_some hq
  cases hq
  exact ⟨b, h, if_neg h0⟩
theorem nt_o_irem {X : nt_X} {mi g t : Nat}  : nt_ws1 X mi g t .irem := by
  intro pc a b st M c h hs
  obtain ⟨x, y, r, e0, hq⟩ := nt_i2_some hs
  clear hs
  subst e0
  obtain ⟨h0, hq⟩ := nt_ifn_some hq
  cases hq
  exact ⟨b, h, if_neg h0⟩
theorem nt_o_ldiv {X : nt_X} {mi g t : Nat}  : nt_ws1 X mi g t .ldiv := by
  intro pc a b st M c h hs
  obtain ⟨x, y, r, e0, hq⟩ := nt_j2_some hs
  clear hs
  subst e0
  obtain ⟨h0, hq⟩ := nt_ifn_some hq
  cases hq
  exact ⟨b, h, if_neg h0⟩
theorem nt_o_lrem {X : nt_X} {mi g t : Nat}  : nt_ws1 X mi g t .lrem := by
  intro pc a b st M c h hs
  obtain ⟨x, y, r, e0, hq⟩ := nt_j2_some hs
  clear hs
  subst e0
  obtain ⟨h0, hq⟩ := nt_ifn_some hq
  cases hq
  exact ⟨b, h, if_neg h0⟩
theorem nt_o_i2l {X : nt_X} {mi g t : Nat}  : nt_ws1 X mi g t .i2l := by
  intro pc a b st M c h hs
  obtain ⟨x, r, e0, hq⟩ := nt_i1_some hs
  clear hs
  subst e0
  cases hq
  exact ⟨b, h, rfl⟩
theorem nt_o_l2i {X : nt_X} {mi g t : Nat}  : nt_ws1 X mi g t .l2i := by
  intro pc a b st M c h hs
  obtain ⟨x, r, e0, hq⟩ := nt_j1_some hs
  clear hs
  subst e0
  cases hq
  exact ⟨b, h, rfl⟩
theorem nt_o_i2b {X : nt_X} {mi g t : Nat}  : nt_ws1 X mi g t .i2b := by
  intro pc a b st M c h hs
  obtain ⟨x, r, e0, hq⟩ := nt_i1_some hs
  clear hs
  subst e0
  cases hq
  exact ⟨b, h, rfl⟩
theorem nt_o_lshl {X : nt_X} {mi g t : Nat}  : nt_ws1 X mi g t .lshl := by
  intro pc a b st M c h hs
  simp only [nt_sx] at hs ⊢
  split at hs
  · cases hs
    exact ⟨b, h, rfl⟩
  · cases hs
theorem nt_o_dup {X : nt_X} {mi g t : Nat}  : nt_ws1 X mi g t .dup := by
  intro pc a b st M c h hs
  simp only [nt_sx] at hs ⊢
  split at hs
  · obtain ⟨hc, hs⟩ := nt_if_some hs
    cases hs
    exact ⟨b, h, if_pos hc⟩
  · cases hs
theorem nt_o_pop {X : nt_X} {mi g t : Nat}  : nt_ws1 X mi g t .pop := by
  intro pc a b st M c h hs
  simp only [nt_sx] at hs ⊢
  split at hs
  · obtain ⟨hc, hs⟩ := nt_if_some hs
    cases hs
    exact ⟨b, h, if_pos hc⟩
  · cases hs
theorem nt_o_dup2 {X : nt_X} {mi g t : Nat}  : nt_ws1 X mi g t .dup2 := by
  intro pc a b st M c h hs
  simp only [nt_sx] at hs ⊢
  split at hs
  · obtain ⟨hc, hs⟩ := nt_if_some hs
    cases hs
    exact ⟨b, h, if_pos hc⟩
  · cases hs
theorem nt_o_if_eq {X : nt_X} {mi g t : Nat} {n : Int} : nt_ws1 X mi g t (.ifCond .eq n) := by
  intro pc a b st M c h hs
  obtain ⟨x, r, e0, hq⟩ := nt_i1_some hs
  clear hs
  subst e0
  cases hq
  exact ⟨b, h, rfl⟩
theorem nt_o_icmp_eq {X : nt_X} {mi g t : Nat} {n : Int} : nt_ws1 X mi g t (.if_icmp .eq n) := by
  intro pc a b st M c h hs
  obtain ⟨x, y, r, e0, hq⟩ := nt_i2_some hs
  clear hs
  subst e0
  cases hq
  exact ⟨b, h, rfl⟩
theorem nt_o_if_ne {X : nt_X} {mi g t : Nat} {n : Int} : nt_ws1 X mi g t (.ifCond .ne n) := by
  intro pc a b st M c h hs
  obtain ⟨x, r, e0, hq⟩ := nt_i1_some hs
  clear hs
  subst e0
  cases hq
  exact ⟨b, h, rfl⟩
theorem nt_o_icmp_ne {X : nt_X} {mi g t : Nat} {n : Int} : nt_ws1 X mi g t (.if_icmp .ne n) := by
  intro pc a b st M c h hs
  obtain ⟨x, y, r, e0, hq⟩ := nt_i2_some hs
  clear hs
  subst e0
  cases hq
  exact ⟨b, h, rfl⟩
theorem nt_o_if_lt {X : nt_X} {mi g t : Nat} {n : Int} : nt_ws1 X mi g t (.ifCond .lt n) := by
  intro pc a b st M c h hs
  obtain ⟨x, r, e0, hq⟩ := nt_i1_some hs
  clear hs
  subst e0
  cases hq
  exact ⟨b, h, rfl⟩
theorem nt_o_icmp_lt {X : nt_X} {mi g t : Nat} {n : Int} : nt_ws1 X mi g t (.if_icmp .lt n) := by
  intro pc a b st M c h hs
  obtain ⟨x, y, r, e0, hq⟩ := nt_i2_some hs
  clear hs
  subst e0
  cases hq
  exact ⟨b, h, rfl⟩
theorem nt_o_if_ge {X : nt_X} {mi g t : Nat} {n : Int} : nt_ws1 X mi g t (.ifCond .ge n) := by
  intro pc a b st M c h hs
  obtain ⟨x, r, e0, hq⟩ := nt_i1_some hs
  clear hs
  subst e0
  cases hq
  exact ⟨b, h, rfl⟩
theorem nt_o_icmp_ge {X : nt_X} {mi g t : Nat} {n : Int} : nt_ws1 X mi g t (.if_icmp .ge n) := by
  intro pc a b st M c h hs
  obtain ⟨x, y, r, e0, hq⟩ := nt_i2_some hs
  clear hs
  subst e0
  cases hq
  exact ⟨b, h, rfl⟩
theorem nt_o_if_gt {X : nt_X} {mi g t : Nat} {n : Int} : nt_ws1 X mi g t (.ifCond .gt n) := by
  intro pc a b st M c h hs
  obtain ⟨x, r, e0, hq⟩ := nt_i1_some hs
  clear hs
  subst e0
  cases hq
  exact ⟨b, h, rfl⟩
theorem nt_o_icmp_gt {X : nt_X} {mi g t : Nat} {n : Int} : nt_ws1 X mi g t (.if_icmp .gt n) := by
  intro pc a b st M c h hs
  obtain ⟨x, y, r, e0, hq⟩ := nt_i2_some hs
  clear hs
  subst e0
  cases hq
  exact ⟨b, h, rfl⟩
theorem nt_o_if_le {X : nt_X} {mi g t : Nat} {n : Int} : nt_ws1 X mi g t (.ifCond .le n) := by
  intro pc a b st M c h hs
  obtain ⟨x, r, e0, hq⟩ := nt_i1_some hs
  clear hs
  subst e0
  cases hq
  exact ⟨b, h, rfl⟩
theorem nt_o_icmp_le {X : nt_X} {mi g t : Nat} {n : Int} : nt_ws1 X mi g t (.if_icmp .le n) := by
  intro pc a b st M c h hs
  obtain ⟨x, y, r, e0, hq⟩ := nt_i2_some hs
  clear hs
  subst e0
  cases hq
  exact ⟨b, h, rfl⟩
theorem nt_o_ifnull {X : nt_X} {mi g t : Nat} {n : Int} : nt_ws1 X mi g t (.ifnull n) := by
  intro pc a b st M c h hs
  simp only [nt_sx] at hs ⊢
  split at hs
  · cases hs
    exact ⟨b, h, rfl⟩
  · cases hs
    exact ⟨b, h, rfl⟩
  · cases hs
theorem nt_o_ifnonnull {X : nt_X} {mi g t : Nat} {n : Int} : nt_ws1 X mi g t (.ifnonnull n) := by
  intro pc a b st M c h hs
  simp only [nt_sx] at hs ⊢
  split at hs
  · cases hs
    exact ⟨b, h, rfl⟩
  · cases hs
    exact ⟨b, h, rfl⟩
  · cases hs
theorem nt_o_tableswitch {X : nt_X} {mi g t : Nat} {dflt lo hi : Int} {offs : Array Int} : nt_ws1 X mi g t (.tableswitch dflt lo hi offs) := by
  intro pc a b st M c h hs
  obtain ⟨x, r, e0, hq⟩ := nt_i1_some hs
  clear hs
  subst e0
  have hq : (if x.toInt < lo ∨ hi < x.toInt then nt_jp pc dflt fun q => some (q, a, r, M) else (match offs[(x.toInt - lo).toNat]? with | some off => nt_jp pc off fun q => some (q, a, r, M) | none => none)) = some c := hq
  refine ⟨b, ?_⟩
  show _ ∧ (if x.toInt < lo ∨ hi < x.toInt then nt_jp pc dflt fun q => some (q, b, r, M) else (match offs[(x.toInt - lo).toNat]? with | some off => nt_jp pc off fun q => some (q, b, r, M) | none => none)) = some (c.1, b, c.2.2)
  have key : ∀ off, (nt_jp pc off fun q => some (q, a, r, M)) = some c → nt_le c.2.1 b ∧ (nt_jp pc off fun q => some (q, b, r, M)) = some (c.1, b, c.2.2) := by
    intro off hq
    unfold nt_jp at hq ⊢
    obtain ⟨h1, hq⟩ := nt_if_some hq
    cases hq
    exact ⟨h, if_pos h1⟩
  split at hq
  · rename_i q
    rw [if_pos q]
    exact key _ hq
  · rename_i q
    rw [if_neg q]
    split at hq
    · exact key _ hq
    · cases hq
theorem nt_o_lookupswitch {X : nt_X} {mi g t : Nat} {dflt : Int} {ps : Array (Int × Int)} : nt_ws1 X mi g t (.lookupswitch dflt ps) := by
  intro pc a b st M c h hs
  obtain ⟨x, r, e0, hq⟩ := nt_i1_some hs
  clear hs
  subst e0
  obtain ⟨hp, hq⟩ := nt_if_some hq
  unfold nt_jp at hq
  obtain ⟨h1, hq⟩ := nt_if_some hq
  cases hq
  refine ⟨b, h, ?_⟩
  show (if (ps.toList.zip (ps.toList.drop 1)).all (fun (a, b) => a.1 < b.1) = true then nt_jp pc (Op.lookupswitch.offset ps.toList dflt x.toInt) fun q => some (q, b, r, M) else none) = _
  rw [if_pos hp]
  unfold nt_jp
  rw [if_pos h1]
theorem nt_o_getfield {X : nt_X} {mi g t : Nat} {i : Nat} : nt_ws1 X mi g t (.getfield i) := by
  intro pc a b st M c h hs
  obtain ⟨x, r, e0, hq⟩ := nt_a1_some hs
  clear hs
  subst e0
  obtain ⟨hc, hq⟩ := nt_if_some hq
  cases hq
  exact ⟨b, h, if_pos hc⟩
theorem nt_o_putfield {X : nt_X} {mi g t : Nat} {i : Nat} : nt_ws1 X mi g t (.putfield i) := by
  intro pc a b st M c h hs
  simp only [nt_sx] at hs ⊢
  split at hs
  · obtain ⟨hc, hs⟩ := nt_if_some hs
    refine ⟨b, ?_⟩
    rw [if_pos hc]
    unfold nt_pf at hs ⊢
    split at hs
    · cases hs; exact ⟨h, rfl⟩
    · cases hs; exact ⟨h, rfl⟩
    · cases hs; exact ⟨h, rfl⟩
    · obtain ⟨hz, hs⟩ := nt_if_some hs
      cases hs; exact ⟨h, if_pos hz⟩
    · cases hs
  · cases hs
theorem nt_o_iaload {X : nt_X} {mi g t : Nat}  : nt_ws1 X mi g t .iaload := by
  intro pc a b st M c h hs
  obtain ⟨i, x, r, e0, hq⟩ := nt_ia_some hs
  clear hs
  subst e0
  refine ⟨b, ?_⟩
  show _ ∧ (if x = nt_sp then (if i < 0 ∨ X.1 ≤ i.toNatClampNeg then none else some (pc + 1, b, Value.int (X.2 i.toNatClampNeg) :: r, M)) else nt_in M x 13 i (some (pc + 1, b, .int (nt_I M x i.toNatClampNeg) :: r, M))) = _
  by_cases ea : x = nt_sp
  · rw [if_pos ea] at hq ⊢
    obtain ⟨hin, hq⟩ := nt_ifn_some hq
    cases hq
    exact ⟨h, if_neg hin⟩
  · rw [if_neg ea] at hq ⊢
    unfold nt_in at hq ⊢
    obtain ⟨hin, hq⟩ := nt_if_some hq
    cases hq
    exact ⟨h, if_pos hin⟩
theorem nt_o_baload {X : nt_X} {mi g t : Nat}  : nt_ws1 X mi g t .baload := by
  intro pc a b st M c h hs
  obtain ⟨i, x, r, e0, hq⟩ := nt_ia_some hs
  clear hs
  subst e0
  by_cases ea : nt_k M x = 15
  · rw [if_pos ea] at hq
    unfold nt_in at hq
    obtain ⟨hin, hq⟩ := nt_if_some hq
    cases hq
    exact ⟨b, h, (if_pos ea).trans (if_pos hin)⟩
  · rw [if_neg ea] at hq
    unfold nt_in at hq
    obtain ⟨hin, hq⟩ := nt_if_some hq
    cases hq
    exact ⟨b, h, (if_neg ea).trans (if_pos hin)⟩
theorem nt_o_aaload {X : nt_X} {mi g t : Nat}  : nt_ws1 X mi g t .aaload := by
  intro pc a b st M c h hs
  obtain ⟨i, x, r, e0, hq⟩ := nt_ia_some hs
  clear hs
  subst e0
  by_cases ea : nt_k M x = 17
  · rw [if_pos ea] at hq
    unfold nt_in at hq
    obtain ⟨hin, hq⟩ := nt_if_some hq
    cases hq
    exact ⟨b, h, (if_pos ea).trans (if_pos hin)⟩
  · rw [if_neg ea] at hq
    unfold nt_in at hq
    obtain ⟨hin, hq⟩ := nt_if_some hq
    cases hq
    exact ⟨b, h, (if_neg ea).trans (if_pos hin)⟩
theorem nt_o_bastore {X : nt_X} {mi g t : Nat}  : nt_ws1 X mi g t .bastore := by
  intro pc a b st M c h hs
  obtain ⟨v, i, x, r, e0, hq⟩ := nt_iia_some hs
  clear hs
  subst e0
  by_cases ea : nt_k M x = 15
  · rw [if_pos ea] at hq
    unfold nt_in at hq
    obtain ⟨hin, hq⟩ := nt_if_some hq
    cases hq
    exact ⟨b, h, (if_pos ea).trans (if_pos hin)⟩
  · rw [if_neg ea] at hq
    unfold nt_in at hq
    obtain ⟨hin, hq⟩ := nt_if_some hq
    cases hq
    exact ⟨b, h, (if_neg ea).trans (if_pos hin)⟩
theorem nt_o_laload {X : nt_X} {mi g t : Nat}  : nt_ws1 X mi g t .laload := by
  intro pc a b st M c h hs
  obtain ⟨i, x, r, e0, hq⟩ := nt_ia_some hs
  clear hs
  subst e0
  unfold nt_in at hq
  obtain ⟨hin, hq⟩ := nt_if_some hq
  cases hq
  exact ⟨b, h, if_pos hin⟩
theorem nt_o_iastore {X : nt_X} {mi g t : Nat}  : nt_ws1 X mi g t .iastore := by
  intro pc a b st M c h hs
  obtain ⟨v, i, x, r, e0, hq⟩ := nt_iia_some hs
  clear hs
  subst e0
  unfold nt_in at hq
  obtain ⟨hin, hq⟩ := nt_if_some hq
  cases hq
  exact ⟨b, h, if_pos hin⟩
theorem nt_o_lastore {X : nt_X} {mi g t : Nat}  : nt_ws1 X mi g t .lastore := by
  intro pc a b st M c h hs
  obtain ⟨v, i, x, r, e0, hq⟩ := nt_jia_some hs
  clear hs
  subst e0
  unfold nt_in at hq
  obtain ⟨hin, hq⟩ := nt_if_some hq
  cases hq
  exact ⟨b, h, if_pos hin⟩
theorem nt_o_aastore {X : nt_X} {mi g t : Nat}  : nt_ws1 X mi g t .aastore := by
  intro pc a b st M c h hs
  obtain ⟨v, i, x, r, e0, hq⟩ := nt_aia_some hs
  clear hs
  subst e0
  obtain ⟨hc, hq⟩ := nt_if_some hq
  unfold nt_in at hq
  obtain ⟨hin, hq⟩ := nt_if_some hq
  cases hq
  exact ⟨b, h, (if_pos hc).trans (if_pos hin)⟩
theorem nt_o_arraylength {X : nt_X} {mi g t : Nat}  : nt_ws1 X mi g t .arraylength := by
  intro pc a b st M c h hs
  obtain ⟨x, r, e0, hq⟩ := nt_a1_some hs
  clear hs
  subst e0
  by_cases ea : x = nt_sp
  · rw [if_pos ea] at hq
    cases hq
    exact ⟨b, h, if_pos ea⟩
  · rw [if_neg ea] at hq
    obtain ⟨hin, hq⟩ := nt_if_some hq
    cases hq
    exact ⟨b, h, (if_neg ea).trans (if_pos hin)⟩
theorem nt_o_newarray {X : nt_X} {mi g t : Nat} {ty : ArrayType} : nt_ws1 X mi g t (.newarray ty) := by
  intro pc a b st M c h hs
  obtain ⟨x, r, e0, hq⟩ := nt_i1_some hs
  clear hs
  subst e0
  obtain ⟨hin, hq⟩ := nt_if_some hq
  cases hq
  exact ⟨b, h, if_pos hin⟩
theorem nt_o_anewarray {X : nt_X} {mi g t : Nat} {i : Nat} : nt_ws1 X mi g t (.anewarray i) := by
  intro pc a b st M c h hs
  obtain ⟨x, r, e0, hq⟩ := nt_i1_some hs
  clear hs
  subst e0
  obtain ⟨hin, hq⟩ := nt_if_some hq
  cases hq
  exact ⟨b, h, if_pos hin⟩
theorem nt_o_new {X : nt_X} {mi g t : Nat} {i : Nat} : nt_ws1 X mi g t (.new i) := by
  intro pc a b st M c h hs
  obtain ⟨hin, hq⟩ := nt_if_some hs
  cases hq
  exact ⟨b, h, if_pos hin⟩
set_option maxHeartbeats 4000000 in
theorem nt_o_all {X : nt_X} {mi g t : Nat} (ins : Instr) : nt_ws1 X mi g t ins := by
  cases ins with
  | aconst_null => exact nt_o_aconst_null
  | iconst n => exact nt_o_iconst
  | bipush n => exact nt_o_bipush
  | sipush n => exact nt_o_sipush
  | lconst n => exact nt_o_lconst
  | ldc i => exact nt_o_ldc
  | ldc_w i => exact nt_o_ldc_w
  | ldc2_w i => exact nt_o_ldc2_w
  | iload i => exact nt_o_iload
  | iload_n i => exact nt_o_iload_n
  | lload i => exact nt_o_lload
  | lload_n i => exact nt_o_lload_n
  | aload i => exact nt_o_aload
  | aload_n i => exact nt_o_aload_n
  | istore i => exact nt_o_istore
  | istore_n i => exact nt_o_istore_n
  | lstore i => exact nt_o_lstore
  | lstore_n i => exact nt_o_lstore_n
  | astore i => exact nt_o_astore
  | astore_n i => exact nt_o_astore_n
  | iinc i n => exact nt_o_iinc
  | iadd => exact nt_o_iadd
  | isub => exact nt_o_isub
  | imul => exact nt_o_imul
  | idiv => exact nt_o_idiv
  | irem => exact nt_o_irem
  | iand => exact nt_o_iand
  | ior => exact nt_o_ior
  | ishl => exact nt_o_ishl
  | ishr => exact nt_o_ishr
  | iushr => exact nt_o_iushr
  | ladd => exact nt_o_ladd
  | lsub => exact nt_o_lsub
  | lmul => exact nt_o_lmul
  | ldiv => exact nt_o_ldiv
  | lrem => exact nt_o_lrem
  | land => exact nt_o_land
  | lor => exact nt_o_lor
  | lshl => exact nt_o_lshl
  | lcmp => exact nt_o_lcmp
  | i2l => exact nt_o_i2l
  | l2i => exact nt_o_l2i
  | i2b => exact nt_o_i2b
  | dup => exact nt_o_dup
  | pop => exact nt_o_pop
  | dup2 => exact nt_o_dup2
  | ifnull n => exact nt_o_ifnull
  | ifnonnull n => exact nt_o_ifnonnull
  | goto n => exact nt_o_goto
  | tableswitch a b c0 f0 => exact nt_o_tableswitch
  | lookupswitch a b => exact nt_o_lookupswitch
  | getfield i => exact nt_o_getfield
  | putfield i => exact nt_o_putfield
  | iaload => exact nt_o_iaload
  | baload => exact nt_o_baload
  | laload => exact nt_o_laload
  | aaload => exact nt_o_aaload
  | iastore => exact nt_o_iastore
  | bastore => exact nt_o_bastore
  | lastore => exact nt_o_lastore
  | aastore => exact nt_o_aastore
  | arraylength => exact nt_o_arraylength
  | newarray ty => exact nt_o_newarray
  | anewarray i => exact nt_o_anewarray
  | new i => exact nt_o_new
  | ifCond cnd n =>
    cases cnd with
    | eq => exact nt_o_if_eq
    | ne => exact nt_o_if_ne
    | lt => exact nt_o_if_lt
    | ge => exact nt_o_if_ge
    | gt => exact nt_o_if_gt
    | le => exact nt_o_if_le
  | if_icmp cnd n =>
    cases cnd with
    | eq => exact nt_o_icmp_eq
    | ne => exact nt_o_icmp_ne
    | lt => exact nt_o_icmp_lt
    | ge => exact nt_o_icmp_ge
    | gt => exact nt_o_icmp_gt
    | le => exact nt_o_icmp_le
  | _ => exact fun pc a b st M c h hs => nomatch (show (none : Option nt_C) = some c from hs)
theorem nt_nx_w {d g q pc : Nat} {a b : nt_V} {st : List Value} {M : nt_M} {c : nt_C} (h : nt_le a b) (hs : nt_nx d g q pc a st M = some c) : ∃ b', nt_le c.2.1 b' ∧ nt_nx d g q pc b st M = some (c.1, b', c.2.2) := by
  refine ⟨b, ?_⟩
  unfold nt_nx at hs ⊢
  split at hs
  · rename_i hc
    rw [if_pos hc]
    obtain ⟨x, r, e0, hq⟩ := nt_a1_some hs
    clear hs
    subst e0
    obtain ⟨hin, hq⟩ := nt_if_some hq
    cases hq
    exact ⟨h, if_pos hin⟩
  rename_i hc
  rw [if_neg hc]
  split at hs
  · rename_i hc
    rw [if_pos hc]
    split at hs
    · obtain ⟨hin, hq⟩ := nt_if_some hs
      cases hq
      exact ⟨h, if_pos hin⟩
    · cases hs
  rename_i hc
  rw [if_neg hc]
  split at hs
  · rename_i hc
    rw [if_pos hc]
    obtain ⟨x, y, r, e0, hq⟩ := nt_i2_some hs
    clear hs
    subst e0
    obtain ⟨hin, hq⟩ := nt_if_some hq
    cases hq
    exact ⟨h, if_pos hin⟩
  rename_i hc
  rw [if_neg hc]
  split at hs
  · rename_i hc
    rw [if_pos hc]
    obtain ⟨x, y, r, e0, hq⟩ := nt_i2_some hs
    clear hs
    subst e0
    obtain ⟨hin, hq⟩ := nt_if_some hq
    cases hq
    exact ⟨h, if_pos hin⟩
  rename_i hc
  rw [if_neg hc]
  split at hs
  · rename_i hc
    rw [if_pos hc]
    obtain ⟨x, r, e0, hq⟩ := nt_a1_some hs
    clear hs
    subst e0
    obtain ⟨hin, hq⟩ := nt_if_some hq
    cases hq
    exact ⟨h, if_pos hin⟩
  rename_i hc
  rw [if_neg hc]
  split at hs
  · rename_i hc
    rw [if_pos hc]
    obtain ⟨i, x, r, e0, hq⟩ := nt_ia_some hs
    clear hs
    subst e0
    obtain ⟨hin, hq⟩ := nt_if_some hq
    cases hq
    exact ⟨h, if_pos hin⟩
  · cases hs
theorem nt_ca_w {rec : Nat → Nat → nt_C → Option (Option Value × nt_M)} (hr : ∀ d mi pc a b st M o, nt_le a b → rec d mi (pc, a, st, M) = some o → rec d mi (pc, b, st, M) = some o) {d mi g q pc : Nat} {a b : nt_V} {st : List Value} {M : nt_M} {o : Option Value × nt_M} (hle : nt_le a b) (h : nt_ca rec d mi g q (pc, a, st, M) = some o) : nt_ca rec d mi g q (pc, b, st, M) = some o := by
  unfold nt_ca at h ⊢
  split at h
  · rename_i hg
    rw [if_pos hg]
    split at h
    · rename_i x' e1
      obtain ⟨b', h1, h2⟩ := nt_nx_w hle e1
      have h2 : nt_nx d g q pc b st M = _ := h2
      dsimp only
      rw [h2]
      obtain ⟨pc', a', st', M'⟩ := x'
      exact hr _ _ _ _ _ _ _ _ h1 h
    · cases h
  · rename_i hg
    rw [if_neg hg]
    split at h
    · cases h
    · obtain ⟨hc, h⟩ := nt_if_some h
      rw [if_pos hc]
      split at h
      · rename_i o1 e1
        dsimp only at e1 h ⊢
        rw [e1]
        exact hr _ _ _ _ _ _ _ _ hle h
      · cases h
theorem nt_ex_w (X : nt_X) : ∀ (f d mi pc : Nat) (a b : nt_V) (st : List Value) (M : nt_M) (o : Option Value × nt_M), nt_le a b → nt_ex X f d mi (pc, a, st, M) = some o → nt_ex X f d mi (pc, b, st, M) = some o
  | 0, _, _, _, _, _, _, _, _, _, h => by cases h
  | f + 1, d, mi, pc, a, b, st, M, o, hle, h => by
    unfold nt_ex at h ⊢
    split at h
    · cases h
    · rename_i e he
      have he : nt_at mi pc = some e := he
      show (match nt_at mi pc with
        | none => none
        | some e => nt_ei (nt_ex X f) X d mi e (pc, b, st, M)) = some o
      rw [he]
      show nt_ei (nt_ex X f) X d mi e (pc, b, st, M) = some o
      have IH : ∀ d mi pc a b st M o, nt_le a b → nt_ex X f d mi (pc, a, st, M) = some o → nt_ex X f d mi (pc, b, st, M) = some o := fun d mi pc a b st M o => nt_ex_w X f d mi pc a b st M o
      unfold nt_ei at h ⊢
      split at h
      · exact h
      · exact h
      · exact h
      · exact h
      · exact nt_ca_w IH hle h
      · exact nt_ca_w IH hle h
      · exact nt_ca_w IH hle h
      · split at h
        · rename_i x' hs
          obtain ⟨b', h1, h2⟩ := nt_o_all _ _ _ _ _ _ _ hle hs
          dsimp only at h2 ⊢
          rw [h2]
          obtain ⟨pc', a', st', M'⟩ := x'
          exact IH _ _ _ _ _ _ _ _ h1 h
        · cases h
/-- go on with fewer locals, in another order -/
theorem nt_rn_w {X : nt_X} {d mi pc : Nat} {a b : nt_V} {st : List Value} {M : nt_M} {o : Option Value × nt_M} (hs : nt_sb a b) (hn : nt_nk a = true) (k : nt_rn X d mi (pc, a, st, M) o) : nt_rn X d mi (pc, b, st, M) o := by
  obtain ⟨f, hf⟩ := k
  exact ⟨f, nt_ex_w X f d mi pc a b st M o (nt_le_of hn hs) hf⟩
