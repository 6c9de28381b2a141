/-! the machine follows the small machine -/
set_option maxHeartbeats 4000000 in
theorem nt_sx_all {p : Program} {l : Launch} {e : Env} {R : Room} {s : State} {m : MethodId} {args : Array Value} {below : List Frame} {meth : Method} {c : Code} {mi n0 z0 : Nat} {D : va_G} {cy ad0 adV : Nat → Nat} {X : nt_X} {A : Nat → Prop} {Q : State → Prop} {g t pc : Nat} {ls : nt_V} {st : List Value} {M : nt_M} {x' : nt_C} {ins : Instr} (C0 : nt_At p s m args meth c mi D cy ad0 adV X A) (hE : nt_okE mi (pc, ins, g, t) = true) (hs : nt_sx X mi g t ins pc ls st M = some x') (hv : nt_vd (pc, ls, st, M)) (hn0 : n0 ≤ nt_n M) (hz0 : z0 ≤ nt_z M) (hR : nt_n x'.2.2.2 - n0 ≤ R.cells ∧ nt_z x'.2.2.2 - z0 ≤ R.slots) (kk : nt_Wd p l e R s m args below meth c mi n0 z0 D cy ad0 A Q x') : nt_Wd p l e R s m args below meth c mi n0 z0 D cy ad0 A Q (pc, ls, st, M) := by
  cases ins with
  | aconst_null => exact nt_q_aconst_null C0 hE hs kk
  | iconst n => exact nt_q_iconst C0 hE hs kk
  | bipush n => exact nt_q_bipush C0 hE hs kk
  | sipush n => exact nt_q_sipush C0 hE hs kk
  | lconst n => exact nt_q_lconst C0 hE hs kk
  | ldc i => exact nt_q_ldc C0 hE hs kk
  | ldc_w i => exact nt_q_ldc_w C0 hE hs kk
  | ldc2_w i => exact nt_q_ldc2_w C0 hE hs kk
  | iload i => exact nt_q_iload C0 hE hs kk
  | iload_n i => exact nt_q_iload_n C0 hE hs kk
  | lload i => exact nt_q_lload C0 hE hs kk
  | lload_n i => exact nt_q_lload_n C0 hE hs kk
  | aload i => exact nt_q_aload C0 hE hs kk
  | aload_n i => exact nt_q_aload_n C0 hE hs kk
  | istore i => exact nt_q_istore C0 hE hs kk
  | istore_n i => exact nt_q_istore_n C0 hE hs kk
  | lstore i => exact nt_q_lstore C0 hE hs kk
  | lstore_n i => exact nt_q_lstore_n C0 hE hs kk
  | astore i => exact nt_q_astore C0 hE hs kk
  | astore_n i => exact nt_q_astore_n C0 hE hs kk
  | iinc i n => exact nt_q_iinc C0 hE hs kk
  | iadd => exact nt_q_iadd C0 hE hs kk
  | isub => exact nt_q_isub C0 hE hs kk
  | imul => exact nt_q_imul C0 hE hs kk
  | idiv => exact nt_q_idiv C0 hE hs kk
  | irem => exact nt_q_irem C0 hE hs kk
  | iand => exact nt_q_iand C0 hE hs kk
  | ior => exact nt_q_ior C0 hE hs kk
  | ishl => exact nt_q_ishl C0 hE hs kk
  | ishr => exact nt_q_ishr C0 hE hs kk
  | iushr => exact nt_q_iushr C0 hE hs kk
  | ladd => exact nt_q_ladd C0 hE hs kk
  | lsub => exact nt_q_lsub C0 hE hs kk
  | lmul => exact nt_q_lmul C0 hE hs kk
  | ldiv => exact nt_q_ldiv C0 hE hs kk
  | lrem => exact nt_q_lrem C0 hE hs kk
  | land => exact nt_q_land C0 hE hs kk
  | lor => exact nt_q_lor C0 hE hs kk
  | lshl => exact nt_q_lshl C0 hE hs kk
  | lcmp => exact nt_q_lcmp C0 hE hs kk
  | i2l => exact nt_q_i2l C0 hE hs kk
  | l2i => exact nt_q_l2i C0 hE hs kk
  | i2b => exact nt_q_i2b C0 hE hs kk
  | dup => exact nt_q_dup C0 hE hs kk
  | pop => exact nt_q_pop C0 hE hs kk
  | dup2 => exact nt_q_dup2 C0 hE hs kk
  | ifnull n => exact nt_q_ifnull C0 hE hs kk
  | ifnonnull n => exact nt_q_ifnonnull C0 hE hs kk
  | goto n => exact nt_q_goto C0 hE hs kk
  | tableswitch a b c0 f0 => exact nt_q_tableswitch C0 hE hs kk
  | lookupswitch a b => exact nt_q_lookupswitch C0 hE hs kk
  | getfield i => exact nt_q_getfield C0 hE hs kk
  | putfield i => exact nt_q_putfield C0 hE hs kk
  | iaload => exact nt_q_iaload C0 hE hs kk
  | baload => exact nt_q_baload C0 hE hs kk
  | laload => exact nt_q_laload C0 hE hs kk
  | aaload => exact nt_q_aaload C0 hE hs kk
  | iastore => exact nt_q_iastore C0 hE hs kk
  | bastore => exact nt_q_bastore C0 hE hs kk
  | lastore => exact nt_q_lastore C0 hE hs kk
  | aastore => exact nt_q_aastore C0 hE hs kk
  | arraylength => exact nt_q_arraylength C0 hE hs kk
  | newarray ty => exact nt_q_newarray C0 hE hs hv hn0 hz0 hR kk
  | anewarray i => exact nt_q_anewarray C0 hE hs hv hn0 hz0 hR kk
  | new i => exact nt_q_new C0 hE hs hv hn0 hz0 hR kk
  | ifCond cnd n =>
    cases cnd with
    | eq => exact nt_q_if_eq C0 hE hs kk
    | ne => exact nt_q_if_ne C0 hE hs kk
    | lt => exact nt_q_if_lt C0 hE hs kk
    | ge => exact nt_q_if_ge C0 hE hs kk
    | gt => exact nt_q_if_gt C0 hE hs kk
    | le => exact nt_q_if_le C0 hE hs kk
  | if_icmp cnd n =>
    cases cnd with
    | eq => exact nt_q_icmp_eq C0 hE hs kk
    | ne => exact nt_q_icmp_ne C0 hE hs kk
    | lt => exact nt_q_icmp_lt C0 hE hs kk
    | ge => exact nt_q_icmp_ge C0 hE hs kk
    | gt => exact nt_q_icmp_gt C0 hE hs kk
    | le => exact nt_q_icmp_le C0 hE hs kk
  | _ => exact nomatch (show (none : Option nt_C) = some x' from hs)
set_option maxHeartbeats 4000000 in
theorem nt_v_all {X : nt_X} {mi g t pc : Nat} {ls : nt_V} {st : List Value} {M : nt_M} {x' : nt_C} {ins : Instr} (hs : nt_sx X mi g t ins pc ls st M = some x') (hv : nt_vd (pc, ls, st, M)) : nt_kp M x' := by
  cases ins with
  | aconst_null => exact nt_v_aconst_null hs hv
  | iconst n => exact nt_v_iconst hs hv
  | bipush n => exact nt_v_bipush hs hv
  | sipush n => exact nt_v_sipush hs hv
  | lconst n => exact nt_v_lconst hs hv
  | ldc i => exact nt_v_ldc hs hv
  | ldc_w i => exact nt_v_ldc_w hs hv
  | ldc2_w i => exact nt_v_ldc2_w hs hv
  | iload i => exact nt_v_iload hs hv
  | iload_n i => exact nt_v_iload_n hs hv
  | lload i => exact nt_v_lload hs hv
  | lload_n i => exact nt_v_lload_n hs hv
  | aload i => exact nt_v_aload hs hv
  | aload_n i => exact nt_v_aload_n hs hv
  | istore i => exact nt_v_istore hs hv
  | istore_n i => exact nt_v_istore_n hs hv
  | lstore i => exact nt_v_lstore hs hv
  | lstore_n i => exact nt_v_lstore_n hs hv
  | astore i => exact nt_v_astore hs hv
  | astore_n i => exact nt_v_astore_n hs hv
  | iinc i n => exact nt_v_iinc hs hv
  | iadd => exact nt_v_iadd hs hv
  | isub => exact nt_v_isub hs hv
  | imul => exact nt_v_imul hs hv
  | idiv => exact nt_v_idiv hs hv
  | irem => exact nt_v_irem hs hv
  | iand => exact nt_v_iand hs hv
  | ior => exact nt_v_ior hs hv
  | ishl => exact nt_v_ishl hs hv
  | ishr => exact nt_v_ishr hs hv
  | iushr => exact nt_v_iushr hs hv
  | ladd => exact nt_v_ladd hs hv
  | lsub => exact nt_v_lsub hs hv
  | lmul => exact nt_v_lmul hs hv
  | ldiv => exact nt_v_ldiv hs hv
  | lrem => exact nt_v_lrem hs hv
  | land => exact nt_v_land hs hv
  | lor => exact nt_v_lor hs hv
  | lshl => exact nt_v_lshl hs hv
  | lcmp => exact nt_v_lcmp hs hv
  | i2l => exact nt_v_i2l hs hv
  | l2i => exact nt_v_l2i hs hv
  | i2b => exact nt_v_i2b hs hv
  | dup => exact nt_v_dup hs hv
  | pop => exact nt_v_pop hs hv
  | dup2 => exact nt_v_dup2 hs hv
  | ifnull n => exact nt_v_ifnull hs hv
  | ifnonnull n => exact nt_v_ifnonnull hs hv
  | goto n => exact nt_v_goto hs hv
  | tableswitch a b c0 f0 => exact nt_v_tableswitch hs hv
  | lookupswitch a b => exact nt_v_lookupswitch hs hv
  | getfield i => exact nt_v_getfield hs hv
  | putfield i => exact nt_v_putfield hs hv
  | iaload => exact nt_v_iaload hs hv
  | baload => exact nt_v_baload hs hv
  | laload => exact nt_v_laload hs hv
  | aaload => exact nt_v_aaload hs hv
  | iastore => exact nt_v_iastore hs hv
  | bastore => exact nt_v_bastore hs hv
  | lastore => exact nt_v_lastore hs hv
  | aastore => exact nt_v_aastore hs hv
  | arraylength => exact nt_v_arraylength hs hv
  | newarray ty => exact nt_v_newarray hs hv
  | anewarray i => exact nt_v_anewarray hs hv
  | new i => exact nt_v_new hs hv
  | ifCond cnd n =>
    cases cnd with
    | eq => exact nt_v_if_eq hs hv
    | ne => exact nt_v_if_ne hs hv
    | lt => exact nt_v_if_lt hs hv
    | ge => exact nt_v_if_ge hs hv
    | gt => exact nt_v_if_gt hs hv
    | le => exact nt_v_if_le hs hv
  | if_icmp cnd n =>
    cases cnd with
    | eq => exact nt_v_icmp_eq hs hv
    | ne => exact nt_v_icmp_ne hs hv
    | lt => exact nt_v_icmp_lt hs hv
    | ge => exact nt_v_icmp_ge hs hv
    | gt => exact nt_v_icmp_gt hs hv
    | le => exact nt_v_icmp_le hs hv
  | _ => exact nomatch (show (none : Option nt_C) = some x' from hs)
theorem nt_nx_v {d g q pc : Nat} {ls : nt_V} {st : List Value} {M : nt_M} {x' : nt_C} (hs : nt_nx d g q pc ls st M = some x') (hv : nt_vd (pc, ls, st, M)) : nt_kp M x' := by
  unfold nt_nx at hs
  split at hs
  · obtain ⟨a, r, e0, hq⟩ := nt_a1_some hs
    subst e0
    obtain ⟨hc, hq⟩ := nt_if_some hq
    cases hq
    exact ⟨⟨hv.1, nt_vs_t hv.2.1, hv.2.2⟩, Nat.le_refl _, Nat.le_refl _⟩
  split at hs
  · split at hs
    · obtain ⟨hc, hq⟩ := nt_if_some hs
      cases hq
      exact ⟨⟨hv.1, nt_vs_t (nt_vs_t (nt_vs_t (nt_vs_t (nt_vs_t hv.2.1)))), nt_vm_wI hv.2.2 (fun hk j => by
        unfold va_cpy
        split
        · exact hv.2.2.2 _ (hc.2.2.2.2.1.trans hk) _
        · exact hv.2.2.2 _ hk _)⟩, Nat.le_refl _, Nat.le_refl _⟩
    · cases hs
  split at hs
  · obtain ⟨x, y, r, e0, hq⟩ := nt_i2_some hs
    subst e0
    obtain ⟨hc, hq⟩ := nt_if_some hq
    cases hq
    exact ⟨⟨hv.1, nt_vs_c (nt_vv_i _ _) (nt_vs_t (nt_vs_t hv.2.1)), hv.2.2⟩, Nat.le_refl _, Nat.le_refl _⟩
  split at hs
  · obtain ⟨x, y, r, e0, hq⟩ := nt_i2_some hs
    subst e0
    obtain ⟨hc, hq⟩ := nt_if_some hq
    cases hq
    exact ⟨⟨hv.1, nt_vs_c (nt_vv_i _ _) (nt_vs_t (nt_vs_t hv.2.1)), hv.2.2⟩, Nat.le_refl _, Nat.le_refl _⟩
  split at hs
  · obtain ⟨a, r, e0, hq⟩ := nt_a1_some hs
    subst e0
    obtain ⟨hc, hq⟩ := nt_if_some hq
    cases hq
    exact ⟨⟨hv.1, nt_vs_c (nt_vv_i _ _) (nt_vs_t hv.2.1), hv.2.2⟩, Nat.le_refl _, Nat.le_refl _⟩
  split at hs
  · obtain ⟨i, a, r, e0, hq⟩ := nt_ia_some hs
    subst e0
    obtain ⟨hc, hq⟩ := nt_if_some hq
    cases hq
    exact ⟨⟨hv.1, nt_vs_c (nt_vv_i _ _) (nt_vs_t (nt_vs_t hv.2.1)), hv.2.2⟩, Nat.le_refl _, Nat.le_refl _⟩
  · cases hs
theorem nt_lva (ad : Nat → Nat) : ∀ (vs : List Value) (i : Nat), lv_args i (vs.map (nt_tv ad)) = (lv_args i vs).map (nt_tq ad)
  | [], _ => rfl
  | v :: vs, i => by
    show (i, nt_tv ad v) :: lv_args (if (nt_tv ad v).category = 2 then i + 2 else i + 1) (vs.map (nt_tv ad)) = (i, nt_tv ad v) :: (lv_args (if v.category = 2 then i + 2 else i + 1) vs).map (nt_tq ad)
    rw [nt_tv_cat, nt_lva ad vs]
theorem nt_lsl (ad : Nat → Nat) : ∀ (vs : List Value), (lg_sl (vs.map (nt_tv ad))).length = (lg_sl vs).length
  | [] => rfl
  | v :: vs => by
    have h := nt_lsl ad vs
    unfold lg_sl at h ⊢
    rw [List.map_cons, List.flatMap_cons, List.flatMap_cons, List.length_append, List.length_append, h, nt_tv_cat]
    split <;> rfl
theorem nt_lva_mem : ∀ {vs : List Value} {i : Nat} {q : Nat × Value}, q ∈ lv_args i vs → q.2 ∈ vs
  | [], _, _, h => by cases h
  | v :: vs, i, q, h => by
    rcases List.mem_cons.mp h with e | e
    · rw [e]; exact List.mem_cons_self
    · exact List.mem_cons_of_mem _ (nt_lva_mem e)
/-- what a call says -/
theorem nt_ca_some {rec : Nat → Nat → nt_C → Option (Option Value × nt_M)} {d mi g q : Nat} {x : nt_C} {o : Option Value × nt_M} (h : nt_ca rec d mi g q x = some o) :
    (∃ x', nt_nx d g q x.1 x.2.1 x.2.2.1 x.2.2.2 = some x' ∧ rec d mi x' = some o) ∨ (∃ (d' k : Nat) (o1 : Option Value × nt_M), d = d' + 1 ∧ g < 239 ∧ (nt_m g).2.2.2.2.2.2.1 = q ∧ (nt_m g).2.2.2.2.2.1 + (if q = 0 then 0 else 1) = k ∧ k ≤ x.2.2.1.length ∧ (lg_sl (x.2.2.1.take k).reverse).length ≤ (nt_m g).2.2.1 ∧ nt_ct (x.2.2.1.drop k) ≤ 8 ∧ (q = 1 → nt_rc x.2.2.2 (nt_m g).2.2.2.2.1 (x.2.2.1.take k).reverse = true) ∧ (q = 2 → nt_rf (x.2.2.1.take k).reverse = true) ∧ rec d' g (0, lv_args 0 (x.2.2.1.take k).reverse, [], x.2.2.2) = some o1 ∧ rec d mi (x.1 + 3, x.2.1, o1.1.toList ++ x.2.2.1.drop k, o1.2) = some o) := by
  unfold nt_ca at h
  split at h
  · split at h
    · rename_i x' e
      exact Or.inl ⟨x', e, h⟩
    · cases h
  · split at h
    · cases h
    · obtain ⟨⟨h1, h2, h3, h4, h5, h6, h7⟩, h⟩ := nt_if_some h
      split at h
      · rename_i o1 e
        exact Or.inr ⟨_, _, o1, rfl, h1, h2, rfl, h3, h4, h5, h6, h7, e, h⟩
      · cases h
theorem nt_re_some {mi : Nat} {ins : Instr} {st : List Value} {M : nt_M} {o : Option Value × nt_M} (h : nt_re mi ins st M = some o) : o.2 = M ∧ ∀ v, o.1 = some v → v ∈ st := by
  unfold nt_re at h
  split at h
  · cases h; exact ⟨rfl, fun v e => by cases e; exact List.mem_cons_self⟩
  · obtain ⟨-, h⟩ := nt_if_some h
    cases h; exact ⟨rfl, fun v e => by cases e; exact List.mem_cons_self⟩
  · cases h; exact ⟨rfl, fun v e => by cases e; exact List.mem_cons_self⟩
  · cases h; exact ⟨rfl, fun v e => by cases e; exact List.mem_cons_self⟩
  · cases h; exact ⟨rfl, fun v e => by cases e; exact List.mem_cons_self⟩
  · cases h; exact ⟨rfl, fun v e => by cases e; exact List.mem_cons_self⟩
  · cases h; exact ⟨rfl, fun v e => by cases e⟩
  · cases h
def nt_kr (M : nt_M) (o : Option Value × nt_M) : Prop := nt_vm o.2 ∧ (∀ v, o.1 = some v → nt_vv (nt_n o.2) v) ∧ nt_n M ≤ nt_n o.2 ∧ nt_z M ≤ nt_z o.2
theorem nt_ei_cases {rec : Nat → Nat → nt_C → Option (Option Value × nt_M)} {X : nt_X} {d mi : Nat} {e : Nat × Instr × Nat × Nat} {x : nt_C} {o : Option Value × nt_M} (h : nt_ei rec X d mi e x = some o) :
    (nt_re mi e.2.1 x.2.2.1 x.2.2.2 = some o ∧ nt_len e.2.1 = 1 ∧ nt_sw e.2.1 = false) ∨ (∃ i q, e.2.1 = nt_iv q i ∧ q < 3 ∧ nt_ca rec d mi e.2.2.1 q x = some o) ∨ (∃ x', nt_sx X mi e.2.2.1 e.2.2.2 e.2.1 x.1 x.2.1 x.2.2.1 x.2.2.2 = some x' ∧ rec d mi x' = some o) := by
  unfold nt_ei at h
  split at h
  · rename_i q; rw [q]; exact Or.inl ⟨h, rfl, rfl⟩
  · rename_i q; rw [q]; exact Or.inl ⟨h, rfl, rfl⟩
  · rename_i q; rw [q]; exact Or.inl ⟨h, rfl, rfl⟩
  · rename_i q; rw [q]; exact Or.inl ⟨h, rfl, rfl⟩
  · rename_i i q; exact Or.inr (Or.inl ⟨i, 1, q, by omega, h⟩)
  · rename_i i q; exact Or.inr (Or.inl ⟨i, 0, q, by omega, h⟩)
  · rename_i i q; exact Or.inr (Or.inl ⟨i, 2, q, by omega, h⟩)
  · split at h
    · rename_i x' q
      exact Or.inr (Or.inr ⟨x', q, h⟩)
    · cases h
theorem nt_rt {o : Option Value} {n : Nat} {r : List Value} (h : ∀ v, o = some v → nt_vv n v) (hr : ∀ v ∈ r, nt_vv n v) : ∀ v ∈ o.toList ++ r, nt_vv n v := fun v hv => by
  rcases List.mem_append.mp hv with q | q
  · cases o with
    | none => cases q
    | some z => exact h v (by rw [List.mem_singleton.mp q])
  · exact hr v q
/-- a run keeps the references good, and makes cells only -/
theorem nt_ex_v (X : nt_X) : ∀ (f d mi : Nat) (x : nt_C) (o : Option Value × nt_M), nt_ex X f d mi x = some o → nt_vd x → nt_kr x.2.2.2 o
  | 0, _, _, _, _, h, _ => by cases h
  | f + 1, d, mi, x, o, h, hv => by
    unfold nt_ex at h
    split at h
    · cases h
    · rename_i e he
      rcases nt_ei_cases h with ⟨h, -, -⟩ | ⟨i, q, -, -, h⟩ | ⟨x', hs, h⟩
      · obtain ⟨e1, e2⟩ := nt_re_some h
        exact ⟨by rw [e1]; exact hv.2.2, fun v hq => by rw [e1]; exact hv.2.1 v (e2 v hq), by rw [e1]; exact Nat.le_refl _, by rw [e1]; exact Nat.le_refl _⟩
      · rcases nt_ca_some h with ⟨x', hs, h⟩ | ⟨d', k, o1, -, -, -, -, -, -, -, -, -, h1, h2⟩
        · have hk := nt_nx_v hs hv
          have hr := nt_ex_v X f d mi x' o h hk.1
          exact ⟨hr.1, hr.2.1, Nat.le_trans hk.2.1 hr.2.2.1, Nat.le_trans hk.2.2 hr.2.2.2⟩
        · have hv1 : nt_vd (0, lv_args 0 (x.2.2.1.take k).reverse, [], x.2.2.2) := ⟨fun z hz => hv.2.1 _ (List.mem_of_mem_take (List.mem_reverse.mp (nt_lva_mem hz))), fun z hz => (by cases hz), hv.2.2⟩
          have hr1 := nt_ex_v X f d' e.2.2.1 _ o1 h1 hv1
          have hn1 : nt_n x.2.2.2 ≤ nt_n o1.2 := hr1.2.2.1
          have hr := nt_ex_v X f d mi _ o h2 ⟨fun z hz => nt_vv_up hn1 (hv.1 z hz), nt_rt hr1.2.1 (fun z hz => nt_vv_up hn1 (hv.2.1 z (List.mem_of_mem_drop hz))), hr1.1⟩
          exact ⟨hr.1, hr.2.1, Nat.le_trans hn1 hr.2.2.1, Nat.le_trans hr1.2.2.2 hr.2.2.2⟩
      · have hk := nt_v_all (M := x.2.2.2) hs hv
        have hr := nt_ex_v X f d mi x' o h hk.1
        exact ⟨hr.1, hr.2.1, Nat.le_trans hk.2.1 hr.2.2.1, Nat.le_trans hk.2.2 hr.2.2.2⟩
