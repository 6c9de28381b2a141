/-! the instructions that read, write and make cells -/
def nt_vv (n : Nat) (v : Value) : Prop := ∀ b, v = .ref b → nt_vl n b
def nt_vm (M : nt_M) : Prop := (∀ a j b, nt_R M a j = some b → nt_vl (nt_n M) b) ∧ ∀ a, nt_k M a = 15 → ∀ j, fits .boolean (.int (nt_I M a j)) = true
def nt_vd (x : nt_C) : Prop := (∀ q ∈ x.2.1, nt_vv (nt_n x.2.2.2) q.2) ∧ (∀ v ∈ x.2.2.1, nt_vv (nt_n x.2.2.2) v) ∧ nt_vm x.2.2.2
theorem nt_tys_at {cy : Nat → ClassId} {k : Nat} (h : 12 ≤ k) (h2 : k < 18) : ∃ ty, (nt_tys cy)[k - 12]? = some (cy k, ty) := by
  rcases (by omega : k = 12 ∨ k = 13 ∨ k = 14 ∨ k = 15 ∨ k = 16 ∨ k = 17) with rfl | rfl | rfl | rfl | rfl | rfl <;> exact ⟨_, rfl⟩
theorem nt_E_arr {cy : Nat → ClassId} {ad : Nat → Nat} {M : nt_M} {a : Nat} (h : 12 ≤ nt_k M a) (h2 : nt_k M a < 18) : ∃ z, nt_E cy ad M a = .inl (cy (nt_k M a), nt_l M a, z) := by
  by_cases h3 : 16 ≤ nt_k M a
  · exact ⟨_, nt_E_a h3⟩
  · by_cases h4 : nt_k M a = 14
    · exact ⟨_, nt_E_j h4⟩
    · exact ⟨_, nt_E_i (by omega)⟩
theorem nt_tv_ext {ad ad' : Nat → Nat} {n : Nat} {v : Value} (h : nt_vv n v) (he : ∀ k, nt_vl n k → ad' k = ad k) : nt_tv ad' v = nt_tv ad v := by
  cases v with
  | ref b => show Value.ref (ad' b) = Value.ref (ad b); rw [he b (h b rfl)]
  | _ => rfl
theorem nt_st_ext {ad ad' : Nat → Nat} {n : Nat} {st : List Value} (h : ∀ v ∈ st, nt_vv n v) (he : ∀ k, nt_vl n k → ad' k = ad k) : st.map (nt_tv ad') = st.map (nt_tv ad) :=
  List.map_congr_left (fun v hv => nt_tv_ext (h v hv) he)
theorem nt_ls_ext {ad ad' : Nat → Nat} {n : Nat} {ls : nt_V} (h : ∀ q ∈ ls, nt_vv n q.2) (he : ∀ k, nt_vl n k → ad' k = ad k) : ls.map (nt_tq ad') = ls.map (nt_tq ad) :=
  List.map_congr_left (fun q hq => by show (q.1, nt_tv ad' q.2) = (q.1, nt_tv ad q.2); rw [nt_tv_ext (h q hq) he])
theorem nt_E_ext {cy : Nat → ClassId} {ad ad' : Nat → Nat} {M : nt_M} {a : Nat} (hv : nt_vm M) (he : ∀ k, nt_vl (nt_n M) k → ad' k = ad k) : nt_E cy ad' M a = nt_E cy ad M a := by
  have e : ∀ j, (nt_R M a j).map ad' = (nt_R M a j).map ad := fun j => by
    cases hr : nt_R M a j with
    | none => rfl
    | some b => show some (ad' b) = some (ad b); rw [he b (hv.1 a j b hr)]
  unfold nt_E nt_fs
  have e2 : ∀ c, nt_F ad' M a c = nt_F ad M a c := fun c => by
    funext j
    unfold nt_F
    rw [e]
  rw [e2]
  have e3 : (fun j => (nt_R M a j).map ad') = (fun j => (nt_R M a j).map ad) := funext e
  rw [e3]
theorem nt_nw_k {M : nt_M} {kd len sl b : Nat} (h : b ≠ nt_n M) : nt_k (nt_nw M kd len sl) b = nt_k M b := if_neg h
theorem nt_nw_l {M : nt_M} {kd len sl b : Nat} (h : b ≠ nt_n M) : nt_l (nt_nw M kd len sl) b = nt_l M b := if_neg h
theorem nt_nw_I {M : nt_M} {kd len sl b : Nat} (h : b ≠ nt_n M) : nt_I (nt_nw M kd len sl) b = nt_I M b := if_neg h
theorem nt_nw_J {M : nt_M} {kd len sl b : Nat} (h : b ≠ nt_n M) : nt_J (nt_nw M kd len sl) b = nt_J M b := if_neg h
theorem nt_nw_R {M : nt_M} {kd len sl b : Nat} (h : b ≠ nt_n M) : nt_R (nt_nw M kd len sl) b = nt_R M b := if_neg h
theorem nt_nw_k0 {M : nt_M} {kd len sl : Nat} : nt_k (nt_nw M kd len sl) (nt_n M) = kd := if_pos rfl
theorem nt_nw_l0 {M : nt_M} {kd len sl : Nat} : nt_l (nt_nw M kd len sl) (nt_n M) = len := if_pos rfl
theorem nt_nw_I0 {M : nt_M} {kd len sl : Nat} : nt_I (nt_nw M kd len sl) (nt_n M) = fun _ => 0 := if_pos rfl
theorem nt_nw_J0 {M : nt_M} {kd len sl : Nat} : nt_J (nt_nw M kd len sl) (nt_n M) = fun _ => 0 := if_pos rfl
theorem nt_nw_R0 {M : nt_M} {kd len sl : Nat} : nt_R (nt_nw M kd len sl) (nt_n M) = fun _ => none := if_pos rfl
/-- the world behind a new cell -/
theorem nt_w_nw {cy : Nat → ClassId} {ad : Nat → Nat} {M : nt_M} {kd len sl q : Nat} (hv : nt_vm M) (hn : nt_n M < nt_sp) : nt_w cy (nt_u1 ad (nt_n M) q) (nt_nw M kd len sl) = nt_w cy ad M ++ [(q, nt_E cy (nt_u1 ad (nt_n M) q) (nt_nw M kd len sl) (nt_n M))] := by
  have he : ∀ k, nt_vl (nt_n M) k → nt_u1 ad (nt_n M) q k = ad k := fun k hk => if_neg (by rcases hk with h | h <;> omega)
  have e1 : nt_w cy (nt_u1 ad (nt_n M) q) (nt_nw M kd len sl) = (List.range (nt_n M + 1)).map (fun a => (nt_u1 ad (nt_n M) q a, nt_E cy (nt_u1 ad (nt_n M) q) (nt_nw M kd len sl) a)) := rfl
  rw [e1, List.range_succ, List.map_append]
  have e2 : (List.range (nt_n M)).map (fun a => (nt_u1 ad (nt_n M) q a, nt_E cy (nt_u1 ad (nt_n M) q) (nt_nw M kd len sl) a)) = nt_w cy ad M := by
    unfold nt_w
    refine List.map_congr_left (fun a ha => ?_)
    have hlt : a < nt_n M := List.mem_range.mp ha
    have hne : a ≠ nt_n M := Nat.ne_of_lt hlt
    rw [he a (Or.inl hlt), nt_E_eq (nt_nw_k hne) (nt_nw_l hne) (nt_nw_I hne) (nt_nw_J hne) (nt_nw_R hne), nt_E_ext hv he]
  rw [e2]
  show nt_w cy ad M ++ [(nt_u1 ad (nt_n M) q (nt_n M), _)] = _
  rw [show nt_u1 ad (nt_n M) q (nt_n M) = q from if_pos rfl]
theorem nt_ki {own ix g : Nat} {q : Nat × Nat × Int32 × Nat} (h : nt_KI[g]? = some q) (h2 : (Nat.beq q.1 own && Nat.beq q.2.1 ix) = true) : Cond.constant (nt_RN own) ix q.2.2.1 ∈ nt_ws := by
  rw [Bool.and_eq_true] at h2
  have e1 := Nat.eq_of_beq_eq_true h2.1
  have e2 := Nat.eq_of_beq_eq_true h2.2
  subst e1; subst e2
  exact nt_wat_in (List.all_eq_true.mp nt_KI_ok q (List.mem_of_getElem? h))
theorem nt_kl {own ix g : Nat} {q : Nat × Nat × Int64 × Nat} (h : nt_KL[g]? = some q) (h2 : (Nat.beq q.1 own && Nat.beq q.2.1 ix) = true) : Cond.constantLong (nt_RN own) ix q.2.2.1 ∈ nt_ws := by
  rw [Bool.and_eq_true] at h2
  have e1 := Nat.eq_of_beq_eq_true h2.1
  have e2 := Nat.eq_of_beq_eq_true h2.2
  subst e1; subst e2
  exact nt_wat_in (List.all_eq_true.mp nt_KL_ok q (List.mem_of_getElem? h))
section NTC
variable {p : Program} {l : Launch} {e : Env} {R : Room} {s : State} {m : MethodId} {args : Array Value} {below : List Frame} {meth : Method} {c : Code} {mi n0 z0 : Nat} {D : va_G} {cy ad0 adV : Nat → Nat} {X : nt_X} {A : Nat → Prop} {Q : State → Prop} {g t pc : Nat} {ls : nt_V} {st : List Value} {M : nt_M} {x' : nt_C}
theorem nt_q_ldc {i : Nat} (C0 : nt_At p s m args meth c mi D cy ad0 adV X A) (hE : nt_okE mi (pc, .ldc i, g, t) = true) (hs : nt_sx X mi g t (.ldc i) pc ls st M = some x') (kk : nt_Wd p l e R s m args below meth c mi n0 z0 D cy ad0 A Q x') : nt_Wd p l e R s m args below meth c mi n0 z0 D cy ad0 A Q (pc, ls, st, M) := by
  obtain ⟨hx, hb, hml, hown, hts, hA, hinit, hret, hlocks, hAm⟩ := C0
  have hR := nt_okE_R hE
  simp only [nt_sx] at hs
  simp only [nt_okR] at hR
  by_cases hg : g < 1000
  · rw [if_pos hg] at hs hR
    cases hq : nt_KI[g]? with
    | none => rw [hq] at hs; cases hs
    | some q =>
      rw [hq] at hs hR
      cases hs
      intro ad lsA H locs h1 hl hP hD hS
      exact lv_ldc hx hb hown (hts _ (nt_ki hq hR)) (nt_dec hE rfl) (kk ad lsA H locs h1 hl hP hD hS)
  · rw [if_neg hg] at hs hR
    cases hq : nt_SR[g - 1000]? with
    | none => rw [hq] at hs; cases hs
    | some q =>
      rw [hq] at hs hR
      cases hs
      have hR : (Nat.beq q.1 (nt_m mi).2.2.2.2.1 && Nat.beq q.2.1 i) = true := hR
      rw [Bool.and_eq_true] at hR
      have e1 := Nat.eq_of_beq_eq_true hR.1
      have e2 := Nat.eq_of_beq_eq_true hR.2
      intro ad lsA H locs h1 hl hP hD hS
      have hz := hAm.2.2.2.2.2.2.2.1 q (List.mem_of_getElem? hq)
      rw [e1, e2] at hz
      have kk := kk ad lsA H locs h1 hl hP hD hS
      have e3 : ad (nt_sp + 1 + q.2.2.1) = ad0 (nt_sp + 1 + q.2.2.1) := h1 _ (Or.inr (by omega))
      have kk : W p l e R s m args below meth c H locs (nt_n M - n0) (nt_z M - z0) Q (F0 m (pc + 2) lsA (.ref (ad (nt_sp + 1 + q.2.2.1)) :: st.map (nt_tv ad))) := kk
      rw [e3] at kk
      exact va_ldcS hx hb hown hz (nt_dec hE rfl) kk
theorem nt_q_ldc_w {i : Nat} (C0 : nt_At p s m args meth c mi D cy ad0 adV X A) (hE : nt_okE mi (pc, .ldc_w i, g, t) = true) (hs : nt_sx X mi g t (.ldc_w i) pc ls st M = some x') (kk : nt_Wd p l e R s m args below meth c mi n0 z0 D cy ad0 A Q x') : nt_Wd p l e R s m args below meth c mi n0 z0 D cy ad0 A Q (pc, ls, st, M) := by
  obtain ⟨hx, hb, hml, hown, hts, hA, hinit, hret, hlocks, hAm⟩ := C0
  have hR := nt_okE_R hE
  have hs : (match nt_KI[g]? with | some q => some (pc + 3, ls, Value.int q.2.2.1 :: st, M) | none => none) = some x' := hs
  have hR : (match nt_KI[g]? with | some q => Nat.beq q.1 (nt_m mi).2.2.2.2.1 && Nat.beq q.2.1 i | none => false) = true := hR
  cases hq : nt_KI[g]? with
  | none => rw [hq] at hs; cases hs
  | some q =>
    rw [hq] at hs hR
    cases hs
    intro ad lsA H locs h1 hl hP hD hS
    exact lv_ldcw hx hb hown (hts _ (nt_ki hq hR)) (nt_dec hE rfl) (kk ad lsA H locs h1 hl hP hD hS)
theorem nt_q_ldc2_w {i : Nat} (C0 : nt_At p s m args meth c mi D cy ad0 adV X A) (hE : nt_okE mi (pc, .ldc2_w i, g, t) = true) (hs : nt_sx X mi g t (.ldc2_w i) pc ls st M = some x') (kk : nt_Wd p l e R s m args below meth c mi n0 z0 D cy ad0 A Q x') : nt_Wd p l e R s m args below meth c mi n0 z0 D cy ad0 A Q (pc, ls, st, M) := by
  obtain ⟨hx, hb, hml, hown, hts, hA, hinit, hret, hlocks, hAm⟩ := C0
  have hR := nt_okE_R hE
  have hs : (match nt_KL[g]? with | some q => some (pc + 3, ls, Value.long q.2.2.1 :: st, M) | none => none) = some x' := hs
  have hR : (match nt_KL[g]? with | some q => Nat.beq q.1 (nt_m mi).2.2.2.2.1 && Nat.beq q.2.1 i | none => false) = true := hR
  cases hq : nt_KL[g]? with
  | none => rw [hq] at hs; cases hs
  | some q =>
    rw [hq] at hs hR
    cases hs
    intro ad lsA H locs h1 hl hP hD hS
    exact lv_ldc2 hx hb hown (hts _ (nt_kl hq hR)) (nt_dec hE rfl) (kk ad lsA H locs h1 hl hP hD hS)
theorem nt_q_getfield {i : Nat} (C0 : nt_At p s m args meth c mi D cy ad0 adV X A) (hE : nt_okE mi (pc, .getfield i, g, t) = true) (hs : nt_sx X mi g t (.getfield i) pc ls st M = some x') (kk : nt_Wd p l e R s m args below meth c mi n0 z0 D cy ad0 A Q x') : nt_Wd p l e R s m args below meth c mi n0 z0 D cy ad0 A Q (pc, ls, st, M) := by
  obtain ⟨hx, hb, hml, hown, hts, hA, hinit, hret, hlocks, hAm⟩ := C0
  obtain ⟨a, r, rfl, hs⟩ := nt_a1_some hs
  obtain ⟨⟨ha, hk, hc, hj⟩, hs⟩ := nt_if_some hs
  cases hs
  intro ad lsA H locs h1 hl hP hD hS
  have he := nt_w_get (cy := cy) (ad := ad) ha
  rw [nt_E_o hk hc] at he
  obtain ⟨f1, f2, f3, f4, f5, f6, f7⟩ := nt_cf hc
  have hv := nt_fs_get (ad := ad) (M := M) (a := a) hj
  rw [← nt_tv_gf] at hv
  exact va_get hx hb hts f1 hown hAm.1 hP a he (nt_cl_get hc) (g % 100) hj (hts _ (nt_fl (nt_okE_R hE))) (fun x hx => by rw [f3 _ hj] at hx; exact hx) hv (nt_dec hE rfl) (kk ad lsA H locs h1 hl hP hD hS)
theorem nt_put {i a : Nat} {v : Value} {rest : List Value} {M' : nt_M} {cells slots : Nat} (C0 : nt_At p s m args meth c mi D cy ad0 adV X A) (hE : nt_okE mi (pc, .putfield i, g, t) = true) (ha : a < nt_n M) (hk : nt_k M a = g / 100) (hc : g / 100 < 12) (hj : g % 100 < nt_N (g / 100)) (hf : (nt_T (g / 100) (g % 100)).2.2.2 = false ∨ (nt_m mi).2.2.2.2.2.2.1 = 2 ∧ (nt_m mi).2.2.2.2.1 = g / 100) {ad : Nat → Nat} (hw : nt_w cy ad M' = (nt_w cy ad M).set a (ad a, .inr (g / 100, (nt_fs ad M a (g / 100)).set (g % 100) v))) (hn : narrow (nt_ty (g / 100) (g % 100)) v = v) (hfit : fits (nt_ty (g / 100) (g % 100)) v = true) {lsA : Array Slot} {H : Heap} {locs : List Loc} (hP : va_P D nt_cl (nt_w cy ad M) H) (hD : va_D A (nt_w cy ad M)) (hS : va_S A s.heap H locs)
    (kk : ∀ (H1 : Heap) (locs1 : List Loc), va_P D nt_cl (nt_w cy ad M') H1 → va_D A (nt_w cy ad M') → va_S A s.heap H1 locs1 → W p l e R s m args below meth c H1 locs1 cells slots Q (F0 m (pc + 3) lsA rest)) : W p l e R s m args below meth c H locs cells slots Q (F0 m pc lsA (v :: .ref (ad a) :: rest)) := by
  obtain ⟨hx, hb, hml, hown, hts, hA, hinit, hret, hlocks, hAm⟩ := C0
  have he := nt_w_get (cy := cy) (ad := ad) ha
  rw [nt_E_o hk hc] at he
  obtain ⟨f1, f2, f3, f4, f5, f6, f7⟩ := nt_cf hc
  have hsame : ∀ x, s.fieldFound? (nt_T (g / 100) (g % 100)).1 (nt_T (g / 100) (g % 100)).2.1 (nt_T (g / 100) (g % 100)).2.2.1 = some x → s.fieldFound? (nt_RN (g / 100)) (nt_T (g / 100) (g % 100)).2.1 (nt_T (g / 100) (g % 100)).2.2.1 = some x := fun x hx => by rw [f3 _ hj] at hx; exact hx
  have hlink := hts _ (nt_fl (nt_okE_R hE))
  by_cases hfin : (nt_T (g / 100) (g % 100)).2.2.2 = false
  · exact va_put hx hb hts f1 (nt_ty (g / 100)) f2 f5 hown hAm.1 hP hD hS a he (nt_cl_get hc) (g % 100) hj hlink hsame hfin (f2 _ hj) hn hfit (by rw [nt_fs_len]; exact hj) (nt_dec hE rfl) (fun H1 locs1 hP1 hD1 hS1 => kk H1 locs1 (by rw [hw]; exact hP1) (by rw [hw]; exact hD1) hS1)
  · have hf2 := hf.resolve_left hfin
    have hfin2 : (nt_T (g / 100) (g % 100)).2.2.2 = true := by
      cases hz : (nt_T (g / 100) (g % 100)).2.2.2 with
      | true => rfl
      | false => exact absurd hz hfin
    exact va_putF hx hb hts f1 (nt_ty (g / 100)) f2 f5 hown hAm.1 hP hD hS a he (nt_cl_get hc) (g % 100) hj hlink hsame hfin2 (hinit hf2.1) (by rw [f3 _ hj, hf2.2]) (f2 _ hj) hn hfit (by rw [nt_fs_len]; exact hj) (nt_dec hE rfl) (fun H1 locs1 hP1 hD1 hS1 => kk H1 locs1 (by rw [hw]; exact hP1) (by rw [hw]; exact hD1) hS1)
end NTC
theorem nt_pf_some {M : nt_M} {a c j : Nat} {v : Value} {k : nt_M → Option nt_C} {z : nt_C} (h : nt_pf M a c j v k = some z) :
    (∃ x, nt_tg c j = 0 ∧ v = .int x ∧ k (nt_sI M a j x) = some z) ∨ (∃ x, nt_tg c j = 1 ∧ v = .long x ∧ k (nt_sJ M a j x) = some z) ∨ (∃ b, nt_tg c j = 2 ∧ v = .ref b ∧ k (nt_sR M a j (some b)) = some z) ∨ (∃ x, nt_tg c j = 3 ∧ v = .int x ∧ (x = 0 ∨ x = 1) ∧ k (nt_sI M a j x) = some z) := by
  unfold nt_pf at h
  split at h
  · rename_i e
    exact Or.inl ⟨_, e, rfl, h⟩
  · rename_i e
    exact Or.inr (Or.inl ⟨_, e, rfl, h⟩)
  · rename_i e
    exact Or.inr (Or.inr (Or.inl ⟨_, e, rfl, h⟩))
  · rename_i e
    obtain ⟨h1, h2⟩ := nt_if_some h
    exact Or.inr (Or.inr (Or.inr ⟨_, e, rfl, h1, h2⟩))
  · cases h
theorem nt_tg0 {c j : Nat} (h : nt_tgok (nt_tg c j) (nt_ty c j) = true) (e : nt_tg c j = 0) : nt_ty c j = .int := by rw [e] at h; exact of_decide_eq_true h
theorem nt_tg1 {c j : Nat} (h : nt_tgok (nt_tg c j) (nt_ty c j) = true) (e : nt_tg c j = 1) : nt_ty c j = .long := by rw [e] at h; exact of_decide_eq_true h
theorem nt_tg3 {c j : Nat} (h : nt_tgok (nt_tg c j) (nt_ty c j) = true) (e : nt_tg c j = 3) : nt_ty c j = .boolean := by rw [e] at h; exact of_decide_eq_true h
theorem nt_tg2 {c j : Nat} (h : nt_tgok (nt_tg c j) (nt_ty c j) = true) (e : nt_tg c j = 2) (a : Nat) : narrow (nt_ty c j) (.ref a) = .ref a ∧ fits (nt_ty c j) (.ref a) = true := by
  rw [e] at h
  have h : nt_isR (nt_ty c j) = true := h
  cases ht : nt_ty c j with
  | object C => exact ⟨rfl, rfl⟩
  | array C => exact ⟨rfl, rfl⟩
  | _ => rw [ht] at h; cases h
theorem nt_wp_I {cy : Nat → ClassId} {ad : Nat → Nat} {M : nt_M} {a c j : Nat} {x : Int32} (hk : nt_k M a = c) (hc : c < 12) (ht : nt_tg c j = 0 ∨ nt_tg c j = 3) : nt_w cy ad (nt_sI M a j x) = (nt_w cy ad M).set a (ad a, .inr (c, (nt_fs ad M a c).set j (.int x))) := by
  rw [nt_w_sI, nt_E_o (show nt_k (nt_sI M a j x) a = c from hk) hc]
  rw [nt_fs_set (M := M) (M' := nt_sI M a j x) (j := j) (v := .int x) (fun i hi => by
    unfold nt_F
    rw [nt_sI_I, if_pos rfl, if_neg hi]
    rfl) (by
    unfold nt_F
    rw [nt_sI_I, if_pos rfl, if_pos rfl]
    rcases ht with e | e <;> rw [e] <;> rfl)]
theorem nt_wp_J {cy : Nat → ClassId} {ad : Nat → Nat} {M : nt_M} {a c j : Nat} {x : Int64} (hk : nt_k M a = c) (hc : c < 12) (ht : nt_tg c j = 1) : nt_w cy ad (nt_sJ M a j x) = (nt_w cy ad M).set a (ad a, .inr (c, (nt_fs ad M a c).set j (.long x))) := by
  rw [nt_w_sJ, nt_E_o (show nt_k (nt_sJ M a j x) a = c from hk) hc]
  rw [nt_fs_set (M := M) (M' := nt_sJ M a j x) (j := j) (v := .long x) (fun i hi => by
    unfold nt_F
    rw [nt_sJ_J, if_pos rfl, if_neg hi]
    rfl) (by
    unfold nt_F
    rw [nt_sJ_J, if_pos rfl, if_pos rfl, ht]
    rfl)]
theorem nt_wp_R {cy : Nat → ClassId} {ad : Nat → Nat} {M : nt_M} {a c j b : Nat} (hk : nt_k M a = c) (hc : c < 12) (ht : nt_tg c j = 2) : nt_w cy ad (nt_sR M a j (some b)) = (nt_w cy ad M).set a (ad a, .inr (c, (nt_fs ad M a c).set j (.ref (ad b)))) := by
  rw [nt_w_sR, nt_E_o (show nt_k (nt_sR M a j (some b)) a = c from hk) hc]
  rw [nt_fs_set (M := M) (M' := nt_sR M a j (some b)) (j := j) (v := .ref (ad b)) (fun i hi => by
    unfold nt_F
    rw [nt_sR_R, if_pos rfl, if_neg hi]
    rfl) (by
    unfold nt_F
    rw [nt_sR_R, if_pos rfl, if_pos rfl, ht]
    rfl)]
