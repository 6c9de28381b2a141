/-! new cells -/
theorem nt_E_ni {cy ad : Nat → Nat} {M : nt_M} {kd len sl : Nat} (hk : kd = 12 ∨ kd = 13 ∨ kd = 15) : nt_E cy ad (nt_nw M kd len sl) (nt_n M) = .inl (cy kd, len, .inl (fun _ => 0)) := by
  rw [nt_E_i (by rw [nt_nw_k0]; exact hk), nt_nw_k0, nt_nw_l0, nt_nw_I0]
theorem nt_E_nj {cy ad : Nat → Nat} {M : nt_M} {len sl : Nat} : nt_E cy ad (nt_nw M 14 len sl) (nt_n M) = .inl (cy 14, len, .inr (.inl (fun _ => 0))) := by
  rw [nt_E_j nt_nw_k0, nt_nw_k0, nt_nw_l0, nt_nw_J0]
theorem nt_E_na {cy ad : Nat → Nat} {M : nt_M} {kd len sl : Nat} (hk : 16 ≤ kd) : nt_E cy ad (nt_nw M kd len sl) (nt_n M) = .inl (cy kd, len, .inr (.inr (.inr (.inr (fun _ => none))))) := by
  rw [nt_E_a (by rw [nt_nw_k0]; exact hk), nt_nw_k0, nt_nw_l0, nt_nw_R0]
  rfl
theorem nt_fs_new {ad : Nat → Nat} {M : nt_M} {g len sl : Nat} (hg : g < 12) : nt_fs ad (nt_nw M g len sl) (nt_n M) g = (List.range (nt_N g)).map (fun j => defaultValue (nt_ty g j)) := by
  unfold nt_fs
  refine List.map_congr_left (fun j hj => ?_)
  have hok := (nt_cf hg).2.2.2.1 j (List.mem_range.mp hj)
  unfold nt_F
  rw [nt_nw_I0, nt_nw_J0, nt_nw_R0]
  unfold nt_tgok at hok
  split at hok
  · rename_i e
    rw [e, of_decide_eq_true hok]
    rfl
  · rename_i e
    rw [e, of_decide_eq_true hok]
    rfl
  · rename_i e
    rw [e]
    cases ht : nt_ty g j with
    | object C => rfl
    | array C => rfl
    | _ => rw [ht] at hok; cases hok
  · rename_i e
    rw [e, of_decide_eq_true hok]
    rfl
  · cases hok
section NTE
variable {p : Program} {l : Launch} {e : Env} {R : Room} {s : State} {m : MethodId} {args : Array Value} {below : List Frame} {meth : Method} {c : Code} {mi n0 z0 : Nat} {D : va_G} {cy ad0 adV : Nat → Nat} {X : nt_X} {A : Nat → Prop} {Q : State → Prop} {g t pc : Nat} {ls : nt_V} {st : List Value} {M : nt_M} {x' : nt_C}
theorem nt_go_new {kd len sl q pc' : Nat} {ad : Nat → Nat} {lsA : Array Slot} {H1 : Heap} {locs : List Loc} {rest : List Value} (hvl : ∀ q ∈ ls, nt_vv (nt_n M) q.2) (hvr : ∀ v ∈ rest, nt_vv (nt_n M) v) (hvm : nt_vm M) (hn : nt_n M < nt_sp) (hn0 : n0 ≤ nt_n M) (hz0 : z0 ≤ nt_z M) (h1 : ∀ k, nt_vl n0 k → ad k = ad0 k) (hl : lv_has lsA (nt_m mi).2.2.1 (ls.map (nt_tq ad))) (hP : va_P D nt_cl (nt_w cy ad M ++ [(q, nt_E cy (nt_u1 ad (nt_n M) q) (nt_nw M kd len sl) (nt_n M))]) H1) (hD : va_D A (nt_w cy ad M ++ [(q, nt_E cy (nt_u1 ad (nt_n M) q) (nt_nw M kd len sl) (nt_n M))])) (hS : va_S A s.heap H1 locs)
    (kk : nt_Wd p l e R s m args below meth c mi n0 z0 D cy ad0 A Q (pc', ls, .ref (nt_n M) :: rest, nt_nw M kd len sl)) : W p l e R s m args below meth c H1 locs (nt_n M - n0 + 1) (nt_z M - z0 + sl) Q (F0 m pc' lsA (.ref q :: rest.map (nt_tv ad))) := by
  have he : ∀ k, nt_vl (nt_n M) k → nt_u1 ad (nt_n M) q k = ad k := fun k hk => if_neg (by rcases hk with h | h <;> omega)
  have hk := kk (nt_u1 ad (nt_n M) q) lsA H1 locs (fun k hk => by rw [he k (by rcases hk with h | h; exact Or.inl (by omega); exact Or.inr h)]; exact h1 k hk) (by show lv_has lsA _ (ls.map (nt_tq (nt_u1 ad (nt_n M) q))); rw [nt_ls_ext hvl he]; exact hl) (by show va_P D nt_cl (nt_w cy (nt_u1 ad (nt_n M) q) (nt_nw M kd len sl)) H1; rw [nt_w_nw hvm hn]; exact hP) (by show va_D A (nt_w cy (nt_u1 ad (nt_n M) q) (nt_nw M kd len sl)); rw [nt_w_nw hvm hn]; exact hD) hS
  have hk : W p l e R s m args below meth c H1 locs (nt_n M + 1 - n0) (nt_z M + sl - z0) Q (F0 m pc' lsA (.ref (nt_u1 ad (nt_n M) q (nt_n M)) :: rest.map (nt_tv (nt_u1 ad (nt_n M) q)))) := hk
  rw [nt_st_ext hvr he, show nt_u1 ad (nt_n M) q (nt_n M) = q from if_pos rfl, show nt_n M + 1 - n0 = nt_n M - n0 + 1 by omega, show nt_z M + sl - z0 = nt_z M - z0 + sl by omega] at hk
  exact hk
theorem nt_q_newarray {ty : ArrayType} (C0 : nt_At p s m args meth c mi D cy ad0 adV X A) (hE : nt_okE mi (pc, .newarray ty, g, t) = true) (hs : nt_sx X mi g t (.newarray ty) pc ls st M = some x') (hv : nt_vd (pc, ls, st, M)) (hn0 : n0 ≤ nt_n M) (hz0 : z0 ≤ nt_z M) (hR : nt_n x'.2.2.2 - n0 ≤ R.cells ∧ nt_z x'.2.2.2 - z0 ≤ R.slots) (kk : nt_Wd p l e R s m args below meth c mi n0 z0 D cy ad0 A Q x') : nt_Wd p l e R s m args below meth c mi n0 z0 D cy ad0 A Q (pc, ls, st, M) := by
  obtain ⟨hx, hb, hml, hown, hts, hA, hinit, hret, hlocks, hAm⟩ := C0
  obtain ⟨n, r, e0, hq⟩ := nt_i1_some hs
  clear hs
  subst e0
  have hs := hq
  obtain ⟨⟨hk, hn, hneg, hle⟩, hs⟩ := nt_if_some hs
  cases hs
  intro ad lsA H locs h1 hl hP hD hS
  have hc : nt_n M - n0 + 1 ≤ R.cells := by have q : nt_n M + 1 - n0 ≤ R.cells := hR.1; omega
  have hz : nt_z M - z0 + n.toNatClampNeg ≤ R.slots := by have q : nt_z M + n.toNatClampNeg - z0 ≤ R.slots := hR.2; omega
  have hvr : ∀ v ∈ r, nt_vv (nt_n M) v := fun v h => hv.2.1 v (List.mem_cons_of_mem _ h)
  have hsp : nt_sp = 3000 := rfl
  cases ty with
  | int =>
    refine va_newa (atype := .int) hx hb (hts _ nt_ac_int) rfl hAm.1 hP hD hS hA (a0 := (n.toNatClampNeg, .inl (fun _ => 0))) (fun cA => rfl) hneg rfl (by show n.toNatClampNeg * 4 ≤ _; omega) hc hz (nt_dec hE rfl) (fun q cA H1 hK1 hP1 hD1 hS1 => ?_)
    have e1 : s.vm.findClass ("[" ++ FieldType.int.toString) = some cA := (hK1.2 6 (cA, .int) rfl).2
    have e2 : s.vm.findClass ("[" ++ FieldType.int.toString) = some (cy 13) := (hAm.1.2 1 (cy 13, .int) rfl).2
    have e3 : cA = cy 13 := Option.some.inj (e1.symm.trans e2)
    rw [e3] at hP1 hD1
    exact nt_go_new (kd := 13) hv.1 hvr hv.2.2 hn hn0 hz0 h1 hl (by rw [nt_E_ni (Or.inr (Or.inl rfl))]; exact hP1) (by rw [nt_E_ni (Or.inr (Or.inl rfl))]; exact hD1) hS1 kk
  | byte =>
    refine va_newa (atype := .byte) hx hb (hts _ nt_ac_byte) rfl hAm.1 hP hD hS hA (a0 := (n.toNatClampNeg, .inl (fun _ => 0))) (fun cA => rfl) hneg rfl (by show n.toNatClampNeg * 1 ≤ _; omega) hc hz (nt_dec hE rfl) (fun q cA H1 hK1 hP1 hD1 hS1 => ?_)
    have e1 : s.vm.findClass ("[" ++ FieldType.byte.toString) = some cA := (hK1.2 6 (cA, .byte) rfl).2
    have e2 : s.vm.findClass ("[" ++ FieldType.byte.toString) = some (cy 12) := (hAm.1.2 0 (cy 12, .byte) rfl).2
    have e3 : cA = cy 12 := Option.some.inj (e1.symm.trans e2)
    rw [e3] at hP1 hD1
    exact nt_go_new (kd := 12) hv.1 hvr hv.2.2 hn hn0 hz0 h1 hl (by rw [nt_E_ni (Or.inl rfl)]; exact hP1) (by rw [nt_E_ni (Or.inl rfl)]; exact hD1) hS1 kk
  | long =>
    refine va_newa (atype := .long) hx hb (hts _ nt_ac_long) rfl hAm.1 hP hD hS hA (a0 := (n.toNatClampNeg, .inr (.inl (fun _ => 0)))) (fun cA => rfl) hneg rfl (by show n.toNatClampNeg * 8 ≤ _; omega) hc hz (nt_dec hE rfl) (fun q cA H1 hK1 hP1 hD1 hS1 => ?_)
    have e1 : s.vm.findClass ("[" ++ FieldType.long.toString) = some cA := (hK1.2 6 (cA, .long) rfl).2
    have e2 : s.vm.findClass ("[" ++ FieldType.long.toString) = some (cy 14) := (hAm.1.2 2 (cy 14, .long) rfl).2
    have e3 : cA = cy 14 := Option.some.inj (e1.symm.trans e2)
    rw [e3] at hP1 hD1
    exact nt_go_new (kd := 14) hv.1 hvr hv.2.2 hn hn0 hz0 h1 hl (by rw [nt_E_nj]; exact hP1) (by rw [nt_E_nj]; exact hD1) hS1 kk
  | boolean =>
    refine va_newa (atype := .boolean) hx hb (hts _ nt_ac_boolean) rfl hAm.1 hP hD hS hA (a0 := (n.toNatClampNeg, .inl (fun _ => 0))) (fun cA => rfl) hneg rfl (by show n.toNatClampNeg * 1 ≤ _; omega) hc hz (nt_dec hE rfl) (fun q cA H1 hK1 hP1 hD1 hS1 => ?_)
    have e1 : s.vm.findClass ("[" ++ FieldType.boolean.toString) = some cA := (hK1.2 6 (cA, .boolean) rfl).2
    have e2 : s.vm.findClass ("[" ++ FieldType.boolean.toString) = some (cy 15) := (hAm.1.2 3 (cy 15, .boolean) rfl).2
    have e3 : cA = cy 15 := Option.some.inj (e1.symm.trans e2)
    rw [e3] at hP1 hD1
    exact nt_go_new (kd := 15) hv.1 hvr hv.2.2 hn hn0 hz0 h1 hl (by rw [nt_E_ni (Or.inr (Or.inr rfl))]; exact hP1) (by rw [nt_E_ni (Or.inr (Or.inr rfl))]; exact hD1) hS1 kk
  | _ => exact absurd hk (by decide)
theorem nt_q_new {i : Nat} (C0 : nt_At p s m args meth c mi D cy ad0 adV X A) (hE : nt_okE mi (pc, .new i, g, t) = true) (hs : nt_sx X mi g t (.new i) pc ls st M = some x') (hv : nt_vd (pc, ls, st, M)) (hn0 : n0 ≤ nt_n M) (hz0 : z0 ≤ nt_z M) (hR : nt_n x'.2.2.2 - n0 ≤ R.cells ∧ nt_z x'.2.2.2 - z0 ≤ R.slots) (kk : nt_Wd p l e R s m args below meth c mi n0 z0 D cy ad0 A Q x') : nt_Wd p l e R s m args below meth c mi n0 z0 D cy ad0 A Q (pc, ls, st, M) := by
  obtain ⟨hx, hb, hml, hown, hts, hA, hinit, hret, hlocks, hAm⟩ := C0
  obtain ⟨⟨hg, hn⟩, hs⟩ := nt_if_some hs
  cases hs
  intro ad lsA H locs h1 hl hP hD hS
  have hc : nt_n M - n0 + 1 ≤ R.cells := by have q : nt_n M + 1 - n0 ≤ R.cells := hR.1; omega
  have hz : nt_z M - z0 + nt_N g ≤ R.slots := by have q : nt_z M + nt_N g - z0 ≤ R.slots := hR.2; omega
  obtain ⟨f1, f2, f3, f4, f5, f6, f7⟩ := nt_cf hg
  refine va_new (ci := g) (fs := (List.range (nt_N g)).map (fun j => defaultValue (nt_ty g j))) hx hb hts f1 (nt_ty g) f2 hown (hts _ (nt_cll (nt_okE_R hE))) (hts _ f6) (hts _ f7) hAm.1 hP hD hS hA (nt_cl_get hg) (fun j hj => ?_) hc hz (nt_dec hE rfl) (fun q H1 hP1 hD1 hS1 => ?_)
  · unfold vp_V
    rw [List.getD_eq_getElem?_getD, List.getElem?_map, List.getElem?_range hj]
    rfl
  · have e1 : nt_E cy (nt_u1 ad (nt_n M) q) (nt_nw M g 0 (nt_N g)) (nt_n M) = .inr (g, (List.range (nt_N g)).map (fun j => defaultValue (nt_ty g j))) := by
      rw [nt_E_o nt_nw_k0 hg, nt_fs_new hg]
    exact nt_go_new hv.1 hv.2.1 hv.2.2 hn hn0 hz0 h1 hl (by rw [e1]; exact hP1) (by rw [e1]; exact hD1) hS1 kk
theorem nt_q_anewarray {i : Nat} (C0 : nt_At p s m args meth c mi D cy ad0 adV X A) (hE : nt_okE mi (pc, .anewarray i, g, t) = true) (hs : nt_sx X mi g t (.anewarray i) pc ls st M = some x') (hv : nt_vd (pc, ls, st, M)) (hn0 : n0 ≤ nt_n M) (hz0 : z0 ≤ nt_z M) (hR : nt_n x'.2.2.2 - n0 ≤ R.cells ∧ nt_z x'.2.2.2 - z0 ≤ R.slots) (kk : nt_Wd p l e R s m args below meth c mi n0 z0 D cy ad0 A Q x') : nt_Wd p l e R s m args below meth c mi n0 z0 D cy ad0 A Q (pc, ls, st, M) := by
  obtain ⟨hx, hb, hml, hown, hts, hA, hinit, hret, hlocks, hAm⟩ := C0
  obtain ⟨n, r, e0, hq⟩ := nt_i1_some hs
  clear hs
  subst e0
  have hs := hq
  obtain ⟨⟨hk, hn, hneg, hle⟩, hs⟩ := nt_if_some hs
  cases hs
  intro ad lsA H locs h1 hl hP hD hS
  have hc : nt_n M - n0 + 1 ≤ R.cells := by have q : nt_n M + 1 - n0 ≤ R.cells := hR.1; omega
  have hz : nt_z M - z0 + n.toNatClampNeg ≤ R.slots := by have q : nt_z M + n.toNatClampNeg - z0 ≤ R.slots := hR.2; omega
  have hvr : ∀ v ∈ r, nt_vv (nt_n M) v := fun v h => hv.2.1 v (List.mem_cons_of_mem _ h)
  have hsp : nt_sp = 3000 := rfl
  have hlink := hts _ (nt_cll (nt_okE_R hE))
  rcases hk with rfl | rfl
  · refine va_newq hx hb hown hlink hAm.2.2.2.2.2.1 hAm.1 hP hD hS hA hneg rfl (by omega) hc hz (nt_dec hE rfl) (fun q cA H1 hK1 hP1 hD1 hS1 => ?_)
    obtain ⟨k1, c1, -, -, -, e1⟩ : va_RA s cA (.object (nt_RN 4)) := (hK1.2 6 (cA, .object (nt_RN 4)) rfl).2
    obtain ⟨k2, c2, -, -, -, e2⟩ : va_RA s (cy 16) (.object (nt_RN 4)) := (hAm.1.2 4 (cy 16, .object (nt_RN 4)) rfl).2
    have e3 : cA = cy 16 := Option.some.inj (e1.symm.trans e2)
    rw [e3] at hP1 hD1
    exact nt_go_new (kd := 16) hv.1 hvr hv.2.2 hn hn0 hz0 h1 hl (by rw [nt_E_na (by omega)]; exact hP1) (by rw [nt_E_na (by omega)]; exact hD1) hS1 kk
  · refine va_newq hx hb hown hlink hAm.2.2.2.2.2.2.1 hAm.1 hP hD hS hA hneg rfl (by omega) hc hz (nt_dec hE rfl) (fun q cA H1 hK1 hP1 hD1 hS1 => ?_)
    obtain ⟨k1, c1, -, -, -, e1⟩ : va_RA s cA (.object (nt_RN 6)) := (hK1.2 6 (cA, .object (nt_RN 6)) rfl).2
    obtain ⟨k2, c2, -, -, -, e2⟩ : va_RA s (cy 17) (.object (nt_RN 6)) := (hAm.1.2 5 (cy 17, .object (nt_RN 6)) rfl).2
    have e3 : cA = cy 17 := Option.some.inj (e1.symm.trans e2)
    rw [e3] at hP1 hD1
    exact nt_go_new (kd := 17) hv.1 hvr hv.2.2 hn hn0 hz0 h1 hl (by rw [nt_E_na (by omega)]; exact hP1) (by rw [nt_E_na (by omega)]; exact hD1) hS1 kk
end NTE
