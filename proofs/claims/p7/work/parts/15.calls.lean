/-! a call of the small machine is a call of the machine -/
theorem nt_Am_warm {D : va_G} {cy ad0 adV : Nat → Nat} {X : nt_X} {A : Nat → Prop} {s U : State} {H H1 : Heap} (hW : s.WarmedH U.vm) (hle : H.size ≤ H1.size) (hq : ∀ a : Nat, a < H.size → ¬ A a → H1[a]? = H[a]?) (h : nt_Am D cy ad0 adV X A s H) : nt_Am D cy ad0 adV X A U H1 := by
  obtain ⟨a1, a2, a3, a4, a5, a6, a7, a8, a9, a10, a11⟩ := h
  exact ⟨va_K.moved hW.alike a1, (a2.moved hW.alike).kept (hq _ a3 a4), Nat.lt_of_lt_of_le a3 hle, a4, fun e he => (a5 e he).warmM hW, a6.moved hW.alike, a7.moved hW.alike, fun e he => (a8 e he).warm hW, (a9.moved hW.alike).kept hq, (a10.moved hW.alike).kept hq, (a11.moved hW.alike).kept hq⟩
theorem nt_Am_same {D : va_G} {cy ad0 adV : Nat → Nat} {X : nt_X} {A : Nat → Prop} {s U : State} {H : Heap} (hv : U.vm = s.vm) (h : nt_Am D cy ad0 adV X A s H) : nt_Am D cy ad0 adV X A U H := by
  obtain ⟨a1, a2, a3, a4, a5, a6, a7, a8, a9, a10, a11⟩ := h
  have hA : s.vm.Alike U.vm := by rw [hv]; exact Vm.Alike.refl _
  exact ⟨va_K.moved hA a1, a2.moved hA, a3, a4, fun e he => (a5 e he).same rfl hv.symm, a6.moved hA, a7.moved hA, fun e he => (a8 e he).same hv, a9.moved hA, a10.moved hA, a11.moved hA⟩
theorem nt_Am_ad {D : va_G} {cy ad0 ad adV : Nat → Nat} {X : nt_X} {A : Nat → Prop} {s : State} {H : Heap} (he : ∀ k, nt_sp ≤ k → ad k = ad0 k) (h : nt_Am D cy ad0 adV X A s H) : nt_Am D cy ad adV X A s H := by
  obtain ⟨a1, a2, a3, a4, a5, a6, a7, a8, a9, a10, a11⟩ := h
  have e1 : ad nt_sp = ad0 nt_sp := he _ (Nat.le_refl _)
  have e2 : (fun i => ad (nt_sp + 1 + i)) = (fun i => ad0 (nt_sp + 1 + i)) := funext fun i => he _ (by omega)
  exact ⟨a1, by rw [e1]; exact a2, by rw [e1]; exact a3, by rw [e1]; exact a4, a5, a6, a7, fun e h => by rw [he _ (by omega)]; exact a8 e h, by rw [e2]; exact a9, a10, a11⟩
def nt_P0 (D : va_G) (cy ad adV : Nat → Nat) (X : nt_X) (A : Nat → Prop) (vs : List Value) (M : nt_M) : Array Value → State → Prop := fun v U => v = (vs.map (nt_tv ad)).toArray ∧ va_P D nt_cl (nt_w cy ad M) U.heap ∧ va_D A (nt_w cy ad M) ∧ (∀ q : Nat, U.heap.size ≤ q → A q) ∧ nt_Am D cy ad adV X A U U.heap
def nt_Q0 (D : va_G) (cy ad0 : Nat → Nat) (A : Nat → Prop) (n : Nat) (r : Option Value) (M' : nt_M) : Array Value → State → Outcome → State → Prop := fun _ st o t => ∃ ad' : Nat → Nat, (∀ k, nt_vl n k → ad' k = ad0 k) ∧ o = .returned (r.map (nt_tv ad')) ∧ va_P D nt_cl (nt_w cy ad' M') t.heap ∧ va_D A (nt_w cy ad' M') ∧ va_F A st t
def nt_rm (d k n : Nat) : Room := { frames := d, cells := k, slots := n, locals := 64 * d }
/-- the contract of one run of a method -/
def nt_Met (l : Launch) (D : va_G) (cy ad adV : Nat → Nat) (X : nt_X) (A : Nat → Prop) (d g : Nat) (vs : List Value) (M : nt_M) (r : Option Value) (M' : nt_M) : Prop :=
  Met l (nt_m g).1 (Cond.code (nt_m g).1 (nt_m g).2.1 (nt_m g).2.2.1 (nt_m g).2.2.2.1 :: nt_ws) (nt_rm d (nt_n M' - nt_n M) (nt_z M' - nt_z M)) (nt_P0 D cy ad adV X A vs M) (nt_Q0 D cy ad A (nt_n M) r M') (nt_n M' - nt_n M) (nt_z M' - nt_z M) A
theorem nt_P0_blind {D : va_G} {cy ad adV : Nat → Nat} {X : nt_X} {A : Nat → Prop} {vs : List Value} {M : nt_M} : FrameBlind (nt_P0 D cy ad adV X A vs M) := fun a U g mk q => by
  obtain ⟨q0, q1, q2, q3, q4⟩ := q
  exact ⟨q0, q1, q2, q3, nt_Am_same (s := U) (U := U.calling g mk a) rfl q4⟩
theorem nt_good {g : Nat} (hg : g < 239) : GoodIn nt_ws (Cond.code (nt_m g).1 (nt_m g).2.1 (nt_m g).2.2.1 (nt_m g).2.2.2.1 :: nt_ws) := fun w hw => by
  rcases List.mem_cons.mp hw with e | e
  · rw [e]
    exact ⟨(nt_mf hg).1, good_of_word (List.mem_filter.mp (nt_mf hg).1).2⟩
  · exact ⟨e, good_of_word (List.mem_filter.mp e).2⟩
section NTK
variable {p : Program} {l : Launch} {e : Env} {R : Room} {s : State} {m : MethodId} {args : Array Value} {below : List Frame} {meth : Method} {c : Code} {mi n0 z0 : Nat} {D : va_G} {cy ad0 adV : Nat → Nat} {X : nt_X} {A : Nat → Prop} {Q : State → Prop} {g t pc : Nat} {ls : nt_V} {st : List Value} {M : nt_M} {x' : nt_C}
/-- behind the call -/
theorem nt_back {H : Heap} {locs : List Loc} {lsA : Array Slot} {rest : List Value} {st0 : List Value} {av : Array Value} {r : Option Value} {M' : nt_M} {ad : Nat → Nat} (hr : va_Run p l e R s m args below meth c H locs (nt_n M - n0) (nt_z M - z0) (nt_n M' - nt_n M) (nt_z M' - nt_z M) (F0 m pc lsA st0) (rest.map (nt_tv ad)) (nt_Q0 D cy ad A (nt_n M) r M' av) A) (hS : va_S A s.heap H locs) (h1 : ∀ k, nt_vl n0 k → ad k = ad0 k) (hl : lv_has lsA (nt_m mi).2.2.1 (ls.map (nt_tq ad))) (hn0 : n0 ≤ nt_n M) (hz0 : z0 ≤ nt_z M) (hn : nt_n M ≤ nt_n M') (hz : nt_z M ≤ nt_z M') (hvl : ∀ q ∈ ls, nt_vv (nt_n M) q.2) (hvr : ∀ v ∈ rest, nt_vv (nt_n M) v)
    (kk : nt_Wd p l e R s m args below meth c mi n0 z0 D cy ad0 A Q (pc + 3, ls, r.toList ++ rest, M')) : W p l e R s m args below meth c H locs (nt_n M - n0) (nt_z M - z0) Q (F0 m pc lsA st0) := by
  intro T hT X1
  obtain ⟨v, st₀, t, T', L, h0, X', hL, e1, e2, ⟨ad', q1, q2, q3, q4, q5⟩, st⟩ := hr T hT X1
  obtain ⟨hz5, hk5⟩ := q5
  rw [h0] at hz5 hk5
  have hv : v = r.map (nt_tv ad') := Outcome.returned.inj q2
  subst hv
  have hS' : va_S A s.heap T'.heap (locs ++ L) := ⟨Nat.le_trans hS.1 (by rw [e1]; exact hz5), fun q g1 g2 => by
      rw [e1, hk5 q (Nat.lt_of_lt_of_le g1 hS.1) g2]
      exact hS.2.1 q g1 g2, fun q hq => by
      rcases List.mem_append.mp hq with h | h
      · exact hS.2.2 q h
      · exact hL q h⟩
  have hk := kk ad' lsA T'.heap (locs ++ L) (fun k hk => by rw [q1 k (by rcases hk with h | h; exact Or.inl (by omega); exact Or.inr h)]; exact h1 k hk) (by show lv_has lsA _ (ls.map (nt_tq ad')); rw [nt_ls_ext hvl q1]; exact hl) (by show va_P D nt_cl (nt_w cy ad' M') T'.heap; rw [e1]; exact q3) q4 hS'
  have hk : W p l e R s m args below meth c T'.heap (locs ++ L) (nt_n M' - n0) (nt_z M' - z0) Q (F0 m (pc + 3) lsA ((r.toList ++ rest).map (nt_tv ad'))) := hk
  have e3 : (r.toList ++ rest).map (nt_tv ad') = (r.map (nt_tv ad')).toList ++ rest.map (nt_tv ad) := by
    rw [List.map_append, nt_st_ext hvr q1]
    cases r <;> rfl
  rw [e3, show nt_n M' - n0 = nt_n M - n0 + (nt_n M' - nt_n M) by omega, show nt_z M' - z0 = nt_z M - z0 + (nt_z M' - nt_z M) by omega] at hk
  obtain ⟨t2, a1, b1⟩ := hk T' rfl X'
  exact ⟨t2, st t2 a1, b1⟩
theorem nt_args_rev {st : List Value} {k : Nat} : ((st.take k).reverse).reverse ++ st.drop k = st := by
  rw [List.reverse_reverse, List.take_append_drop]
theorem nt_st_split {st : List Value} {k b : Nat} {vs : List Value} {ad : Nat → Nat} (hvs : (st.take k).reverse = .ref b :: vs) : st.map (nt_tv ad) = (vs.map (nt_tv ad)).reverse ++ .ref (ad b) :: (st.drop k).map (nt_tv ad) := by
  have q : st.take k = vs.reverse ++ [.ref b] := by rw [← List.reverse_reverse (st.take k), hvs, List.reverse_cons]
  have q2 : (vs.reverse ++ [Value.ref b]) ++ st.drop k = st := by rw [← q, List.take_append_drop]
  have q3 : st.map (nt_tv ad) = ((vs.reverse ++ [Value.ref b]) ++ st.drop k).map (nt_tv ad) := congrArg (List.map (nt_tv ad)) q2.symm
  rw [q3, List.map_append, List.map_append, List.map_reverse, List.append_assoc]
  rfl
/-- a static method -/
theorem nt_callS {i d : Nat} {r : Option Value} {M' : nt_M} {k : Nat} (C0 : nt_At p s m args meth c mi D cy ad0 adV X A) (hdg : decode (nt_m mi).2.1 pc = .ok (.invokestatic i, 3)) (hlk : Cond.methodLink (nt_RN (nt_m mi).2.2.2.2.1) i (nt_m g).1 ∈ nt_ws) (hg : g < 239) (hkd : (nt_m g).2.2.2.2.2.2.1 = 0) (hk : (nt_m g).2.2.2.2.2.1 = k) (hlen : k ≤ st.length) (hct : nt_ct (st.drop k) ≤ 8) (hR : d + 1 ≤ R.frames ∧ 64 * (d + 1) ≤ R.locals) (hRc : nt_n M' - n0 ≤ R.cells ∧ nt_z M' - z0 ≤ R.slots) (hv : nt_vd (pc, ls, st, M)) (hn0 : n0 ≤ nt_n M) (hz0 : z0 ≤ nt_z M) (hn : nt_n M ≤ nt_n M') (hz : nt_z M ≤ nt_z M')
    (hM : ∀ ad : Nat → Nat, nt_Met l D cy ad adV X A d g (st.take k).reverse M r M') (kk : nt_Wd p l e R s m args below meth c mi n0 z0 D cy ad0 A Q (pc + 3, ls, r.toList ++ st.drop k, M')) : nt_Wd p l e R s m args below meth c mi n0 z0 D cy ad0 A Q (pc, ls, st, M) := by
  obtain ⟨hx, hb, hml, hown, hts, hA, hinit, hret, hlocks, hAm⟩ := C0
  intro ad lsA H locs h1 hl hP hD hS
  obtain ⟨m1, m2, m3, m4, m5, m6, m7, m8, m9, m10⟩ := nt_mf hg
  have hf : nt_n M - n0 + (nt_n M' - nt_n M) ≤ R.cells ∧ nt_z M - z0 + (nt_z M' - nt_z M) ≤ R.slots := ⟨by omega, by omega⟩
  have hAm2 := nt_Am_ad (ad := ad) (fun k hk => h1 k (Or.inr hk)) hAm
  have hpre : ∀ U : State, U.heap = H → s.WarmedH U.vm → nt_P0 D cy ad adV X A (st.take k).reverse M ((st.take k).reverse.map (nt_tv ad)).toArray U := fun U hU hW => ⟨rfl, by rw [hU]; exact hP, hD, fun q hq => hA q (Nat.le_trans hS.1 (by rw [hU] at hq; exact hq)), by rw [hU]; exact nt_Am_warm hW hS.1 hS.2.1 hAm2⟩
  refine nt_back (rest := st.drop k) (st0 := st.map (nt_tv ad)) (va_runS (As := (st.take k).reverse.map (nt_tv ad)) ⟨hx, hb, hml, hown, hts⟩ (hM ad) ⟨callB_of k hts (nt_good hg) rfl rfl rfl (hts _ m2) (hts _ hlk) (by rw [← hk]; exact m7) ⟨by show d + 1 ≤ R.frames; exact hR.1, by show 8 + ((nt_m g).2.2.1 + 11) + 64 * d ≤ R.locals; omega⟩, hts _ (m3 hkd)⟩ ⟨nt_P0_blind, hpre⟩ rfl (by rw [List.length_map, List.length_reverse, List.length_take]; omega) hl.1 (by
    show st.map (nt_tv ad) = _
    rw [← List.map_reverse, ← List.map_append, nt_args_rev]) (by rw [nt_ct_map]; show 2 * 0 + nt_ct (st.drop k) ≤ 8; omega) hdg hf) hS h1 hl hn0 hz0 hn hz hv.1 (fun v h => hv.2.1 v (List.mem_of_mem_drop h)) kk
/-- a method of an object -/
theorem nt_callV {i d b : Nat} {vs : List Value} {r : Option Value} {M' : nt_M} {k : Nat} (C0 : nt_At p s m args meth c mi D cy ad0 adV X A) (hdg : decode (nt_m mi).2.1 pc = .ok (.invokevirtual i, 3)) (hlk : Cond.methodLink (nt_RN (nt_m mi).2.2.2.2.1) i (nt_m g).1 ∈ nt_ws) (hg : g < 239) (hkd : (nt_m g).2.2.2.2.2.2.1 = 1) (hk : (nt_m g).2.2.2.2.2.1 + 1 = k) (hlen : k ≤ st.length) (hvs : (st.take k).reverse = .ref b :: vs) (hb1 : b < nt_n M) (hb2 : nt_k M b = (nt_m g).2.2.2.2.1) (hb3 : (nt_m g).2.2.2.2.1 < 12) (hct : nt_ct (st.drop k) ≤ 8) (hR : d + 1 ≤ R.frames ∧ 64 * (d + 1) ≤ R.locals) (hRc : nt_n M' - n0 ≤ R.cells ∧ nt_z M' - z0 ≤ R.slots) (hv : nt_vd (pc, ls, st, M)) (hn0 : n0 ≤ nt_n M) (hz0 : z0 ≤ nt_z M) (hn : nt_n M ≤ nt_n M') (hz : nt_z M ≤ nt_z M')
    (hM : ∀ ad : Nat → Nat, nt_Met l D cy ad adV X A d g (st.take k).reverse M r M') (kk : nt_Wd p l e R s m args below meth c mi n0 z0 D cy ad0 A Q (pc + 3, ls, r.toList ++ st.drop k, M')) : nt_Wd p l e R s m args below meth c mi n0 z0 D cy ad0 A Q (pc, ls, st, M) := by
  obtain ⟨hx, hb, hml, hown, hts, hA, hinit, hret, hlocks, hAm⟩ := C0
  intro ad lsA H locs h1 hl hP hD hS
  obtain ⟨m1, m2, m3, m4, m5, m6, m7, m8, m9, m10⟩ := nt_mf hg
  have hf : nt_n M - n0 + (nt_n M' - nt_n M) ≤ R.cells ∧ nt_z M - z0 + (nt_z M' - nt_z M) ≤ R.slots := ⟨by omega, by omega⟩
  have hAm2 := nt_Am_ad (ad := ad) (fun k hk => h1 k (Or.inr hk)) hAm
  have hpre : ∀ U : State, U.heap = H → s.WarmedH U.vm → nt_P0 D cy ad adV X A (st.take k).reverse M (Value.ref (ad b) :: vs.map (nt_tv ad)).toArray U := fun U hU hW => ⟨by rw [hvs]; rfl, by rw [hU]; exact hP, hD, fun q hq => hA q (Nat.le_trans hS.1 (by rw [hU] at hq; exact hq)), by rw [hU]; exact nt_Am_warm hW hS.1 hS.2.1 hAm2⟩
  have hvl : vs.length = (nt_m g).2.2.2.2.2.1 := by
    have q := congrArg List.length hvs
    rw [List.length_reverse, List.length_take, List.length_cons] at q
    omega
  have he := nt_w_get (cy := cy) (ad := ad) hb1
  rw [nt_E_o hb2 hb3] at he
  refine nt_back (rest := st.drop k) (st0 := st.map (nt_tv ad)) (va_runV (C := nt_RN (nt_m g).2.2.2.2.1) (b := ad b) (As := vs.map (nt_tv ad)) ⟨hx, hb, hml, hown, hts⟩ (hM ad) ⟨callB_of (nt_m g).2.2.2.2.2.1 hts (nt_good hg) rfl rfl rfl (hts _ m2) (hts _ hlk) m7 ⟨by show d + 1 ≤ R.frames; exact hR.1, by show 8 + ((nt_m g).2.2.1 + 11) + 64 * d ≤ R.locals; omega⟩, hts _ (m4 (by omega)), hts _ (m5 hkd)⟩ ⟨nt_P0_blind, va_recv hAm.1 hP (nt_cl_get hb3) he, hpre⟩ rfl (by rw [List.length_map]; exact hvl) hl.1 (nt_st_split hvs) (by rw [nt_ct_map]; show 2 * 0 + nt_ct (st.drop k) ≤ 8; omega) hdg hf) hS h1 hl hn0 hz0 hn hz hv.1 (fun v h => hv.2.1 v (List.mem_of_mem_drop h)) kk
/-- a maker -/
theorem nt_callI {i d b : Nat} {vs : List Value} {r : Option Value} {M' : nt_M} {k : Nat} (C0 : nt_At p s m args meth c mi D cy ad0 adV X A) (hdg : decode (nt_m mi).2.1 pc = .ok (.invokespecial i, 3)) (hlk : Cond.methodLink (nt_RN (nt_m mi).2.2.2.2.1) i (nt_m g).1 ∈ nt_ws ∨ nt_lk3 nt_NL (nt_m mi).2.2.2.2.1 i g = true) (hg : g < 239) (hkd : (nt_m g).2.2.2.2.2.2.1 = 2) (hk : (nt_m g).2.2.2.2.2.1 + 1 = k) (hlen : k ≤ st.length) (hvs : (st.take k).reverse = .ref b :: vs) (hct : nt_ct (st.drop k) ≤ 8) (hR : d + 1 ≤ R.frames ∧ 64 * (d + 1) ≤ R.locals) (hRc : nt_n M' - n0 ≤ R.cells ∧ nt_z M' - z0 ≤ R.slots) (hv : nt_vd (pc, ls, st, M)) (hn0 : n0 ≤ nt_n M) (hz0 : z0 ≤ nt_z M) (hn : nt_n M ≤ nt_n M') (hz : nt_z M ≤ nt_z M')
    (hM : ∀ ad : Nat → Nat, nt_Met l D cy ad adV X A d g (st.take k).reverse M r M') (kk : nt_Wd p l e R s m args below meth c mi n0 z0 D cy ad0 A Q (pc + 3, ls, r.toList ++ st.drop k, M')) : nt_Wd p l e R s m args below meth c mi n0 z0 D cy ad0 A Q (pc, ls, st, M) := by
  obtain ⟨hx, hb, hml, hown, hts, hA, hinit, hret, hlocks, hAm⟩ := C0
  intro ad lsA H locs h1 hl hP hD hS
  obtain ⟨m1, m2, m3, m4, m5, m6, m7, m8, m9, m10⟩ := nt_mf hg
  have hf : nt_n M - n0 + (nt_n M' - nt_n M) ≤ R.cells ∧ nt_z M - z0 + (nt_z M' - nt_z M) ≤ R.slots := ⟨by omega, by omega⟩
  have hAm2 := nt_Am_ad (ad := ad) (fun k hk => h1 k (Or.inr hk)) hAm
  have hpre : ∀ U : State, U.heap = H → s.WarmedH U.vm → nt_P0 D cy ad adV X A (st.take k).reverse M (Value.ref (ad b) :: vs.map (nt_tv ad)).toArray U := fun U hU hW => ⟨by rw [hvs]; rfl, by rw [hU]; exact hP, hD, fun q hq => hA q (Nat.le_trans hS.1 (by rw [hU] at hq; exact hq)), by rw [hU]; exact nt_Am_warm hW hS.1 hS.2.1 hAm2⟩
  have hvl : vs.length = (nt_m g).2.2.2.2.2.1 := by
    have q := congrArg List.length hvs
    rw [List.length_reverse, List.length_take, List.length_cons] at q
    omega
  have hst := nt_st_split (ad := ad) hvs
  have hM1 := hM ad
  unfold nt_Met at hM1
  have hret0 := (m10 hkd).2
  rw [hret0] at hM1
  have hgood := nt_good hg
  rw [hret0] at hgood
  rcases hlk with hlk | hlk
  · refine nt_back (rest := st.drop k) (st0 := st.map (nt_tv ad)) (va_runI (b := ad b) (As := vs.map (nt_tv ad)) ⟨hx, hb, hml, hown, hts⟩ hM1 ⟨callB_of (nt_m g).2.2.2.2.2.1 hts hgood rfl rfl rfl (hts _ m2) (hts _ hlk) m7 ⟨by show d + 1 ≤ R.frames; exact hR.1, by show 8 + ((nt_m g).2.2.1 + 11) + 64 * d ≤ R.locals; omega⟩, (m10 hkd).1, hts _ (m4 (by omega))⟩ ⟨nt_P0_blind, hpre⟩ rfl (by rw [List.length_map]; exact hvl) hl.1 hst (by rw [nt_ct_map]; show 2 * 0 + nt_ct (st.drop k) ≤ 8; omega) hdg hf) hS h1 hl hn0 hz0 hn hz hv.1 (fun v h => hv.2.1 v (List.mem_of_mem_drop h)) kk
  · obtain ⟨q, hq, e1, e2, e3⟩ := nt_lk3_mem hlk
    have hnw := hAm.2.2.2.2.1 q hq
    rw [e1, e2, e3] at hnw
    refine nt_back (rest := st.drop k) (st0 := st.map (nt_tv ad)) (va_runIN (host := "NineTimbers") (b := ad b) (As := vs.map (nt_tv ad)) ⟨hx, hb, hml, hown, hts⟩ hM1 ⟨va_cnB (nt_m g).2.2.2.2.2.1 hts hgood rfl rfl rfl hnw (hts _ m2) m7 ⟨by show d + 1 ≤ R.frames; exact hR.1, by show 8 + ((nt_m g).2.2.1 + 11) + 64 * d ≤ R.locals; omega⟩, (m10 hkd).1, hts _ (m4 (by omega))⟩ ⟨nt_P0_blind, hpre⟩ rfl (by rw [List.length_map]; exact hvl) hl.1 hst (by rw [nt_ct_map]; show 2 * 0 + nt_ct (st.drop k) ≤ 8; omega) hdg hf) hS h1 hl hn0 hz0 hn hz hv.1 (fun v h => hv.2.1 v (List.mem_of_mem_drop h)) kk
end NTK
