/-! soundness: a run of the small machine is a run of the machine -/
theorem nt_k1 : ((List.range' 0 239).all (fun g => !(Nat.beq (nt_m g).2.2.2.2.2.2.1 1) || Nat.blt (nt_m g).2.2.2.2.1 12)) = true := by decide +kernel
theorem nt_k1_of {g : Nat} (hg : g < 239) (h : (nt_m g).2.2.2.2.2.2.1 = 1) : (nt_m g).2.2.2.2.1 < 12 := by
  have q := nt_rg nt_k1 (Nat.zero_le g) (by omega : g < 0 + 239)
  rw [h] at q
  have q : Nat.blt (nt_m g).2.2.2.2.1 12 = true := q
  exact Nat.le_of_ble_eq_true q
theorem nt_NL_lt : ∀ q ∈ nt_NL, q.2.2.1 < 1000 := by decide
theorem nt_rc_some {M : nt_M} {own : Nat} {l : List Value} (h : nt_rc M own l = true) : ∃ b vs, l = .ref b :: vs ∧ b < nt_n M ∧ nt_k M b = own := by
  unfold nt_rc at h
  split at h
  · rw [Bool.and_eq_true, decide_eq_true_eq, decide_eq_true_eq] at h
    exact ⟨_, _, rfl, h.1, h.2⟩
  · cases h
theorem nt_rf_some {l : List Value} (h : nt_rf l = true) : ∃ b vs, l = .ref b :: vs := by
  unfold nt_rf at h
  split at h
  · exact ⟨_, _, rfl⟩
  · cases h
def nt_Rt (p : Program) (l : Launch) (e : Env) (R : Room) (s : State) (m : MethodId) (args : Array Value) (below : List Frame) (meth : Method) (c : Code) (mi n0 z0 : Nat) (D : va_G) (cy ad0 : Nat → Nat) (A : Nat → Prop) (Q : State → Prop) (r : Option Value) (M' : nt_M) : Prop :=
  ∀ (pc : Nat) (ls : nt_V) (st : List Value) (ins : Instr), decode (nt_m mi).2.1 pc = .ok (ins, 1) → nt_re mi ins st M' = some (r, M') → nt_Wd p l e R s m args below meth c mi n0 z0 D cy ad0 A Q (pc, ls, st, M')
def nt_Snd (l : Launch) (X : nt_X) (f : Nat) : Prop :=
  ∀ (d mi : Nat) (x : nt_C) (o : Option Value × nt_M), nt_ex X f d mi x = some o → mi < 240 → nt_vd x → ∀ (p : Program) (e : Env) (R : Room) (s : State) (m : MethodId) (args : Array Value) (below : List Frame) (meth : Method) (c : Code) (n0 z0 : Nat) (D : va_G) (cy ad0 adV : Nat → Nat) (A : Nat → Prop) (Q : State → Prop), nt_At p s m args meth c mi D cy ad0 adV X A → (d ≤ R.frames ∧ 64 * d ≤ R.locals) → n0 ≤ nt_n x.2.2.2 → z0 ≤ nt_z x.2.2.2 → (nt_n o.2 - n0 ≤ R.cells ∧ nt_z o.2 - z0 ≤ R.slots) → nt_Rt p l e R s m args below meth c mi n0 z0 D cy ad0 A Q o.1 o.2 → nt_Wd p l e R s m args below meth c mi n0 z0 D cy ad0 A Q x
/-- a return of a method that was called -/
theorem nt_ret {p : Program} {l : Launch} {e : Env} {R : Room} {s : State} {m : MethodId} {args : Array Value} {below : List Frame} {meth : Method} {c : Code} {mi n0 z0 : Nat} {D : va_G} {cy ad0 adV : Nat → Nat} {X : nt_X} {A : Nat → Prop} (r : Option Value) (M' : nt_M) (C0 : nt_At p s m args meth c mi D cy ad0 adV X A) : nt_Rt p l e R s m args below meth c mi n0 z0 D cy ad0 A (MQ below (nt_Q0 D cy ad0 A n0 r M') args s (nt_n M' - n0) (nt_z M' - z0) A) r M' := by
  obtain ⟨hx, hb, hml, hown, hts, hA, hinit, hret, hlocks, hAm⟩ := C0
  intro pc ls st ins hdg hre ad lsA H locs h1 hl hP hD hS
  unfold nt_re at hre
  split at hre
  · rename_i v q
    cases hre
    exact W.iret hx hb (hret.trans q) (fun t ht hW => ⟨ad, h1, rfl, by rw [ht]; exact hP, hD, hS.F ht⟩) hS.2.2 hdg hlocks
  · rename_i v q
    obtain ⟨hz, hre⟩ := nt_if_some hre
    cases hre
    exact W.zret hx hb (hret.trans q) (by rcases hz with rfl | rfl <;> rfl) (fun t ht hW => ⟨ad, h1, rfl, by rw [ht]; exact hP, hD, hS.F ht⟩) hS.2.2 hdg hlocks
  · rename_i v q
    cases hre
    exact W.lret hx hb (hret.trans q) (fun t ht hW => ⟨ad, h1, rfl, by rw [ht]; exact hP, hD, hS.F ht⟩) hS.2.2 hdg hlocks
  · rename_i a C q
    cases hre
    exact W.aret (v := .ref (ad a)) hx hb (hret.trans q) (Or.inl ⟨_, rfl⟩) (Or.inr ⟨_, rfl⟩) (fun t ht hW => ⟨ad, h1, rfl, by rw [ht]; exact hP, hD, hS.F ht⟩) hS.2.2 hdg hlocks
  · rename_i C q
    cases hre
    exact W.aret (v := .null) hx hb (hret.trans q) (Or.inl ⟨_, rfl⟩) (Or.inl rfl) (fun t ht hW => ⟨ad, h1, rfl, by rw [ht]; exact hP, hD, hS.F ht⟩) hS.2.2 hdg hlocks
  · rename_i a C q
    cases hre
    exact W.aret (v := .ref (ad a)) hx hb (hret.trans q) (Or.inr ⟨_, rfl⟩) (Or.inr ⟨_, rfl⟩) (fun t ht hW => ⟨ad, h1, rfl, by rw [ht]; exact hP, hD, hS.F ht⟩) hS.2.2 hdg hlocks
  · rename_i q
    cases hre
    exact W.vret hx hb (hret.trans q) (fun t ht hW => ⟨ad, h1, rfl, by rw [ht]; exact hP, hD, hS.F ht⟩) hS.2.2 hdg hlocks
  · cases hre
theorem nt_met_of {l : Launch} {X : nt_X} {f : Nat} (IH : nt_Snd l X f) {d g : Nat} {vs : List Value} {M : nt_M} {o : Option Value × nt_M} (h : nt_ex X f d g (0, lv_args 0 vs, [], M) = some o) (hg : g < 239) (hlen : (lg_sl vs).length ≤ (nt_m g).2.2.1) (hv : nt_vd (0, lv_args 0 vs, [], M)) (D : va_G) (cy ad adV : Nat → Nat) (A : Nat → Prop) : nt_Met l D cy ad adV X A d g vs M o.1 o.2 := by
  obtain ⟨m1, m2, m3, m4, m5, m6, m7, m8, m9, m10⟩ := nt_mf hg
  refine Met.ofW (cc := (nt_m g).2.1) (maxL := (nt_m g).2.2.1) (ret := (nt_m g).2.2.2.1) m9 rfl ?_
  intro p e s m args below meth c s₁ B hml hvv
  obtain ⟨rfl, hP, hD, hA, hAm⟩ := hvv
  have hts := atoms_spec (ws := Cond.code (nt_m g).1 (nt_m g).2.1 (nt_m g).2.2.1 (nt_m g).2.2.2.1 :: nt_ws) B.pre
  have hown : s.vm.findClass (nt_m g).1.cls = some m.cls := findClass_of_methodNamed B.named
  rw [m6] at hown
  have C0 : nt_At p s m (vs.map (nt_tv ad)).toArray meth c g D cy ad adV X A := ⟨B.exec, B.bytes, hml, hown, fun w hw => hts w (List.mem_cons_of_mem _ hw), hA, fun q => by rw [(name_of_methodNamed B.named B.method).1]; exact (m10 q).1, B.returns, B.notSynchronized, hAm⟩
  have hl := lv_entry (vs.map (nt_tv ad)) (n := (nt_m g).2.2.1) (by rw [nt_lsl]; exact hlen)
  rw [lg_entry_eq]
  generalize (lg_sl (vs.map (nt_tv ad)) ++ List.replicate ((nt_m g).2.2.1 - (lg_sl (vs.map (nt_tv ad))).length) Slot.unset).toArray = ls at hl ⊢
  rw [nt_lva] at hl
  have W0 := IH d g _ _ h (by omega) hv p e (headSpec (Cond.code (nt_m g).1 (nt_m g).2.1 (nt_m g).2.2.1 (nt_m g).2.2.2.1 :: nt_ws) (nt_rm d (nt_n o.2 - nt_n M) (nt_z o.2 - nt_z M))).room s m _ below meth c (nt_n M) (nt_z M) D cy ad adV A (MQ below (nt_Q0 D cy ad A (nt_n M) o.1 o.2) (vs.map (nt_tv ad)).toArray s (nt_n o.2 - nt_n M) (nt_z o.2 - nt_z M) A) C0 ⟨Nat.le_refl d, Nat.le_refl (64 * d)⟩ (Nat.le_refl _) (Nat.le_refl _) ⟨Nat.le_refl (nt_n o.2 - nt_n M), Nat.le_refl (nt_z o.2 - nt_z M)⟩ (nt_ret o.1 o.2 C0) ad ls s.heap [] (fun _ _ => rfl) hl hP hD va_S.rf
  have W0 : W p l e _ s m _ below meth c s.heap [] (nt_n M - nt_n M) (nt_z M - nt_z M) _ (F0 m 0 ls []) := W0
  rw [Nat.sub_self, Nat.sub_self] at W0
  exact W0
theorem nt_si_of {a : Nat} (h1 : nt_sp < a) (h2 : a < nt_sp + 19) : ∃ i, i < 18 ∧ nt_si a = i ∧ a = nt_sp + 1 + i := ⟨a - nt_sp - 1, by omega, rfl, by omega⟩
section NTT
variable {p : Program} {l : Launch} {e : Env} {R : Room} {s : State} {m : MethodId} {args : Array Value} {below : List Frame} {meth : Method} {c : Code} {mi n0 z0 : Nat} {D : va_G} {cy ad0 adV : Nat → Nat} {X : nt_X} {A : Nat → Prop} {Q : State → Prop} {g t pc : Nat} {ls : nt_V} {st : List Value} {M : nt_M} {x' : nt_C}
theorem nt_n_len {i k d : Nat} {r : List Value} (C0 : nt_At p s m args meth c mi D cy ad0 adV X A) (hd : decode (nt_m mi).2.1 pc = .ok (.invokevirtual i, 3)) (hlk : Cond.methodLink (nt_RN (nt_m mi).2.2.2.2.1) i nt_y_len ∈ nt_ws) (hR : d ≤ R.frames ∧ 64 * d ≤ R.locals) (hRc : nt_n M - n0 ≤ R.cells ∧ nt_z M - z0 ≤ R.slots) (h4d : 4 ≤ d) (hct : nt_ct r ≤ 8) (hk : k < 18) (kk : nt_Wd p l e R s m args below meth c mi n0 z0 D cy ad0 A Q (pc + 3, ls, .int (Int32.ofNat (nt_SB.getD k []).length) :: r, M)) : nt_Wd p l e R s m args below meth c mi n0 z0 D cy ad0 A Q (pc, ls, .ref (nt_sp + 1 + k) :: r, M) := by
  obtain ⟨hx, hb, hml, hown, hts, hA, hinit, hret, hlocks, hAm⟩ := C0
  intro ad lsA H locs h1 hl hP hD hS
  have e3 : ad (nt_sp + 1 + k) = ad0 (nt_sp + 1 + k) := h1 _ (Or.inr (by omega))
  show W p l e R s m args below meth c H locs (nt_n M - n0) (nt_z M - z0) Q (F0 m pc lsA (.ref (ad (nt_sp + 1 + k)) :: r.map (nt_tv ad)))
  rw [e3]
  have hpre : ∀ U : State, U.heap = H → s.WarmedH U.vm → nt_PS [.ref (ad0 (nt_sp + 1 + k))] D cy ad0 adV X A ([.ref (ad0 (nt_sp + 1 + k))] : List Value).toArray U := fun U hU hW => ⟨rfl, by rw [hU]; exact nt_Am_warm hW hS.1 hS.2.1 hAm⟩
  exact W.callR (W.runV (C := "java/lang/String") (b := ad0 (nt_sp + 1 + k)) (As := []) (rest := r.map (nt_tv ad)) ⟨hx, hb, hml, hown, hts⟩ (nt_c_len l D cy ad0 adV X A hk) ⟨callB_of 0 hts (nt_goodS nt_s_c_len) rfl rfl rfl (hts _ nt_s_n1) (hts _ hlk) (by decide +kernel) ⟨by show 1 + 1 ≤ R.frames; omega, by show 8 + (1 + 11) + 20 ≤ R.locals; omega⟩, hts _ nt_s_i_len, hts _ nt_s_s_len⟩ ⟨nt_PS_blind, vk_recv (adK := fun i => ad0 (nt_sp + 1 + i)) hAm.2.2.2.2.2.2.2.2.1 hk hS, hpre⟩ rfl rfl hl.1 rfl (by rw [nt_ct_map]; show 2 * 0 + nt_ct r ≤ 8; omega) hd ⟨hRc.1, hRc.2⟩) (kk ad lsA H locs h1 hl hP hD hS)
theorem nt_n_chr {i k d : Nat} {x : Int32} {r : List Value} (C0 : nt_At p s m args meth c mi D cy ad0 adV X A) (hd : decode (nt_m mi).2.1 pc = .ok (.invokevirtual i, 3)) (hlk : Cond.methodLink (nt_RN (nt_m mi).2.2.2.2.1) i nt_y_chr ∈ nt_ws) (hR : d ≤ R.frames ∧ 64 * d ≤ R.locals) (hRc : nt_n M - n0 ≤ R.cells ∧ nt_z M - z0 ≤ R.slots) (h4d : 4 ≤ d) (hct : nt_ct r ≤ 8) (hk : k < 18) (hin : vp_in x (nt_SB.getD k []).length) (kk : nt_Wd p l e R s m args below meth c mi n0 z0 D cy ad0 A Q (pc + 3, ls, .int ((nt_SB.getD k []).getD x.toNatClampNeg 0) :: r, M)) : nt_Wd p l e R s m args below meth c mi n0 z0 D cy ad0 A Q (pc, ls, .int x :: .ref (nt_sp + 1 + k) :: r, M) := by
  obtain ⟨hx, hb, hml, hown, hts, hA, hinit, hret, hlocks, hAm⟩ := C0
  intro ad lsA H locs h1 hl hP hD hS
  have e3 : ad (nt_sp + 1 + k) = ad0 (nt_sp + 1 + k) := h1 _ (Or.inr (by omega))
  show W p l e R s m args below meth c H locs (nt_n M - n0) (nt_z M - z0) Q (F0 m pc lsA (.int x :: .ref (ad (nt_sp + 1 + k)) :: r.map (nt_tv ad)))
  rw [e3]
  have hpre : ∀ U : State, U.heap = H → s.WarmedH U.vm → nt_PS [.ref (ad0 (nt_sp + 1 + k)), .int x] D cy ad0 adV X A ([.ref (ad0 (nt_sp + 1 + k)), .int x] : List Value).toArray U := fun U hU hW => ⟨rfl, by rw [hU]; exact nt_Am_warm hW hS.1 hS.2.1 hAm⟩
  exact W.callR (W.runV (C := "java/lang/String") (b := ad0 (nt_sp + 1 + k)) (As := [.int x]) (rest := r.map (nt_tv ad)) ⟨hx, hb, hml, hown, hts⟩ (nt_c_chr l D cy ad0 adV X A hk hin) ⟨callB_of 1 hts (nt_goodS nt_s_c_chr) rfl rfl rfl (hts _ nt_s_n1) (hts _ hlk) (by decide +kernel) ⟨by show 3 + 1 ≤ R.frames; omega, by show 8 + (2 + 11) + 64 ≤ R.locals; omega⟩, hts _ nt_s_i_chr, hts _ nt_s_s_chr⟩ ⟨nt_PS_blind, vk_recv (adK := fun i => ad0 (nt_sp + 1 + i)) hAm.2.2.2.2.2.2.2.2.1 hk hS, hpre⟩ rfl rfl hl.1 rfl (by rw [nt_ct_map]; show 2 * 0 + nt_ct r ≤ 8; omega) hd ⟨hRc.1, hRc.2⟩) (kk ad lsA H locs h1 hl hP hD hS)
end NTT
/-- the link of a call in the program -/
theorem nt_link {mi pc i q g t : Nat} (hE : nt_okE mi (pc, nt_iv q i, g, t) = true) (hq : q < 3) (hg : g ≠ 9999) : nt_lk3 nt_ML (nt_m mi).2.2.2.2.1 i g = true ∨ (q = 2 ∧ nt_lk3 nt_NL (nt_m mi).2.2.2.2.1 i g = true) := by
  have hR := nt_okE_R hE
  rcases (by omega : q = 0 ∨ q = 1 ∨ q = 2) with rfl | rfl | rfl
  · exact Or.inl hR
  · have hR : (Nat.beq g 9999 || nt_lk3 nt_ML (nt_m mi).2.2.2.2.1 i g) = true := hR
    rw [Bool.or_eq_true] at hR
    rcases hR with h | h
    · exact absurd (Nat.eq_of_beq_eq_true h) hg
    · exact Or.inl h
  · have hR : (nt_lk3 nt_ML (nt_m mi).2.2.2.2.1 i g || nt_lk3 nt_NL (nt_m mi).2.2.2.2.1 i g) = true := hR
    rw [Bool.or_eq_true] at hR
    rcases hR with h | h
    · exact Or.inl h
    · exact Or.inr ⟨rfl, h⟩
theorem nt_linkN {mi pc i q g t : Nat} (hE : nt_okE mi (pc, nt_iv q i, g, t) = true) (hq : q < 3) (hg : g ≠ 9999) (hg2 : 1000 ≤ g) : Cond.methodLink (nt_RN (nt_m mi).2.2.2.2.1) i (nt_yn g) ∈ nt_ws := by
  rcases nt_link hE hq hg with h | ⟨-, h⟩
  · exact nt_ml h
  · obtain ⟨z, hz, -, -, e⟩ := nt_lk3_mem h
    have := nt_NL_lt z hz
    omega
theorem nt_iv_len (q i : Nat) : nt_len (nt_iv q i) = 3 := by
  unfold nt_iv
  split <;> rfl
theorem nt_iv_sw (q i : Nat) : nt_sw (nt_iv q i) = false := by
  unfold nt_iv
  split <;> rfl
theorem nt_snd_step {l : Launch} {X : nt_X} {f : Nat} (IH : nt_Snd l X f) : nt_Snd l X (f + 1) := by
  intro d mi x o h hmi hv p e R s m args below meth c n0 z0 D cy ad0 adV A Q C0 hd hn0 hz0 hRo hrt
  unfold nt_ex at h
  split at h
  · cases h
  · rename_i en he
    have hmem : en ∈ nt_pg mi := List.mem_of_find?_eq_some he
    have hpc0 : Nat.beq en.1 x.1 = true := List.find?_some (p := fun e : Nat × Instr × Nat × Nat => Nat.beq e.1 x.1) he
    have hpc : en.1 = x.1 := Nat.eq_of_beq_eq_true hpc0
    have hE : nt_okE mi en = true := List.all_eq_true.mp (nt_pg_ok hmi) en hmem
    obtain ⟨pc, ls, st, M⟩ := x
    obtain ⟨pc', ins, g, t⟩ := en
    have hpc : pc' = pc := hpc
    subst hpc
    have hn0 : n0 ≤ nt_n M := hn0
    have hz0 : z0 ≤ nt_z M := hz0
    rcases nt_ei_cases h with ⟨h, hlen, hsw⟩ | ⟨i, q, hins, hq3, h⟩ | ⟨x', hs, h⟩
    · have h : nt_re mi ins st M = some o := h
      have hlen : nt_len ins = 1 := hlen
      have hdg := nt_dec hE hsw
      rw [hlen] at hdg
      obtain ⟨e1, -⟩ := nt_re_some h
      obtain ⟨r, M'⟩ := o
      have e1 : M' = M := e1
      subst e1
      exact hrt pc' ls st ins hdg h
    · have hins : ins = nt_iv q i := hins
      subst hins
      have hdg := nt_dec hE (nt_iv_sw q i)
      rw [nt_iv_len] at hdg
      rcases nt_ca_some h with ⟨x', hs1, h⟩ | ⟨d', k, o1, hdd, hg, hkd, hk, hln, hsl, hct, hr1, hr2, hc1, hc2⟩
      · have hs : nt_nx d g q pc' ls st M = some x' := hs1
        clear hs1
        have hk := nt_nx_v hs hv
        have hr := nt_ex_v X f d mi x' o h hk.1
        have hRx : nt_n x'.2.2.2 - n0 ≤ R.cells ∧ nt_z x'.2.2.2 - z0 ≤ R.slots := ⟨by have := hr.2.2.1; omega, by have := hr.2.2.2; omega⟩
        have kk := IH d mi x' o h hmi hk.1 p e R s m args below meth c n0 z0 D cy ad0 adV A Q C0 hd (Nat.le_trans hn0 hk.2.1) (Nat.le_trans hz0 hk.2.2) hRo hrt
        unfold nt_nx at hs
        split at hs
        · rename_i hc
          obtain ⟨rfl, rfl⟩ := hc
          obtain ⟨a, r, e0, hq⟩ := nt_a1_some hs
          subst e0
          obtain ⟨hc, hq⟩ := nt_if_some hq
          cases hq
          exact nt_n_init C0 hdg (nt_linkN hE hq3 (by omega) (by omega)) hd hc.1 hc.2 kk
        split at hs
        · rename_i hc
          obtain ⟨rfl, rfl⟩ := hc
          split at hs
          · obtain ⟨hc, hq⟩ := nt_if_some hs
            cases hq
            obtain ⟨k1, k2, k3, k4, k5, k6, k7, k8, k9, k10, k11⟩ := hc
            exact nt_n_copy C0 hdg (nt_linkN hE hq3 (by omega) (by omega)) hd k1 k2 hv.2.2 k3 k4 k5 k6 k7 k8 k9 k10 k11 kk
          · cases hs
        split at hs
        · rename_i hc
          obtain ⟨rfl, rfl⟩ := hc
          obtain ⟨x, y, r, e0, hq⟩ := nt_i2_some hs
          subst e0
          obtain ⟨hc, hq⟩ := nt_if_some hq
          cases hq
          exact nt_n_max C0 hdg (nt_linkN hE hq3 (by omega) (by omega)) hd hRx hc.1 hc.2 kk
        split at hs
        · rename_i hc
          obtain ⟨rfl, rfl⟩ := hc
          obtain ⟨x, y, r, e0, hq⟩ := nt_i2_some hs
          subst e0
          obtain ⟨hc, hq⟩ := nt_if_some hq
          cases hq
          exact nt_n_min C0 hdg (nt_linkN hE hq3 (by omega) (by omega)) hd hRx hc.1 hc.2 kk
        split at hs
        · rename_i hc
          obtain ⟨rfl, rfl⟩ := hc
          obtain ⟨a, r, e0, hq⟩ := nt_a1_some hs
          subst e0
          obtain ⟨hc, hq⟩ := nt_if_some hq
          obtain ⟨j, hj, e1, e2⟩ := nt_si_of hc.2.2.1 hc.2.2.2
          rw [e1] at hq
          cases hq
          subst e2
          exact nt_n_len C0 hdg (nt_linkN hE hq3 (by omega) (by omega)) hd hRx hc.1 hc.2.1 hj kk
        split at hs
        · rename_i hc
          obtain ⟨rfl, rfl⟩ := hc
          obtain ⟨y, a, r, e0, hq⟩ := nt_ia_some hs
          subst e0
          obtain ⟨hc, hq⟩ := nt_if_some hq
          obtain ⟨j, hj, e1, e2⟩ := nt_si_of hc.2.2.1 hc.2.2.2.1
          rw [e1] at hq hc
          cases hq
          subst e2
          exact nt_n_chr C0 hdg (nt_linkN hE hq3 (by omega) (by omega)) hd hRx hc.1 hc.2.1 hj hc.2.2.2.2 kk
        · cases hs
      · have hc1 : nt_ex X f d' g (0, lv_args 0 (st.take k).reverse, [], M) = some o1 := hc1
        have hc2 : nt_ex X f d mi (pc' + 3, ls, o1.1.toList ++ st.drop k, o1.2) = some o := hc2
        have hln : k ≤ st.length := hln
        have hg : g < 239 := hg
        have hkd : (nt_m g).2.2.2.2.2.2.1 = q := hkd
        have hsl : (lg_sl (st.take k).reverse).length ≤ (nt_m g).2.2.1 := hsl
        have hct : nt_ct (st.drop k) ≤ 8 := hct
        have hr1 : q = 1 → nt_rc M (nt_m g).2.2.2.2.1 (st.take k).reverse = true := hr1
        have hr2 : q = 2 → nt_rf (st.take k).reverse = true := hr2
        have hv1 : nt_vd (0, lv_args 0 (st.take k).reverse, [], M) := ⟨fun z hz => hv.2.1 _ (List.mem_of_mem_take (List.mem_reverse.mp (nt_lva_mem hz))), fun z hz => (by cases hz), hv.2.2⟩
        have hr1v := nt_ex_v X f d' g _ o1 hc1 hv1
        have hn1 : nt_n M ≤ nt_n o1.2 := hr1v.2.2.1
        have hz1 : nt_z M ≤ nt_z o1.2 := hr1v.2.2.2
        have hv2 : nt_vd (pc' + 3, ls, o1.1.toList ++ st.drop k, o1.2) := ⟨fun z hz => nt_vv_up hn1 (hv.1 z hz), nt_rt hr1v.2.1 (fun z hz => nt_vv_up hn1 (hv.2.1 z (List.mem_of_mem_drop hz))), hr1v.1⟩
        have hr2v := nt_ex_v X f d mi _ o hc2 hv2
        have hn2 : nt_n o1.2 ≤ nt_n o.2 := hr2v.2.2.1
        have hz2 : nt_z o1.2 ≤ nt_z o.2 := hr2v.2.2.2
        have hRx : nt_n o1.2 - n0 ≤ R.cells ∧ nt_z o1.2 - z0 ≤ R.slots := ⟨by omega, by omega⟩
        have kk := IH d mi _ o hc2 hmi hv2 p e R s m args below meth c n0 z0 D cy ad0 adV A Q C0 hd (Nat.le_trans hn0 hn1) (Nat.le_trans hz0 hz1) hRo hrt
        have hM : ∀ ad : Nat → Nat, nt_Met l D cy ad adV X A d' g (st.take k).reverse M o1.1 o1.2 := fun ad => nt_met_of IH hc1 hg hsl hv1 D cy ad adV A
        subst hdd
        have hg9 : g ≠ 9999 := by omega
        rcases (by omega : q = 0 ∨ q = 1 ∨ q = 2) with rfl | rfl | rfl
        · have hk : (nt_m g).2.2.2.2.2.1 = k := hk
          rcases nt_link hE hq3 hg9 with hlk | ⟨hq, -⟩
          · have hlk := nt_ml hlk
            rw [nt_yn_m (by omega)] at hlk
            exact nt_callS C0 hdg hlk hg hkd hk hln hct hd hRx hv hn0 hz0 hn1 hz1 hM kk
          · cases hq
        · have hk : (nt_m g).2.2.2.2.2.1 + 1 = k := hk
          obtain ⟨b, vs, hvs, hb1, hb2⟩ := nt_rc_some (hr1 rfl)
          rcases nt_link hE hq3 hg9 with hlk | ⟨hq, -⟩
          · have hlk := nt_ml hlk
            rw [nt_yn_m (by omega)] at hlk
            exact nt_callV C0 hdg hlk hg hkd hk hln hvs hb1 hb2 (nt_k1_of hg hkd) hct hd hRx hv hn0 hz0 hn1 hz1 hM kk
          · cases hq
        · have hk : (nt_m g).2.2.2.2.2.1 + 1 = k := hk
          obtain ⟨b, vs, hvs⟩ := nt_rf_some (hr2 rfl)
          have hlk2 : Cond.methodLink (nt_RN (nt_m mi).2.2.2.2.1) i (nt_m g).1 ∈ nt_ws ∨ nt_lk3 nt_NL (nt_m mi).2.2.2.2.1 i g = true := by
            rcases nt_link hE hq3 hg9 with hlk | ⟨-, hlk⟩
            · have hlk := nt_ml hlk
              rw [nt_yn_m (by omega)] at hlk
              exact Or.inl hlk
            · exact Or.inr hlk
          exact nt_callI C0 hdg hlk2 hg hkd hk hln hvs hct hd hRx hv hn0 hz0 hn1 hz1 hM kk
    · have hs : nt_sx X mi g t ins pc' ls st M = some x' := hs
      have hk := nt_v_all hs hv
      have hr := nt_ex_v X f d mi x' o h hk.1
      have hRx : nt_n x'.2.2.2 - n0 ≤ R.cells ∧ nt_z x'.2.2.2 - z0 ≤ R.slots := ⟨by have := hr.2.2.1; omega, by have := hr.2.2.2; omega⟩
      exact nt_sx_all C0 hE hs hv hn0 hz0 hRx (IH d mi x' o h hmi hk.1 p e R s m args below meth c n0 z0 D cy ad0 adV A Q C0 hd (Nat.le_trans hn0 hk.2.1) (Nat.le_trans hz0 hk.2.2) hRo hrt)
theorem nt_sound (l : Launch) (X : nt_X) : ∀ f, nt_Snd l X f
  | 0 => fun d mi x o h => by cases h
  | f + 1 => nt_snd_step (nt_sound l X f)
