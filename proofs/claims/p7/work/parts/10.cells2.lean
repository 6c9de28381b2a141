section NTD
variable {p : Program} {l : Launch} {e : Env} {R : Room} {s : State} {m : MethodId} {args : Array Value} {below : List Frame} {meth : Method} {c : Code} {mi n0 z0 : Nat} {D : va_G} {cy ad0 adV : Nat → Nat} {X : nt_X} {A : Nat → Prop} {Q : State → Prop} {g t pc : Nat} {ls : nt_V} {st : List Value} {M : nt_M} {x' : nt_C}
theorem nt_q_putfield {i : Nat} (C0 : nt_At p s m args meth c mi D cy ad0 adV X A) (hE : nt_okE mi (pc, .putfield i, g, t) = true) (hs : nt_sx X mi g t (.putfield i) pc ls st M = some x') (kk : nt_Wd p l e R s m args below meth c mi n0 z0 D cy ad0 A Q x') : nt_Wd p l e R s m args below meth c mi n0 z0 D cy ad0 A Q (pc, ls, st, M) := by
  have hs : (match (generalizing := false) st with | v :: .ref a :: r => if a < nt_n M ∧ nt_k M a = g / 100 ∧ g / 100 < 12 ∧ g % 100 < nt_N (g / 100) ∧ ((nt_T (g / 100) (g % 100)).2.2.2 = false ∨ (nt_m mi).2.2.2.2.2.2.1 = 2 ∧ (nt_m mi).2.2.2.2.1 = g / 100) then nt_pf M a (g / 100) (g % 100) v fun M' => some (pc + 3, ls, r, M') else none | _ => none) = some x' := hs
  split at hs
  · rename_i v a r
    obtain ⟨⟨ha, hk, hc, hj, hf⟩, hs⟩ := nt_if_some hs
    obtain ⟨f1, f2, f3, f4, f5, f6, f7⟩ := nt_cf hc
    have hok := f4 _ hj
    rcases nt_pf_some hs with ⟨x, e, e0, hq⟩ | ⟨x, e, e0, hq⟩ | ⟨b, e, e0, hq⟩ | ⟨x, e, e0, hx, hq⟩
    · clear hs
      subst e0
      have hs := hq
      cases hs
      intro ad lsA H locs h1 hl hP hD hS
      exact nt_put C0 hE ha hk hc hj hf (nt_wp_I hk hc (Or.inl e)) (by rw [nt_tg0 hok e]; rfl) (by rw [nt_tg0 hok e]; rfl) hP hD hS (fun H1 locs1 hP1 hD1 hS1 => kk ad lsA H1 locs1 h1 hl hP1 hD1 hS1)
    · clear hs
      subst e0
      have hs := hq
      cases hs
      intro ad lsA H locs h1 hl hP hD hS
      exact nt_put C0 hE ha hk hc hj hf (nt_wp_J hk hc e) (by rw [nt_tg1 hok e]; rfl) (by rw [nt_tg1 hok e]; rfl) hP hD hS (fun H1 locs1 hP1 hD1 hS1 => kk ad lsA H1 locs1 h1 hl hP1 hD1 hS1)
    · clear hs
      subst e0
      have hs := hq
      cases hs
      intro ad lsA H locs h1 hl hP hD hS
      exact nt_put C0 hE ha hk hc hj hf (nt_wp_R hk hc e) (nt_tg2 hok e _).1 (nt_tg2 hok e _).2 hP hD hS (fun H1 locs1 hP1 hD1 hS1 => kk ad lsA H1 locs1 h1 hl hP1 hD1 hS1)
    · clear hs
      subst e0
      have hs := hq
      cases hs
      intro ad lsA H locs h1 hl hP hD hS
      exact nt_put C0 hE ha hk hc hj hf (nt_wp_I hk hc (Or.inr e)) (by rw [nt_tg3 hok e]; rcases hx with rfl | rfl <;> rfl) (by rw [nt_tg3 hok e]; rcases hx with rfl | rfl <;> rfl) hP hD hS (fun H1 locs1 hP1 hD1 hS1 => kk ad lsA H1 locs1 h1 hl hP1 hD1 hS1)
  · cases hs
theorem nt_q_iaload (C0 : nt_At p s m args meth c mi D cy ad0 adV X A) (hE : nt_okE mi (pc, .iaload, g, t) = true) (hs : nt_sx X mi g t .iaload pc ls st M = some x') (kk : nt_Wd p l e R s m args below meth c mi n0 z0 D cy ad0 A Q x') : nt_Wd p l e R s m args below meth c mi n0 z0 D cy ad0 A Q (pc, ls, st, M) := by
  obtain ⟨hx, hb, hml, hown, hts, hA, hinit, hret, hlocks, hAm⟩ := C0
  obtain ⟨i, a, r, e0, hq⟩ := nt_ia_some hs
  clear hs
  subst e0
  have hs := hq
  by_cases ea : a = nt_sp
  · rw [if_pos ea] at hs
    obtain ⟨hin, hs⟩ := nt_ifn_some hs
    cases hs
    intro ad lsA H locs h1 hl hP hD hS
    have e3 : ad a = ad0 nt_sp := by rw [ea]; exact h1 _ (Or.inr (Nat.le_refl _))
    show W p l e R s m args below meth c H locs (nt_n M - n0) (nt_z M - z0) Q (F0 m pc lsA (.int i :: .ref (ad a) :: r.map (nt_tv ad)))
    rw [e3]
    exact va_sld hx hb hAm.2.1 hAm.2.2.1 hAm.2.2.2.1 hS hin (nt_dec hE rfl) (kk ad lsA H locs h1 hl hP hD hS)
  · rw [if_neg ea] at hs
    obtain ⟨ha, hk, hin, hs⟩ := nt_in_some hs
    cases hs
    intro ad lsA H locs h1 hl hP hD hS
    have he := nt_w_get (cy := cy) (ad := ad) ha
    rw [nt_E_i (by omega), hk] at he
    exact va_iald hx hb hAm.1 hP a 1 he rfl hin (nt_dec hE rfl) (kk ad lsA H locs h1 hl hP hD hS)
theorem nt_q_baload (C0 : nt_At p s m args meth c mi D cy ad0 adV X A) (hE : nt_okE mi (pc, .baload, g, t) = true) (hs : nt_sx X mi g t .baload pc ls st M = some x') (kk : nt_Wd p l e R s m args below meth c mi n0 z0 D cy ad0 A Q x') : nt_Wd p l e R s m args below meth c mi n0 z0 D cy ad0 A Q (pc, ls, st, M) := by
  obtain ⟨hx, hb, hml, hown, hts, hA, hinit, hret, hlocks, hAm⟩ := C0
  obtain ⟨i, a, r, e0, hq⟩ := nt_ia_some hs
  clear hs
  subst e0
  have hs := hq
  by_cases ea : nt_k M a = 15
  · rw [if_pos ea] at hs
    obtain ⟨ha, hk, hin, hs⟩ := nt_in_some hs
    cases hs
    intro ad lsA H locs h1 hl hP hD hS
    have he := nt_w_get (cy := cy) (ad := ad) ha
    rw [nt_E_i (by omega), hk] at he
    exact va_zald hx hb hAm.1 hP a 3 he rfl hin (nt_dec hE rfl) (kk ad lsA H locs h1 hl hP hD hS)
  · rw [if_neg ea] at hs
    obtain ⟨ha, hk, hin, hs⟩ := nt_in_some hs
    cases hs
    intro ad lsA H locs h1 hl hP hD hS
    have he := nt_w_get (cy := cy) (ad := ad) ha
    rw [nt_E_i (by omega), hk] at he
    exact va_bald hx hb hAm.1 hP a 0 he rfl hin (nt_dec hE rfl) (kk ad lsA H locs h1 hl hP hD hS)
theorem nt_q_laload (C0 : nt_At p s m args meth c mi D cy ad0 adV X A) (hE : nt_okE mi (pc, .laload, g, t) = true) (hs : nt_sx X mi g t .laload pc ls st M = some x') (kk : nt_Wd p l e R s m args below meth c mi n0 z0 D cy ad0 A Q x') : nt_Wd p l e R s m args below meth c mi n0 z0 D cy ad0 A Q (pc, ls, st, M) := by
  obtain ⟨hx, hb, hml, hown, hts, hA, hinit, hret, hlocks, hAm⟩ := C0
  obtain ⟨i, a, r, e0, hq⟩ := nt_ia_some hs
  clear hs
  subst e0
  have hs := hq
  obtain ⟨ha, hk, hin, hs⟩ := nt_in_some hs
  cases hs
  intro ad lsA H locs h1 hl hP hD hS
  have he := nt_w_get (cy := cy) (ad := ad) ha
  rw [nt_E_j hk, hk] at he
  exact va_lald hx hb hAm.1 hP a 2 he rfl hin (nt_dec hE rfl) (kk ad lsA H locs h1 hl hP hD hS)
theorem nt_q_aaload (C0 : nt_At p s m args meth c mi D cy ad0 adV X A) (hE : nt_okE mi (pc, .aaload, g, t) = true) (hs : nt_sx X mi g t .aaload pc ls st M = some x') (kk : nt_Wd p l e R s m args below meth c mi n0 z0 D cy ad0 A Q x') : nt_Wd p l e R s m args below meth c mi n0 z0 D cy ad0 A Q (pc, ls, st, M) := by
  obtain ⟨hx, hb, hml, hown, hts, hA, hinit, hret, hlocks, hAm⟩ := C0
  obtain ⟨i, a, r, e0, hq⟩ := nt_ia_some hs
  clear hs
  subst e0
  have hs := hq
  by_cases ea : nt_k M a = 17
  · rw [if_pos ea] at hs
    obtain ⟨ha, hk, hin, hs⟩ := nt_in_some hs
    cases hs
    intro ad lsA H locs h1 hl hP hD hS
    have he := nt_w_get (cy := cy) (ad := ad) ha
    rw [nt_E_a (by omega), hk] at he
    have kk := kk ad lsA H locs h1 hl hP hD hS
    have kk : W p l e R s m args below meth c H locs (nt_n M - n0) (nt_z M - z0) Q (F0 m (pc + 1) lsA (nt_tv ad (nt_rv (nt_R M a i.toNatClampNeg)) :: r.map (nt_tv ad))) := kk
    rw [nt_tv_rv] at kk
    exact va_aldq hx hb hAm.1 hP a 5 he rfl hin (nt_dec hE rfl) kk
  · rw [if_neg ea] at hs
    obtain ⟨ha, hk, hin, hs⟩ := nt_in_some hs
    cases hs
    intro ad lsA H locs h1 hl hP hD hS
    have he := nt_w_get (cy := cy) (ad := ad) ha
    rw [nt_E_a (by omega), hk] at he
    have kk := kk ad lsA H locs h1 hl hP hD hS
    have kk : W p l e R s m args below meth c H locs (nt_n M - n0) (nt_z M - z0) Q (F0 m (pc + 1) lsA (nt_tv ad (nt_rv (nt_R M a i.toNatClampNeg)) :: r.map (nt_tv ad))) := kk
    rw [nt_tv_rv] at kk
    exact va_aldq hx hb hAm.1 hP a 4 he rfl hin (nt_dec hE rfl) kk
theorem nt_wa_I {M : nt_M} {ad : Nat → Nat} {a i : Nat} {x : Int32} (hk : nt_k M a = 12 ∨ nt_k M a = 13 ∨ nt_k M a = 15) : nt_w cy ad (nt_sI M a i x) = (nt_w cy ad M).set a (ad a, .inl (cy (nt_k M a), nt_l M a, .inl (upd (nt_I M a) i x))) := by
  rw [nt_w_sI, nt_E_i (show nt_k (nt_sI M a i x) a = 12 ∨ _ from hk), nt_sI_Ia]
  rfl
theorem nt_q_iastore (C0 : nt_At p s m args meth c mi D cy ad0 adV X A) (hE : nt_okE mi (pc, .iastore, g, t) = true) (hs : nt_sx X mi g t .iastore pc ls st M = some x') (kk : nt_Wd p l e R s m args below meth c mi n0 z0 D cy ad0 A Q x') : nt_Wd p l e R s m args below meth c mi n0 z0 D cy ad0 A Q (pc, ls, st, M) := by
  obtain ⟨hx, hb, hml, hown, hts, hA, hinit, hret, hlocks, hAm⟩ := C0
  obtain ⟨x, i, a, r, e0, hq⟩ := nt_iia_some hs
  clear hs
  subst e0
  have hs := hq
  obtain ⟨ha, hk, hin, hs⟩ := nt_in_some hs
  cases hs
  intro ad lsA H locs h1 hl hP hD hS
  have he := nt_w_get (cy := cy) (ad := ad) ha
  rw [nt_E_i (by omega), hk] at he
  have hw : nt_w cy ad (nt_sI M a i.toNatClampNeg x) = _ := nt_wa_I (by omega)
  rw [hk] at hw
  exact va_iast hx hb hAm.1 hP hD hS a 1 he rfl hin (nt_dec hE rfl) (fun H1 locs1 hP1 hD1 hS1 => kk ad lsA H1 locs1 h1 hl (by show va_P D nt_cl (nt_w cy ad _) H1; rw [hw]; exact hP1) (by show va_D A (nt_w cy ad _); rw [hw]; exact hD1) hS1)
theorem nt_q_bastore (C0 : nt_At p s m args meth c mi D cy ad0 adV X A) (hE : nt_okE mi (pc, .bastore, g, t) = true) (hs : nt_sx X mi g t .bastore pc ls st M = some x') (kk : nt_Wd p l e R s m args below meth c mi n0 z0 D cy ad0 A Q x') : nt_Wd p l e R s m args below meth c mi n0 z0 D cy ad0 A Q (pc, ls, st, M) := by
  obtain ⟨hx, hb, hml, hown, hts, hA, hinit, hret, hlocks, hAm⟩ := C0
  obtain ⟨x, i, a, r, e0, hq⟩ := nt_iia_some hs
  clear hs
  subst e0
  have hs := hq
  by_cases ea : nt_k M a = 15
  · rw [if_pos ea] at hs
    obtain ⟨ha, hk, hin, hs⟩ := nt_in_some hs
    cases hs
    intro ad lsA H locs h1 hl hP hD hS
    have he := nt_w_get (cy := cy) (ad := ad) ha
    rw [nt_E_i (by omega), hk] at he
    have hw : nt_w cy ad (nt_sI M a i.toNatClampNeg (vp_nar .boolean x)) = _ := nt_wa_I (by omega)
    rw [hk] at hw
    exact va_zast hx hb hAm.1 hP hD hS a 3 he rfl hin (nt_dec hE rfl) (fun H1 locs1 hP1 hD1 hS1 => kk ad lsA H1 locs1 h1 hl (by show va_P D nt_cl (nt_w cy ad _) H1; rw [hw]; exact hP1) (by show va_D A (nt_w cy ad _); rw [hw]; exact hD1) hS1)
  · rw [if_neg ea] at hs
    obtain ⟨ha, hk, hin, hs⟩ := nt_in_some hs
    cases hs
    intro ad lsA H locs h1 hl hP hD hS
    have he := nt_w_get (cy := cy) (ad := ad) ha
    rw [nt_E_i (by omega), hk] at he
    have hw : nt_w cy ad (nt_sI M a i.toNatClampNeg (vp_nar .byte x)) = _ := nt_wa_I (by omega)
    rw [hk] at hw
    exact va_bast hx hb hAm.1 hP hD hS a 0 he rfl hin (nt_dec hE rfl) (fun H1 locs1 hP1 hD1 hS1 => kk ad lsA H1 locs1 h1 hl (by show va_P D nt_cl (nt_w cy ad _) H1; rw [hw]; exact hP1) (by show va_D A (nt_w cy ad _); rw [hw]; exact hD1) hS1)
theorem nt_q_lastore (C0 : nt_At p s m args meth c mi D cy ad0 adV X A) (hE : nt_okE mi (pc, .lastore, g, t) = true) (hs : nt_sx X mi g t .lastore pc ls st M = some x') (kk : nt_Wd p l e R s m args below meth c mi n0 z0 D cy ad0 A Q x') : nt_Wd p l e R s m args below meth c mi n0 z0 D cy ad0 A Q (pc, ls, st, M) := by
  obtain ⟨hx, hb, hml, hown, hts, hA, hinit, hret, hlocks, hAm⟩ := C0
  obtain ⟨x, i, a, r, e0, hq⟩ := nt_jia_some hs
  clear hs
  subst e0
  have hs := hq
  obtain ⟨ha, hk, hin, hs⟩ := nt_in_some hs
  cases hs
  intro ad lsA H locs h1 hl hP hD hS
  have he := nt_w_get (cy := cy) (ad := ad) ha
  rw [nt_E_j hk, hk] at he
  have hw : nt_w cy ad (nt_sJ M a i.toNatClampNeg x) = (nt_w cy ad M).set a (ad a, .inl (cy 14, nt_l M a, .inr (.inl (vp_updL (nt_J M a) i.toNatClampNeg x)))) := by
    rw [nt_w_sJ, nt_E_j (show nt_k (nt_sJ M a i.toNatClampNeg x) a = 14 from hk), nt_sJ_Ja, show nt_k (nt_sJ M a i.toNatClampNeg x) a = 14 from hk]
    rfl
  exact va_last hx hb hAm.1 hP hD hS a 2 he rfl hin (nt_dec hE rfl) (fun H1 locs1 hP1 hD1 hS1 => kk ad lsA H1 locs1 h1 hl (by show va_P D nt_cl (nt_w cy ad _) H1; rw [hw]; exact hP1) (by show va_D A (nt_w cy ad _); rw [hw]; exact hD1) hS1)
theorem nt_q_aastore (C0 : nt_At p s m args meth c mi D cy ad0 adV X A) (hE : nt_okE mi (pc, .aastore, g, t) = true) (hs : nt_sx X mi g t .aastore pc ls st M = some x') (kk : nt_Wd p l e R s m args below meth c mi n0 z0 D cy ad0 A Q x') : nt_Wd p l e R s m args below meth c mi n0 z0 D cy ad0 A Q (pc, ls, st, M) := by
  obtain ⟨hx, hb, hml, hown, hts, hA, hinit, hret, hlocks, hAm⟩ := C0
  obtain ⟨v, i, a, r, e0, hq⟩ := nt_aia_some hs
  clear hs
  subst e0
  have hs := hq
  obtain ⟨⟨hvn, hkk⟩, hs⟩ := nt_if_some hs
  obtain ⟨ha, hk, hin, hs⟩ := nt_in_some hs
  cases hs
  intro ad lsA H locs h1 hl hP hD hS
  have he := nt_w_get (cy := cy) (ad := ad) ha
  rw [nt_E_a (by omega)] at he
  have hev := nt_w_get (cy := cy) (ad := ad) hvn
  have hw : nt_w cy ad (nt_sR M a i.toNatClampNeg (some v)) = (nt_w cy ad M).set a (ad a, .inl (cy (nt_k M a), nt_l M a, .inr (.inr (.inr (.inr (va_up (fun j => (nt_R M a j).map ad) i.toNatClampNeg (some (ad v)))))))) := by
    rw [nt_w_sR, nt_E_a (show 16 ≤ nt_k (nt_sR M a i.toNatClampNeg (some v)) a from by show 16 ≤ nt_k M a; omega)]
    have e1 : (fun j => (nt_R (nt_sR M a i.toNatClampNeg (some v)) a j).map ad) = va_up (fun j => (nt_R M a j).map ad) i.toNatClampNeg (some (ad v)) := by
      funext j
      rw [nt_sR_R, if_pos rfl]
      unfold va_up
      split
      · rfl
      · rfl
    rw [e1]
    rfl
  rcases hkk with ⟨k1, k2⟩ | ⟨k1, k2⟩
  · rw [k1] at he hw
    rw [nt_E_o k2 (by omega)] at hev
    exact va_astq hx hb hAm.1 hP hD hS a 4 v 4 (r := (nt_RN 4, nt_T 4, nt_N 4)) he rfl hev (nt_cl_get (by omega)) hin (nt_dec hE rfl) (fun H1 locs1 hP1 hD1 hS1 => kk ad lsA H1 locs1 h1 hl (by show va_P D nt_cl (nt_w cy ad _) H1; rw [hw]; exact hP1) (by show va_D A (nt_w cy ad _); rw [hw]; exact hD1) hS1)
  · rw [k1] at he hw
    rw [nt_E_o k2 (by omega)] at hev
    exact va_astq hx hb hAm.1 hP hD hS a 5 v 6 (r := (nt_RN 6, nt_T 6, nt_N 6)) he rfl hev (nt_cl_get (by omega)) hin (nt_dec hE rfl) (fun H1 locs1 hP1 hD1 hS1 => kk ad lsA H1 locs1 h1 hl (by show va_P D nt_cl (nt_w cy ad _) H1; rw [hw]; exact hP1) (by show va_D A (nt_w cy ad _); rw [hw]; exact hD1) hS1)
theorem nt_q_arraylength (C0 : nt_At p s m args meth c mi D cy ad0 adV X A) (hE : nt_okE mi (pc, .arraylength, g, t) = true) (hs : nt_sx X mi g t .arraylength pc ls st M = some x') (kk : nt_Wd p l e R s m args below meth c mi n0 z0 D cy ad0 A Q x') : nt_Wd p l e R s m args below meth c mi n0 z0 D cy ad0 A Q (pc, ls, st, M) := by
  obtain ⟨hx, hb, hml, hown, hts, hA, hinit, hret, hlocks, hAm⟩ := C0
  obtain ⟨a, r, e0, hq⟩ := nt_a1_some hs
  clear hs
  subst e0
  have hs := hq
  by_cases ea : a = nt_sp
  · rw [if_pos ea] at hs
    cases hs
    intro ad lsA H locs h1 hl hP hD hS
    have e3 : ad a = ad0 nt_sp := by rw [ea]; exact h1 _ (Or.inr (Nat.le_refl _))
    show W p l e R s m args below meth c H locs (nt_n M - n0) (nt_z M - z0) Q (F0 m pc lsA (.ref (ad a) :: r.map (nt_tv ad)))
    rw [e3]
    exact va_slen hx hb hAm.2.1 hAm.2.2.1 hAm.2.2.2.1 hS (nt_dec hE rfl) (kk ad lsA H locs h1 hl hP hD hS)
  · rw [if_neg ea] at hs
    obtain ⟨⟨ha, hk1, hk2⟩, hs⟩ := nt_if_some hs
    cases hs
    intro ad lsA H locs h1 hl hP hD hS
    have he := nt_w_get (cy := cy) (ad := ad) ha
    obtain ⟨z, hz⟩ := nt_E_arr (cy := cy) (ad := ad) hk1 hk2
    rw [hz] at he
    obtain ⟨ty, hty⟩ := nt_tys_at (cy := cy) hk1 hk2
    exact va_alen hx hb hAm.1 hP a (nt_k M a - 12) he hty rfl (nt_dec hE rfl) (kk ad lsA H locs h1 hl hP hD hS)
end NTD
